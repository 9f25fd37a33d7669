theorem dL_law_0 : decode cL_law 0 = .ok (.new 7, 3) := by decide +kernel
theorem dL_law_3 : decode cL_law 3 = .ok (.dup, 1) := by decide +kernel
theorem dL_law_4 : decode cL_law 4 = .ok (.invokespecial 9, 3) := by decide +kernel
theorem dL_law_7 : decode cL_law 7 = .ok (.astore_n 1, 1) := by decide +kernel
theorem dL_law_8 : decode cL_law 8 = .ok (.new 10, 3) := by decide +kernel
theorem dL_law_11 : decode cL_law 11 = .ok (.dup, 1) := by decide +kernel
theorem dL_law_12 : decode cL_law 12 = .ok (.invokespecial 12, 3) := by decide +kernel
theorem dL_law_15 : decode cL_law 15 = .ok (.astore_n 2, 1) := by decide +kernel
theorem dL_law_16 : decode cL_law 16 = .ok (.iconst 0, 1) := by decide +kernel
theorem dL_law_17 : decode cL_law 17 = .ok (.istore_n 3, 1) := by decide +kernel
theorem dL_law_18 : decode cL_law 18 = .ok (.iload_n 3, 1) := by decide +kernel
theorem dL_law_19 : decode cL_law 19 = .ok (.aload_n 0, 1) := by decide +kernel
theorem dL_law_20 : decode cL_law 20 = .ok (.arraylength, 1) := by decide +kernel
theorem dL_law_21 : decode cL_law 21 = .ok (.bipush 6, 2) := by decide +kernel
theorem dL_law_23 : decode cL_law 23 = .ok (.isub, 1) := by decide +kernel
theorem dL_law_24 : decode cL_law 24 = .ok (.if_icmp .gt 1293, 3) := by decide +kernel
theorem dL_law_27 : decode cL_law 27 = .ok (.aload_n 0, 1) := by decide +kernel
theorem dL_law_28 : decode cL_law 28 = .ok (.iload_n 3, 1) := by decide +kernel
theorem dL_law_29 : decode cL_law 29 = .ok (.iaload, 1) := by decide +kernel
theorem dL_law_30 : decode cL_law 30 = .ok (.bipush 63, 2) := by decide +kernel
theorem dL_law_32 : decode cL_law 32 = .ok (.iand, 1) := by decide +kernel
theorem dL_law_33 : decode cL_law 33 = .ok (.tableswitch 1278 0 33 #[151, 194, 217, 270, 313, 336, 389, 422, 465, 488, 547, 580, 633, 666, 689, 742, 765, 788, 801, 864, 907, 920, 933, 966, 999, 1032, 1083, 1107, 1130, 1153, 1166, 1199, 1232, 1255], 151) := by decide +kernel
theorem dL_law_184 : decode cL_law 184 = .ok (.aload_n 1, 1) := by decide +kernel
theorem dL_law_185 : decode cL_law 185 = .ok (.aload_n 0, 1) := by decide +kernel
theorem dL_law_186 : decode cL_law 186 = .ok (.iload_n 3, 1) := by decide +kernel
theorem dL_law_187 : decode cL_law 187 = .ok (.iconst 1, 1) := by decide +kernel
theorem dL_law_188 : decode cL_law 188 = .ok (.iadd, 1) := by decide +kernel
theorem dL_law_189 : decode cL_law 189 = .ok (.iaload, 1) := by decide +kernel
theorem dL_law_190 : decode cL_law 190 = .ok (.aload_n 0, 1) := by decide +kernel
theorem dL_law_191 : decode cL_law 191 = .ok (.iload_n 3, 1) := by decide +kernel
theorem dL_law_192 : decode cL_law 192 = .ok (.iconst 2, 1) := by decide +kernel
theorem dL_law_193 : decode cL_law 193 = .ok (.iadd, 1) := by decide +kernel
theorem dL_law_194 : decode cL_law 194 = .ok (.iaload, 1) := by decide +kernel
theorem dL_law_195 : decode cL_law 195 = .ok (.aload_n 0, 1) := by decide +kernel
theorem dL_law_196 : decode cL_law 196 = .ok (.iload_n 3, 1) := by decide +kernel
theorem dL_law_197 : decode cL_law 197 = .ok (.iconst 3, 1) := by decide +kernel
theorem dL_law_198 : decode cL_law 198 = .ok (.iadd, 1) := by decide +kernel
theorem dL_law_199 : decode cL_law 199 = .ok (.iaload, 1) := by decide +kernel
theorem dL_law_200 : decode cL_law 200 = .ok (.invokevirtual 13, 3) := by decide +kernel
theorem dL_law_203 : decode cL_law 203 = .ok (.aload_n 2, 1) := by decide +kernel
theorem dL_law_204 : decode cL_law 204 = .ok (.aload_n 0, 1) := by decide +kernel
theorem dL_law_205 : decode cL_law 205 = .ok (.iload_n 3, 1) := by decide +kernel
theorem dL_law_206 : decode cL_law 206 = .ok (.iconst 1, 1) := by decide +kernel
theorem dL_law_207 : decode cL_law 207 = .ok (.iadd, 1) := by decide +kernel
theorem dL_law_208 : decode cL_law 208 = .ok (.iaload, 1) := by decide +kernel
theorem dL_law_209 : decode cL_law 209 = .ok (.aload_n 0, 1) := by decide +kernel
theorem dL_law_210 : decode cL_law 210 = .ok (.iload_n 3, 1) := by decide +kernel
theorem dL_law_211 : decode cL_law 211 = .ok (.iconst 2, 1) := by decide +kernel
theorem dL_law_212 : decode cL_law 212 = .ok (.iadd, 1) := by decide +kernel
theorem dL_law_213 : decode cL_law 213 = .ok (.iaload, 1) := by decide +kernel
theorem dL_law_214 : decode cL_law 214 = .ok (.aload_n 0, 1) := by decide +kernel
theorem dL_law_215 : decode cL_law 215 = .ok (.iload_n 3, 1) := by decide +kernel
theorem dL_law_216 : decode cL_law 216 = .ok (.iconst 3, 1) := by decide +kernel
theorem dL_law_217 : decode cL_law 217 = .ok (.iadd, 1) := by decide +kernel
theorem dL_law_218 : decode cL_law 218 = .ok (.iaload, 1) := by decide +kernel
theorem dL_law_219 : decode cL_law 219 = .ok (.invokevirtual 17, 3) := by decide +kernel
theorem dL_law_222 : decode cL_law 222 = .ok (.if_icmp .eq 1089, 3) := by decide +kernel
theorem dL_law_225 : decode cL_law 225 = .ok (.iconst 0, 1) := by decide +kernel
theorem dL_law_226 : decode cL_law 226 = .ok (.ireturn, 1) := by decide +kernel
theorem dL_law_227 : decode cL_law 227 = .ok (.aload_n 1, 1) := by decide +kernel
theorem dL_law_228 : decode cL_law 228 = .ok (.aload_n 0, 1) := by decide +kernel
theorem dL_law_229 : decode cL_law 229 = .ok (.iload_n 3, 1) := by decide +kernel
theorem dL_law_230 : decode cL_law 230 = .ok (.iconst 1, 1) := by decide +kernel
theorem dL_law_231 : decode cL_law 231 = .ok (.iadd, 1) := by decide +kernel
theorem dL_law_232 : decode cL_law 232 = .ok (.iaload, 1) := by decide +kernel
theorem dL_law_233 : decode cL_law 233 = .ok (.invokevirtual 18, 3) := by decide +kernel
theorem dL_law_236 : decode cL_law 236 = .ok (.aload_n 2, 1) := by decide +kernel
theorem dL_law_237 : decode cL_law 237 = .ok (.aload_n 0, 1) := by decide +kernel
theorem dL_law_238 : decode cL_law 238 = .ok (.iload_n 3, 1) := by decide +kernel
theorem dL_law_239 : decode cL_law 239 = .ok (.iconst 1, 1) := by decide +kernel
theorem dL_law_240 : decode cL_law 240 = .ok (.iadd, 1) := by decide +kernel
theorem dL_law_241 : decode cL_law 241 = .ok (.iaload, 1) := by decide +kernel
theorem dL_law_242 : decode cL_law 242 = .ok (.invokevirtual 22, 3) := by decide +kernel
theorem dL_law_245 : decode cL_law 245 = .ok (.if_icmp .eq 1066, 3) := by decide +kernel
theorem dL_law_248 : decode cL_law 248 = .ok (.iconst 0, 1) := by decide +kernel
theorem dL_law_249 : decode cL_law 249 = .ok (.ireturn, 1) := by decide +kernel
theorem dL_law_250 : decode cL_law 250 = .ok (.aload_n 1, 1) := by decide +kernel
theorem dL_law_251 : decode cL_law 251 = .ok (.aload_n 0, 1) := by decide +kernel
theorem dL_law_252 : decode cL_law 252 = .ok (.iload_n 3, 1) := by decide +kernel
theorem dL_law_253 : decode cL_law 253 = .ok (.iconst 1, 1) := by decide +kernel
theorem dL_law_254 : decode cL_law 254 = .ok (.iadd, 1) := by decide +kernel
theorem dL_law_255 : decode cL_law 255 = .ok (.iaload, 1) := by decide +kernel
theorem dL_law_256 : decode cL_law 256 = .ok (.aload_n 0, 1) := by decide +kernel
theorem dL_law_257 : decode cL_law 257 = .ok (.iload_n 3, 1) := by decide +kernel
theorem dL_law_258 : decode cL_law 258 = .ok (.iconst 2, 1) := by decide +kernel
theorem dL_law_259 : decode cL_law 259 = .ok (.iadd, 1) := by decide +kernel
theorem dL_law_260 : decode cL_law 260 = .ok (.iaload, 1) := by decide +kernel
theorem dL_law_261 : decode cL_law 261 = .ok (.aload_n 0, 1) := by decide +kernel
theorem dL_law_262 : decode cL_law 262 = .ok (.iload_n 3, 1) := by decide +kernel
theorem dL_law_263 : decode cL_law 263 = .ok (.iconst 3, 1) := by decide +kernel
theorem dL_law_264 : decode cL_law 264 = .ok (.iadd, 1) := by decide +kernel
theorem dL_law_265 : decode cL_law 265 = .ok (.iaload, 1) := by decide +kernel
theorem dL_law_266 : decode cL_law 266 = .ok (.aload_n 0, 1) := by decide +kernel
theorem dL_law_267 : decode cL_law 267 = .ok (.iload_n 3, 1) := by decide +kernel
theorem dL_law_268 : decode cL_law 268 = .ok (.iconst 4, 1) := by decide +kernel
theorem dL_law_269 : decode cL_law 269 = .ok (.iadd, 1) := by decide +kernel
theorem dL_law_270 : decode cL_law 270 = .ok (.iaload, 1) := by decide +kernel
theorem dL_law_271 : decode cL_law 271 = .ok (.invokevirtual 23, 3) := by decide +kernel
theorem dL_law_274 : decode cL_law 274 = .ok (.aload_n 2, 1) := by decide +kernel
theorem dL_law_275 : decode cL_law 275 = .ok (.aload_n 0, 1) := by decide +kernel
theorem dL_law_276 : decode cL_law 276 = .ok (.iload_n 3, 1) := by decide +kernel
theorem dL_law_277 : decode cL_law 277 = .ok (.iconst 1, 1) := by decide +kernel
theorem dL_law_278 : decode cL_law 278 = .ok (.iadd, 1) := by decide +kernel
theorem dL_law_279 : decode cL_law 279 = .ok (.iaload, 1) := by decide +kernel
theorem dL_law_280 : decode cL_law 280 = .ok (.aload_n 0, 1) := by decide +kernel
theorem dL_law_281 : decode cL_law 281 = .ok (.iload_n 3, 1) := by decide +kernel
theorem dL_law_282 : decode cL_law 282 = .ok (.iconst 2, 1) := by decide +kernel
theorem dL_law_283 : decode cL_law 283 = .ok (.iadd, 1) := by decide +kernel
theorem dL_law_284 : decode cL_law 284 = .ok (.iaload, 1) := by decide +kernel
theorem dL_law_285 : decode cL_law 285 = .ok (.aload_n 0, 1) := by decide +kernel
theorem dL_law_286 : decode cL_law 286 = .ok (.iload_n 3, 1) := by decide +kernel
theorem dL_law_287 : decode cL_law 287 = .ok (.iconst 3, 1) := by decide +kernel
theorem dL_law_288 : decode cL_law 288 = .ok (.iadd, 1) := by decide +kernel
theorem dL_law_289 : decode cL_law 289 = .ok (.iaload, 1) := by decide +kernel
theorem dL_law_290 : decode cL_law 290 = .ok (.aload_n 0, 1) := by decide +kernel
theorem dL_law_291 : decode cL_law 291 = .ok (.iload_n 3, 1) := by decide +kernel
theorem dL_law_292 : decode cL_law 292 = .ok (.iconst 4, 1) := by decide +kernel
theorem dL_law_293 : decode cL_law 293 = .ok (.iadd, 1) := by decide +kernel
theorem dL_law_294 : decode cL_law 294 = .ok (.iaload, 1) := by decide +kernel
theorem dL_law_295 : decode cL_law 295 = .ok (.invokevirtual 27, 3) := by decide +kernel
theorem dL_law_298 : decode cL_law 298 = .ok (.if_icmp .eq 1013, 3) := by decide +kernel
theorem dL_law_301 : decode cL_law 301 = .ok (.iconst 0, 1) := by decide +kernel
theorem dL_law_302 : decode cL_law 302 = .ok (.ireturn, 1) := by decide +kernel
theorem dL_law_303 : decode cL_law 303 = .ok (.aload_n 1, 1) := by decide +kernel
theorem dL_law_304 : decode cL_law 304 = .ok (.aload_n 0, 1) := by decide +kernel
theorem dL_law_305 : decode cL_law 305 = .ok (.iload_n 3, 1) := by decide +kernel
theorem dL_law_306 : decode cL_law 306 = .ok (.iconst 1, 1) := by decide +kernel
theorem dL_law_307 : decode cL_law 307 = .ok (.iadd, 1) := by decide +kernel
theorem dL_law_308 : decode cL_law 308 = .ok (.iaload, 1) := by decide +kernel
theorem dL_law_309 : decode cL_law 309 = .ok (.aload_n 0, 1) := by decide +kernel
theorem dL_law_310 : decode cL_law 310 = .ok (.iload_n 3, 1) := by decide +kernel
theorem dL_law_311 : decode cL_law 311 = .ok (.iconst 2, 1) := by decide +kernel
theorem dL_law_312 : decode cL_law 312 = .ok (.iadd, 1) := by decide +kernel
theorem dL_law_313 : decode cL_law 313 = .ok (.iaload, 1) := by decide +kernel
theorem dL_law_314 : decode cL_law 314 = .ok (.aload_n 0, 1) := by decide +kernel
theorem dL_law_315 : decode cL_law 315 = .ok (.iload_n 3, 1) := by decide +kernel
theorem dL_law_316 : decode cL_law 316 = .ok (.iconst 3, 1) := by decide +kernel
theorem dL_law_317 : decode cL_law 317 = .ok (.iadd, 1) := by decide +kernel
theorem dL_law_318 : decode cL_law 318 = .ok (.iaload, 1) := by decide +kernel
theorem dL_law_319 : decode cL_law 319 = .ok (.invokevirtual 28, 3) := by decide +kernel
theorem dL_law_322 : decode cL_law 322 = .ok (.aload_n 2, 1) := by decide +kernel
theorem dL_law_323 : decode cL_law 323 = .ok (.aload_n 0, 1) := by decide +kernel
theorem dL_law_324 : decode cL_law 324 = .ok (.iload_n 3, 1) := by decide +kernel
theorem dL_law_325 : decode cL_law 325 = .ok (.iconst 1, 1) := by decide +kernel
theorem dL_law_326 : decode cL_law 326 = .ok (.iadd, 1) := by decide +kernel
theorem dL_law_327 : decode cL_law 327 = .ok (.iaload, 1) := by decide +kernel
theorem dL_law_328 : decode cL_law 328 = .ok (.aload_n 0, 1) := by decide +kernel
theorem dL_law_329 : decode cL_law 329 = .ok (.iload_n 3, 1) := by decide +kernel
theorem dL_law_330 : decode cL_law 330 = .ok (.iconst 2, 1) := by decide +kernel
theorem dL_law_331 : decode cL_law 331 = .ok (.iadd, 1) := by decide +kernel
theorem dL_law_332 : decode cL_law 332 = .ok (.iaload, 1) := by decide +kernel
theorem dL_law_333 : decode cL_law 333 = .ok (.aload_n 0, 1) := by decide +kernel
theorem dL_law_334 : decode cL_law 334 = .ok (.iload_n 3, 1) := by decide +kernel
theorem dL_law_335 : decode cL_law 335 = .ok (.iconst 3, 1) := by decide +kernel
theorem dL_law_336 : decode cL_law 336 = .ok (.iadd, 1) := by decide +kernel
theorem dL_law_337 : decode cL_law 337 = .ok (.iaload, 1) := by decide +kernel
theorem dL_law_338 : decode cL_law 338 = .ok (.invokevirtual 31, 3) := by decide +kernel
theorem dL_law_341 : decode cL_law 341 = .ok (.if_icmp .eq 970, 3) := by decide +kernel
theorem dL_law_344 : decode cL_law 344 = .ok (.iconst 0, 1) := by decide +kernel
theorem dL_law_345 : decode cL_law 345 = .ok (.ireturn, 1) := by decide +kernel
theorem dL_law_346 : decode cL_law 346 = .ok (.aload_n 1, 1) := by decide +kernel
theorem dL_law_347 : decode cL_law 347 = .ok (.aload_n 0, 1) := by decide +kernel
theorem dL_law_348 : decode cL_law 348 = .ok (.iload_n 3, 1) := by decide +kernel
theorem dL_law_349 : decode cL_law 349 = .ok (.iconst 1, 1) := by decide +kernel
theorem dL_law_350 : decode cL_law 350 = .ok (.iadd, 1) := by decide +kernel
theorem dL_law_351 : decode cL_law 351 = .ok (.iaload, 1) := by decide +kernel
theorem dL_law_352 : decode cL_law 352 = .ok (.invokevirtual 32, 3) := by decide +kernel
theorem dL_law_355 : decode cL_law 355 = .ok (.aload_n 2, 1) := by decide +kernel
theorem dL_law_356 : decode cL_law 356 = .ok (.aload_n 0, 1) := by decide +kernel
theorem dL_law_357 : decode cL_law 357 = .ok (.iload_n 3, 1) := by decide +kernel
theorem dL_law_358 : decode cL_law 358 = .ok (.iconst 1, 1) := by decide +kernel
theorem dL_law_359 : decode cL_law 359 = .ok (.iadd, 1) := by decide +kernel
theorem dL_law_360 : decode cL_law 360 = .ok (.iaload, 1) := by decide +kernel
theorem dL_law_361 : decode cL_law 361 = .ok (.invokevirtual 35, 3) := by decide +kernel
theorem dL_law_364 : decode cL_law 364 = .ok (.if_icmp .eq 947, 3) := by decide +kernel
theorem dL_law_367 : decode cL_law 367 = .ok (.iconst 0, 1) := by decide +kernel
theorem dL_law_368 : decode cL_law 368 = .ok (.ireturn, 1) := by decide +kernel
theorem dL_law_369 : decode cL_law 369 = .ok (.aload_n 1, 1) := by decide +kernel
theorem dL_law_370 : decode cL_law 370 = .ok (.aload_n 0, 1) := by decide +kernel
theorem dL_law_371 : decode cL_law 371 = .ok (.iload_n 3, 1) := by decide +kernel
theorem dL_law_372 : decode cL_law 372 = .ok (.iconst 1, 1) := by decide +kernel
theorem dL_law_373 : decode cL_law 373 = .ok (.iadd, 1) := by decide +kernel
theorem dL_law_374 : decode cL_law 374 = .ok (.iaload, 1) := by decide +kernel
theorem dL_law_375 : decode cL_law 375 = .ok (.aload_n 0, 1) := by decide +kernel
theorem dL_law_376 : decode cL_law 376 = .ok (.iload_n 3, 1) := by decide +kernel
theorem dL_law_377 : decode cL_law 377 = .ok (.iconst 2, 1) := by decide +kernel
theorem dL_law_378 : decode cL_law 378 = .ok (.iadd, 1) := by decide +kernel
theorem dL_law_379 : decode cL_law 379 = .ok (.iaload, 1) := by decide +kernel
theorem dL_law_380 : decode cL_law 380 = .ok (.aload_n 0, 1) := by decide +kernel
theorem dL_law_381 : decode cL_law 381 = .ok (.iload_n 3, 1) := by decide +kernel
theorem dL_law_382 : decode cL_law 382 = .ok (.iconst 3, 1) := by decide +kernel
theorem dL_law_383 : decode cL_law 383 = .ok (.iadd, 1) := by decide +kernel
theorem dL_law_384 : decode cL_law 384 = .ok (.iaload, 1) := by decide +kernel
theorem dL_law_385 : decode cL_law 385 = .ok (.aload_n 0, 1) := by decide +kernel
theorem dL_law_386 : decode cL_law 386 = .ok (.iload_n 3, 1) := by decide +kernel
theorem dL_law_387 : decode cL_law 387 = .ok (.iconst 4, 1) := by decide +kernel
theorem dL_law_388 : decode cL_law 388 = .ok (.iadd, 1) := by decide +kernel
theorem dL_law_389 : decode cL_law 389 = .ok (.iaload, 1) := by decide +kernel
theorem dL_law_390 : decode cL_law 390 = .ok (.invokevirtual 36, 3) := by decide +kernel
theorem dL_law_393 : decode cL_law 393 = .ok (.aload_n 2, 1) := by decide +kernel
theorem dL_law_394 : decode cL_law 394 = .ok (.aload_n 0, 1) := by decide +kernel
theorem dL_law_395 : decode cL_law 395 = .ok (.iload_n 3, 1) := by decide +kernel
theorem dL_law_396 : decode cL_law 396 = .ok (.iconst 1, 1) := by decide +kernel
theorem dL_law_397 : decode cL_law 397 = .ok (.iadd, 1) := by decide +kernel
theorem dL_law_398 : decode cL_law 398 = .ok (.iaload, 1) := by decide +kernel
theorem dL_law_399 : decode cL_law 399 = .ok (.aload_n 0, 1) := by decide +kernel
theorem dL_law_400 : decode cL_law 400 = .ok (.iload_n 3, 1) := by decide +kernel
theorem dL_law_401 : decode cL_law 401 = .ok (.iconst 2, 1) := by decide +kernel
theorem dL_law_402 : decode cL_law 402 = .ok (.iadd, 1) := by decide +kernel
theorem dL_law_403 : decode cL_law 403 = .ok (.iaload, 1) := by decide +kernel
theorem dL_law_404 : decode cL_law 404 = .ok (.aload_n 0, 1) := by decide +kernel
theorem dL_law_405 : decode cL_law 405 = .ok (.iload_n 3, 1) := by decide +kernel
theorem dL_law_406 : decode cL_law 406 = .ok (.iconst 3, 1) := by decide +kernel
theorem dL_law_407 : decode cL_law 407 = .ok (.iadd, 1) := by decide +kernel
theorem dL_law_408 : decode cL_law 408 = .ok (.iaload, 1) := by decide +kernel
theorem dL_law_409 : decode cL_law 409 = .ok (.aload_n 0, 1) := by decide +kernel
theorem dL_law_410 : decode cL_law 410 = .ok (.iload_n 3, 1) := by decide +kernel
theorem dL_law_411 : decode cL_law 411 = .ok (.iconst 4, 1) := by decide +kernel
theorem dL_law_412 : decode cL_law 412 = .ok (.iadd, 1) := by decide +kernel
theorem dL_law_413 : decode cL_law 413 = .ok (.iaload, 1) := by decide +kernel
theorem dL_law_414 : decode cL_law 414 = .ok (.invokevirtual 39, 3) := by decide +kernel
theorem dL_law_417 : decode cL_law 417 = .ok (.if_icmp .eq 894, 3) := by decide +kernel
theorem dL_law_420 : decode cL_law 420 = .ok (.iconst 0, 1) := by decide +kernel
theorem dL_law_421 : decode cL_law 421 = .ok (.ireturn, 1) := by decide +kernel
theorem dL_law_422 : decode cL_law 422 = .ok (.aload_n 1, 1) := by decide +kernel
theorem dL_law_423 : decode cL_law 423 = .ok (.aload_n 0, 1) := by decide +kernel
theorem dL_law_424 : decode cL_law 424 = .ok (.iload_n 3, 1) := by decide +kernel
theorem dL_law_425 : decode cL_law 425 = .ok (.iconst 1, 1) := by decide +kernel
theorem dL_law_426 : decode cL_law 426 = .ok (.iadd, 1) := by decide +kernel
theorem dL_law_427 : decode cL_law 427 = .ok (.iaload, 1) := by decide +kernel
theorem dL_law_428 : decode cL_law 428 = .ok (.aload_n 0, 1) := by decide +kernel
theorem dL_law_429 : decode cL_law 429 = .ok (.iload_n 3, 1) := by decide +kernel
theorem dL_law_430 : decode cL_law 430 = .ok (.iconst 2, 1) := by decide +kernel
theorem dL_law_431 : decode cL_law 431 = .ok (.iadd, 1) := by decide +kernel
theorem dL_law_432 : decode cL_law 432 = .ok (.iaload, 1) := by decide +kernel
theorem dL_law_433 : decode cL_law 433 = .ok (.invokevirtual 40, 3) := by decide +kernel
theorem dL_law_436 : decode cL_law 436 = .ok (.aload_n 2, 1) := by decide +kernel
theorem dL_law_437 : decode cL_law 437 = .ok (.aload_n 0, 1) := by decide +kernel
theorem dL_law_438 : decode cL_law 438 = .ok (.iload_n 3, 1) := by decide +kernel
theorem dL_law_439 : decode cL_law 439 = .ok (.iconst 1, 1) := by decide +kernel
theorem dL_law_440 : decode cL_law 440 = .ok (.iadd, 1) := by decide +kernel
theorem dL_law_441 : decode cL_law 441 = .ok (.iaload, 1) := by decide +kernel
theorem dL_law_442 : decode cL_law 442 = .ok (.aload_n 0, 1) := by decide +kernel
theorem dL_law_443 : decode cL_law 443 = .ok (.iload_n 3, 1) := by decide +kernel
theorem dL_law_444 : decode cL_law 444 = .ok (.iconst 2, 1) := by decide +kernel
theorem dL_law_445 : decode cL_law 445 = .ok (.iadd, 1) := by decide +kernel
theorem dL_law_446 : decode cL_law 446 = .ok (.iaload, 1) := by decide +kernel
theorem dL_law_447 : decode cL_law 447 = .ok (.invokevirtual 44, 3) := by decide +kernel
theorem dL_law_450 : decode cL_law 450 = .ok (.if_icmp .eq 861, 3) := by decide +kernel
theorem dL_law_453 : decode cL_law 453 = .ok (.iconst 0, 1) := by decide +kernel
theorem dL_law_454 : decode cL_law 454 = .ok (.ireturn, 1) := by decide +kernel
theorem dL_law_455 : decode cL_law 455 = .ok (.aload_n 1, 1) := by decide +kernel
theorem dL_law_456 : decode cL_law 456 = .ok (.aload_n 0, 1) := by decide +kernel
theorem dL_law_457 : decode cL_law 457 = .ok (.iload_n 3, 1) := by decide +kernel
theorem dL_law_458 : decode cL_law 458 = .ok (.iconst 1, 1) := by decide +kernel
theorem dL_law_459 : decode cL_law 459 = .ok (.iadd, 1) := by decide +kernel
theorem dL_law_460 : decode cL_law 460 = .ok (.iaload, 1) := by decide +kernel
theorem dL_law_461 : decode cL_law 461 = .ok (.aload_n 0, 1) := by decide +kernel
theorem dL_law_462 : decode cL_law 462 = .ok (.iload_n 3, 1) := by decide +kernel
theorem dL_law_463 : decode cL_law 463 = .ok (.iconst 2, 1) := by decide +kernel
theorem dL_law_464 : decode cL_law 464 = .ok (.iadd, 1) := by decide +kernel
theorem dL_law_465 : decode cL_law 465 = .ok (.iaload, 1) := by decide +kernel
theorem dL_law_466 : decode cL_law 466 = .ok (.aload_n 0, 1) := by decide +kernel
theorem dL_law_467 : decode cL_law 467 = .ok (.iload_n 3, 1) := by decide +kernel
theorem dL_law_468 : decode cL_law 468 = .ok (.iconst 3, 1) := by decide +kernel
theorem dL_law_469 : decode cL_law 469 = .ok (.iadd, 1) := by decide +kernel
theorem dL_law_470 : decode cL_law 470 = .ok (.iaload, 1) := by decide +kernel
theorem dL_law_471 : decode cL_law 471 = .ok (.invokevirtual 45, 3) := by decide +kernel
theorem dL_law_474 : decode cL_law 474 = .ok (.aload_n 2, 1) := by decide +kernel
theorem dL_law_475 : decode cL_law 475 = .ok (.aload_n 0, 1) := by decide +kernel
theorem dL_law_476 : decode cL_law 476 = .ok (.iload_n 3, 1) := by decide +kernel
theorem dL_law_477 : decode cL_law 477 = .ok (.iconst 1, 1) := by decide +kernel
theorem dL_law_478 : decode cL_law 478 = .ok (.iadd, 1) := by decide +kernel
theorem dL_law_479 : decode cL_law 479 = .ok (.iaload, 1) := by decide +kernel
theorem dL_law_480 : decode cL_law 480 = .ok (.aload_n 0, 1) := by decide +kernel
theorem dL_law_481 : decode cL_law 481 = .ok (.iload_n 3, 1) := by decide +kernel
theorem dL_law_482 : decode cL_law 482 = .ok (.iconst 2, 1) := by decide +kernel
theorem dL_law_483 : decode cL_law 483 = .ok (.iadd, 1) := by decide +kernel
theorem dL_law_484 : decode cL_law 484 = .ok (.iaload, 1) := by decide +kernel
theorem dL_law_485 : decode cL_law 485 = .ok (.aload_n 0, 1) := by decide +kernel
theorem dL_law_486 : decode cL_law 486 = .ok (.iload_n 3, 1) := by decide +kernel
theorem dL_law_487 : decode cL_law 487 = .ok (.iconst 3, 1) := by decide +kernel
theorem dL_law_488 : decode cL_law 488 = .ok (.iadd, 1) := by decide +kernel
theorem dL_law_489 : decode cL_law 489 = .ok (.iaload, 1) := by decide +kernel
theorem dL_law_490 : decode cL_law 490 = .ok (.invokevirtual 48, 3) := by decide +kernel
theorem dL_law_493 : decode cL_law 493 = .ok (.if_icmp .eq 818, 3) := by decide +kernel
theorem dL_law_496 : decode cL_law 496 = .ok (.iconst 0, 1) := by decide +kernel
theorem dL_law_497 : decode cL_law 497 = .ok (.ireturn, 1) := by decide +kernel
theorem dL_law_498 : decode cL_law 498 = .ok (.aload_n 1, 1) := by decide +kernel
theorem dL_law_499 : decode cL_law 499 = .ok (.aload_n 0, 1) := by decide +kernel
theorem dL_law_500 : decode cL_law 500 = .ok (.iload_n 3, 1) := by decide +kernel
theorem dL_law_501 : decode cL_law 501 = .ok (.iconst 1, 1) := by decide +kernel
theorem dL_law_502 : decode cL_law 502 = .ok (.iadd, 1) := by decide +kernel
theorem dL_law_503 : decode cL_law 503 = .ok (.iaload, 1) := by decide +kernel
theorem dL_law_504 : decode cL_law 504 = .ok (.invokevirtual 49, 3) := by decide +kernel
theorem dL_law_507 : decode cL_law 507 = .ok (.aload_n 2, 1) := by decide +kernel
theorem dL_law_508 : decode cL_law 508 = .ok (.aload_n 0, 1) := by decide +kernel
theorem dL_law_509 : decode cL_law 509 = .ok (.iload_n 3, 1) := by decide +kernel
theorem dL_law_510 : decode cL_law 510 = .ok (.iconst 1, 1) := by decide +kernel
theorem dL_law_511 : decode cL_law 511 = .ok (.iadd, 1) := by decide +kernel
theorem dL_law_512 : decode cL_law 512 = .ok (.iaload, 1) := by decide +kernel
theorem dL_law_513 : decode cL_law 513 = .ok (.invokevirtual 52, 3) := by decide +kernel
theorem dL_law_516 : decode cL_law 516 = .ok (.if_icmp .eq 795, 3) := by decide +kernel
theorem dL_law_519 : decode cL_law 519 = .ok (.iconst 0, 1) := by decide +kernel
theorem dL_law_520 : decode cL_law 520 = .ok (.ireturn, 1) := by decide +kernel
theorem dL_law_521 : decode cL_law 521 = .ok (.aload_n 1, 1) := by decide +kernel
theorem dL_law_522 : decode cL_law 522 = .ok (.aload_n 0, 1) := by decide +kernel
theorem dL_law_523 : decode cL_law 523 = .ok (.iload_n 3, 1) := by decide +kernel
theorem dL_law_524 : decode cL_law 524 = .ok (.iconst 1, 1) := by decide +kernel
theorem dL_law_525 : decode cL_law 525 = .ok (.iadd, 1) := by decide +kernel
theorem dL_law_526 : decode cL_law 526 = .ok (.iaload, 1) := by decide +kernel
theorem dL_law_527 : decode cL_law 527 = .ok (.aload_n 0, 1) := by decide +kernel
theorem dL_law_528 : decode cL_law 528 = .ok (.iload_n 3, 1) := by decide +kernel
theorem dL_law_529 : decode cL_law 529 = .ok (.iconst 2, 1) := by decide +kernel
theorem dL_law_530 : decode cL_law 530 = .ok (.iadd, 1) := by decide +kernel
theorem dL_law_531 : decode cL_law 531 = .ok (.iaload, 1) := by decide +kernel
theorem dL_law_532 : decode cL_law 532 = .ok (.aload_n 0, 1) := by decide +kernel
theorem dL_law_533 : decode cL_law 533 = .ok (.iload_n 3, 1) := by decide +kernel
theorem dL_law_534 : decode cL_law 534 = .ok (.iconst 3, 1) := by decide +kernel
theorem dL_law_535 : decode cL_law 535 = .ok (.iadd, 1) := by decide +kernel
theorem dL_law_536 : decode cL_law 536 = .ok (.iaload, 1) := by decide +kernel
theorem dL_law_537 : decode cL_law 537 = .ok (.ifCond .eq 7, 3) := by decide +kernel
theorem dL_law_540 : decode cL_law 540 = .ok (.iconst 1, 1) := by decide +kernel
theorem dL_law_541 : decode cL_law 541 = .ok (.goto 4, 3) := by decide +kernel
theorem dL_law_544 : decode cL_law 544 = .ok (.iconst 0, 1) := by decide +kernel
theorem dL_law_545 : decode cL_law 545 = .ok (.invokevirtual 53, 3) := by decide +kernel
theorem dL_law_548 : decode cL_law 548 = .ok (.aload_n 2, 1) := by decide +kernel
theorem dL_law_549 : decode cL_law 549 = .ok (.aload_n 0, 1) := by decide +kernel
theorem dL_law_550 : decode cL_law 550 = .ok (.iload_n 3, 1) := by decide +kernel
theorem dL_law_551 : decode cL_law 551 = .ok (.iconst 1, 1) := by decide +kernel
theorem dL_law_552 : decode cL_law 552 = .ok (.iadd, 1) := by decide +kernel
theorem dL_law_553 : decode cL_law 553 = .ok (.iaload, 1) := by decide +kernel
theorem dL_law_554 : decode cL_law 554 = .ok (.aload_n 0, 1) := by decide +kernel
theorem dL_law_555 : decode cL_law 555 = .ok (.iload_n 3, 1) := by decide +kernel
theorem dL_law_556 : decode cL_law 556 = .ok (.iconst 2, 1) := by decide +kernel
theorem dL_law_557 : decode cL_law 557 = .ok (.iadd, 1) := by decide +kernel
theorem dL_law_558 : decode cL_law 558 = .ok (.iaload, 1) := by decide +kernel
theorem dL_law_559 : decode cL_law 559 = .ok (.aload_n 0, 1) := by decide +kernel
theorem dL_law_560 : decode cL_law 560 = .ok (.iload_n 3, 1) := by decide +kernel
theorem dL_law_561 : decode cL_law 561 = .ok (.iconst 3, 1) := by decide +kernel
theorem dL_law_562 : decode cL_law 562 = .ok (.iadd, 1) := by decide +kernel
theorem dL_law_563 : decode cL_law 563 = .ok (.iaload, 1) := by decide +kernel
theorem dL_law_564 : decode cL_law 564 = .ok (.ifCond .eq 7, 3) := by decide +kernel
theorem dL_law_567 : decode cL_law 567 = .ok (.iconst 1, 1) := by decide +kernel
theorem dL_law_568 : decode cL_law 568 = .ok (.goto 4, 3) := by decide +kernel
theorem dL_law_571 : decode cL_law 571 = .ok (.iconst 0, 1) := by decide +kernel
theorem dL_law_572 : decode cL_law 572 = .ok (.invokevirtual 57, 3) := by decide +kernel
theorem dL_law_575 : decode cL_law 575 = .ok (.if_icmp .eq 736, 3) := by decide +kernel
theorem dL_law_578 : decode cL_law 578 = .ok (.iconst 0, 1) := by decide +kernel
theorem dL_law_579 : decode cL_law 579 = .ok (.ireturn, 1) := by decide +kernel
theorem dL_law_580 : decode cL_law 580 = .ok (.aload_n 1, 1) := by decide +kernel
theorem dL_law_581 : decode cL_law 581 = .ok (.aload_n 0, 1) := by decide +kernel
theorem dL_law_582 : decode cL_law 582 = .ok (.iload_n 3, 1) := by decide +kernel
theorem dL_law_583 : decode cL_law 583 = .ok (.iconst 1, 1) := by decide +kernel
theorem dL_law_584 : decode cL_law 584 = .ok (.iadd, 1) := by decide +kernel
theorem dL_law_585 : decode cL_law 585 = .ok (.iaload, 1) := by decide +kernel
theorem dL_law_586 : decode cL_law 586 = .ok (.aload_n 0, 1) := by decide +kernel
theorem dL_law_587 : decode cL_law 587 = .ok (.iload_n 3, 1) := by decide +kernel
theorem dL_law_588 : decode cL_law 588 = .ok (.iconst 2, 1) := by decide +kernel
theorem dL_law_589 : decode cL_law 589 = .ok (.iadd, 1) := by decide +kernel
theorem dL_law_590 : decode cL_law 590 = .ok (.iaload, 1) := by decide +kernel
theorem dL_law_591 : decode cL_law 591 = .ok (.invokevirtual 58, 3) := by decide +kernel
theorem dL_law_594 : decode cL_law 594 = .ok (.aload_n 2, 1) := by decide +kernel
theorem dL_law_595 : decode cL_law 595 = .ok (.aload_n 0, 1) := by decide +kernel
theorem dL_law_596 : decode cL_law 596 = .ok (.iload_n 3, 1) := by decide +kernel
theorem dL_law_597 : decode cL_law 597 = .ok (.iconst 1, 1) := by decide +kernel
theorem dL_law_598 : decode cL_law 598 = .ok (.iadd, 1) := by decide +kernel
theorem dL_law_599 : decode cL_law 599 = .ok (.iaload, 1) := by decide +kernel
theorem dL_law_600 : decode cL_law 600 = .ok (.aload_n 0, 1) := by decide +kernel
theorem dL_law_601 : decode cL_law 601 = .ok (.iload_n 3, 1) := by decide +kernel
theorem dL_law_602 : decode cL_law 602 = .ok (.iconst 2, 1) := by decide +kernel
theorem dL_law_603 : decode cL_law 603 = .ok (.iadd, 1) := by decide +kernel
theorem dL_law_604 : decode cL_law 604 = .ok (.iaload, 1) := by decide +kernel
theorem dL_law_605 : decode cL_law 605 = .ok (.invokevirtual 61, 3) := by decide +kernel
theorem dL_law_608 : decode cL_law 608 = .ok (.if_icmp .eq 703, 3) := by decide +kernel
theorem dL_law_611 : decode cL_law 611 = .ok (.iconst 0, 1) := by decide +kernel
theorem dL_law_612 : decode cL_law 612 = .ok (.ireturn, 1) := by decide +kernel
theorem dL_law_613 : decode cL_law 613 = .ok (.aload_n 1, 1) := by decide +kernel
theorem dL_law_614 : decode cL_law 614 = .ok (.aload_n 0, 1) := by decide +kernel
theorem dL_law_615 : decode cL_law 615 = .ok (.iload_n 3, 1) := by decide +kernel
theorem dL_law_616 : decode cL_law 616 = .ok (.iconst 1, 1) := by decide +kernel
theorem dL_law_617 : decode cL_law 617 = .ok (.iadd, 1) := by decide +kernel
theorem dL_law_618 : decode cL_law 618 = .ok (.iaload, 1) := by decide +kernel
theorem dL_law_619 : decode cL_law 619 = .ok (.aload_n 0, 1) := by decide +kernel
theorem dL_law_620 : decode cL_law 620 = .ok (.iload_n 3, 1) := by decide +kernel
theorem dL_law_621 : decode cL_law 621 = .ok (.iconst 2, 1) := by decide +kernel
theorem dL_law_622 : decode cL_law 622 = .ok (.iadd, 1) := by decide +kernel
theorem dL_law_623 : decode cL_law 623 = .ok (.iaload, 1) := by decide +kernel
theorem dL_law_624 : decode cL_law 624 = .ok (.aload_n 0, 1) := by decide +kernel
theorem dL_law_625 : decode cL_law 625 = .ok (.iload_n 3, 1) := by decide +kernel
theorem dL_law_626 : decode cL_law 626 = .ok (.iconst 3, 1) := by decide +kernel
theorem dL_law_627 : decode cL_law 627 = .ok (.iadd, 1) := by decide +kernel
theorem dL_law_628 : decode cL_law 628 = .ok (.iaload, 1) := by decide +kernel
theorem dL_law_629 : decode cL_law 629 = .ok (.aload_n 0, 1) := by decide +kernel
theorem dL_law_630 : decode cL_law 630 = .ok (.iload_n 3, 1) := by decide +kernel
theorem dL_law_631 : decode cL_law 631 = .ok (.iconst 4, 1) := by decide +kernel
theorem dL_law_632 : decode cL_law 632 = .ok (.iadd, 1) := by decide +kernel
theorem dL_law_633 : decode cL_law 633 = .ok (.iaload, 1) := by decide +kernel
theorem dL_law_634 : decode cL_law 634 = .ok (.invokevirtual 62, 3) := by decide +kernel
theorem dL_law_637 : decode cL_law 637 = .ok (.aload_n 2, 1) := by decide +kernel
theorem dL_law_638 : decode cL_law 638 = .ok (.aload_n 0, 1) := by decide +kernel
theorem dL_law_639 : decode cL_law 639 = .ok (.iload_n 3, 1) := by decide +kernel
theorem dL_law_640 : decode cL_law 640 = .ok (.iconst 1, 1) := by decide +kernel
theorem dL_law_641 : decode cL_law 641 = .ok (.iadd, 1) := by decide +kernel
theorem dL_law_642 : decode cL_law 642 = .ok (.iaload, 1) := by decide +kernel
theorem dL_law_643 : decode cL_law 643 = .ok (.aload_n 0, 1) := by decide +kernel
theorem dL_law_644 : decode cL_law 644 = .ok (.iload_n 3, 1) := by decide +kernel
theorem dL_law_645 : decode cL_law 645 = .ok (.iconst 2, 1) := by decide +kernel
theorem dL_law_646 : decode cL_law 646 = .ok (.iadd, 1) := by decide +kernel
theorem dL_law_647 : decode cL_law 647 = .ok (.iaload, 1) := by decide +kernel
theorem dL_law_648 : decode cL_law 648 = .ok (.aload_n 0, 1) := by decide +kernel
theorem dL_law_649 : decode cL_law 649 = .ok (.iload_n 3, 1) := by decide +kernel
theorem dL_law_650 : decode cL_law 650 = .ok (.iconst 3, 1) := by decide +kernel
theorem dL_law_651 : decode cL_law 651 = .ok (.iadd, 1) := by decide +kernel
theorem dL_law_652 : decode cL_law 652 = .ok (.iaload, 1) := by decide +kernel
theorem dL_law_653 : decode cL_law 653 = .ok (.aload_n 0, 1) := by decide +kernel
theorem dL_law_654 : decode cL_law 654 = .ok (.iload_n 3, 1) := by decide +kernel
theorem dL_law_655 : decode cL_law 655 = .ok (.iconst 4, 1) := by decide +kernel
theorem dL_law_656 : decode cL_law 656 = .ok (.iadd, 1) := by decide +kernel
theorem dL_law_657 : decode cL_law 657 = .ok (.iaload, 1) := by decide +kernel
theorem dL_law_658 : decode cL_law 658 = .ok (.invokevirtual 65, 3) := by decide +kernel
theorem dL_law_661 : decode cL_law 661 = .ok (.if_icmp .eq 650, 3) := by decide +kernel
theorem dL_law_664 : decode cL_law 664 = .ok (.iconst 0, 1) := by decide +kernel
theorem dL_law_665 : decode cL_law 665 = .ok (.ireturn, 1) := by decide +kernel
theorem dL_law_666 : decode cL_law 666 = .ok (.aload_n 1, 1) := by decide +kernel
theorem dL_law_667 : decode cL_law 667 = .ok (.aload_n 0, 1) := by decide +kernel
theorem dL_law_668 : decode cL_law 668 = .ok (.iload_n 3, 1) := by decide +kernel
theorem dL_law_669 : decode cL_law 669 = .ok (.iconst 1, 1) := by decide +kernel
theorem dL_law_670 : decode cL_law 670 = .ok (.iadd, 1) := by decide +kernel
theorem dL_law_671 : decode cL_law 671 = .ok (.iaload, 1) := by decide +kernel
theorem dL_law_672 : decode cL_law 672 = .ok (.aload_n 0, 1) := by decide +kernel
theorem dL_law_673 : decode cL_law 673 = .ok (.iload_n 3, 1) := by decide +kernel
theorem dL_law_674 : decode cL_law 674 = .ok (.iconst 2, 1) := by decide +kernel
theorem dL_law_675 : decode cL_law 675 = .ok (.iadd, 1) := by decide +kernel
theorem dL_law_676 : decode cL_law 676 = .ok (.iaload, 1) := by decide +kernel
theorem dL_law_677 : decode cL_law 677 = .ok (.invokevirtual 66, 3) := by decide +kernel
theorem dL_law_680 : decode cL_law 680 = .ok (.aload_n 2, 1) := by decide +kernel
theorem dL_law_681 : decode cL_law 681 = .ok (.aload_n 0, 1) := by decide +kernel
theorem dL_law_682 : decode cL_law 682 = .ok (.iload_n 3, 1) := by decide +kernel
theorem dL_law_683 : decode cL_law 683 = .ok (.iconst 1, 1) := by decide +kernel
theorem dL_law_684 : decode cL_law 684 = .ok (.iadd, 1) := by decide +kernel
theorem dL_law_685 : decode cL_law 685 = .ok (.iaload, 1) := by decide +kernel
theorem dL_law_686 : decode cL_law 686 = .ok (.aload_n 0, 1) := by decide +kernel
theorem dL_law_687 : decode cL_law 687 = .ok (.iload_n 3, 1) := by decide +kernel
theorem dL_law_688 : decode cL_law 688 = .ok (.iconst 2, 1) := by decide +kernel
theorem dL_law_689 : decode cL_law 689 = .ok (.iadd, 1) := by decide +kernel
theorem dL_law_690 : decode cL_law 690 = .ok (.iaload, 1) := by decide +kernel
theorem dL_law_691 : decode cL_law 691 = .ok (.invokevirtual 69, 3) := by decide +kernel
theorem dL_law_694 : decode cL_law 694 = .ok (.if_icmp .eq 617, 3) := by decide +kernel
theorem dL_law_697 : decode cL_law 697 = .ok (.iconst 0, 1) := by decide +kernel
theorem dL_law_698 : decode cL_law 698 = .ok (.ireturn, 1) := by decide +kernel
theorem dL_law_699 : decode cL_law 699 = .ok (.aload_n 1, 1) := by decide +kernel
theorem dL_law_700 : decode cL_law 700 = .ok (.aload_n 0, 1) := by decide +kernel
theorem dL_law_701 : decode cL_law 701 = .ok (.iload_n 3, 1) := by decide +kernel
theorem dL_law_702 : decode cL_law 702 = .ok (.iconst 1, 1) := by decide +kernel
theorem dL_law_703 : decode cL_law 703 = .ok (.iadd, 1) := by decide +kernel
theorem dL_law_704 : decode cL_law 704 = .ok (.iaload, 1) := by decide +kernel
theorem dL_law_705 : decode cL_law 705 = .ok (.invokevirtual 70, 3) := by decide +kernel
theorem dL_law_708 : decode cL_law 708 = .ok (.aload_n 2, 1) := by decide +kernel
theorem dL_law_709 : decode cL_law 709 = .ok (.aload_n 0, 1) := by decide +kernel
theorem dL_law_710 : decode cL_law 710 = .ok (.iload_n 3, 1) := by decide +kernel
theorem dL_law_711 : decode cL_law 711 = .ok (.iconst 1, 1) := by decide +kernel
theorem dL_law_712 : decode cL_law 712 = .ok (.iadd, 1) := by decide +kernel
theorem dL_law_713 : decode cL_law 713 = .ok (.iaload, 1) := by decide +kernel
theorem dL_law_714 : decode cL_law 714 = .ok (.invokevirtual 73, 3) := by decide +kernel
theorem dL_law_717 : decode cL_law 717 = .ok (.if_icmp .eq 594, 3) := by decide +kernel
theorem dL_law_720 : decode cL_law 720 = .ok (.iconst 0, 1) := by decide +kernel
theorem dL_law_721 : decode cL_law 721 = .ok (.ireturn, 1) := by decide +kernel
theorem dL_law_722 : decode cL_law 722 = .ok (.aload_n 1, 1) := by decide +kernel
theorem dL_law_723 : decode cL_law 723 = .ok (.aload_n 0, 1) := by decide +kernel
theorem dL_law_724 : decode cL_law 724 = .ok (.iload_n 3, 1) := by decide +kernel
theorem dL_law_725 : decode cL_law 725 = .ok (.iconst 1, 1) := by decide +kernel
theorem dL_law_726 : decode cL_law 726 = .ok (.iadd, 1) := by decide +kernel
theorem dL_law_727 : decode cL_law 727 = .ok (.iaload, 1) := by decide +kernel
theorem dL_law_728 : decode cL_law 728 = .ok (.aload_n 0, 1) := by decide +kernel
theorem dL_law_729 : decode cL_law 729 = .ok (.iload_n 3, 1) := by decide +kernel
theorem dL_law_730 : decode cL_law 730 = .ok (.iconst 2, 1) := by decide +kernel
theorem dL_law_731 : decode cL_law 731 = .ok (.iadd, 1) := by decide +kernel
theorem dL_law_732 : decode cL_law 732 = .ok (.iaload, 1) := by decide +kernel
theorem dL_law_733 : decode cL_law 733 = .ok (.aload_n 0, 1) := by decide +kernel
theorem dL_law_734 : decode cL_law 734 = .ok (.iload_n 3, 1) := by decide +kernel
theorem dL_law_735 : decode cL_law 735 = .ok (.iconst 3, 1) := by decide +kernel
theorem dL_law_736 : decode cL_law 736 = .ok (.iadd, 1) := by decide +kernel
theorem dL_law_737 : decode cL_law 737 = .ok (.iaload, 1) := by decide +kernel
theorem dL_law_738 : decode cL_law 738 = .ok (.aload_n 0, 1) := by decide +kernel
theorem dL_law_739 : decode cL_law 739 = .ok (.iload_n 3, 1) := by decide +kernel
theorem dL_law_740 : decode cL_law 740 = .ok (.iconst 4, 1) := by decide +kernel
theorem dL_law_741 : decode cL_law 741 = .ok (.iadd, 1) := by decide +kernel
theorem dL_law_742 : decode cL_law 742 = .ok (.iaload, 1) := by decide +kernel
theorem dL_law_743 : decode cL_law 743 = .ok (.invokevirtual 74, 3) := by decide +kernel
theorem dL_law_746 : decode cL_law 746 = .ok (.aload_n 2, 1) := by decide +kernel
theorem dL_law_747 : decode cL_law 747 = .ok (.aload_n 0, 1) := by decide +kernel
theorem dL_law_748 : decode cL_law 748 = .ok (.iload_n 3, 1) := by decide +kernel
theorem dL_law_749 : decode cL_law 749 = .ok (.iconst 1, 1) := by decide +kernel
theorem dL_law_750 : decode cL_law 750 = .ok (.iadd, 1) := by decide +kernel
theorem dL_law_751 : decode cL_law 751 = .ok (.iaload, 1) := by decide +kernel
theorem dL_law_752 : decode cL_law 752 = .ok (.aload_n 0, 1) := by decide +kernel
theorem dL_law_753 : decode cL_law 753 = .ok (.iload_n 3, 1) := by decide +kernel
theorem dL_law_754 : decode cL_law 754 = .ok (.iconst 2, 1) := by decide +kernel
theorem dL_law_755 : decode cL_law 755 = .ok (.iadd, 1) := by decide +kernel
theorem dL_law_756 : decode cL_law 756 = .ok (.iaload, 1) := by decide +kernel
theorem dL_law_757 : decode cL_law 757 = .ok (.aload_n 0, 1) := by decide +kernel
theorem dL_law_758 : decode cL_law 758 = .ok (.iload_n 3, 1) := by decide +kernel
theorem dL_law_759 : decode cL_law 759 = .ok (.iconst 3, 1) := by decide +kernel
theorem dL_law_760 : decode cL_law 760 = .ok (.iadd, 1) := by decide +kernel
theorem dL_law_761 : decode cL_law 761 = .ok (.iaload, 1) := by decide +kernel
theorem dL_law_762 : decode cL_law 762 = .ok (.aload_n 0, 1) := by decide +kernel
theorem dL_law_763 : decode cL_law 763 = .ok (.iload_n 3, 1) := by decide +kernel
theorem dL_law_764 : decode cL_law 764 = .ok (.iconst 4, 1) := by decide +kernel
theorem dL_law_765 : decode cL_law 765 = .ok (.iadd, 1) := by decide +kernel
theorem dL_law_766 : decode cL_law 766 = .ok (.iaload, 1) := by decide +kernel
theorem dL_law_767 : decode cL_law 767 = .ok (.invokevirtual 77, 3) := by decide +kernel
theorem dL_law_770 : decode cL_law 770 = .ok (.if_icmp .eq 541, 3) := by decide +kernel
theorem dL_law_773 : decode cL_law 773 = .ok (.iconst 0, 1) := by decide +kernel
theorem dL_law_774 : decode cL_law 774 = .ok (.ireturn, 1) := by decide +kernel
theorem dL_law_775 : decode cL_law 775 = .ok (.aload_n 1, 1) := by decide +kernel
theorem dL_law_776 : decode cL_law 776 = .ok (.aload_n 0, 1) := by decide +kernel
theorem dL_law_777 : decode cL_law 777 = .ok (.iload_n 3, 1) := by decide +kernel
theorem dL_law_778 : decode cL_law 778 = .ok (.iconst 1, 1) := by decide +kernel
theorem dL_law_779 : decode cL_law 779 = .ok (.iadd, 1) := by decide +kernel
theorem dL_law_780 : decode cL_law 780 = .ok (.iaload, 1) := by decide +kernel
theorem dL_law_781 : decode cL_law 781 = .ok (.invokevirtual 78, 3) := by decide +kernel
theorem dL_law_784 : decode cL_law 784 = .ok (.aload_n 2, 1) := by decide +kernel
theorem dL_law_785 : decode cL_law 785 = .ok (.aload_n 0, 1) := by decide +kernel
theorem dL_law_786 : decode cL_law 786 = .ok (.iload_n 3, 1) := by decide +kernel
theorem dL_law_787 : decode cL_law 787 = .ok (.iconst 1, 1) := by decide +kernel
theorem dL_law_788 : decode cL_law 788 = .ok (.iadd, 1) := by decide +kernel
theorem dL_law_789 : decode cL_law 789 = .ok (.iaload, 1) := by decide +kernel
theorem dL_law_790 : decode cL_law 790 = .ok (.invokevirtual 81, 3) := by decide +kernel
theorem dL_law_793 : decode cL_law 793 = .ok (.if_icmp .eq 518, 3) := by decide +kernel
theorem dL_law_796 : decode cL_law 796 = .ok (.iconst 0, 1) := by decide +kernel
theorem dL_law_797 : decode cL_law 797 = .ok (.ireturn, 1) := by decide +kernel
theorem dL_law_798 : decode cL_law 798 = .ok (.aload_n 1, 1) := by decide +kernel
theorem dL_law_799 : decode cL_law 799 = .ok (.aload_n 0, 1) := by decide +kernel
theorem dL_law_800 : decode cL_law 800 = .ok (.iload_n 3, 1) := by decide +kernel
theorem dL_law_801 : decode cL_law 801 = .ok (.iconst 1, 1) := by decide +kernel
theorem dL_law_802 : decode cL_law 802 = .ok (.iadd, 1) := by decide +kernel
theorem dL_law_803 : decode cL_law 803 = .ok (.iaload, 1) := by decide +kernel
theorem dL_law_804 : decode cL_law 804 = .ok (.invokevirtual 82, 3) := by decide +kernel
theorem dL_law_807 : decode cL_law 807 = .ok (.aload_n 2, 1) := by decide +kernel
theorem dL_law_808 : decode cL_law 808 = .ok (.aload_n 0, 1) := by decide +kernel
theorem dL_law_809 : decode cL_law 809 = .ok (.iload_n 3, 1) := by decide +kernel
theorem dL_law_810 : decode cL_law 810 = .ok (.iconst 1, 1) := by decide +kernel
theorem dL_law_811 : decode cL_law 811 = .ok (.iadd, 1) := by decide +kernel
theorem dL_law_812 : decode cL_law 812 = .ok (.iaload, 1) := by decide +kernel
theorem dL_law_813 : decode cL_law 813 = .ok (.invokevirtual 85, 3) := by decide +kernel
theorem dL_law_816 : decode cL_law 816 = .ok (.if_icmp .eq 495, 3) := by decide +kernel
theorem dL_law_819 : decode cL_law 819 = .ok (.iconst 0, 1) := by decide +kernel
theorem dL_law_820 : decode cL_law 820 = .ok (.ireturn, 1) := by decide +kernel
theorem dL_law_821 : decode cL_law 821 = .ok (.aload_n 1, 1) := by decide +kernel
theorem dL_law_822 : decode cL_law 822 = .ok (.invokevirtual 86, 3) := by decide +kernel
theorem dL_law_825 : decode cL_law 825 = .ok (.aload_n 2, 1) := by decide +kernel
theorem dL_law_826 : decode cL_law 826 = .ok (.invokevirtual 90, 3) := by decide +kernel
theorem dL_law_829 : decode cL_law 829 = .ok (.if_icmp .eq 482, 3) := by decide +kernel
theorem dL_law_832 : decode cL_law 832 = .ok (.iconst 0, 1) := by decide +kernel
theorem dL_law_833 : decode cL_law 833 = .ok (.ireturn, 1) := by decide +kernel
theorem dL_law_834 : decode cL_law 834 = .ok (.aload_n 1, 1) := by decide +kernel
theorem dL_law_835 : decode cL_law 835 = .ok (.aload_n 0, 1) := by decide +kernel
theorem dL_law_836 : decode cL_law 836 = .ok (.iload_n 3, 1) := by decide +kernel
theorem dL_law_837 : decode cL_law 837 = .ok (.iconst 1, 1) := by decide +kernel
theorem dL_law_838 : decode cL_law 838 = .ok (.iadd, 1) := by decide +kernel
theorem dL_law_839 : decode cL_law 839 = .ok (.iaload, 1) := by decide +kernel
theorem dL_law_840 : decode cL_law 840 = .ok (.aload_n 0, 1) := by decide +kernel
theorem dL_law_841 : decode cL_law 841 = .ok (.iload_n 3, 1) := by decide +kernel
theorem dL_law_842 : decode cL_law 842 = .ok (.iconst 2, 1) := by decide +kernel
theorem dL_law_843 : decode cL_law 843 = .ok (.iadd, 1) := by decide +kernel
theorem dL_law_844 : decode cL_law 844 = .ok (.iaload, 1) := by decide +kernel
theorem dL_law_845 : decode cL_law 845 = .ok (.aload_n 0, 1) := by decide +kernel
theorem dL_law_846 : decode cL_law 846 = .ok (.iload_n 3, 1) := by decide +kernel
theorem dL_law_847 : decode cL_law 847 = .ok (.iconst 3, 1) := by decide +kernel
theorem dL_law_848 : decode cL_law 848 = .ok (.iadd, 1) := by decide +kernel
theorem dL_law_849 : decode cL_law 849 = .ok (.iaload, 1) := by decide +kernel
theorem dL_law_850 : decode cL_law 850 = .ok (.aload_n 0, 1) := by decide +kernel
theorem dL_law_851 : decode cL_law 851 = .ok (.iload_n 3, 1) := by decide +kernel
theorem dL_law_852 : decode cL_law 852 = .ok (.iconst 4, 1) := by decide +kernel
theorem dL_law_853 : decode cL_law 853 = .ok (.iadd, 1) := by decide +kernel
theorem dL_law_854 : decode cL_law 854 = .ok (.iaload, 1) := by decide +kernel
theorem dL_law_855 : decode cL_law 855 = .ok (.aload_n 0, 1) := by decide +kernel
theorem dL_law_856 : decode cL_law 856 = .ok (.iload_n 3, 1) := by decide +kernel
theorem dL_law_857 : decode cL_law 857 = .ok (.iconst 5, 1) := by decide +kernel
theorem dL_law_858 : decode cL_law 858 = .ok (.iadd, 1) := by decide +kernel
theorem dL_law_859 : decode cL_law 859 = .ok (.iaload, 1) := by decide +kernel
theorem dL_law_860 : decode cL_law 860 = .ok (.invokevirtual 91, 3) := by decide +kernel
theorem dL_law_863 : decode cL_law 863 = .ok (.aload_n 2, 1) := by decide +kernel
theorem dL_law_864 : decode cL_law 864 = .ok (.aload_n 0, 1) := by decide +kernel
theorem dL_law_865 : decode cL_law 865 = .ok (.iload_n 3, 1) := by decide +kernel
theorem dL_law_866 : decode cL_law 866 = .ok (.iconst 1, 1) := by decide +kernel
theorem dL_law_867 : decode cL_law 867 = .ok (.iadd, 1) := by decide +kernel
theorem dL_law_868 : decode cL_law 868 = .ok (.iaload, 1) := by decide +kernel
theorem dL_law_869 : decode cL_law 869 = .ok (.aload_n 0, 1) := by decide +kernel
theorem dL_law_870 : decode cL_law 870 = .ok (.iload_n 3, 1) := by decide +kernel
theorem dL_law_871 : decode cL_law 871 = .ok (.iconst 2, 1) := by decide +kernel
theorem dL_law_872 : decode cL_law 872 = .ok (.iadd, 1) := by decide +kernel
theorem dL_law_873 : decode cL_law 873 = .ok (.iaload, 1) := by decide +kernel
theorem dL_law_874 : decode cL_law 874 = .ok (.aload_n 0, 1) := by decide +kernel
theorem dL_law_875 : decode cL_law 875 = .ok (.iload_n 3, 1) := by decide +kernel
theorem dL_law_876 : decode cL_law 876 = .ok (.iconst 3, 1) := by decide +kernel
theorem dL_law_877 : decode cL_law 877 = .ok (.iadd, 1) := by decide +kernel
theorem dL_law_878 : decode cL_law 878 = .ok (.iaload, 1) := by decide +kernel
theorem dL_law_879 : decode cL_law 879 = .ok (.aload_n 0, 1) := by decide +kernel
theorem dL_law_880 : decode cL_law 880 = .ok (.iload_n 3, 1) := by decide +kernel
theorem dL_law_881 : decode cL_law 881 = .ok (.iconst 4, 1) := by decide +kernel
theorem dL_law_882 : decode cL_law 882 = .ok (.iadd, 1) := by decide +kernel
theorem dL_law_883 : decode cL_law 883 = .ok (.iaload, 1) := by decide +kernel
theorem dL_law_884 : decode cL_law 884 = .ok (.aload_n 0, 1) := by decide +kernel
theorem dL_law_885 : decode cL_law 885 = .ok (.iload_n 3, 1) := by decide +kernel
theorem dL_law_886 : decode cL_law 886 = .ok (.iconst 5, 1) := by decide +kernel
theorem dL_law_887 : decode cL_law 887 = .ok (.iadd, 1) := by decide +kernel
theorem dL_law_888 : decode cL_law 888 = .ok (.iaload, 1) := by decide +kernel
theorem dL_law_889 : decode cL_law 889 = .ok (.invokevirtual 95, 3) := by decide +kernel
theorem dL_law_892 : decode cL_law 892 = .ok (.if_icmp .eq 419, 3) := by decide +kernel
theorem dL_law_895 : decode cL_law 895 = .ok (.iconst 0, 1) := by decide +kernel
theorem dL_law_896 : decode cL_law 896 = .ok (.ireturn, 1) := by decide +kernel
theorem dL_law_897 : decode cL_law 897 = .ok (.aload_n 1, 1) := by decide +kernel
theorem dL_law_898 : decode cL_law 898 = .ok (.aload_n 0, 1) := by decide +kernel
theorem dL_law_899 : decode cL_law 899 = .ok (.iload_n 3, 1) := by decide +kernel
theorem dL_law_900 : decode cL_law 900 = .ok (.iconst 1, 1) := by decide +kernel
theorem dL_law_901 : decode cL_law 901 = .ok (.iadd, 1) := by decide +kernel
theorem dL_law_902 : decode cL_law 902 = .ok (.iaload, 1) := by decide +kernel
theorem dL_law_903 : decode cL_law 903 = .ok (.aload_n 0, 1) := by decide +kernel
theorem dL_law_904 : decode cL_law 904 = .ok (.iload_n 3, 1) := by decide +kernel
theorem dL_law_905 : decode cL_law 905 = .ok (.iconst 2, 1) := by decide +kernel
theorem dL_law_906 : decode cL_law 906 = .ok (.iadd, 1) := by decide +kernel
theorem dL_law_907 : decode cL_law 907 = .ok (.iaload, 1) := by decide +kernel
theorem dL_law_908 : decode cL_law 908 = .ok (.aload_n 0, 1) := by decide +kernel
theorem dL_law_909 : decode cL_law 909 = .ok (.iload_n 3, 1) := by decide +kernel
theorem dL_law_910 : decode cL_law 910 = .ok (.iconst 3, 1) := by decide +kernel
theorem dL_law_911 : decode cL_law 911 = .ok (.iadd, 1) := by decide +kernel
theorem dL_law_912 : decode cL_law 912 = .ok (.iaload, 1) := by decide +kernel
theorem dL_law_913 : decode cL_law 913 = .ok (.invokevirtual 96, 3) := by decide +kernel
theorem dL_law_916 : decode cL_law 916 = .ok (.aload_n 2, 1) := by decide +kernel
theorem dL_law_917 : decode cL_law 917 = .ok (.aload_n 0, 1) := by decide +kernel
theorem dL_law_918 : decode cL_law 918 = .ok (.iload_n 3, 1) := by decide +kernel
theorem dL_law_919 : decode cL_law 919 = .ok (.iconst 1, 1) := by decide +kernel
theorem dL_law_920 : decode cL_law 920 = .ok (.iadd, 1) := by decide +kernel
theorem dL_law_921 : decode cL_law 921 = .ok (.iaload, 1) := by decide +kernel
theorem dL_law_922 : decode cL_law 922 = .ok (.aload_n 0, 1) := by decide +kernel
theorem dL_law_923 : decode cL_law 923 = .ok (.iload_n 3, 1) := by decide +kernel
theorem dL_law_924 : decode cL_law 924 = .ok (.iconst 2, 1) := by decide +kernel
theorem dL_law_925 : decode cL_law 925 = .ok (.iadd, 1) := by decide +kernel
theorem dL_law_926 : decode cL_law 926 = .ok (.iaload, 1) := by decide +kernel
theorem dL_law_927 : decode cL_law 927 = .ok (.aload_n 0, 1) := by decide +kernel
theorem dL_law_928 : decode cL_law 928 = .ok (.iload_n 3, 1) := by decide +kernel
theorem dL_law_929 : decode cL_law 929 = .ok (.iconst 3, 1) := by decide +kernel
theorem dL_law_930 : decode cL_law 930 = .ok (.iadd, 1) := by decide +kernel
theorem dL_law_931 : decode cL_law 931 = .ok (.iaload, 1) := by decide +kernel
theorem dL_law_932 : decode cL_law 932 = .ok (.invokevirtual 99, 3) := by decide +kernel
theorem dL_law_935 : decode cL_law 935 = .ok (.if_icmp .eq 376, 3) := by decide +kernel
theorem dL_law_938 : decode cL_law 938 = .ok (.iconst 0, 1) := by decide +kernel
theorem dL_law_939 : decode cL_law 939 = .ok (.ireturn, 1) := by decide +kernel
theorem dL_law_940 : decode cL_law 940 = .ok (.aload_n 1, 1) := by decide +kernel
theorem dL_law_941 : decode cL_law 941 = .ok (.invokevirtual 100, 3) := by decide +kernel
theorem dL_law_944 : decode cL_law 944 = .ok (.aload_n 2, 1) := by decide +kernel
theorem dL_law_945 : decode cL_law 945 = .ok (.invokevirtual 103, 3) := by decide +kernel
theorem dL_law_948 : decode cL_law 948 = .ok (.if_icmp .eq 363, 3) := by decide +kernel
theorem dL_law_951 : decode cL_law 951 = .ok (.iconst 0, 1) := by decide +kernel
theorem dL_law_952 : decode cL_law 952 = .ok (.ireturn, 1) := by decide +kernel
theorem dL_law_953 : decode cL_law 953 = .ok (.aload_n 1, 1) := by decide +kernel
theorem dL_law_954 : decode cL_law 954 = .ok (.invokevirtual 104, 3) := by decide +kernel
theorem dL_law_957 : decode cL_law 957 = .ok (.aload_n 2, 1) := by decide +kernel
theorem dL_law_958 : decode cL_law 958 = .ok (.invokevirtual 107, 3) := by decide +kernel
theorem dL_law_961 : decode cL_law 961 = .ok (.if_icmp .eq 350, 3) := by decide +kernel
theorem dL_law_964 : decode cL_law 964 = .ok (.iconst 0, 1) := by decide +kernel
theorem dL_law_965 : decode cL_law 965 = .ok (.ireturn, 1) := by decide +kernel
theorem dL_law_966 : decode cL_law 966 = .ok (.aload_n 1, 1) := by decide +kernel
theorem dL_law_967 : decode cL_law 967 = .ok (.aload_n 0, 1) := by decide +kernel
theorem dL_law_968 : decode cL_law 968 = .ok (.iload_n 3, 1) := by decide +kernel
theorem dL_law_969 : decode cL_law 969 = .ok (.iconst 1, 1) := by decide +kernel
theorem dL_law_970 : decode cL_law 970 = .ok (.iadd, 1) := by decide +kernel
theorem dL_law_971 : decode cL_law 971 = .ok (.iaload, 1) := by decide +kernel
theorem dL_law_972 : decode cL_law 972 = .ok (.aload_n 0, 1) := by decide +kernel
theorem dL_law_973 : decode cL_law 973 = .ok (.iload_n 3, 1) := by decide +kernel
theorem dL_law_974 : decode cL_law 974 = .ok (.iconst 2, 1) := by decide +kernel
theorem dL_law_975 : decode cL_law 975 = .ok (.iadd, 1) := by decide +kernel
theorem dL_law_976 : decode cL_law 976 = .ok (.iaload, 1) := by decide +kernel
theorem dL_law_977 : decode cL_law 977 = .ok (.invokevirtual 108, 3) := by decide +kernel
theorem dL_law_980 : decode cL_law 980 = .ok (.aload_n 2, 1) := by decide +kernel
theorem dL_law_981 : decode cL_law 981 = .ok (.aload_n 0, 1) := by decide +kernel
theorem dL_law_982 : decode cL_law 982 = .ok (.iload_n 3, 1) := by decide +kernel
theorem dL_law_983 : decode cL_law 983 = .ok (.iconst 1, 1) := by decide +kernel
theorem dL_law_984 : decode cL_law 984 = .ok (.iadd, 1) := by decide +kernel
theorem dL_law_985 : decode cL_law 985 = .ok (.iaload, 1) := by decide +kernel
theorem dL_law_986 : decode cL_law 986 = .ok (.aload_n 0, 1) := by decide +kernel
theorem dL_law_987 : decode cL_law 987 = .ok (.iload_n 3, 1) := by decide +kernel
theorem dL_law_988 : decode cL_law 988 = .ok (.iconst 2, 1) := by decide +kernel
theorem dL_law_989 : decode cL_law 989 = .ok (.iadd, 1) := by decide +kernel
theorem dL_law_990 : decode cL_law 990 = .ok (.iaload, 1) := by decide +kernel
theorem dL_law_991 : decode cL_law 991 = .ok (.invokevirtual 111, 3) := by decide +kernel
theorem dL_law_994 : decode cL_law 994 = .ok (.if_icmp .eq 317, 3) := by decide +kernel
theorem dL_law_997 : decode cL_law 997 = .ok (.iconst 0, 1) := by decide +kernel
theorem dL_law_998 : decode cL_law 998 = .ok (.ireturn, 1) := by decide +kernel
theorem dL_law_999 : decode cL_law 999 = .ok (.aload_n 1, 1) := by decide +kernel
theorem dL_law_1000 : decode cL_law 1000 = .ok (.aload_n 0, 1) := by decide +kernel
theorem dL_law_1001 : decode cL_law 1001 = .ok (.iload_n 3, 1) := by decide +kernel
theorem dL_law_1002 : decode cL_law 1002 = .ok (.iconst 1, 1) := by decide +kernel
theorem dL_law_1003 : decode cL_law 1003 = .ok (.iadd, 1) := by decide +kernel
theorem dL_law_1004 : decode cL_law 1004 = .ok (.iaload, 1) := by decide +kernel
theorem dL_law_1005 : decode cL_law 1005 = .ok (.aload_n 0, 1) := by decide +kernel
theorem dL_law_1006 : decode cL_law 1006 = .ok (.iload_n 3, 1) := by decide +kernel
theorem dL_law_1007 : decode cL_law 1007 = .ok (.iconst 2, 1) := by decide +kernel
theorem dL_law_1008 : decode cL_law 1008 = .ok (.iadd, 1) := by decide +kernel
theorem dL_law_1009 : decode cL_law 1009 = .ok (.iaload, 1) := by decide +kernel
theorem dL_law_1010 : decode cL_law 1010 = .ok (.invokevirtual 112, 3) := by decide +kernel
theorem dL_law_1013 : decode cL_law 1013 = .ok (.aload_n 2, 1) := by decide +kernel
theorem dL_law_1014 : decode cL_law 1014 = .ok (.aload_n 0, 1) := by decide +kernel
theorem dL_law_1015 : decode cL_law 1015 = .ok (.iload_n 3, 1) := by decide +kernel
theorem dL_law_1016 : decode cL_law 1016 = .ok (.iconst 1, 1) := by decide +kernel
theorem dL_law_1017 : decode cL_law 1017 = .ok (.iadd, 1) := by decide +kernel
theorem dL_law_1018 : decode cL_law 1018 = .ok (.iaload, 1) := by decide +kernel
theorem dL_law_1019 : decode cL_law 1019 = .ok (.aload_n 0, 1) := by decide +kernel
theorem dL_law_1020 : decode cL_law 1020 = .ok (.iload_n 3, 1) := by decide +kernel
theorem dL_law_1021 : decode cL_law 1021 = .ok (.iconst 2, 1) := by decide +kernel
theorem dL_law_1022 : decode cL_law 1022 = .ok (.iadd, 1) := by decide +kernel
theorem dL_law_1023 : decode cL_law 1023 = .ok (.iaload, 1) := by decide +kernel
theorem dL_law_1024 : decode cL_law 1024 = .ok (.invokevirtual 115, 3) := by decide +kernel
theorem dL_law_1027 : decode cL_law 1027 = .ok (.if_icmp .eq 284, 3) := by decide +kernel
theorem dL_law_1030 : decode cL_law 1030 = .ok (.iconst 0, 1) := by decide +kernel
theorem dL_law_1031 : decode cL_law 1031 = .ok (.ireturn, 1) := by decide +kernel
theorem dL_law_1032 : decode cL_law 1032 = .ok (.aload_n 1, 1) := by decide +kernel
theorem dL_law_1033 : decode cL_law 1033 = .ok (.aload_n 0, 1) := by decide +kernel
theorem dL_law_1034 : decode cL_law 1034 = .ok (.iload_n 3, 1) := by decide +kernel
theorem dL_law_1035 : decode cL_law 1035 = .ok (.iconst 1, 1) := by decide +kernel
theorem dL_law_1036 : decode cL_law 1036 = .ok (.iadd, 1) := by decide +kernel
theorem dL_law_1037 : decode cL_law 1037 = .ok (.iaload, 1) := by decide +kernel
theorem dL_law_1038 : decode cL_law 1038 = .ok (.aload_n 0, 1) := by decide +kernel
theorem dL_law_1039 : decode cL_law 1039 = .ok (.iload_n 3, 1) := by decide +kernel
theorem dL_law_1040 : decode cL_law 1040 = .ok (.iconst 2, 1) := by decide +kernel
theorem dL_law_1041 : decode cL_law 1041 = .ok (.iadd, 1) := by decide +kernel
theorem dL_law_1042 : decode cL_law 1042 = .ok (.iaload, 1) := by decide +kernel
theorem dL_law_1043 : decode cL_law 1043 = .ok (.invokevirtual 116, 3) := by decide +kernel
theorem dL_law_1046 : decode cL_law 1046 = .ok (.aload_n 2, 1) := by decide +kernel
theorem dL_law_1047 : decode cL_law 1047 = .ok (.aload_n 0, 1) := by decide +kernel
theorem dL_law_1048 : decode cL_law 1048 = .ok (.iload_n 3, 1) := by decide +kernel
theorem dL_law_1049 : decode cL_law 1049 = .ok (.iconst 1, 1) := by decide +kernel
theorem dL_law_1050 : decode cL_law 1050 = .ok (.iadd, 1) := by decide +kernel
theorem dL_law_1051 : decode cL_law 1051 = .ok (.iaload, 1) := by decide +kernel
theorem dL_law_1052 : decode cL_law 1052 = .ok (.aload_n 0, 1) := by decide +kernel
theorem dL_law_1053 : decode cL_law 1053 = .ok (.iload_n 3, 1) := by decide +kernel
theorem dL_law_1054 : decode cL_law 1054 = .ok (.iconst 2, 1) := by decide +kernel
theorem dL_law_1055 : decode cL_law 1055 = .ok (.iadd, 1) := by decide +kernel
theorem dL_law_1056 : decode cL_law 1056 = .ok (.iaload, 1) := by decide +kernel
theorem dL_law_1057 : decode cL_law 1057 = .ok (.invokevirtual 119, 3) := by decide +kernel
theorem dL_law_1060 : decode cL_law 1060 = .ok (.if_icmp .eq 251, 3) := by decide +kernel
theorem dL_law_1063 : decode cL_law 1063 = .ok (.iconst 0, 1) := by decide +kernel
theorem dL_law_1064 : decode cL_law 1064 = .ok (.ireturn, 1) := by decide +kernel
theorem dL_law_1065 : decode cL_law 1065 = .ok (.aload_n 1, 1) := by decide +kernel
theorem dL_law_1066 : decode cL_law 1066 = .ok (.aload_n 0, 1) := by decide +kernel
theorem dL_law_1067 : decode cL_law 1067 = .ok (.iload_n 3, 1) := by decide +kernel
theorem dL_law_1068 : decode cL_law 1068 = .ok (.iconst 1, 1) := by decide +kernel
theorem dL_law_1069 : decode cL_law 1069 = .ok (.iadd, 1) := by decide +kernel
theorem dL_law_1070 : decode cL_law 1070 = .ok (.iaload, 1) := by decide +kernel
theorem dL_law_1071 : decode cL_law 1071 = .ok (.invokevirtual 120, 3) := by decide +kernel
theorem dL_law_1074 : decode cL_law 1074 = .ok (.dstore 4, 2) := by decide +kernel
theorem dL_law_1076 : decode cL_law 1076 = .ok (.aload_n 2, 1) := by decide +kernel
theorem dL_law_1077 : decode cL_law 1077 = .ok (.aload_n 0, 1) := by decide +kernel
theorem dL_law_1078 : decode cL_law 1078 = .ok (.iload_n 3, 1) := by decide +kernel
theorem dL_law_1079 : decode cL_law 1079 = .ok (.iconst 1, 1) := by decide +kernel
theorem dL_law_1080 : decode cL_law 1080 = .ok (.iadd, 1) := by decide +kernel
theorem dL_law_1081 : decode cL_law 1081 = .ok (.iaload, 1) := by decide +kernel
theorem dL_law_1082 : decode cL_law 1082 = .ok (.invokevirtual 124, 3) := by decide +kernel
theorem dL_law_1085 : decode cL_law 1085 = .ok (.dstore 6, 2) := by decide +kernel
theorem dL_law_1087 : decode cL_law 1087 = .ok (.dload 4, 2) := by decide +kernel
theorem dL_law_1089 : decode cL_law 1089 = .ok (.dload 6, 2) := by decide +kernel
theorem dL_law_1091 : decode cL_law 1091 = .ok (.dcmp .l, 1) := by decide +kernel
theorem dL_law_1092 : decode cL_law 1092 = .ok (.ifCond .eq 21, 3) := by decide +kernel
theorem dL_law_1095 : decode cL_law 1095 = .ok (.dload 4, 2) := by decide +kernel
theorem dL_law_1097 : decode cL_law 1097 = .ok (.dload 4, 2) := by decide +kernel
theorem dL_law_1099 : decode cL_law 1099 = .ok (.dcmp .l, 1) := by decide +kernel
theorem dL_law_1100 : decode cL_law 1100 = .ok (.ifCond .eq 11, 3) := by decide +kernel
theorem dL_law_1103 : decode cL_law 1103 = .ok (.dload 6, 2) := by decide +kernel
theorem dL_law_1105 : decode cL_law 1105 = .ok (.dload 6, 2) := by decide +kernel
theorem dL_law_1107 : decode cL_law 1107 = .ok (.dcmp .l, 1) := by decide +kernel
theorem dL_law_1108 : decode cL_law 1108 = .ok (.ifCond .ne 5, 3) := by decide +kernel
theorem dL_law_1111 : decode cL_law 1111 = .ok (.iconst 0, 1) := by decide +kernel
theorem dL_law_1112 : decode cL_law 1112 = .ok (.ireturn, 1) := by decide +kernel
theorem dL_law_1113 : decode cL_law 1113 = .ok (.goto 198, 3) := by decide +kernel
theorem dL_law_1116 : decode cL_law 1116 = .ok (.aload_n 1, 1) := by decide +kernel
theorem dL_law_1117 : decode cL_law 1117 = .ok (.aload_n 0, 1) := by decide +kernel
theorem dL_law_1118 : decode cL_law 1118 = .ok (.iload_n 3, 1) := by decide +kernel
theorem dL_law_1119 : decode cL_law 1119 = .ok (.iconst 1, 1) := by decide +kernel
theorem dL_law_1120 : decode cL_law 1120 = .ok (.iadd, 1) := by decide +kernel
theorem dL_law_1121 : decode cL_law 1121 = .ok (.iaload, 1) := by decide +kernel
theorem dL_law_1122 : decode cL_law 1122 = .ok (.invokevirtual 125, 3) := by decide +kernel
theorem dL_law_1125 : decode cL_law 1125 = .ok (.aload_n 2, 1) := by decide +kernel
theorem dL_law_1126 : decode cL_law 1126 = .ok (.aload_n 0, 1) := by decide +kernel
theorem dL_law_1127 : decode cL_law 1127 = .ok (.iload_n 3, 1) := by decide +kernel
theorem dL_law_1128 : decode cL_law 1128 = .ok (.iconst 1, 1) := by decide +kernel
theorem dL_law_1129 : decode cL_law 1129 = .ok (.iadd, 1) := by decide +kernel
theorem dL_law_1130 : decode cL_law 1130 = .ok (.iaload, 1) := by decide +kernel
theorem dL_law_1131 : decode cL_law 1131 = .ok (.invokevirtual 129, 3) := by decide +kernel
theorem dL_law_1134 : decode cL_law 1134 = .ok (.lcmp, 1) := by decide +kernel
theorem dL_law_1135 : decode cL_law 1135 = .ok (.ifCond .eq 176, 3) := by decide +kernel
theorem dL_law_1138 : decode cL_law 1138 = .ok (.iconst 0, 1) := by decide +kernel
theorem dL_law_1139 : decode cL_law 1139 = .ok (.ireturn, 1) := by decide +kernel
theorem dL_law_1140 : decode cL_law 1140 = .ok (.aload_n 1, 1) := by decide +kernel
theorem dL_law_1141 : decode cL_law 1141 = .ok (.aload_n 0, 1) := by decide +kernel
theorem dL_law_1142 : decode cL_law 1142 = .ok (.iload_n 3, 1) := by decide +kernel
theorem dL_law_1143 : decode cL_law 1143 = .ok (.iconst 1, 1) := by decide +kernel
theorem dL_law_1144 : decode cL_law 1144 = .ok (.iadd, 1) := by decide +kernel
theorem dL_law_1145 : decode cL_law 1145 = .ok (.iaload, 1) := by decide +kernel
theorem dL_law_1146 : decode cL_law 1146 = .ok (.invokevirtual 130, 3) := by decide +kernel
theorem dL_law_1149 : decode cL_law 1149 = .ok (.aload_n 2, 1) := by decide +kernel
theorem dL_law_1150 : decode cL_law 1150 = .ok (.aload_n 0, 1) := by decide +kernel
theorem dL_law_1151 : decode cL_law 1151 = .ok (.iload_n 3, 1) := by decide +kernel
theorem dL_law_1152 : decode cL_law 1152 = .ok (.iconst 1, 1) := by decide +kernel
theorem dL_law_1153 : decode cL_law 1153 = .ok (.iadd, 1) := by decide +kernel
theorem dL_law_1154 : decode cL_law 1154 = .ok (.iaload, 1) := by decide +kernel
theorem dL_law_1155 : decode cL_law 1155 = .ok (.invokevirtual 133, 3) := by decide +kernel
theorem dL_law_1158 : decode cL_law 1158 = .ok (.if_icmp .eq 153, 3) := by decide +kernel
theorem dL_law_1161 : decode cL_law 1161 = .ok (.iconst 0, 1) := by decide +kernel
theorem dL_law_1162 : decode cL_law 1162 = .ok (.ireturn, 1) := by decide +kernel
theorem dL_law_1163 : decode cL_law 1163 = .ok (.aload_n 1, 1) := by decide +kernel
theorem dL_law_1164 : decode cL_law 1164 = .ok (.aload_n 0, 1) := by decide +kernel
theorem dL_law_1165 : decode cL_law 1165 = .ok (.iload_n 3, 1) := by decide +kernel
theorem dL_law_1166 : decode cL_law 1166 = .ok (.iconst 1, 1) := by decide +kernel
theorem dL_law_1167 : decode cL_law 1167 = .ok (.iadd, 1) := by decide +kernel
theorem dL_law_1168 : decode cL_law 1168 = .ok (.iaload, 1) := by decide +kernel
theorem dL_law_1169 : decode cL_law 1169 = .ok (.invokevirtual 134, 3) := by decide +kernel
theorem dL_law_1172 : decode cL_law 1172 = .ok (.aload_n 2, 1) := by decide +kernel
theorem dL_law_1173 : decode cL_law 1173 = .ok (.aload_n 0, 1) := by decide +kernel
theorem dL_law_1174 : decode cL_law 1174 = .ok (.iload_n 3, 1) := by decide +kernel
theorem dL_law_1175 : decode cL_law 1175 = .ok (.iconst 1, 1) := by decide +kernel
theorem dL_law_1176 : decode cL_law 1176 = .ok (.iadd, 1) := by decide +kernel
theorem dL_law_1177 : decode cL_law 1177 = .ok (.iaload, 1) := by decide +kernel
theorem dL_law_1178 : decode cL_law 1178 = .ok (.invokevirtual 137, 3) := by decide +kernel
theorem dL_law_1181 : decode cL_law 1181 = .ok (.if_icmp .eq 130, 3) := by decide +kernel
theorem dL_law_1184 : decode cL_law 1184 = .ok (.iconst 0, 1) := by decide +kernel
theorem dL_law_1185 : decode cL_law 1185 = .ok (.ireturn, 1) := by decide +kernel
theorem dL_law_1186 : decode cL_law 1186 = .ok (.aload_n 1, 1) := by decide +kernel
theorem dL_law_1187 : decode cL_law 1187 = .ok (.invokevirtual 138, 3) := by decide +kernel
theorem dL_law_1190 : decode cL_law 1190 = .ok (.aload_n 2, 1) := by decide +kernel
theorem dL_law_1191 : decode cL_law 1191 = .ok (.invokevirtual 141, 3) := by decide +kernel
theorem dL_law_1194 : decode cL_law 1194 = .ok (.if_icmp .eq 117, 3) := by decide +kernel
theorem dL_law_1197 : decode cL_law 1197 = .ok (.iconst 0, 1) := by decide +kernel
theorem dL_law_1198 : decode cL_law 1198 = .ok (.ireturn, 1) := by decide +kernel
theorem dL_law_1199 : decode cL_law 1199 = .ok (.aload_n 1, 1) := by decide +kernel
theorem dL_law_1200 : decode cL_law 1200 = .ok (.aload_n 0, 1) := by decide +kernel
theorem dL_law_1201 : decode cL_law 1201 = .ok (.iload_n 3, 1) := by decide +kernel
theorem dL_law_1202 : decode cL_law 1202 = .ok (.iconst 1, 1) := by decide +kernel
theorem dL_law_1203 : decode cL_law 1203 = .ok (.iadd, 1) := by decide +kernel
theorem dL_law_1204 : decode cL_law 1204 = .ok (.iaload, 1) := by decide +kernel
theorem dL_law_1205 : decode cL_law 1205 = .ok (.aload_n 0, 1) := by decide +kernel
theorem dL_law_1206 : decode cL_law 1206 = .ok (.iload_n 3, 1) := by decide +kernel
theorem dL_law_1207 : decode cL_law 1207 = .ok (.iconst 2, 1) := by decide +kernel
theorem dL_law_1208 : decode cL_law 1208 = .ok (.iadd, 1) := by decide +kernel
theorem dL_law_1209 : decode cL_law 1209 = .ok (.iaload, 1) := by decide +kernel
theorem dL_law_1210 : decode cL_law 1210 = .ok (.invokevirtual 142, 3) := by decide +kernel
theorem dL_law_1213 : decode cL_law 1213 = .ok (.aload_n 2, 1) := by decide +kernel
theorem dL_law_1214 : decode cL_law 1214 = .ok (.aload_n 0, 1) := by decide +kernel
theorem dL_law_1215 : decode cL_law 1215 = .ok (.iload_n 3, 1) := by decide +kernel
theorem dL_law_1216 : decode cL_law 1216 = .ok (.iconst 1, 1) := by decide +kernel
theorem dL_law_1217 : decode cL_law 1217 = .ok (.iadd, 1) := by decide +kernel
theorem dL_law_1218 : decode cL_law 1218 = .ok (.iaload, 1) := by decide +kernel
theorem dL_law_1219 : decode cL_law 1219 = .ok (.aload_n 0, 1) := by decide +kernel
theorem dL_law_1220 : decode cL_law 1220 = .ok (.iload_n 3, 1) := by decide +kernel
theorem dL_law_1221 : decode cL_law 1221 = .ok (.iconst 2, 1) := by decide +kernel
theorem dL_law_1222 : decode cL_law 1222 = .ok (.iadd, 1) := by decide +kernel
theorem dL_law_1223 : decode cL_law 1223 = .ok (.iaload, 1) := by decide +kernel
theorem dL_law_1224 : decode cL_law 1224 = .ok (.invokevirtual 145, 3) := by decide +kernel
theorem dL_law_1227 : decode cL_law 1227 = .ok (.if_icmp .eq 84, 3) := by decide +kernel
theorem dL_law_1230 : decode cL_law 1230 = .ok (.iconst 0, 1) := by decide +kernel
theorem dL_law_1231 : decode cL_law 1231 = .ok (.ireturn, 1) := by decide +kernel
theorem dL_law_1232 : decode cL_law 1232 = .ok (.aload_n 1, 1) := by decide +kernel
theorem dL_law_1233 : decode cL_law 1233 = .ok (.aload_n 0, 1) := by decide +kernel
theorem dL_law_1234 : decode cL_law 1234 = .ok (.iload_n 3, 1) := by decide +kernel
theorem dL_law_1235 : decode cL_law 1235 = .ok (.iconst 1, 1) := by decide +kernel
theorem dL_law_1236 : decode cL_law 1236 = .ok (.iadd, 1) := by decide +kernel
theorem dL_law_1237 : decode cL_law 1237 = .ok (.iaload, 1) := by decide +kernel
theorem dL_law_1238 : decode cL_law 1238 = .ok (.aload_n 0, 1) := by decide +kernel
theorem dL_law_1239 : decode cL_law 1239 = .ok (.iload_n 3, 1) := by decide +kernel
theorem dL_law_1240 : decode cL_law 1240 = .ok (.iconst 2, 1) := by decide +kernel
theorem dL_law_1241 : decode cL_law 1241 = .ok (.iadd, 1) := by decide +kernel
theorem dL_law_1242 : decode cL_law 1242 = .ok (.iaload, 1) := by decide +kernel
theorem dL_law_1243 : decode cL_law 1243 = .ok (.invokevirtual 146, 3) := by decide +kernel
theorem dL_law_1246 : decode cL_law 1246 = .ok (.aload_n 2, 1) := by decide +kernel
theorem dL_law_1247 : decode cL_law 1247 = .ok (.aload_n 0, 1) := by decide +kernel
theorem dL_law_1248 : decode cL_law 1248 = .ok (.iload_n 3, 1) := by decide +kernel
theorem dL_law_1249 : decode cL_law 1249 = .ok (.iconst 1, 1) := by decide +kernel
theorem dL_law_1250 : decode cL_law 1250 = .ok (.iadd, 1) := by decide +kernel
theorem dL_law_1251 : decode cL_law 1251 = .ok (.iaload, 1) := by decide +kernel
theorem dL_law_1252 : decode cL_law 1252 = .ok (.aload_n 0, 1) := by decide +kernel
theorem dL_law_1253 : decode cL_law 1253 = .ok (.iload_n 3, 1) := by decide +kernel
theorem dL_law_1254 : decode cL_law 1254 = .ok (.iconst 2, 1) := by decide +kernel
theorem dL_law_1255 : decode cL_law 1255 = .ok (.iadd, 1) := by decide +kernel
theorem dL_law_1256 : decode cL_law 1256 = .ok (.iaload, 1) := by decide +kernel
theorem dL_law_1257 : decode cL_law 1257 = .ok (.invokevirtual 149, 3) := by decide +kernel
theorem dL_law_1260 : decode cL_law 1260 = .ok (.if_icmp .eq 51, 3) := by decide +kernel
theorem dL_law_1263 : decode cL_law 1263 = .ok (.iconst 0, 1) := by decide +kernel
theorem dL_law_1264 : decode cL_law 1264 = .ok (.ireturn, 1) := by decide +kernel
theorem dL_law_1265 : decode cL_law 1265 = .ok (.aload_n 1, 1) := by decide +kernel
theorem dL_law_1266 : decode cL_law 1266 = .ok (.aload_n 0, 1) := by decide +kernel
theorem dL_law_1267 : decode cL_law 1267 = .ok (.iload_n 3, 1) := by decide +kernel
theorem dL_law_1268 : decode cL_law 1268 = .ok (.iconst 1, 1) := by decide +kernel
theorem dL_law_1269 : decode cL_law 1269 = .ok (.iadd, 1) := by decide +kernel
theorem dL_law_1270 : decode cL_law 1270 = .ok (.iaload, 1) := by decide +kernel
theorem dL_law_1271 : decode cL_law 1271 = .ok (.invokevirtual 150, 3) := by decide +kernel
theorem dL_law_1274 : decode cL_law 1274 = .ok (.aload_n 2, 1) := by decide +kernel
theorem dL_law_1275 : decode cL_law 1275 = .ok (.aload_n 0, 1) := by decide +kernel
theorem dL_law_1276 : decode cL_law 1276 = .ok (.iload_n 3, 1) := by decide +kernel
theorem dL_law_1277 : decode cL_law 1277 = .ok (.iconst 1, 1) := by decide +kernel
theorem dL_law_1278 : decode cL_law 1278 = .ok (.iadd, 1) := by decide +kernel
theorem dL_law_1279 : decode cL_law 1279 = .ok (.iaload, 1) := by decide +kernel
theorem dL_law_1280 : decode cL_law 1280 = .ok (.invokevirtual 153, 3) := by decide +kernel
theorem dL_law_1283 : decode cL_law 1283 = .ok (.if_icmp .eq 28, 3) := by decide +kernel
theorem dL_law_1286 : decode cL_law 1286 = .ok (.iconst 0, 1) := by decide +kernel
theorem dL_law_1287 : decode cL_law 1287 = .ok (.ireturn, 1) := by decide +kernel
theorem dL_law_1288 : decode cL_law 1288 = .ok (.aload_n 1, 1) := by decide +kernel
theorem dL_law_1289 : decode cL_law 1289 = .ok (.aload_n 0, 1) := by decide +kernel
theorem dL_law_1290 : decode cL_law 1290 = .ok (.iload_n 3, 1) := by decide +kernel
theorem dL_law_1291 : decode cL_law 1291 = .ok (.iconst 1, 1) := by decide +kernel
theorem dL_law_1292 : decode cL_law 1292 = .ok (.iadd, 1) := by decide +kernel
theorem dL_law_1293 : decode cL_law 1293 = .ok (.iaload, 1) := by decide +kernel
theorem dL_law_1294 : decode cL_law 1294 = .ok (.invokevirtual 154, 3) := by decide +kernel
theorem dL_law_1297 : decode cL_law 1297 = .ok (.aload_n 2, 1) := by decide +kernel
theorem dL_law_1298 : decode cL_law 1298 = .ok (.aload_n 0, 1) := by decide +kernel
theorem dL_law_1299 : decode cL_law 1299 = .ok (.iload_n 3, 1) := by decide +kernel
theorem dL_law_1300 : decode cL_law 1300 = .ok (.iconst 1, 1) := by decide +kernel
theorem dL_law_1301 : decode cL_law 1301 = .ok (.iadd, 1) := by decide +kernel
theorem dL_law_1302 : decode cL_law 1302 = .ok (.iaload, 1) := by decide +kernel
theorem dL_law_1303 : decode cL_law 1303 = .ok (.invokevirtual 157, 3) := by decide +kernel
theorem dL_law_1306 : decode cL_law 1306 = .ok (.if_icmp .eq 5, 3) := by decide +kernel
theorem dL_law_1309 : decode cL_law 1309 = .ok (.iconst 0, 1) := by decide +kernel
theorem dL_law_1310 : decode cL_law 1310 = .ok (.ireturn, 1) := by decide +kernel
theorem dL_law_1311 : decode cL_law 1311 = .ok (.iinc 3 6, 3) := by decide +kernel
theorem dL_law_1314 : decode cL_law 1314 = .ok (.goto (-1296), 3) := by decide +kernel
theorem dL_law_1317 : decode cL_law 1317 = .ok (.iconst 1, 1) := by decide +kernel
theorem dL_law_1318 : decode cL_law 1318 = .ok (.ireturn, 1) := by decide +kernel
section CALLVY
variable {Γ : Gam} {cc : ByteArray} {n d : Nat} {own : String} {cy : Nat → ClassId} {pc ce sl : Nat} {lv : List (Nat × Value)} {rest : List Value} {w : va_W} {T F1 : Type} {z : T} {F : Option F1} {g : F1 → Option T} {w2 : F1 → va_W} {y : MethodName} {cb : ByteArray} {mL d2 index : Nat} {ret : Option FieldType} {C : String} {b : Nat}
theorem callVy0 {rr : F1 → Value} (C0 : CXg Γ cc n d own cy) (h : F.bind g = some z) (hD : va_D Γ.2.2.2.2.2.2.2.2.2.2.2.2.1 w) (hm : MW y cb mL ret C 0) (hrv : RV w b C) (hlk : Cond.methodLink own index y ∈ lw_T) (hc : ∀ q : F1, F = some q → CT Γ.2.1 Γ.2.2.2.2.2.2.2.2.2.2.2.1 cy y cb mL ret d2 [.ref b] w (w2 q) (some (rr q))) (hd : d2 + 1 ≤ d) (hce : ce ≤ Γ.2.2.2.1.cells ∧ sl ≤ Γ.2.2.2.1.slots) (hst : (rest.map fun v => v.category).sum ≤ 8) (hdg : decode cc pc = .ok (.invokevirtual index, 3)) (k : ∀ q : F1, g q = some z → Wp Γ ce sl (pc + 3) lv (rr q :: rest) (w2 q)) : Wp Γ ce sl pc lv (.ref b :: rest) w := by
  obtain ⟨q, h1, h⟩ := op_bind h
  intro H locs ls hl hP hS
  have hK : va_K Γ.2.2.2.2.2.2.2.2.2.2.2.1 vwCl (TY cy) Γ.2.2.2.2.1 := C0.1.2.2.2.2.2
  have hts := C0.1.2.2.2.2.1
  have hR : (RM d2).frames + 1 ≤ Γ.2.2.2.1.frames ∧ 8 + (mL + 11) + (RM d2).locals ≤ Γ.2.2.2.1.locals := by
    have h23 := hm.2.2.2.2.2.2
    have c1 := C0.2.2.2.1
    have c2 := C0.2.2.2.2
    exact ⟨Nat.le_trans hd c1, Nat.le_trans (by show 8 + (mL + 11) + 42 * d2 ≤ 42 * d; omega) c2⟩
  have cb0 := callB_of (R := Γ.2.2.2.1) (s := Γ.2.2.2.2.1) (args := Γ.2.2.2.2.2.2.1) (own := own) (index := index) (rm := RM d2) (mc := 0) (ms := 0) 0 hts (goodT hm.1) rfl rfl rfl (by rw [hm.2.2.2.2.1]; exact hts _ hm.2.2.2.1) (hts _ hlk) hm.2.2.2.2.2.1 hR
  obtain ⟨ci, vc, qr, fs, g1, rfl, g3⟩ := hrv
  refine call_any (va_runV (As := []) (rest := rest) (C := vc.1) ⟨C0.1.1, C0.1.2.1, C0.1.2.2.1, C0.1.2.2.2.1, hts⟩ (hc q h1 H.size) ⟨cb0, hts _ hm.2.1, hts _ hm.2.2.1⟩ ⟨pre_blind, va_recv hK hP g1 g3, fun U hU hW => ⟨rfl, by rw [hU], by rw [hU]; exact hP, va_K.moved hW.alike hK, hD.weaken (fun _ _ _ _ => trivial)⟩⟩ rfl rfl hl.1 rfl (lv_room hst) hdg hce) hS (fun q _ hq => ?_) (fun q hq => ?_) (fun H1 locs1 hP1 _ _ hS1 => k q h H1 locs1 ls hl hP1 hS1)
  · rcases hq with ⟨k0, e0, h0⟩ | h0
    · exact hD.2 k0 _ h0
    · exact C0.2.1 q (Nat.le_trans hS.1 h0)
  · rcases hq with ⟨k0, e0, h0⟩ | h0
    · exact hD.2 k0 _ h0
    · exact C0.2.1 q (Nat.le_trans hS.1 h0)
theorem callVy1 {q0 : Value} {rr : F1 → Value} (C0 : CXg Γ cc n d own cy) (h : F.bind g = some z) (hD : va_D Γ.2.2.2.2.2.2.2.2.2.2.2.2.1 w) (hm : MW y cb mL ret C 1) (hrv : RV w b C) (hlk : Cond.methodLink own index y ∈ lw_T) (hc : ∀ q : F1, F = some q → CT Γ.2.1 Γ.2.2.2.2.2.2.2.2.2.2.2.1 cy y cb mL ret d2 [.ref b, q0] w (w2 q) (some (rr q))) (hd : d2 + 1 ≤ d) (hce : ce ≤ Γ.2.2.2.1.cells ∧ sl ≤ Γ.2.2.2.1.slots) (hst : (rest.map fun v => v.category).sum ≤ 8) (hdg : decode cc pc = .ok (.invokevirtual index, 3)) (k : ∀ q : F1, g q = some z → Wp Γ ce sl (pc + 3) lv (rr q :: rest) (w2 q)) : Wp Γ ce sl pc lv (q0 :: .ref b :: rest) w := by
  obtain ⟨q, h1, h⟩ := op_bind h
  intro H locs ls hl hP hS
  have hK : va_K Γ.2.2.2.2.2.2.2.2.2.2.2.1 vwCl (TY cy) Γ.2.2.2.2.1 := C0.1.2.2.2.2.2
  have hts := C0.1.2.2.2.2.1
  have hR : (RM d2).frames + 1 ≤ Γ.2.2.2.1.frames ∧ 8 + (mL + 11) + (RM d2).locals ≤ Γ.2.2.2.1.locals := by
    have h23 := hm.2.2.2.2.2.2
    have c1 := C0.2.2.2.1
    have c2 := C0.2.2.2.2
    exact ⟨Nat.le_trans hd c1, Nat.le_trans (by show 8 + (mL + 11) + 42 * d2 ≤ 42 * d; omega) c2⟩
  have cb0 := callB_of (R := Γ.2.2.2.1) (s := Γ.2.2.2.2.1) (args := Γ.2.2.2.2.2.2.1) (own := own) (index := index) (rm := RM d2) (mc := 0) (ms := 0) 1 hts (goodT hm.1) rfl rfl rfl (by rw [hm.2.2.2.2.1]; exact hts _ hm.2.2.2.1) (hts _ hlk) hm.2.2.2.2.2.1 hR
  obtain ⟨ci, vc, qr, fs, g1, rfl, g3⟩ := hrv
  refine call_any (va_runV (As := [q0]) (rest := rest) (C := vc.1) ⟨C0.1.1, C0.1.2.1, C0.1.2.2.1, C0.1.2.2.2.1, hts⟩ (hc q h1 H.size) ⟨cb0, hts _ hm.2.1, hts _ hm.2.2.1⟩ ⟨pre_blind, va_recv hK hP g1 g3, fun U hU hW => ⟨rfl, by rw [hU], by rw [hU]; exact hP, va_K.moved hW.alike hK, hD.weaken (fun _ _ _ _ => trivial)⟩⟩ rfl rfl hl.1 rfl (lv_room hst) hdg hce) hS (fun q _ hq => ?_) (fun q hq => ?_) (fun H1 locs1 hP1 _ _ hS1 => k q h H1 locs1 ls hl hP1 hS1)
  · rcases hq with ⟨k0, e0, h0⟩ | h0
    · exact hD.2 k0 _ h0
    · exact C0.2.1 q (Nat.le_trans hS.1 h0)
  · rcases hq with ⟨k0, e0, h0⟩ | h0
    · exact hD.2 k0 _ h0
    · exact C0.2.1 q (Nat.le_trans hS.1 h0)
theorem callVy2 {q0 q1 : Value} {rr : F1 → Value} (C0 : CXg Γ cc n d own cy) (h : F.bind g = some z) (hD : va_D Γ.2.2.2.2.2.2.2.2.2.2.2.2.1 w) (hm : MW y cb mL ret C 2) (hrv : RV w b C) (hlk : Cond.methodLink own index y ∈ lw_T) (hc : ∀ q : F1, F = some q → CT Γ.2.1 Γ.2.2.2.2.2.2.2.2.2.2.2.1 cy y cb mL ret d2 [.ref b, q0, q1] w (w2 q) (some (rr q))) (hd : d2 + 1 ≤ d) (hce : ce ≤ Γ.2.2.2.1.cells ∧ sl ≤ Γ.2.2.2.1.slots) (hst : (rest.map fun v => v.category).sum ≤ 8) (hdg : decode cc pc = .ok (.invokevirtual index, 3)) (k : ∀ q : F1, g q = some z → Wp Γ ce sl (pc + 3) lv (rr q :: rest) (w2 q)) : Wp Γ ce sl pc lv (q1 :: q0 :: .ref b :: rest) w := by
  obtain ⟨q, h1, h⟩ := op_bind h
  intro H locs ls hl hP hS
  have hK : va_K Γ.2.2.2.2.2.2.2.2.2.2.2.1 vwCl (TY cy) Γ.2.2.2.2.1 := C0.1.2.2.2.2.2
  have hts := C0.1.2.2.2.2.1
  have hR : (RM d2).frames + 1 ≤ Γ.2.2.2.1.frames ∧ 8 + (mL + 11) + (RM d2).locals ≤ Γ.2.2.2.1.locals := by
    have h23 := hm.2.2.2.2.2.2
    have c1 := C0.2.2.2.1
    have c2 := C0.2.2.2.2
    exact ⟨Nat.le_trans hd c1, Nat.le_trans (by show 8 + (mL + 11) + 42 * d2 ≤ 42 * d; omega) c2⟩
  have cb0 := callB_of (R := Γ.2.2.2.1) (s := Γ.2.2.2.2.1) (args := Γ.2.2.2.2.2.2.1) (own := own) (index := index) (rm := RM d2) (mc := 0) (ms := 0) 2 hts (goodT hm.1) rfl rfl rfl (by rw [hm.2.2.2.2.1]; exact hts _ hm.2.2.2.1) (hts _ hlk) hm.2.2.2.2.2.1 hR
  obtain ⟨ci, vc, qr, fs, g1, rfl, g3⟩ := hrv
  refine call_any (va_runV (As := [q0, q1]) (rest := rest) (C := vc.1) ⟨C0.1.1, C0.1.2.1, C0.1.2.2.1, C0.1.2.2.2.1, hts⟩ (hc q h1 H.size) ⟨cb0, hts _ hm.2.1, hts _ hm.2.2.1⟩ ⟨pre_blind, va_recv hK hP g1 g3, fun U hU hW => ⟨rfl, by rw [hU], by rw [hU]; exact hP, va_K.moved hW.alike hK, hD.weaken (fun _ _ _ _ => trivial)⟩⟩ rfl rfl hl.1 rfl (lv_room hst) hdg hce) hS (fun q _ hq => ?_) (fun q hq => ?_) (fun H1 locs1 hP1 _ _ hS1 => k q h H1 locs1 ls hl hP1 hS1)
  · rcases hq with ⟨k0, e0, h0⟩ | h0
    · exact hD.2 k0 _ h0
    · exact C0.2.1 q (Nat.le_trans hS.1 h0)
  · rcases hq with ⟨k0, e0, h0⟩ | h0
    · exact hD.2 k0 _ h0
    · exact C0.2.1 q (Nat.le_trans hS.1 h0)
theorem callVy3 {q0 q1 q2 : Value} {rr : F1 → Value} (C0 : CXg Γ cc n d own cy) (h : F.bind g = some z) (hD : va_D Γ.2.2.2.2.2.2.2.2.2.2.2.2.1 w) (hm : MW y cb mL ret C 3) (hrv : RV w b C) (hlk : Cond.methodLink own index y ∈ lw_T) (hc : ∀ q : F1, F = some q → CT Γ.2.1 Γ.2.2.2.2.2.2.2.2.2.2.2.1 cy y cb mL ret d2 [.ref b, q0, q1, q2] w (w2 q) (some (rr q))) (hd : d2 + 1 ≤ d) (hce : ce ≤ Γ.2.2.2.1.cells ∧ sl ≤ Γ.2.2.2.1.slots) (hst : (rest.map fun v => v.category).sum ≤ 8) (hdg : decode cc pc = .ok (.invokevirtual index, 3)) (k : ∀ q : F1, g q = some z → Wp Γ ce sl (pc + 3) lv (rr q :: rest) (w2 q)) : Wp Γ ce sl pc lv (q2 :: q1 :: q0 :: .ref b :: rest) w := by
  obtain ⟨q, h1, h⟩ := op_bind h
  intro H locs ls hl hP hS
  have hK : va_K Γ.2.2.2.2.2.2.2.2.2.2.2.1 vwCl (TY cy) Γ.2.2.2.2.1 := C0.1.2.2.2.2.2
  have hts := C0.1.2.2.2.2.1
  have hR : (RM d2).frames + 1 ≤ Γ.2.2.2.1.frames ∧ 8 + (mL + 11) + (RM d2).locals ≤ Γ.2.2.2.1.locals := by
    have h23 := hm.2.2.2.2.2.2
    have c1 := C0.2.2.2.1
    have c2 := C0.2.2.2.2
    exact ⟨Nat.le_trans hd c1, Nat.le_trans (by show 8 + (mL + 11) + 42 * d2 ≤ 42 * d; omega) c2⟩
  have cb0 := callB_of (R := Γ.2.2.2.1) (s := Γ.2.2.2.2.1) (args := Γ.2.2.2.2.2.2.1) (own := own) (index := index) (rm := RM d2) (mc := 0) (ms := 0) 3 hts (goodT hm.1) rfl rfl rfl (by rw [hm.2.2.2.2.1]; exact hts _ hm.2.2.2.1) (hts _ hlk) hm.2.2.2.2.2.1 hR
  obtain ⟨ci, vc, qr, fs, g1, rfl, g3⟩ := hrv
  refine call_any (va_runV (As := [q0, q1, q2]) (rest := rest) (C := vc.1) ⟨C0.1.1, C0.1.2.1, C0.1.2.2.1, C0.1.2.2.2.1, hts⟩ (hc q h1 H.size) ⟨cb0, hts _ hm.2.1, hts _ hm.2.2.1⟩ ⟨pre_blind, va_recv hK hP g1 g3, fun U hU hW => ⟨rfl, by rw [hU], by rw [hU]; exact hP, va_K.moved hW.alike hK, hD.weaken (fun _ _ _ _ => trivial)⟩⟩ rfl rfl hl.1 rfl (lv_room hst) hdg hce) hS (fun q _ hq => ?_) (fun q hq => ?_) (fun H1 locs1 hP1 _ _ hS1 => k q h H1 locs1 ls hl hP1 hS1)
  · rcases hq with ⟨k0, e0, h0⟩ | h0
    · exact hD.2 k0 _ h0
    · exact C0.2.1 q (Nat.le_trans hS.1 h0)
  · rcases hq with ⟨k0, e0, h0⟩ | h0
    · exact hD.2 k0 _ h0
    · exact C0.2.1 q (Nat.le_trans hS.1 h0)
theorem callVy4 {q0 q1 q2 q3 : Value} {rr : F1 → Value} (C0 : CXg Γ cc n d own cy) (h : F.bind g = some z) (hD : va_D Γ.2.2.2.2.2.2.2.2.2.2.2.2.1 w) (hm : MW y cb mL ret C 4) (hrv : RV w b C) (hlk : Cond.methodLink own index y ∈ lw_T) (hc : ∀ q : F1, F = some q → CT Γ.2.1 Γ.2.2.2.2.2.2.2.2.2.2.2.1 cy y cb mL ret d2 [.ref b, q0, q1, q2, q3] w (w2 q) (some (rr q))) (hd : d2 + 1 ≤ d) (hce : ce ≤ Γ.2.2.2.1.cells ∧ sl ≤ Γ.2.2.2.1.slots) (hst : (rest.map fun v => v.category).sum ≤ 8) (hdg : decode cc pc = .ok (.invokevirtual index, 3)) (k : ∀ q : F1, g q = some z → Wp Γ ce sl (pc + 3) lv (rr q :: rest) (w2 q)) : Wp Γ ce sl pc lv (q3 :: q2 :: q1 :: q0 :: .ref b :: rest) w := by
  obtain ⟨q, h1, h⟩ := op_bind h
  intro H locs ls hl hP hS
  have hK : va_K Γ.2.2.2.2.2.2.2.2.2.2.2.1 vwCl (TY cy) Γ.2.2.2.2.1 := C0.1.2.2.2.2.2
  have hts := C0.1.2.2.2.2.1
  have hR : (RM d2).frames + 1 ≤ Γ.2.2.2.1.frames ∧ 8 + (mL + 11) + (RM d2).locals ≤ Γ.2.2.2.1.locals := by
    have h23 := hm.2.2.2.2.2.2
    have c1 := C0.2.2.2.1
    have c2 := C0.2.2.2.2
    exact ⟨Nat.le_trans hd c1, Nat.le_trans (by show 8 + (mL + 11) + 42 * d2 ≤ 42 * d; omega) c2⟩
  have cb0 := callB_of (R := Γ.2.2.2.1) (s := Γ.2.2.2.2.1) (args := Γ.2.2.2.2.2.2.1) (own := own) (index := index) (rm := RM d2) (mc := 0) (ms := 0) 4 hts (goodT hm.1) rfl rfl rfl (by rw [hm.2.2.2.2.1]; exact hts _ hm.2.2.2.1) (hts _ hlk) hm.2.2.2.2.2.1 hR
  obtain ⟨ci, vc, qr, fs, g1, rfl, g3⟩ := hrv
  refine call_any (va_runV (As := [q0, q1, q2, q3]) (rest := rest) (C := vc.1) ⟨C0.1.1, C0.1.2.1, C0.1.2.2.1, C0.1.2.2.2.1, hts⟩ (hc q h1 H.size) ⟨cb0, hts _ hm.2.1, hts _ hm.2.2.1⟩ ⟨pre_blind, va_recv hK hP g1 g3, fun U hU hW => ⟨rfl, by rw [hU], by rw [hU]; exact hP, va_K.moved hW.alike hK, hD.weaken (fun _ _ _ _ => trivial)⟩⟩ rfl rfl hl.1 rfl (lv_room hst) hdg hce) hS (fun q _ hq => ?_) (fun q hq => ?_) (fun H1 locs1 hP1 _ _ hS1 => k q h H1 locs1 ls hl hP1 hS1)
  · rcases hq with ⟨k0, e0, h0⟩ | h0
    · exact hD.2 k0 _ h0
    · exact C0.2.1 q (Nat.le_trans hS.1 h0)
  · rcases hq with ⟨k0, e0, h0⟩ | h0
    · exact hD.2 k0 _ h0
    · exact C0.2.1 q (Nat.le_trans hS.1 h0)
theorem callVy5 {q0 q1 q2 q3 q4 : Value} {rr : F1 → Value} (C0 : CXg Γ cc n d own cy) (h : F.bind g = some z) (hD : va_D Γ.2.2.2.2.2.2.2.2.2.2.2.2.1 w) (hm : MW y cb mL ret C 5) (hrv : RV w b C) (hlk : Cond.methodLink own index y ∈ lw_T) (hc : ∀ q : F1, F = some q → CT Γ.2.1 Γ.2.2.2.2.2.2.2.2.2.2.2.1 cy y cb mL ret d2 [.ref b, q0, q1, q2, q3, q4] w (w2 q) (some (rr q))) (hd : d2 + 1 ≤ d) (hce : ce ≤ Γ.2.2.2.1.cells ∧ sl ≤ Γ.2.2.2.1.slots) (hst : (rest.map fun v => v.category).sum ≤ 8) (hdg : decode cc pc = .ok (.invokevirtual index, 3)) (k : ∀ q : F1, g q = some z → Wp Γ ce sl (pc + 3) lv (rr q :: rest) (w2 q)) : Wp Γ ce sl pc lv (q4 :: q3 :: q2 :: q1 :: q0 :: .ref b :: rest) w := by
  obtain ⟨q, h1, h⟩ := op_bind h
  intro H locs ls hl hP hS
  have hK : va_K Γ.2.2.2.2.2.2.2.2.2.2.2.1 vwCl (TY cy) Γ.2.2.2.2.1 := C0.1.2.2.2.2.2
  have hts := C0.1.2.2.2.2.1
  have hR : (RM d2).frames + 1 ≤ Γ.2.2.2.1.frames ∧ 8 + (mL + 11) + (RM d2).locals ≤ Γ.2.2.2.1.locals := by
    have h23 := hm.2.2.2.2.2.2
    have c1 := C0.2.2.2.1
    have c2 := C0.2.2.2.2
    exact ⟨Nat.le_trans hd c1, Nat.le_trans (by show 8 + (mL + 11) + 42 * d2 ≤ 42 * d; omega) c2⟩
  have cb0 := callB_of (R := Γ.2.2.2.1) (s := Γ.2.2.2.2.1) (args := Γ.2.2.2.2.2.2.1) (own := own) (index := index) (rm := RM d2) (mc := 0) (ms := 0) 5 hts (goodT hm.1) rfl rfl rfl (by rw [hm.2.2.2.2.1]; exact hts _ hm.2.2.2.1) (hts _ hlk) hm.2.2.2.2.2.1 hR
  obtain ⟨ci, vc, qr, fs, g1, rfl, g3⟩ := hrv
  refine call_any (va_runV (As := [q0, q1, q2, q3, q4]) (rest := rest) (C := vc.1) ⟨C0.1.1, C0.1.2.1, C0.1.2.2.1, C0.1.2.2.2.1, hts⟩ (hc q h1 H.size) ⟨cb0, hts _ hm.2.1, hts _ hm.2.2.1⟩ ⟨pre_blind, va_recv hK hP g1 g3, fun U hU hW => ⟨rfl, by rw [hU], by rw [hU]; exact hP, va_K.moved hW.alike hK, hD.weaken (fun _ _ _ _ => trivial)⟩⟩ rfl rfl hl.1 rfl (lv_room hst) hdg hce) hS (fun q _ hq => ?_) (fun q hq => ?_) (fun H1 locs1 hP1 _ _ hS1 => k q h H1 locs1 ls hl hP1 hS1)
  · rcases hq with ⟨k0, e0, h0⟩ | h0
    · exact hD.2 k0 _ h0
    · exact C0.2.1 q (Nat.le_trans hS.1 h0)
  · rcases hq with ⟨k0, e0, h0⟩ | h0
    · exact hD.2 k0 _ h0
    · exact C0.2.1 q (Nat.le_trans hS.1 h0)
theorem callVz0 {rr : F1 → Value} (C0 : CXg Γ cc n d own cy) {q : F1} (hq : F = some q) (hD : va_D Γ.2.2.2.2.2.2.2.2.2.2.2.2.1 w) (hm : MW y cb mL ret C 0) (hrv : RV w b C) (hlk : Cond.methodLink own index y ∈ lw_T) (hc : ∀ q : F1, F = some q → CT Γ.2.1 Γ.2.2.2.2.2.2.2.2.2.2.2.1 cy y cb mL ret d2 [.ref b] w (w2 q) (some (rr q))) (hd : d2 + 1 ≤ d) (hce : ce ≤ Γ.2.2.2.1.cells ∧ sl ≤ Γ.2.2.2.1.slots) (hst : (rest.map fun v => v.category).sum ≤ 8) (hdg : decode cc pc = .ok (.invokevirtual index, 3)) (k : Wp Γ ce sl (pc + 3) lv (rr q :: rest) (w2 q)) : Wp Γ ce sl pc lv (.ref b :: rest) w :=
  callVy0 (F := some q) (g := fun _ => some ()) (z := ()) (rr := fun _ => rr q) (w2 := fun _ => w2 q) C0 rfl hD hm hrv hlk (fun _ _ => hc q hq) hd hce hst hdg (fun _ _ => k)
theorem callVz1 {q0 : Value} {rr : F1 → Value} (C0 : CXg Γ cc n d own cy) {q : F1} (hq : F = some q) (hD : va_D Γ.2.2.2.2.2.2.2.2.2.2.2.2.1 w) (hm : MW y cb mL ret C 1) (hrv : RV w b C) (hlk : Cond.methodLink own index y ∈ lw_T) (hc : ∀ q : F1, F = some q → CT Γ.2.1 Γ.2.2.2.2.2.2.2.2.2.2.2.1 cy y cb mL ret d2 [.ref b, q0] w (w2 q) (some (rr q))) (hd : d2 + 1 ≤ d) (hce : ce ≤ Γ.2.2.2.1.cells ∧ sl ≤ Γ.2.2.2.1.slots) (hst : (rest.map fun v => v.category).sum ≤ 8) (hdg : decode cc pc = .ok (.invokevirtual index, 3)) (k : Wp Γ ce sl (pc + 3) lv (rr q :: rest) (w2 q)) : Wp Γ ce sl pc lv (q0 :: .ref b :: rest) w :=
  callVy1 (F := some q) (g := fun _ => some ()) (z := ()) (rr := fun _ => rr q) (w2 := fun _ => w2 q) C0 rfl hD hm hrv hlk (fun _ _ => hc q hq) hd hce hst hdg (fun _ _ => k)
theorem callVz2 {q0 q1 : Value} {rr : F1 → Value} (C0 : CXg Γ cc n d own cy) {q : F1} (hq : F = some q) (hD : va_D Γ.2.2.2.2.2.2.2.2.2.2.2.2.1 w) (hm : MW y cb mL ret C 2) (hrv : RV w b C) (hlk : Cond.methodLink own index y ∈ lw_T) (hc : ∀ q : F1, F = some q → CT Γ.2.1 Γ.2.2.2.2.2.2.2.2.2.2.2.1 cy y cb mL ret d2 [.ref b, q0, q1] w (w2 q) (some (rr q))) (hd : d2 + 1 ≤ d) (hce : ce ≤ Γ.2.2.2.1.cells ∧ sl ≤ Γ.2.2.2.1.slots) (hst : (rest.map fun v => v.category).sum ≤ 8) (hdg : decode cc pc = .ok (.invokevirtual index, 3)) (k : Wp Γ ce sl (pc + 3) lv (rr q :: rest) (w2 q)) : Wp Γ ce sl pc lv (q1 :: q0 :: .ref b :: rest) w :=
  callVy2 (F := some q) (g := fun _ => some ()) (z := ()) (rr := fun _ => rr q) (w2 := fun _ => w2 q) C0 rfl hD hm hrv hlk (fun _ _ => hc q hq) hd hce hst hdg (fun _ _ => k)
theorem callVz3 {q0 q1 q2 : Value} {rr : F1 → Value} (C0 : CXg Γ cc n d own cy) {q : F1} (hq : F = some q) (hD : va_D Γ.2.2.2.2.2.2.2.2.2.2.2.2.1 w) (hm : MW y cb mL ret C 3) (hrv : RV w b C) (hlk : Cond.methodLink own index y ∈ lw_T) (hc : ∀ q : F1, F = some q → CT Γ.2.1 Γ.2.2.2.2.2.2.2.2.2.2.2.1 cy y cb mL ret d2 [.ref b, q0, q1, q2] w (w2 q) (some (rr q))) (hd : d2 + 1 ≤ d) (hce : ce ≤ Γ.2.2.2.1.cells ∧ sl ≤ Γ.2.2.2.1.slots) (hst : (rest.map fun v => v.category).sum ≤ 8) (hdg : decode cc pc = .ok (.invokevirtual index, 3)) (k : Wp Γ ce sl (pc + 3) lv (rr q :: rest) (w2 q)) : Wp Γ ce sl pc lv (q2 :: q1 :: q0 :: .ref b :: rest) w :=
  callVy3 (F := some q) (g := fun _ => some ()) (z := ()) (rr := fun _ => rr q) (w2 := fun _ => w2 q) C0 rfl hD hm hrv hlk (fun _ _ => hc q hq) hd hce hst hdg (fun _ _ => k)
theorem callVz4 {q0 q1 q2 q3 : Value} {rr : F1 → Value} (C0 : CXg Γ cc n d own cy) {q : F1} (hq : F = some q) (hD : va_D Γ.2.2.2.2.2.2.2.2.2.2.2.2.1 w) (hm : MW y cb mL ret C 4) (hrv : RV w b C) (hlk : Cond.methodLink own index y ∈ lw_T) (hc : ∀ q : F1, F = some q → CT Γ.2.1 Γ.2.2.2.2.2.2.2.2.2.2.2.1 cy y cb mL ret d2 [.ref b, q0, q1, q2, q3] w (w2 q) (some (rr q))) (hd : d2 + 1 ≤ d) (hce : ce ≤ Γ.2.2.2.1.cells ∧ sl ≤ Γ.2.2.2.1.slots) (hst : (rest.map fun v => v.category).sum ≤ 8) (hdg : decode cc pc = .ok (.invokevirtual index, 3)) (k : Wp Γ ce sl (pc + 3) lv (rr q :: rest) (w2 q)) : Wp Γ ce sl pc lv (q3 :: q2 :: q1 :: q0 :: .ref b :: rest) w :=
  callVy4 (F := some q) (g := fun _ => some ()) (z := ()) (rr := fun _ => rr q) (w2 := fun _ => w2 q) C0 rfl hD hm hrv hlk (fun _ _ => hc q hq) hd hce hst hdg (fun _ _ => k)
theorem callVz5 {q0 q1 q2 q3 q4 : Value} {rr : F1 → Value} (C0 : CXg Γ cc n d own cy) {q : F1} (hq : F = some q) (hD : va_D Γ.2.2.2.2.2.2.2.2.2.2.2.2.1 w) (hm : MW y cb mL ret C 5) (hrv : RV w b C) (hlk : Cond.methodLink own index y ∈ lw_T) (hc : ∀ q : F1, F = some q → CT Γ.2.1 Γ.2.2.2.2.2.2.2.2.2.2.2.1 cy y cb mL ret d2 [.ref b, q0, q1, q2, q3, q4] w (w2 q) (some (rr q))) (hd : d2 + 1 ≤ d) (hce : ce ≤ Γ.2.2.2.1.cells ∧ sl ≤ Γ.2.2.2.1.slots) (hst : (rest.map fun v => v.category).sum ≤ 8) (hdg : decode cc pc = .ok (.invokevirtual index, 3)) (k : Wp Γ ce sl (pc + 3) lv (rr q :: rest) (w2 q)) : Wp Γ ce sl pc lv (q4 :: q3 :: q2 :: q1 :: q0 :: .ref b :: rest) w :=
  callVy5 (F := some q) (g := fun _ => some ()) (z := ()) (rr := fun _ => rr q) (w2 := fun _ => w2 q) C0 rfl hD hm hrv hlk (fun _ _ => hc q hq) hd hce hst hdg (fun _ _ => k)
end CALLVY
abbrev DT : Type := Nat → Option (Nat × (Nat → Int32) × (Nat → Int32))
def ddK (dd : DT) (ko : KO) : DT := match ko with
  | none => dd
  | some e => va_up dd e.1 (some (e.2.1, e.2.2.1, e.2.2.2))
def ddU (dd : DT) (q : Option Nat) : DT := match q with
  | none => dd
  | some k => va_up dd k none
/-- the kept deeds lie among the cells X -/
def DX (cy : Nat → ClassId) (K : Nat → Option Nat) (X : va_W) (dd : DT) : Prop := ∀ (slot : Nat) (e : Nat × (Nat → Int32) × (Nat → Int32)), dd slot = some e → ∃ q c v iq ic iv : Nat, K slot = some q ∧ X[iq]? = some (q, .inr (1, [.ref c, .ref v])) ∧ X[ic]? = some (c, .inl (cy 0, e.1, .inl e.2.1)) ∧ X[iv]? = some (v, .inl (cy 0, e.1, .inl e.2.2))
theorem dx_dd {cy : Nat → ClassId} {a mm : Nat → Nat} {M : VT} {K : Nat → Option Nat} {X : va_W} {dd : DT} (h : DX cy K X dd) : DD cy a K (WM cy mm M X) dd := by
  intro slot e he
  obtain ⟨q, c, v, iq, ic, iv, h1, h2, h3, h4⟩ := h slot e he
  refine ⟨q, c, v, iq + 39, ic + 39, iv + 39, h1, fun V J K => ?_, fun V J K => ?_, fun V J K => ?_⟩
  · exact h2
  · exact h3
  · exact h4
theorem dx_kw {cy : Nat → ClassId} {a mm : Nat → Nat} {V M : VT} {J : JT} {K : Nat → Option Nat} {X : va_W} {dd : DT} {ko : KO} {w2 : va_W} (h : KW cy a V J K (WM cy mm M X) ko w2) (hd : DX cy K X dd) : ∃ (K2 : Nat → Option Nat) (X2 : va_W), w2 = WC cy a V J K2 (WM cy mm M X2) ∧ DX cy K2 X2 (ddK dd ko) := by
  rcases h with ⟨rfl, rfl⟩ | ⟨slot, n, f, g, q, c, v, rfl, rfl⟩
  · exact ⟨K, X, rfl, hd⟩
  · refine ⟨va_up K slot (some q), X ++ DE cy q c v n f g, rfl, fun s e he => ?_⟩
    by_cases hs : s = slot
    · subst hs
      have he2 : some (n, f, g) = some e := by
        rw [← he]; exact (va_up_self dd s (some (n, f, g))).symm
      cases he2
      refine ⟨q, c, v, X.length, X.length + 1, X.length + 2, va_up_self _ _ _, by simp [DE], by simp [DE], by simp [DE]⟩
    · have he2 : dd s = some e := by
        rw [← he]; exact (va_up_ne dd (some (n, f, g)) hs).symm
      obtain ⟨q1, c1, v1, iq, ic, iv, h1, h2, h3, h4⟩ := hd s e he2
      exact ⟨q1, c1, v1, iq, ic, iv, by rw [va_up_ne _ _ hs]; exact h1, get_app h2, get_app h3, get_app h4⟩
theorem dx_ku {cy : Nat → ClassId} {K : Nat → Option Nat} {X : va_W} {dd : DT} {q : Option Nat} (hd : DX cy K X dd) : DX cy (KU K q) X (ddU dd q) := by
  cases q with
  | none => exact hd
  | some k =>
    intro s e he
    by_cases hs : s = k
    · subst hs
      have : (none : Option (Nat × (Nat → Int32) × (Nat → Int32))) = some e := by rw [← he]; exact (va_up_self dd s none).symm
      cases this
    · have he2 : dd s = some e := by rw [← he]; exact (va_up_ne dd none hs).symm
      obtain ⟨q1, c1, v1, iq, ic, iv, h1, h2⟩ := hd s e he2
      exact ⟨q1, c1, v1, iq, ic, iv, by show va_up K k none s = _; rw [va_up_ne _ _ hs]; exact h1, h2⟩
theorem dx_0 {cy : Nat → ClassId} {K : Nat → Option Nat} {X : va_W} : DX cy K X (fun _ => none) := fun _ _ h => by cases h
theorem va_P_perm {D : va_G} {cl : List vw_C} {w w2 : va_W} {H : Heap} (hp : w.Perm w2) (h : va_P D cl w H) : va_P D cl w2 H := fun k q hq => by
  obtain ⟨i, hi⟩ := List.getElem?_of_mem (hp.mem_iff.mpr (List.mem_of_getElem? hq))
  exact h i q hi
theorem va_D_iff {A : Nat → Prop} {w : va_W} : va_D A w ↔ (w.map Prod.fst).Pairwise (fun x y => x ≠ y) ∧ ∀ q ∈ w, A q.1 := by
  constructor
  · intro h
    refine ⟨?_, fun q hq => ?_⟩
    · rw [List.pairwise_iff_getElem]
      intro i j hi hj hij he
      rw [List.length_map] at hi hj
      rw [List.getElem_map, List.getElem_map] at he
      have := h.1 i j _ _ (List.getElem?_eq_getElem hi) (List.getElem?_eq_getElem hj) he
      omega
    · obtain ⟨i, hi⟩ := List.getElem?_of_mem hq
      exact h.2 i q hi
  · intro h
    refine ⟨fun i j p q hp hq he => ?_, fun k q hq => h.2 q (List.mem_of_getElem? hq)⟩
    have h1 := List.pairwise_iff_getElem.mp h.1
    obtain ⟨l1, e1⟩ := List.getElem?_eq_some_iff.mp hp
    obtain ⟨l2, e2⟩ := List.getElem?_eq_some_iff.mp hq
    rcases Nat.lt_trichotomy i j with hh | hh | hh
    · refine absurd ?_ (h1 i j (by rw [List.length_map]; exact l1) (by rw [List.length_map]; exact l2) hh)
      rw [List.getElem_map, List.getElem_map, e1, e2, he]
    · exact hh
    · refine absurd ?_ (h1 j i (by rw [List.length_map]; exact l2) (by rw [List.length_map]; exact l1) hh)
      rw [List.getElem_map, List.getElem_map, e1, e2, he]
theorem va_D_perm {A : Nat → Prop} {w w2 : va_W} (hp : w.Perm w2) (h : va_D A w) : va_D A w2 := by
  rw [va_D_iff] at h ⊢
  exact ⟨List.Perm.nodup (hp.map Prod.fst) h.1, fun q hq => h.2 q (hp.mem_iff.mpr hq)⟩
theorem r_permP {Γ : Gam} {ce sl pc : Nat} {lv : List (Nat × Value)} {st : List Value} {w w2 : va_W} (hp : w.Perm w2) (k : Wp Γ ce sl pc lv st w2) : Wp Γ ce sl pc lv st w := fun H locs ls hl hP hS => k H locs ls hl (va_P_perm hp hP) hS
theorem r_widen {Γ : Gam} {ce sl ce2 sl2 pc : Nat} {lv : List (Nat × Value)} {st : List Value} {w : va_W} (h1 : ce ≤ ce2) (h2 : sl ≤ sl2) (k : Wp Γ ce2 sl2 pc lv st w) : Wp Γ ce sl pc lv st w := fun H locs ls hl hP hS => W.widen h1 h2 (k H locs ls hl hP hS)
theorem pm_cm {cy : Nat → ClassId} {a mm : Nat → Nat} {V M : VT} {J : JT} {K : Nat → Option Nat} {X : va_W} : (WC cy a V J K (WM cy mm M X)).Perm (WM cy mm M (WC cy a V J K X)) := by
  have e1 : WC cy a V J K (WM cy mm M X) = WC cy a V J K [] ++ (WM cy mm M [] ++ X) := rfl
  have e2 : WM cy mm M (WC cy a V J K X) = WM cy mm M [] ++ (WC cy a V J K [] ++ X) := rfl
  rw [e1, e2, ← List.append_assoc, ← List.append_assoc]
  exact List.Perm.append_right X List.perm_append_comm
/-- the script -/
def SX (Γ : Gam) (b L : Nat) (xs : Nat → Int32) : Prop := va_X b L xs Γ.2.2.2.2.1 Γ.2.2.2.2.2.2.2.2.2.2.2.2.2.1 ∧ b < Γ.2.2.2.2.2.2.2.2.2.2.2.2.2.1.size ∧ ¬ Γ.2.2.2.2.2.2.2.2.2.2.2.2.1 b ∧ L ≤ 3072
theorem r_sld {Γ : Gam} {cc : ByteArray} {n d : Nat} {own : String} {cy : Nat → ClassId} {ce sl pc : Nat} {lv : List (Nat × Value)} {st : List Value} {w : va_W} (C0 : CXg Γ cc n d own cy) {b L : Nat} {xs : Nat → Int32} (hX : SX Γ b L xs) {i : Int32} {q : Nat} (hi : vp_in i L ∧ i.toNatClampNeg = q) (hdg : decode cc pc = .ok (.iaload, 1)) (k : Wp Γ ce sl (pc + 1) lv (.int (xs q) :: st) w) : Wp Γ ce sl pc lv (.int i :: .ref b :: st) w := by
  obtain ⟨h1, rfl⟩ := hi
  exact fun H locs ls hl hP hS => va_sld C0.1.1 C0.1.2.1 hX.1 hX.2.1 hX.2.2.1 hS h1 hdg (k H locs ls hl hP hS)
theorem r_slen {Γ : Gam} {cc : ByteArray} {n d : Nat} {own : String} {cy : Nat → ClassId} {ce sl pc : Nat} {lv : List (Nat × Value)} {st : List Value} {w : va_W} (C0 : CXg Γ cc n d own cy) {b L : Nat} {xs : Nat → Int32} (hX : SX Γ b L xs) (hdg : decode cc pc = .ok (.arraylength, 1)) (k : Wp Γ ce sl (pc + 1) lv (.int (Int32.ofNat L) :: st) w) : Wp Γ ce sl pc lv (.ref b :: st) w := fun H locs ls hl hP hS => va_slen C0.1.1 C0.1.2.1 hX.1 hX.2.1 hX.2.2.1 hS hdg (k H locs ls hl hP hS)
theorem r_dstore {Γ : Gam} {cc : ByteArray} {n d : Nat} {own : String} {cy : Nat → ClassId} {ce sl pc : Nat} {lv : List (Nat × Value)} {st : List Value} {w : va_W} (C0 : CXg Γ cc n d own cy) {i : Nat} {x : UInt64} {lv2 : List (Nat × Value)} (hdg : decode cc pc = .ok (.dstore i, 2)) (hn : i + 1 < n) (hlv : (i, Value.double x) :: lv.filter (fun q => !(q.1 == i) && (!(q.1 == i + 1) && !(q.1 + 1 == i && q.2.category == 2))) = lv2) (k : Wp Γ ce sl (pc + 2) lv2 st w) : Wp Γ ce sl pc lv (.double x :: st) w := fun H locs ls hl hP hS => lv_dstore C0.1.1 C0.1.2.1 hdg hl (by rw [C0.2.2.1]; exact hn) hlv (fun ls2 hl2 => k H locs ls2 hl2 hP hS)
theorem r_dload {Γ : Gam} {cc : ByteArray} {n d : Nat} {own : String} {cy : Nat → ClassId} {ce sl pc : Nat} {lv : List (Nat × Value)} {st : List Value} {w : va_W} (C0 : CXg Γ cc n d own cy) {i : Nat} {x : UInt64} (hdg : decode cc pc = .ok (.dload i, 2)) (j : Nat) (hk : lv[j]? = some (i, .double x)) (k : Wp Γ ce sl (pc + 2) lv (.double x :: st) w) : Wp Γ ce sl pc lv st w := fun H locs ls hl hP hS => lv_dload C0.1.1 C0.1.2.1 hdg (lv_at hl j hk) (k H locs ls hl hP hS)
theorem r_dcmp {Γ : Gam} {cc : ByteArray} {n d : Nat} {own : String} {cy : Nat → ClassId} {ce sl pc : Nat} {lv : List (Nat × Value)} {st : List Value} {w : va_W} (C0 : CXg Γ cc n d own cy) {x y : UInt64} {op : CmpOp} (hdg : decode cc pc = .ok (.dcmp op, 1)) (k : Wp Γ ce sl (pc + 1) lv (.int (Op.cmpValue (FP.dcmp x y) op) :: st) w) : Wp Γ ce sl pc lv (.double y :: .double x :: st) w := fun H locs ls hl hP hS => lv_dcmp C0.1.1 C0.1.2.1 hdg (k H locs ls hl hP hS)
theorem sc_at {j k L : Nat} (hj : 6 * j + 6 ≤ L) (hL : L ≤ 3072) (hk : k < 6) : vp_in (Int32.ofNat (6 * j + k)) L ∧ (Int32.ofNat (6 * j + k)).toNatClampNeg = 6 * j + k := by
  have h1 : (Int32.ofNat (6 * j + k)).toNatClampNeg = 6 * j + k := Int32.toNatClampNeg_ofNat_of_lt (by omega)
  have h2 : (Int32.ofNat (6 * j + k)).toInt = ((6 * j + k : Nat) : Int) := Int32.toInt_ofNat_of_lt (by omega)
  refine ⟨?_, h1⟩
  intro h
  rcases h with h | h
  · have := Int32.lt_iff_toInt_lt.mp h
    rw [h2] at this
    have h0 : (0 : Int32).toInt = 0 := by decide
    omega
  · omega
theorem sc_add {j k : Nat} : Int32.ofNat (6 * j) + Int32.ofNat k = Int32.ofNat (6 * j + k) := (Int32.ofNat_add _ _).symm
theorem lg_self (x : Int64) : lg_cmp x x = 0 := by simp [lg_cmp]
theorem sc_le {j L : Nat} (hL : L ≤ 3072) (hj : 6 * j ≤ L) (h : ¬ Int32.ofNat L - 6 < Int32.ofNat (6 * j)) : 6 * j + 6 ≤ L := by
  have h1 : (Int32.ofNat L).toInt = (L : Int) := Int32.toInt_ofNat_of_lt (by omega)
  have h2 : (Int32.ofNat (6 * j)).toInt = ((6 * j : Nat) : Int) := Int32.toInt_ofNat_of_lt (by omega)
  have h6 : (6 : Int32).toInt = 6 := by decide
  have h3 : (Int32.ofNat L - 6).toInt = (L : Int) - 6 := by
    rw [Int32.toInt_sub, h1, h6]
    exact Int.bmod_eq_of_le (by omega) (by omega)
  have h4 : ¬ (Int32.ofNat L - 6).toInt < (Int32.ofNat (6 * j)).toInt := fun q => h (Int32.lt_iff_toInt_lt.mpr q)
  omega
/-- what holds between the two, after n calls -/
abbrev IT : Type := Nat → VT → JT → DT → VT → Prop
def O_bar (I : IT) : Prop := ∀ (n : Nat) (V : VT) (J : JT) (dd : DT) (M : VT) (v1 v2 v3 : Int32) , n < 512 → I n V J dd M → ∃ (y : Int32 × VT × JT × KO) (z : Int32 × VT), f_X11_bar v1 v2 v3 V J = some y ∧ f_X12_bar v1 v2 v3 M = some z ∧ y.1 = z.1 ∧ I (n + 1) y.2.1 y.2.2.1 (ddK dd y.2.2.2) z.2
def O_strip (I : IT) : Prop := ∀ (n : Nat) (V : VT) (J : JT) (dd : DT) (M : VT) (v1 : Int32) , n < 512 → I n V J dd M → ∃ (y : Int32 × VT × JT × KO) (z : Int32 × VT), f_X11_strip v1 V J = some y ∧ f_X12_strip v1 M = some z ∧ y.1 = z.1 ∧ I (n + 1) y.2.1 y.2.2.1 (ddK dd y.2.2.2) z.2
def O_line (I : IT) : Prop := ∀ (n : Nat) (V : VT) (J : JT) (dd : DT) (M : VT) (v1 v2 v3 v4 : Int32) , n < 512 → I n V J dd M → ∃ (y : Int32 × VT × JT × KO) (z : Int32 × VT), f_X11_line v1 v2 v3 v4 V J = some y ∧ f_X12_line v1 v2 v3 v4 M = some z ∧ y.1 = z.1 ∧ I (n + 1) y.2.1 y.2.2.1 (ddK dd y.2.2.2) z.2
def O_wear (I : IT) : Prop := ∀ (n : Nat) (V : VT) (J : JT) (dd : DT) (M : VT) (v1 v2 v3 : Int32) , n < 512 → I n V J dd M → ∃ (y : Int32 × VT × JT × KO) (z : Int32 × VT), f_X11_wear v1 v2 v3 V J = some y ∧ f_X12_wear v1 v2 v3 M = some z ∧ y.1 = z.1 ∧ I (n + 1) y.2.1 y.2.2.1 (ddK dd y.2.2.2) z.2
def O_cut (I : IT) : Prop := ∀ (n : Nat) (V : VT) (J : JT) (dd : DT) (M : VT) (v1 : Int32) , n < 512 → I n V J dd M → ∃ (y : Int32 × VT × JT × KO) (z : Int32 × VT), f_X11_cut v1 V J = some y ∧ f_X12_cut v1 M = some z ∧ y.1 = z.1 ∧ I (n + 1) y.2.1 y.2.2.1 (ddK dd y.2.2.2) z.2
def O_thing (I : IT) : Prop := ∀ (n : Nat) (V : VT) (J : JT) (dd : DT) (M : VT) (v1 v2 v3 v4 : Int32) , n < 512 → I n V J dd M → ∃ (y : Int32 × VT × JT × KO) (z : Int32 × VT), f_X11_thing v1 v2 v3 v4 V J = some y ∧ f_X12_thing v1 v2 v3 v4 M = some z ∧ y.1 = z.1 ∧ I (n + 1) y.2.1 y.2.2.1 (ddK dd y.2.2.2) z.2
def O_heat (I : IT) : Prop := ∀ (n : Nat) (V : VT) (J : JT) (dd : DT) (M : VT) (v1 v2 : Int32) , n < 512 → I n V J dd M → ∃ (y : Int32 × VT × JT × KO) (z : Int32 × VT), f_X11_heat v1 v2 V J = some y ∧ f_X12_heat v1 v2 M = some z ∧ y.1 = z.1 ∧ I (n + 1) y.2.1 y.2.2.1 (ddK dd y.2.2.2) z.2
def O_hang (I : IT) : Prop := ∀ (n : Nat) (V : VT) (J : JT) (dd : DT) (M : VT) (v1 v2 v3 : Int32) , n < 512 → I n V J dd M → ∃ (y : Int32 × VT × JT × KO) (z : Int32 × VT), f_X11_hang v1 v2 v3 V J = some y ∧ f_X12_hang v1 v2 v3 M = some z ∧ y.1 = z.1 ∧ I (n + 1) y.2.1 y.2.2.1 (ddK dd y.2.2.2) z.2
def O_strike (I : IT) : Prop := ∀ (n : Nat) (V : VT) (J : JT) (dd : DT) (M : VT) (v1 : Int32) , n < 512 → I n V J dd M → ∃ (y : Int32 × VT × JT × KO) (z : Int32 × VT), f_X11_strike v1 V J = some y ∧ f_X12_strike v1 M = some z ∧ y.1 = z.1 ∧ I (n + 1) y.2.1 y.2.2.1 (ddK dd y.2.2.2) z.2
def O_hook (I : IT) : Prop := ∀ (n : Nat) (V : VT) (J : JT) (dd : DT) (M : VT) (v1 v2 v3 : Int32) , n < 512 → (v3 = 0 ∨ v3 = 1) → I n V J dd M → ∃ (y : Int32 × VT × JT × KO) (z : Int32 × VT), f_X11_hook v1 v2 v3 V J = some y ∧ f_X12_hook v1 v2 v3 M = some z ∧ y.1 = z.1 ∧ I (n + 1) y.2.1 y.2.2.1 (ddK dd y.2.2.2) z.2
def O_brick (I : IT) : Prop := ∀ (n : Nat) (V : VT) (J : JT) (dd : DT) (M : VT) (v1 v2 : Int32) , n < 512 → I n V J dd M → ∃ (y : Int32 × VT × JT × KO) (z : Int32 × VT), f_X11_brick v1 v2 V J = some y ∧ f_X12_brick v1 v2 M = some z ∧ y.1 = z.1 ∧ I (n + 1) y.2.1 y.2.2.1 (ddK dd y.2.2.2) z.2
def O_shift (I : IT) : Prop := ∀ (n : Nat) (V : VT) (J : JT) (dd : DT) (M : VT) (v1 v2 v3 v4 : Int32) , n < 512 → I n V J dd M → ∃ (y : Int32 × VT × JT × KO) (z : Int32 × VT), f_X11_shift v1 v2 v3 v4 V J = some y ∧ f_X12_shift v1 v2 v3 v4 M = some z ∧ y.1 = z.1 ∧ I (n + 1) y.2.1 y.2.2.1 (ddK dd y.2.2.2) z.2
def O_flag (I : IT) : Prop := ∀ (n : Nat) (V : VT) (J : JT) (dd : DT) (M : VT) (v1 v2 : Int32) , n < 512 → I n V J dd M → ∃ (y : Int32 × VT × JT × KO) (z : Int32 × VT), f_X11_flag v1 v2 V J = some y ∧ f_X12_flag v1 v2 M = some z ∧ y.1 = z.1 ∧ I (n + 1) y.2.1 y.2.2.1 (ddK dd y.2.2.2) z.2
def O_wave (I : IT) : Prop := ∀ (n : Nat) (V : VT) (J : JT) (dd : DT) (M : VT) (v1 : Int32) , n < 512 → I n V J dd M → ∃ (y : Int32 × VT) (z : Int32 × VT), f_X11_wave v1 V = some y ∧ f_X12_wave v1 M = some z ∧ y.1 = z.1 ∧ I (n + 1) y.2 J dd z.2
def O_cue (I : IT) : Prop := ∀ (n : Nat) (V : VT) (J : JT) (dd : DT) (M : VT) (v1 v2 v3 v4 : Int32) , n < 512 → I n V J dd M → ∃ (y : Int32 × VT × JT × KO) (z : Int32 × VT), f_X11_cue v1 v2 v3 v4 V J = some y ∧ f_X12_cue v1 v2 v3 v4 M = some z ∧ y.1 = z.1 ∧ I (n + 1) y.2.1 y.2.2.1 (ddK dd y.2.2.2) z.2
def O_hush (I : IT) : Prop := ∀ (n : Nat) (V : VT) (J : JT) (dd : DT) (M : VT) (v1 : Int32) , n < 512 → I n V J dd M → ∃ (y : Int32 × VT × JT × KO) (z : Int32 × VT), f_X11_hush v1 V J = some y ∧ f_X12_hush v1 M = some z ∧ y.1 = z.1 ∧ I (n + 1) y.2.1 y.2.2.1 (ddK dd y.2.2.2) z.2
def O_go (I : IT) : Prop := ∀ (n : Nat) (V : VT) (J : JT) (dd : DT) (M : VT) (v1 : Int32) , n < 512 → I n V J dd M → ∃ (y : Int32 × VT × JT × KO) (z : Int32 × VT), f_X11_go v1 V J = some y ∧ f_X12_go v1 M = some z ∧ y.1 = z.1 ∧ I (n + 1) y.2.1 y.2.2.1 (ddK dd y.2.2.2) z.2
def O_undo (I : IT) : Prop := ∀ (n : Nat) (V : VT) (J : JT) (dd : DT) (M : VT) , n < 512 → I n V J dd M → ∃ (y : Int32 × VT × Option Nat) (z : Int32 × VT), f_X11_undo V dd = some y ∧ f_X12_undo M = some z ∧ y.1 = z.1 ∧ I (n + 1) y.2.1 J (ddU dd y.2.2) z.2
def O_tell (I : IT) : Prop := ∀ (n : Nat) (V : VT) (J : JT) (dd : DT) (M : VT) (v1 v2 v3 v4 v5 : Int32) , n < 512 → I n V J dd M → ∃ (y : Int32 × VT) (z : Int32 × VT), f_X11_tell v1 v2 v3 v4 v5 V = some y ∧ f_X12_tell v1 v2 v3 v4 v5 M = some z ∧ y.1 = z.1 ∧ I (n + 1) y.2 J dd z.2
def O_forge (I : IT) : Prop := ∀ (n : Nat) (V : VT) (J : JT) (dd : DT) (M : VT) (v1 v2 v3 : Int32) , n < 512 → I n V J dd M → ∃ (y : Int32 × VT) (z : Int32 × VT), f_X11_forge v1 v2 v3 V = some y ∧ f_X12_forge v1 v2 v3 M = some z ∧ y.1 = z.1 ∧ I (n + 1) y.2 J dd z.2
def O_clear (I : IT) : Prop := ∀ (n : Nat) (V : VT) (J : JT) (dd : DT) (M : VT) , n < 512 → I n V J dd M → ∃ (y : Int32 × VT) (z : Int32 × VT), f_X11_clear V = some y ∧ f_X12_clear M = some z ∧ y.1 = z.1 ∧ I (n + 1) y.2 J dd z.2
def O_check (I : IT) : Prop := ∀ (n : Nat) (V : VT) (J : JT) (dd : DT) (M : VT) , n < 512 → I n V J dd M → ∃ (y : Int32 × VT × JT) (z : Int32 × VT), f_X11_check V J = some y ∧ f_X12_check M = some z ∧ y.1 = z.1 ∧ I (n + 1) y.2.1 y.2.2 dd z.2
def O_at (I : IT) : Prop := ∀ (n : Nat) (V : VT) (J : JT) (dd : DT) (M : VT) (v1 v2 : Int32) , n < 512 → I n V J dd M → ∃ (y : Int32) (z : Int32), f_X11_at v1 v2 V = some y ∧ f_X12_at v1 v2 M = some z ∧ y = z ∧ I (n + 1) V J dd M
def O_of (I : IT) : Prop := ∀ (n : Nat) (V : VT) (J : JT) (dd : DT) (M : VT) (v1 v2 : Int32) , n < 512 → I n V J dd M → ∃ (y : Int32) (z : Int32), f_X11_of v1 v2 V = some y ∧ f_X12_of v1 v2 M = some z ∧ y = z ∧ I (n + 1) V J dd M
def O_barOf (I : IT) : Prop := ∀ (n : Nat) (V : VT) (J : JT) (dd : DT) (M : VT) (v1 v2 : Int32) , n < 512 → I n V J dd M → ∃ (y : Int32 × VT × JT) (z : Int32), f_X11_barOf v1 v2 V J = some y ∧ f_X12_barOf v1 v2 M = some z ∧ y.1 = z ∧ I (n + 1) y.2.1 y.2.2 dd M
def O_load (I : IT) : Prop := ∀ (n : Nat) (V : VT) (J : JT) (dd : DT) (M : VT) (v1 : Int32) , n < 512 → I n V J dd M → ∃ (y : UInt64) (z : UInt64), f_X11_load v1 V = some y ∧ f_X12_load v1 M = some z ∧ y = z ∧ I (n + 1) V J dd M
def O_share (I : IT) : Prop := ∀ (n : Nat) (V : VT) (J : JT) (dd : DT) (M : VT) (v1 : Int32) , n < 512 → I n V J dd M → ∃ (y : Int64 × VT × JT) (z : Int64), f_X11_share v1 V J = some y ∧ f_X12_share v1 M = some z ∧ y.1 = z ∧ I (n + 1) y.2.1 y.2.2 dd M
def O_strength (I : IT) : Prop := ∀ (n : Nat) (V : VT) (J : JT) (dd : DT) (M : VT) (v1 : Int32) , n < 512 → I n V J dd M → ∃ (y : Int32) (z : Int32), f_X11_strength v1 V = some y ∧ f_X12_strength v1 M = some z ∧ y = z ∧ I (n + 1) V J dd M
def O_even (I : IT) : Prop := ∀ (n : Nat) (V : VT) (J : JT) (dd : DT) (M : VT) (v1 : Int32) , n < 512 → I n V J dd M → ∃ (y : Int32) (z : Int32), f_X11_even v1 V = some y ∧ f_X12_even v1 M = some z ∧ y = z ∧ I (n + 1) V J dd M
def O_least (I : IT) : Prop := ∀ (n : Nat) (V : VT) (J : JT) (dd : DT) (M : VT) , n < 512 → I n V J dd M → ∃ (y : Int32) (z : Int32), f_X11_least V = some y ∧ f_X12_least M = some z ∧ y = z ∧ I (n + 1) V J dd M
def O_stop (I : IT) : Prop := ∀ (n : Nat) (V : VT) (J : JT) (dd : DT) (M : VT) (v1 v2 : Int32) , n < 512 → I n V J dd M → ∃ (y : Int32) (z : Int32), f_X11_stop v1 v2 V = some y ∧ f_X12_stop v1 v2 M = some z ∧ y = z ∧ I (n + 1) V J dd M
def O_cueOf (I : IT) : Prop := ∀ (n : Nat) (V : VT) (J : JT) (dd : DT) (M : VT) (v1 v2 : Int32) , n < 512 → I n V J dd M → ∃ (y : Int32) (z : Int32), f_X11_cueOf v1 v2 V = some y ∧ f_X12_cueOf v1 v2 M = some z ∧ y = z ∧ I (n + 1) V J dd M
def O_told (I : IT) : Prop := ∀ (n : Nat) (V : VT) (J : JT) (dd : DT) (M : VT) (v1 : Int32) , n < 512 → I n V J dd M → ∃ (y : Int32) (z : Int32), f_X11_told v1 V = some y ∧ f_X12_told v1 M = some z ∧ y = z ∧ I (n + 1) V J dd M
def O_status (I : IT) : Prop := ∀ (n : Nat) (V : VT) (J : JT) (dd : DT) (M : VT) (v1 : Int32) , n < 512 → I n V J dd M → ∃ (y : Int32) (z : Int32), f_X11_status v1 V = some y ∧ f_X12_status v1 M = some z ∧ y = z ∧ I (n + 1) V J dd M
/-- behind a call: on to the next one -/
def NX (I : IT) (Γ : Gam) (cy : Nat → ClassId) (a mm : Nat → Nat) (b j : Nat) : Prop := ∀ (V : VT) (J : JT) (K : Nat → Option Nat) (X : va_W) (M : VT) (dd : DT) (lv : List (Nat × Value)), lv_pick lv [0, 1, 2, 3] = [(0, .ref b), (1, .ref (a 0)), (2, .ref (mm 0)), (3, .int (Int32.ofNat (6 * j)))] → I (j + 1) V J dd M → DX cy K X dd → va_D Γ.2.2.2.2.2.2.2.2.2.2.2.2.1 (WC cy a V J K (WM cy mm M X)) → Wp Γ (39 + 3 * j + 3) (210633 + 3750 * j + 3750) 1311 lv [] (WC cy a V J K (WM cy mm M X))
def RC (Γ : Gam) (j : Nat) : Prop := 39 + 3 * j + 3 ≤ Γ.2.2.2.1.cells ∧ 210633 + 3750 * j + 3750 ≤ Γ.2.2.2.1.slots
theorem rc_le {Γ : Gam} {j : Nat} (h : RC Γ j) : 39 + 3 * j ≤ Γ.2.2.2.1.cells ∧ 210633 + 3750 * j ≤ Γ.2.2.2.1.slots := ⟨Nat.le_trans (Nat.le_add_right _ _) h.1, Nat.le_trans (Nat.le_add_right _ _) h.2⟩
theorem lc_bar {I : IT} {Γ : Gam} {cy : Nat → ClassId} {a mm : Nat → Nat} {b L j : Nat} {xs : Nat → Int32} {V M : VT} {J : JT} {K : Nat → Option Nat} {X : va_W} {dd : DT} (C0 : CXg Γ cL_law 8 13 RL cy) (hX : SX Γ b L xs) (hj : 6 * j + 6 ≤ L) (hrc : RC Γ j) (hI : I j V J dd M) (hdx : DX cy K X dd) (hD : va_D Γ.2.2.2.2.2.2.2.2.2.2.2.2.1 (WC cy a V J K (WM cy mm M X))) (hN : NX I Γ cy a mm b j) (hO : O_bar I) : Wp Γ (39 + 3 * j) (210633 + 3750 * j) 184 [(0, .ref b), (1, .ref (a 0)), (2, .ref (mm 0)), (3, .int (Int32.ofNat (6 * j)))] [] (WC cy a V J K (WM cy mm M X)) := by
  have hn : j < 512 := by have := hX.2.2.2; omega
  obtain ⟨y, z, hy, hz, hyz, hI2⟩ := hO j V J dd M (xs (6 * j + 1)) (xs (6 * j + 2)) (xs (6 * j + 3)) hn hI
  show Wp Γ (39 + 3 * j) (210633 + 3750 * j) 184 [(0, .ref b), (1, .ref (a 0)), (2, .ref (mm 0)), (3, .int (Int32.ofNat (6 * j)))] [] (WC cy a V J K (WM cy mm M X))
  refine r_aload_n C0 dL_law_184 rfl 1 rfl ?_
  refine r_aload_n C0 dL_law_185 rfl 0 rfl ?_
  refine r_iload_n C0 dL_law_186 rfl 3 rfl ?_
  refine r_iconst C0 dL_law_187 ki_1 ?_
  refine r_iadd C0 dL_law_188 ?_
  rw [show Int32.ofNat (6 * j) + 1 = Int32.ofNat (6 * j + 1) from sc_add (k := 1)]
  refine r_sld C0 hX (sc_at hj hX.2.2.2 (by decide)) dL_law_189 ?_
  refine r_aload_n C0 dL_law_190 rfl 0 rfl ?_
  refine r_iload_n C0 dL_law_191 rfl 3 rfl ?_
  refine r_iconst C0 dL_law_192 ki_2 ?_
  refine r_iadd C0 dL_law_193 ?_
  rw [show Int32.ofNat (6 * j) + 2 = Int32.ofNat (6 * j + 2) from sc_add (k := 2)]
  refine r_sld C0 hX (sc_at hj hX.2.2.2 (by decide)) dL_law_194 ?_
  refine r_aload_n C0 dL_law_195 rfl 0 rfl ?_
  refine r_iload_n C0 dL_law_196 rfl 3 rfl ?_
  refine r_iconst C0 dL_law_197 ki_3 ?_
  refine r_iadd C0 dL_law_198 ?_
  rw [show Int32.ofNat (6 * j) + 3 = Int32.ofNat (6 * j + 3) from sc_add (k := 3)]
  refine r_sld C0 hX (sc_at hj hX.2.2.2 (by decide)) dL_law_199 ?_
  refine callAV (ce := 39 + 3 * j) (sl := 210633 + 3750 * j) (As := [.int (xs (6 * j + 1)), .int (xs (6 * j + 2)), .int (xs (6 * j + 3))]) (b := a 0) (rest := []) C0 en_ok trivial hD mw_X11_bar rv_0 tm_L_13 (c_X11_bar hy) rfl (Nat.le_of_ble_eq_true rfl) (Nat.le_of_ble_eq_true rfl) hrc dL_law_200 (fun w2 r2 hΦ hD => ?_)
  obtain ⟨rfl, hΦ⟩ := hΦ
  obtain ⟨K2, X2, rfl, hdx⟩ := dx_kw hΦ hdx
  refine r_permP pm_cm ?_
  have hD := va_D_perm pm_cm hD
  refine r_aload_n C0 dL_law_203 rfl 2 rfl ?_
  refine r_aload_n C0 dL_law_204 rfl 0 rfl ?_
  refine r_iload_n C0 dL_law_205 rfl 3 rfl ?_
  refine r_iconst C0 dL_law_206 ki_1 ?_
  refine r_iadd C0 dL_law_207 ?_
  rw [show Int32.ofNat (6 * j) + 1 = Int32.ofNat (6 * j + 1) from sc_add (k := 1)]
  refine r_sld C0 hX (sc_at hj hX.2.2.2 (by decide)) dL_law_208 ?_
  refine r_aload_n C0 dL_law_209 rfl 0 rfl ?_
  refine r_iload_n C0 dL_law_210 rfl 3 rfl ?_
  refine r_iconst C0 dL_law_211 ki_2 ?_
  refine r_iadd C0 dL_law_212 ?_
  rw [show Int32.ofNat (6 * j) + 2 = Int32.ofNat (6 * j + 2) from sc_add (k := 2)]
  refine r_sld C0 hX (sc_at hj hX.2.2.2 (by decide)) dL_law_213 ?_
  refine r_aload_n C0 dL_law_214 rfl 0 rfl ?_
  refine r_iload_n C0 dL_law_215 rfl 3 rfl ?_
  refine r_iconst C0 dL_law_216 ki_3 ?_
  refine r_iadd C0 dL_law_217 ?_
  rw [show Int32.ofNat (6 * j) + 3 = Int32.ofNat (6 * j + 3) from sc_add (k := 3)]
  refine r_sld C0 hX (sc_at hj hX.2.2.2 (by decide)) dL_law_218 ?_
  refine callVz3 C0 hz hD mw_X12_bar rv_m tm_L_17 (fun z2 hz2 => c_X12_bar hz2) (Nat.le_of_ble_eq_true rfl) hrc (Nat.le_of_ble_eq_true rfl) dL_law_219 ?_
  have hD := dm_of hD z.2
  refine r_permP pm_cm.symm ?_
  have hD := va_D_perm pm_cm.symm hD
  refine r_icmp_eq (T := Unit) (z := ()) (E1 := some ()) (E2 := none) C0 1311 dL_law_222 rfl (if_pos hyz) (fun _ _ => ?_) (fun _ h => by cases h)
  exact hN _ _ _ _ _ _ _ rfl hI2 hdx hD
theorem lc_strip {I : IT} {Γ : Gam} {cy : Nat → ClassId} {a mm : Nat → Nat} {b L j : Nat} {xs : Nat → Int32} {V M : VT} {J : JT} {K : Nat → Option Nat} {X : va_W} {dd : DT} (C0 : CXg Γ cL_law 8 13 RL cy) (hX : SX Γ b L xs) (hj : 6 * j + 6 ≤ L) (hrc : RC Γ j) (hI : I j V J dd M) (hdx : DX cy K X dd) (hD : va_D Γ.2.2.2.2.2.2.2.2.2.2.2.2.1 (WC cy a V J K (WM cy mm M X))) (hN : NX I Γ cy a mm b j) (hO : O_strip I) : Wp Γ (39 + 3 * j) (210633 + 3750 * j) 227 [(0, .ref b), (1, .ref (a 0)), (2, .ref (mm 0)), (3, .int (Int32.ofNat (6 * j)))] [] (WC cy a V J K (WM cy mm M X)) := by
  have hn : j < 512 := by have := hX.2.2.2; omega
  obtain ⟨y, z, hy, hz, hyz, hI2⟩ := hO j V J dd M (xs (6 * j + 1)) hn hI
  show Wp Γ (39 + 3 * j) (210633 + 3750 * j) 227 [(0, .ref b), (1, .ref (a 0)), (2, .ref (mm 0)), (3, .int (Int32.ofNat (6 * j)))] [] (WC cy a V J K (WM cy mm M X))
  refine r_aload_n C0 dL_law_227 rfl 1 rfl ?_
  refine r_aload_n C0 dL_law_228 rfl 0 rfl ?_
  refine r_iload_n C0 dL_law_229 rfl 3 rfl ?_
  refine r_iconst C0 dL_law_230 ki_1 ?_
  refine r_iadd C0 dL_law_231 ?_
  rw [show Int32.ofNat (6 * j) + 1 = Int32.ofNat (6 * j + 1) from sc_add (k := 1)]
  refine r_sld C0 hX (sc_at hj hX.2.2.2 (by decide)) dL_law_232 ?_
  refine callAV (ce := 39 + 3 * j) (sl := 210633 + 3750 * j) (As := [.int (xs (6 * j + 1))]) (b := a 0) (rest := []) C0 en_ok trivial hD mw_X11_strip rv_0 tm_L_18 (c_X11_strip hy) rfl (Nat.le_of_ble_eq_true rfl) (Nat.le_of_ble_eq_true rfl) hrc dL_law_233 (fun w2 r2 hΦ hD => ?_)
  obtain ⟨rfl, hΦ⟩ := hΦ
  obtain ⟨K2, X2, rfl, hdx⟩ := dx_kw hΦ hdx
  refine r_permP pm_cm ?_
  have hD := va_D_perm pm_cm hD
  refine r_aload_n C0 dL_law_236 rfl 2 rfl ?_
  refine r_aload_n C0 dL_law_237 rfl 0 rfl ?_
  refine r_iload_n C0 dL_law_238 rfl 3 rfl ?_
  refine r_iconst C0 dL_law_239 ki_1 ?_
  refine r_iadd C0 dL_law_240 ?_
  rw [show Int32.ofNat (6 * j) + 1 = Int32.ofNat (6 * j + 1) from sc_add (k := 1)]
  refine r_sld C0 hX (sc_at hj hX.2.2.2 (by decide)) dL_law_241 ?_
  refine callVz1 C0 hz hD mw_X12_strip rv_m tm_L_22 (fun z2 hz2 => c_X12_strip hz2) (Nat.le_of_ble_eq_true rfl) hrc (Nat.le_of_ble_eq_true rfl) dL_law_242 ?_
  have hD := dm_of hD z.2
  refine r_permP pm_cm.symm ?_
  have hD := va_D_perm pm_cm.symm hD
  refine r_icmp_eq (T := Unit) (z := ()) (E1 := some ()) (E2 := none) C0 1311 dL_law_245 rfl (if_pos hyz) (fun _ _ => ?_) (fun _ h => by cases h)
  exact hN _ _ _ _ _ _ _ rfl hI2 hdx hD
theorem lc_line {I : IT} {Γ : Gam} {cy : Nat → ClassId} {a mm : Nat → Nat} {b L j : Nat} {xs : Nat → Int32} {V M : VT} {J : JT} {K : Nat → Option Nat} {X : va_W} {dd : DT} (C0 : CXg Γ cL_law 8 13 RL cy) (hX : SX Γ b L xs) (hj : 6 * j + 6 ≤ L) (hrc : RC Γ j) (hI : I j V J dd M) (hdx : DX cy K X dd) (hD : va_D Γ.2.2.2.2.2.2.2.2.2.2.2.2.1 (WC cy a V J K (WM cy mm M X))) (hN : NX I Γ cy a mm b j) (hO : O_line I) : Wp Γ (39 + 3 * j) (210633 + 3750 * j) 250 [(0, .ref b), (1, .ref (a 0)), (2, .ref (mm 0)), (3, .int (Int32.ofNat (6 * j)))] [] (WC cy a V J K (WM cy mm M X)) := by
  have hn : j < 512 := by have := hX.2.2.2; omega
  obtain ⟨y, z, hy, hz, hyz, hI2⟩ := hO j V J dd M (xs (6 * j + 1)) (xs (6 * j + 2)) (xs (6 * j + 3)) (xs (6 * j + 4)) hn hI
  show Wp Γ (39 + 3 * j) (210633 + 3750 * j) 250 [(0, .ref b), (1, .ref (a 0)), (2, .ref (mm 0)), (3, .int (Int32.ofNat (6 * j)))] [] (WC cy a V J K (WM cy mm M X))
  refine r_aload_n C0 dL_law_250 rfl 1 rfl ?_
  refine r_aload_n C0 dL_law_251 rfl 0 rfl ?_
  refine r_iload_n C0 dL_law_252 rfl 3 rfl ?_
  refine r_iconst C0 dL_law_253 ki_1 ?_
  refine r_iadd C0 dL_law_254 ?_
  rw [show Int32.ofNat (6 * j) + 1 = Int32.ofNat (6 * j + 1) from sc_add (k := 1)]
  refine r_sld C0 hX (sc_at hj hX.2.2.2 (by decide)) dL_law_255 ?_
  refine r_aload_n C0 dL_law_256 rfl 0 rfl ?_
  refine r_iload_n C0 dL_law_257 rfl 3 rfl ?_
  refine r_iconst C0 dL_law_258 ki_2 ?_
  refine r_iadd C0 dL_law_259 ?_
  rw [show Int32.ofNat (6 * j) + 2 = Int32.ofNat (6 * j + 2) from sc_add (k := 2)]
  refine r_sld C0 hX (sc_at hj hX.2.2.2 (by decide)) dL_law_260 ?_
  refine r_aload_n C0 dL_law_261 rfl 0 rfl ?_
  refine r_iload_n C0 dL_law_262 rfl 3 rfl ?_
  refine r_iconst C0 dL_law_263 ki_3 ?_
  refine r_iadd C0 dL_law_264 ?_
  rw [show Int32.ofNat (6 * j) + 3 = Int32.ofNat (6 * j + 3) from sc_add (k := 3)]
  refine r_sld C0 hX (sc_at hj hX.2.2.2 (by decide)) dL_law_265 ?_
  refine r_aload_n C0 dL_law_266 rfl 0 rfl ?_
  refine r_iload_n C0 dL_law_267 rfl 3 rfl ?_
  refine r_iconst C0 dL_law_268 ki_4 ?_
  refine r_iadd C0 dL_law_269 ?_
  rw [show Int32.ofNat (6 * j) + 4 = Int32.ofNat (6 * j + 4) from sc_add (k := 4)]
  refine r_sld C0 hX (sc_at hj hX.2.2.2 (by decide)) dL_law_270 ?_
  refine callAV (ce := 39 + 3 * j) (sl := 210633 + 3750 * j) (As := [.int (xs (6 * j + 1)), .int (xs (6 * j + 2)), .int (xs (6 * j + 3)), .int (xs (6 * j + 4))]) (b := a 0) (rest := []) C0 en_ok trivial hD mw_X11_line rv_0 tm_L_23 (c_X11_line hy) rfl (Nat.le_of_ble_eq_true rfl) (Nat.le_of_ble_eq_true rfl) hrc dL_law_271 (fun w2 r2 hΦ hD => ?_)
  obtain ⟨rfl, hΦ⟩ := hΦ
  obtain ⟨K2, X2, rfl, hdx⟩ := dx_kw hΦ hdx
  refine r_permP pm_cm ?_
  have hD := va_D_perm pm_cm hD
  refine r_aload_n C0 dL_law_274 rfl 2 rfl ?_
  refine r_aload_n C0 dL_law_275 rfl 0 rfl ?_
  refine r_iload_n C0 dL_law_276 rfl 3 rfl ?_
  refine r_iconst C0 dL_law_277 ki_1 ?_
  refine r_iadd C0 dL_law_278 ?_
  rw [show Int32.ofNat (6 * j) + 1 = Int32.ofNat (6 * j + 1) from sc_add (k := 1)]
  refine r_sld C0 hX (sc_at hj hX.2.2.2 (by decide)) dL_law_279 ?_
  refine r_aload_n C0 dL_law_280 rfl 0 rfl ?_
  refine r_iload_n C0 dL_law_281 rfl 3 rfl ?_
  refine r_iconst C0 dL_law_282 ki_2 ?_
  refine r_iadd C0 dL_law_283 ?_
  rw [show Int32.ofNat (6 * j) + 2 = Int32.ofNat (6 * j + 2) from sc_add (k := 2)]
  refine r_sld C0 hX (sc_at hj hX.2.2.2 (by decide)) dL_law_284 ?_
  refine r_aload_n C0 dL_law_285 rfl 0 rfl ?_
  refine r_iload_n C0 dL_law_286 rfl 3 rfl ?_
  refine r_iconst C0 dL_law_287 ki_3 ?_
  refine r_iadd C0 dL_law_288 ?_
  rw [show Int32.ofNat (6 * j) + 3 = Int32.ofNat (6 * j + 3) from sc_add (k := 3)]
  refine r_sld C0 hX (sc_at hj hX.2.2.2 (by decide)) dL_law_289 ?_
  refine r_aload_n C0 dL_law_290 rfl 0 rfl ?_
  refine r_iload_n C0 dL_law_291 rfl 3 rfl ?_
  refine r_iconst C0 dL_law_292 ki_4 ?_
  refine r_iadd C0 dL_law_293 ?_
  rw [show Int32.ofNat (6 * j) + 4 = Int32.ofNat (6 * j + 4) from sc_add (k := 4)]
  refine r_sld C0 hX (sc_at hj hX.2.2.2 (by decide)) dL_law_294 ?_
  refine callVz4 C0 hz hD mw_X12_line rv_m tm_L_27 (fun z2 hz2 => c_X12_line hz2) (Nat.le_of_ble_eq_true rfl) hrc (Nat.le_of_ble_eq_true rfl) dL_law_295 ?_
  have hD := dm_of hD z.2
  refine r_permP pm_cm.symm ?_
  have hD := va_D_perm pm_cm.symm hD
  refine r_icmp_eq (T := Unit) (z := ()) (E1 := some ()) (E2 := none) C0 1311 dL_law_298 rfl (if_pos hyz) (fun _ _ => ?_) (fun _ h => by cases h)
  exact hN _ _ _ _ _ _ _ rfl hI2 hdx hD
theorem lc_wear {I : IT} {Γ : Gam} {cy : Nat → ClassId} {a mm : Nat → Nat} {b L j : Nat} {xs : Nat → Int32} {V M : VT} {J : JT} {K : Nat → Option Nat} {X : va_W} {dd : DT} (C0 : CXg Γ cL_law 8 13 RL cy) (hX : SX Γ b L xs) (hj : 6 * j + 6 ≤ L) (hrc : RC Γ j) (hI : I j V J dd M) (hdx : DX cy K X dd) (hD : va_D Γ.2.2.2.2.2.2.2.2.2.2.2.2.1 (WC cy a V J K (WM cy mm M X))) (hN : NX I Γ cy a mm b j) (hO : O_wear I) : Wp Γ (39 + 3 * j) (210633 + 3750 * j) 303 [(0, .ref b), (1, .ref (a 0)), (2, .ref (mm 0)), (3, .int (Int32.ofNat (6 * j)))] [] (WC cy a V J K (WM cy mm M X)) := by
  have hn : j < 512 := by have := hX.2.2.2; omega
  obtain ⟨y, z, hy, hz, hyz, hI2⟩ := hO j V J dd M (xs (6 * j + 1)) (xs (6 * j + 2)) (xs (6 * j + 3)) hn hI
  show Wp Γ (39 + 3 * j) (210633 + 3750 * j) 303 [(0, .ref b), (1, .ref (a 0)), (2, .ref (mm 0)), (3, .int (Int32.ofNat (6 * j)))] [] (WC cy a V J K (WM cy mm M X))
  refine r_aload_n C0 dL_law_303 rfl 1 rfl ?_
  refine r_aload_n C0 dL_law_304 rfl 0 rfl ?_
  refine r_iload_n C0 dL_law_305 rfl 3 rfl ?_
  refine r_iconst C0 dL_law_306 ki_1 ?_
  refine r_iadd C0 dL_law_307 ?_
  rw [show Int32.ofNat (6 * j) + 1 = Int32.ofNat (6 * j + 1) from sc_add (k := 1)]
  refine r_sld C0 hX (sc_at hj hX.2.2.2 (by decide)) dL_law_308 ?_
  refine r_aload_n C0 dL_law_309 rfl 0 rfl ?_
  refine r_iload_n C0 dL_law_310 rfl 3 rfl ?_
  refine r_iconst C0 dL_law_311 ki_2 ?_
  refine r_iadd C0 dL_law_312 ?_
  rw [show Int32.ofNat (6 * j) + 2 = Int32.ofNat (6 * j + 2) from sc_add (k := 2)]
  refine r_sld C0 hX (sc_at hj hX.2.2.2 (by decide)) dL_law_313 ?_
  refine r_aload_n C0 dL_law_314 rfl 0 rfl ?_
  refine r_iload_n C0 dL_law_315 rfl 3 rfl ?_
  refine r_iconst C0 dL_law_316 ki_3 ?_
  refine r_iadd C0 dL_law_317 ?_
  rw [show Int32.ofNat (6 * j) + 3 = Int32.ofNat (6 * j + 3) from sc_add (k := 3)]
  refine r_sld C0 hX (sc_at hj hX.2.2.2 (by decide)) dL_law_318 ?_
  refine callAV (ce := 39 + 3 * j) (sl := 210633 + 3750 * j) (As := [.int (xs (6 * j + 1)), .int (xs (6 * j + 2)), .int (xs (6 * j + 3))]) (b := a 0) (rest := []) C0 en_ok trivial hD mw_X11_wear rv_0 tm_L_28 (c_X11_wear hy) rfl (Nat.le_of_ble_eq_true rfl) (Nat.le_of_ble_eq_true rfl) hrc dL_law_319 (fun w2 r2 hΦ hD => ?_)
  obtain ⟨rfl, hΦ⟩ := hΦ
  obtain ⟨K2, X2, rfl, hdx⟩ := dx_kw hΦ hdx
  refine r_permP pm_cm ?_
  have hD := va_D_perm pm_cm hD
  refine r_aload_n C0 dL_law_322 rfl 2 rfl ?_
  refine r_aload_n C0 dL_law_323 rfl 0 rfl ?_
  refine r_iload_n C0 dL_law_324 rfl 3 rfl ?_
  refine r_iconst C0 dL_law_325 ki_1 ?_
  refine r_iadd C0 dL_law_326 ?_
  rw [show Int32.ofNat (6 * j) + 1 = Int32.ofNat (6 * j + 1) from sc_add (k := 1)]
  refine r_sld C0 hX (sc_at hj hX.2.2.2 (by decide)) dL_law_327 ?_
  refine r_aload_n C0 dL_law_328 rfl 0 rfl ?_
  refine r_iload_n C0 dL_law_329 rfl 3 rfl ?_
  refine r_iconst C0 dL_law_330 ki_2 ?_
  refine r_iadd C0 dL_law_331 ?_
  rw [show Int32.ofNat (6 * j) + 2 = Int32.ofNat (6 * j + 2) from sc_add (k := 2)]
  refine r_sld C0 hX (sc_at hj hX.2.2.2 (by decide)) dL_law_332 ?_
  refine r_aload_n C0 dL_law_333 rfl 0 rfl ?_
  refine r_iload_n C0 dL_law_334 rfl 3 rfl ?_
  refine r_iconst C0 dL_law_335 ki_3 ?_
  refine r_iadd C0 dL_law_336 ?_
  rw [show Int32.ofNat (6 * j) + 3 = Int32.ofNat (6 * j + 3) from sc_add (k := 3)]
  refine r_sld C0 hX (sc_at hj hX.2.2.2 (by decide)) dL_law_337 ?_
  refine callVz3 C0 hz hD mw_X12_wear rv_m tm_L_31 (fun z2 hz2 => c_X12_wear hz2) (Nat.le_of_ble_eq_true rfl) hrc (Nat.le_of_ble_eq_true rfl) dL_law_338 ?_
  have hD := dm_of hD z.2
  refine r_permP pm_cm.symm ?_
  have hD := va_D_perm pm_cm.symm hD
  refine r_icmp_eq (T := Unit) (z := ()) (E1 := some ()) (E2 := none) C0 1311 dL_law_341 rfl (if_pos hyz) (fun _ _ => ?_) (fun _ h => by cases h)
  exact hN _ _ _ _ _ _ _ rfl hI2 hdx hD
theorem lc_cut {I : IT} {Γ : Gam} {cy : Nat → ClassId} {a mm : Nat → Nat} {b L j : Nat} {xs : Nat → Int32} {V M : VT} {J : JT} {K : Nat → Option Nat} {X : va_W} {dd : DT} (C0 : CXg Γ cL_law 8 13 RL cy) (hX : SX Γ b L xs) (hj : 6 * j + 6 ≤ L) (hrc : RC Γ j) (hI : I j V J dd M) (hdx : DX cy K X dd) (hD : va_D Γ.2.2.2.2.2.2.2.2.2.2.2.2.1 (WC cy a V J K (WM cy mm M X))) (hN : NX I Γ cy a mm b j) (hO : O_cut I) : Wp Γ (39 + 3 * j) (210633 + 3750 * j) 346 [(0, .ref b), (1, .ref (a 0)), (2, .ref (mm 0)), (3, .int (Int32.ofNat (6 * j)))] [] (WC cy a V J K (WM cy mm M X)) := by
  have hn : j < 512 := by have := hX.2.2.2; omega
  obtain ⟨y, z, hy, hz, hyz, hI2⟩ := hO j V J dd M (xs (6 * j + 1)) hn hI
  show Wp Γ (39 + 3 * j) (210633 + 3750 * j) 346 [(0, .ref b), (1, .ref (a 0)), (2, .ref (mm 0)), (3, .int (Int32.ofNat (6 * j)))] [] (WC cy a V J K (WM cy mm M X))
  refine r_aload_n C0 dL_law_346 rfl 1 rfl ?_
  refine r_aload_n C0 dL_law_347 rfl 0 rfl ?_
  refine r_iload_n C0 dL_law_348 rfl 3 rfl ?_
  refine r_iconst C0 dL_law_349 ki_1 ?_
  refine r_iadd C0 dL_law_350 ?_
  rw [show Int32.ofNat (6 * j) + 1 = Int32.ofNat (6 * j + 1) from sc_add (k := 1)]
  refine r_sld C0 hX (sc_at hj hX.2.2.2 (by decide)) dL_law_351 ?_
  refine callAV (ce := 39 + 3 * j) (sl := 210633 + 3750 * j) (As := [.int (xs (6 * j + 1))]) (b := a 0) (rest := []) C0 en_ok trivial hD mw_X11_cut rv_0 tm_L_32 (c_X11_cut hy) rfl (Nat.le_of_ble_eq_true rfl) (Nat.le_of_ble_eq_true rfl) hrc dL_law_352 (fun w2 r2 hΦ hD => ?_)
  obtain ⟨rfl, hΦ⟩ := hΦ
  obtain ⟨K2, X2, rfl, hdx⟩ := dx_kw hΦ hdx
  refine r_permP pm_cm ?_
  have hD := va_D_perm pm_cm hD
  refine r_aload_n C0 dL_law_355 rfl 2 rfl ?_
  refine r_aload_n C0 dL_law_356 rfl 0 rfl ?_
  refine r_iload_n C0 dL_law_357 rfl 3 rfl ?_
  refine r_iconst C0 dL_law_358 ki_1 ?_
  refine r_iadd C0 dL_law_359 ?_
  rw [show Int32.ofNat (6 * j) + 1 = Int32.ofNat (6 * j + 1) from sc_add (k := 1)]
  refine r_sld C0 hX (sc_at hj hX.2.2.2 (by decide)) dL_law_360 ?_
  refine callVz1 C0 hz hD mw_X12_cut rv_m tm_L_35 (fun z2 hz2 => c_X12_cut hz2) (Nat.le_of_ble_eq_true rfl) hrc (Nat.le_of_ble_eq_true rfl) dL_law_361 ?_
  have hD := dm_of hD z.2
  refine r_permP pm_cm.symm ?_
  have hD := va_D_perm pm_cm.symm hD
  refine r_icmp_eq (T := Unit) (z := ()) (E1 := some ()) (E2 := none) C0 1311 dL_law_364 rfl (if_pos hyz) (fun _ _ => ?_) (fun _ h => by cases h)
  exact hN _ _ _ _ _ _ _ rfl hI2 hdx hD
theorem lc_thing {I : IT} {Γ : Gam} {cy : Nat → ClassId} {a mm : Nat → Nat} {b L j : Nat} {xs : Nat → Int32} {V M : VT} {J : JT} {K : Nat → Option Nat} {X : va_W} {dd : DT} (C0 : CXg Γ cL_law 8 13 RL cy) (hX : SX Γ b L xs) (hj : 6 * j + 6 ≤ L) (hrc : RC Γ j) (hI : I j V J dd M) (hdx : DX cy K X dd) (hD : va_D Γ.2.2.2.2.2.2.2.2.2.2.2.2.1 (WC cy a V J K (WM cy mm M X))) (hN : NX I Γ cy a mm b j) (hO : O_thing I) : Wp Γ (39 + 3 * j) (210633 + 3750 * j) 369 [(0, .ref b), (1, .ref (a 0)), (2, .ref (mm 0)), (3, .int (Int32.ofNat (6 * j)))] [] (WC cy a V J K (WM cy mm M X)) := by
  have hn : j < 512 := by have := hX.2.2.2; omega
  obtain ⟨y, z, hy, hz, hyz, hI2⟩ := hO j V J dd M (xs (6 * j + 1)) (xs (6 * j + 2)) (xs (6 * j + 3)) (xs (6 * j + 4)) hn hI
  show Wp Γ (39 + 3 * j) (210633 + 3750 * j) 369 [(0, .ref b), (1, .ref (a 0)), (2, .ref (mm 0)), (3, .int (Int32.ofNat (6 * j)))] [] (WC cy a V J K (WM cy mm M X))
  refine r_aload_n C0 dL_law_369 rfl 1 rfl ?_
  refine r_aload_n C0 dL_law_370 rfl 0 rfl ?_
  refine r_iload_n C0 dL_law_371 rfl 3 rfl ?_
  refine r_iconst C0 dL_law_372 ki_1 ?_
  refine r_iadd C0 dL_law_373 ?_
  rw [show Int32.ofNat (6 * j) + 1 = Int32.ofNat (6 * j + 1) from sc_add (k := 1)]
  refine r_sld C0 hX (sc_at hj hX.2.2.2 (by decide)) dL_law_374 ?_
  refine r_aload_n C0 dL_law_375 rfl 0 rfl ?_
  refine r_iload_n C0 dL_law_376 rfl 3 rfl ?_
  refine r_iconst C0 dL_law_377 ki_2 ?_
  refine r_iadd C0 dL_law_378 ?_
  rw [show Int32.ofNat (6 * j) + 2 = Int32.ofNat (6 * j + 2) from sc_add (k := 2)]
  refine r_sld C0 hX (sc_at hj hX.2.2.2 (by decide)) dL_law_379 ?_
  refine r_aload_n C0 dL_law_380 rfl 0 rfl ?_
  refine r_iload_n C0 dL_law_381 rfl 3 rfl ?_
  refine r_iconst C0 dL_law_382 ki_3 ?_
  refine r_iadd C0 dL_law_383 ?_
  rw [show Int32.ofNat (6 * j) + 3 = Int32.ofNat (6 * j + 3) from sc_add (k := 3)]
  refine r_sld C0 hX (sc_at hj hX.2.2.2 (by decide)) dL_law_384 ?_
  refine r_aload_n C0 dL_law_385 rfl 0 rfl ?_
  refine r_iload_n C0 dL_law_386 rfl 3 rfl ?_
  refine r_iconst C0 dL_law_387 ki_4 ?_
  refine r_iadd C0 dL_law_388 ?_
  rw [show Int32.ofNat (6 * j) + 4 = Int32.ofNat (6 * j + 4) from sc_add (k := 4)]
  refine r_sld C0 hX (sc_at hj hX.2.2.2 (by decide)) dL_law_389 ?_
  refine callAV (ce := 39 + 3 * j) (sl := 210633 + 3750 * j) (As := [.int (xs (6 * j + 1)), .int (xs (6 * j + 2)), .int (xs (6 * j + 3)), .int (xs (6 * j + 4))]) (b := a 0) (rest := []) C0 en_ok trivial hD mw_X11_thing rv_0 tm_L_36 (c_X11_thing hy) rfl (Nat.le_of_ble_eq_true rfl) (Nat.le_of_ble_eq_true rfl) hrc dL_law_390 (fun w2 r2 hΦ hD => ?_)
  obtain ⟨rfl, hΦ⟩ := hΦ
  obtain ⟨K2, X2, rfl, hdx⟩ := dx_kw hΦ hdx
  refine r_permP pm_cm ?_
  have hD := va_D_perm pm_cm hD
  refine r_aload_n C0 dL_law_393 rfl 2 rfl ?_
  refine r_aload_n C0 dL_law_394 rfl 0 rfl ?_
  refine r_iload_n C0 dL_law_395 rfl 3 rfl ?_
  refine r_iconst C0 dL_law_396 ki_1 ?_
  refine r_iadd C0 dL_law_397 ?_
  rw [show Int32.ofNat (6 * j) + 1 = Int32.ofNat (6 * j + 1) from sc_add (k := 1)]
  refine r_sld C0 hX (sc_at hj hX.2.2.2 (by decide)) dL_law_398 ?_
  refine r_aload_n C0 dL_law_399 rfl 0 rfl ?_
  refine r_iload_n C0 dL_law_400 rfl 3 rfl ?_
  refine r_iconst C0 dL_law_401 ki_2 ?_
  refine r_iadd C0 dL_law_402 ?_
  rw [show Int32.ofNat (6 * j) + 2 = Int32.ofNat (6 * j + 2) from sc_add (k := 2)]
  refine r_sld C0 hX (sc_at hj hX.2.2.2 (by decide)) dL_law_403 ?_
  refine r_aload_n C0 dL_law_404 rfl 0 rfl ?_
  refine r_iload_n C0 dL_law_405 rfl 3 rfl ?_
  refine r_iconst C0 dL_law_406 ki_3 ?_
  refine r_iadd C0 dL_law_407 ?_
  rw [show Int32.ofNat (6 * j) + 3 = Int32.ofNat (6 * j + 3) from sc_add (k := 3)]
  refine r_sld C0 hX (sc_at hj hX.2.2.2 (by decide)) dL_law_408 ?_
  refine r_aload_n C0 dL_law_409 rfl 0 rfl ?_
  refine r_iload_n C0 dL_law_410 rfl 3 rfl ?_
  refine r_iconst C0 dL_law_411 ki_4 ?_
  refine r_iadd C0 dL_law_412 ?_
  rw [show Int32.ofNat (6 * j) + 4 = Int32.ofNat (6 * j + 4) from sc_add (k := 4)]
  refine r_sld C0 hX (sc_at hj hX.2.2.2 (by decide)) dL_law_413 ?_
  refine callVz4 C0 hz hD mw_X12_thing rv_m tm_L_39 (fun z2 hz2 => c_X12_thing hz2) (Nat.le_of_ble_eq_true rfl) hrc (Nat.le_of_ble_eq_true rfl) dL_law_414 ?_
  have hD := dm_of hD z.2
  refine r_permP pm_cm.symm ?_
  have hD := va_D_perm pm_cm.symm hD
  refine r_icmp_eq (T := Unit) (z := ()) (E1 := some ()) (E2 := none) C0 1311 dL_law_417 rfl (if_pos hyz) (fun _ _ => ?_) (fun _ h => by cases h)
  exact hN _ _ _ _ _ _ _ rfl hI2 hdx hD
theorem lc_heat {I : IT} {Γ : Gam} {cy : Nat → ClassId} {a mm : Nat → Nat} {b L j : Nat} {xs : Nat → Int32} {V M : VT} {J : JT} {K : Nat → Option Nat} {X : va_W} {dd : DT} (C0 : CXg Γ cL_law 8 13 RL cy) (hX : SX Γ b L xs) (hj : 6 * j + 6 ≤ L) (hrc : RC Γ j) (hI : I j V J dd M) (hdx : DX cy K X dd) (hD : va_D Γ.2.2.2.2.2.2.2.2.2.2.2.2.1 (WC cy a V J K (WM cy mm M X))) (hN : NX I Γ cy a mm b j) (hO : O_heat I) : Wp Γ (39 + 3 * j) (210633 + 3750 * j) 422 [(0, .ref b), (1, .ref (a 0)), (2, .ref (mm 0)), (3, .int (Int32.ofNat (6 * j)))] [] (WC cy a V J K (WM cy mm M X)) := by
  have hn : j < 512 := by have := hX.2.2.2; omega
  obtain ⟨y, z, hy, hz, hyz, hI2⟩ := hO j V J dd M (xs (6 * j + 1)) (xs (6 * j + 2)) hn hI
  show Wp Γ (39 + 3 * j) (210633 + 3750 * j) 422 [(0, .ref b), (1, .ref (a 0)), (2, .ref (mm 0)), (3, .int (Int32.ofNat (6 * j)))] [] (WC cy a V J K (WM cy mm M X))
  refine r_aload_n C0 dL_law_422 rfl 1 rfl ?_
  refine r_aload_n C0 dL_law_423 rfl 0 rfl ?_
  refine r_iload_n C0 dL_law_424 rfl 3 rfl ?_
  refine r_iconst C0 dL_law_425 ki_1 ?_
  refine r_iadd C0 dL_law_426 ?_
  rw [show Int32.ofNat (6 * j) + 1 = Int32.ofNat (6 * j + 1) from sc_add (k := 1)]
  refine r_sld C0 hX (sc_at hj hX.2.2.2 (by decide)) dL_law_427 ?_
  refine r_aload_n C0 dL_law_428 rfl 0 rfl ?_
  refine r_iload_n C0 dL_law_429 rfl 3 rfl ?_
  refine r_iconst C0 dL_law_430 ki_2 ?_
  refine r_iadd C0 dL_law_431 ?_
  rw [show Int32.ofNat (6 * j) + 2 = Int32.ofNat (6 * j + 2) from sc_add (k := 2)]
  refine r_sld C0 hX (sc_at hj hX.2.2.2 (by decide)) dL_law_432 ?_
  refine callAV (ce := 39 + 3 * j) (sl := 210633 + 3750 * j) (As := [.int (xs (6 * j + 1)), .int (xs (6 * j + 2))]) (b := a 0) (rest := []) C0 en_ok trivial hD mw_X11_heat rv_0 tm_L_40 (c_X11_heat hy) rfl (Nat.le_of_ble_eq_true rfl) (Nat.le_of_ble_eq_true rfl) hrc dL_law_433 (fun w2 r2 hΦ hD => ?_)
  obtain ⟨rfl, hΦ⟩ := hΦ
  obtain ⟨K2, X2, rfl, hdx⟩ := dx_kw hΦ hdx
  refine r_permP pm_cm ?_
  have hD := va_D_perm pm_cm hD
  refine r_aload_n C0 dL_law_436 rfl 2 rfl ?_
  refine r_aload_n C0 dL_law_437 rfl 0 rfl ?_
  refine r_iload_n C0 dL_law_438 rfl 3 rfl ?_
  refine r_iconst C0 dL_law_439 ki_1 ?_
  refine r_iadd C0 dL_law_440 ?_
  rw [show Int32.ofNat (6 * j) + 1 = Int32.ofNat (6 * j + 1) from sc_add (k := 1)]
  refine r_sld C0 hX (sc_at hj hX.2.2.2 (by decide)) dL_law_441 ?_
  refine r_aload_n C0 dL_law_442 rfl 0 rfl ?_
  refine r_iload_n C0 dL_law_443 rfl 3 rfl ?_
  refine r_iconst C0 dL_law_444 ki_2 ?_
  refine r_iadd C0 dL_law_445 ?_
  rw [show Int32.ofNat (6 * j) + 2 = Int32.ofNat (6 * j + 2) from sc_add (k := 2)]
  refine r_sld C0 hX (sc_at hj hX.2.2.2 (by decide)) dL_law_446 ?_
  refine callVz2 C0 hz hD mw_X12_heat rv_m tm_L_44 (fun z2 hz2 => c_X12_heat hz2) (Nat.le_of_ble_eq_true rfl) hrc (Nat.le_of_ble_eq_true rfl) dL_law_447 ?_
  have hD := dm_of hD z.2
  refine r_permP pm_cm.symm ?_
  have hD := va_D_perm pm_cm.symm hD
  refine r_icmp_eq (T := Unit) (z := ()) (E1 := some ()) (E2 := none) C0 1311 dL_law_450 rfl (if_pos hyz) (fun _ _ => ?_) (fun _ h => by cases h)
  exact hN _ _ _ _ _ _ _ rfl hI2 hdx hD
theorem lc_hang {I : IT} {Γ : Gam} {cy : Nat → ClassId} {a mm : Nat → Nat} {b L j : Nat} {xs : Nat → Int32} {V M : VT} {J : JT} {K : Nat → Option Nat} {X : va_W} {dd : DT} (C0 : CXg Γ cL_law 8 13 RL cy) (hX : SX Γ b L xs) (hj : 6 * j + 6 ≤ L) (hrc : RC Γ j) (hI : I j V J dd M) (hdx : DX cy K X dd) (hD : va_D Γ.2.2.2.2.2.2.2.2.2.2.2.2.1 (WC cy a V J K (WM cy mm M X))) (hN : NX I Γ cy a mm b j) (hO : O_hang I) : Wp Γ (39 + 3 * j) (210633 + 3750 * j) 455 [(0, .ref b), (1, .ref (a 0)), (2, .ref (mm 0)), (3, .int (Int32.ofNat (6 * j)))] [] (WC cy a V J K (WM cy mm M X)) := by
  have hn : j < 512 := by have := hX.2.2.2; omega
  obtain ⟨y, z, hy, hz, hyz, hI2⟩ := hO j V J dd M (xs (6 * j + 1)) (xs (6 * j + 2)) (xs (6 * j + 3)) hn hI
  show Wp Γ (39 + 3 * j) (210633 + 3750 * j) 455 [(0, .ref b), (1, .ref (a 0)), (2, .ref (mm 0)), (3, .int (Int32.ofNat (6 * j)))] [] (WC cy a V J K (WM cy mm M X))
  refine r_aload_n C0 dL_law_455 rfl 1 rfl ?_
  refine r_aload_n C0 dL_law_456 rfl 0 rfl ?_
  refine r_iload_n C0 dL_law_457 rfl 3 rfl ?_
  refine r_iconst C0 dL_law_458 ki_1 ?_
  refine r_iadd C0 dL_law_459 ?_
  rw [show Int32.ofNat (6 * j) + 1 = Int32.ofNat (6 * j + 1) from sc_add (k := 1)]
  refine r_sld C0 hX (sc_at hj hX.2.2.2 (by decide)) dL_law_460 ?_
  refine r_aload_n C0 dL_law_461 rfl 0 rfl ?_
  refine r_iload_n C0 dL_law_462 rfl 3 rfl ?_
  refine r_iconst C0 dL_law_463 ki_2 ?_
  refine r_iadd C0 dL_law_464 ?_
  rw [show Int32.ofNat (6 * j) + 2 = Int32.ofNat (6 * j + 2) from sc_add (k := 2)]
  refine r_sld C0 hX (sc_at hj hX.2.2.2 (by decide)) dL_law_465 ?_
  refine r_aload_n C0 dL_law_466 rfl 0 rfl ?_
  refine r_iload_n C0 dL_law_467 rfl 3 rfl ?_
  refine r_iconst C0 dL_law_468 ki_3 ?_
  refine r_iadd C0 dL_law_469 ?_
  rw [show Int32.ofNat (6 * j) + 3 = Int32.ofNat (6 * j + 3) from sc_add (k := 3)]
  refine r_sld C0 hX (sc_at hj hX.2.2.2 (by decide)) dL_law_470 ?_
  refine callAV (ce := 39 + 3 * j) (sl := 210633 + 3750 * j) (As := [.int (xs (6 * j + 1)), .int (xs (6 * j + 2)), .int (xs (6 * j + 3))]) (b := a 0) (rest := []) C0 en_ok trivial hD mw_X11_hang rv_0 tm_L_45 (c_X11_hang hy) rfl (Nat.le_of_ble_eq_true rfl) (Nat.le_of_ble_eq_true rfl) hrc dL_law_471 (fun w2 r2 hΦ hD => ?_)
  obtain ⟨rfl, hΦ⟩ := hΦ
  obtain ⟨K2, X2, rfl, hdx⟩ := dx_kw hΦ hdx
  refine r_permP pm_cm ?_
  have hD := va_D_perm pm_cm hD
  refine r_aload_n C0 dL_law_474 rfl 2 rfl ?_
  refine r_aload_n C0 dL_law_475 rfl 0 rfl ?_
  refine r_iload_n C0 dL_law_476 rfl 3 rfl ?_
  refine r_iconst C0 dL_law_477 ki_1 ?_
  refine r_iadd C0 dL_law_478 ?_
  rw [show Int32.ofNat (6 * j) + 1 = Int32.ofNat (6 * j + 1) from sc_add (k := 1)]
  refine r_sld C0 hX (sc_at hj hX.2.2.2 (by decide)) dL_law_479 ?_
  refine r_aload_n C0 dL_law_480 rfl 0 rfl ?_
  refine r_iload_n C0 dL_law_481 rfl 3 rfl ?_
  refine r_iconst C0 dL_law_482 ki_2 ?_
  refine r_iadd C0 dL_law_483 ?_
  rw [show Int32.ofNat (6 * j) + 2 = Int32.ofNat (6 * j + 2) from sc_add (k := 2)]
  refine r_sld C0 hX (sc_at hj hX.2.2.2 (by decide)) dL_law_484 ?_
  refine r_aload_n C0 dL_law_485 rfl 0 rfl ?_
  refine r_iload_n C0 dL_law_486 rfl 3 rfl ?_
  refine r_iconst C0 dL_law_487 ki_3 ?_
  refine r_iadd C0 dL_law_488 ?_
  rw [show Int32.ofNat (6 * j) + 3 = Int32.ofNat (6 * j + 3) from sc_add (k := 3)]
  refine r_sld C0 hX (sc_at hj hX.2.2.2 (by decide)) dL_law_489 ?_
  refine callVz3 C0 hz hD mw_X12_hang rv_m tm_L_48 (fun z2 hz2 => c_X12_hang hz2) (Nat.le_of_ble_eq_true rfl) hrc (Nat.le_of_ble_eq_true rfl) dL_law_490 ?_
  have hD := dm_of hD z.2
  refine r_permP pm_cm.symm ?_
  have hD := va_D_perm pm_cm.symm hD
  refine r_icmp_eq (T := Unit) (z := ()) (E1 := some ()) (E2 := none) C0 1311 dL_law_493 rfl (if_pos hyz) (fun _ _ => ?_) (fun _ h => by cases h)
  exact hN _ _ _ _ _ _ _ rfl hI2 hdx hD
theorem lc_strike {I : IT} {Γ : Gam} {cy : Nat → ClassId} {a mm : Nat → Nat} {b L j : Nat} {xs : Nat → Int32} {V M : VT} {J : JT} {K : Nat → Option Nat} {X : va_W} {dd : DT} (C0 : CXg Γ cL_law 8 13 RL cy) (hX : SX Γ b L xs) (hj : 6 * j + 6 ≤ L) (hrc : RC Γ j) (hI : I j V J dd M) (hdx : DX cy K X dd) (hD : va_D Γ.2.2.2.2.2.2.2.2.2.2.2.2.1 (WC cy a V J K (WM cy mm M X))) (hN : NX I Γ cy a mm b j) (hO : O_strike I) : Wp Γ (39 + 3 * j) (210633 + 3750 * j) 498 [(0, .ref b), (1, .ref (a 0)), (2, .ref (mm 0)), (3, .int (Int32.ofNat (6 * j)))] [] (WC cy a V J K (WM cy mm M X)) := by
  have hn : j < 512 := by have := hX.2.2.2; omega
  obtain ⟨y, z, hy, hz, hyz, hI2⟩ := hO j V J dd M (xs (6 * j + 1)) hn hI
  show Wp Γ (39 + 3 * j) (210633 + 3750 * j) 498 [(0, .ref b), (1, .ref (a 0)), (2, .ref (mm 0)), (3, .int (Int32.ofNat (6 * j)))] [] (WC cy a V J K (WM cy mm M X))
  refine r_aload_n C0 dL_law_498 rfl 1 rfl ?_
  refine r_aload_n C0 dL_law_499 rfl 0 rfl ?_
  refine r_iload_n C0 dL_law_500 rfl 3 rfl ?_
  refine r_iconst C0 dL_law_501 ki_1 ?_
  refine r_iadd C0 dL_law_502 ?_
  rw [show Int32.ofNat (6 * j) + 1 = Int32.ofNat (6 * j + 1) from sc_add (k := 1)]
  refine r_sld C0 hX (sc_at hj hX.2.2.2 (by decide)) dL_law_503 ?_
  refine callAV (ce := 39 + 3 * j) (sl := 210633 + 3750 * j) (As := [.int (xs (6 * j + 1))]) (b := a 0) (rest := []) C0 en_ok trivial hD mw_X11_strike rv_0 tm_L_49 (c_X11_strike hy) rfl (Nat.le_of_ble_eq_true rfl) (Nat.le_of_ble_eq_true rfl) hrc dL_law_504 (fun w2 r2 hΦ hD => ?_)
  obtain ⟨rfl, hΦ⟩ := hΦ
  obtain ⟨K2, X2, rfl, hdx⟩ := dx_kw hΦ hdx
  refine r_permP pm_cm ?_
  have hD := va_D_perm pm_cm hD
  refine r_aload_n C0 dL_law_507 rfl 2 rfl ?_
  refine r_aload_n C0 dL_law_508 rfl 0 rfl ?_
  refine r_iload_n C0 dL_law_509 rfl 3 rfl ?_
  refine r_iconst C0 dL_law_510 ki_1 ?_
  refine r_iadd C0 dL_law_511 ?_
  rw [show Int32.ofNat (6 * j) + 1 = Int32.ofNat (6 * j + 1) from sc_add (k := 1)]
  refine r_sld C0 hX (sc_at hj hX.2.2.2 (by decide)) dL_law_512 ?_
  refine callVz1 C0 hz hD mw_X12_strike rv_m tm_L_52 (fun z2 hz2 => c_X12_strike hz2) (Nat.le_of_ble_eq_true rfl) hrc (Nat.le_of_ble_eq_true rfl) dL_law_513 ?_
  have hD := dm_of hD z.2
  refine r_permP pm_cm.symm ?_
  have hD := va_D_perm pm_cm.symm hD
  refine r_icmp_eq (T := Unit) (z := ()) (E1 := some ()) (E2 := none) C0 1311 dL_law_516 rfl (if_pos hyz) (fun _ _ => ?_) (fun _ h => by cases h)
  exact hN _ _ _ _ _ _ _ rfl hI2 hdx hD
theorem lc_hook {I : IT} {Γ : Gam} {cy : Nat → ClassId} {a mm : Nat → Nat} {b L j : Nat} {xs : Nat → Int32} {V M : VT} {J : JT} {K : Nat → Option Nat} {X : va_W} {dd : DT} (C0 : CXg Γ cL_law 8 13 RL cy) (hX : SX Γ b L xs) (hj : 6 * j + 6 ≤ L) (hrc : RC Γ j) (hI : I j V J dd M) (hdx : DX cy K X dd) (hD : va_D Γ.2.2.2.2.2.2.2.2.2.2.2.2.1 (WC cy a V J K (WM cy mm M X))) (hN : NX I Γ cy a mm b j) (hO : O_hook I) : Wp Γ (39 + 3 * j) (210633 + 3750 * j) 521 [(0, .ref b), (1, .ref (a 0)), (2, .ref (mm 0)), (3, .int (Int32.ofNat (6 * j)))] [] (WC cy a V J K (WM cy mm M X)) := by
  have hn : j < 512 := by have := hX.2.2.2; omega
  by_cases hk : xs (6 * j + 3) = 0
  · obtain ⟨y, z, hy, hz, hyz, hI2⟩ := hO j V J dd M (xs (6 * j + 1)) (xs (6 * j + 2)) 0 hn (by decide) hI
    show Wp Γ (39 + 3 * j) (210633 + 3750 * j) 521 [(0, .ref b), (1, .ref (a 0)), (2, .ref (mm 0)), (3, .int (Int32.ofNat (6 * j)))] [] (WC cy a V J K (WM cy mm M X))
    refine r_aload_n C0 dL_law_521 rfl 1 rfl ?_
    refine r_aload_n C0 dL_law_522 rfl 0 rfl ?_
    refine r_iload_n C0 dL_law_523 rfl 3 rfl ?_
    refine r_iconst C0 dL_law_524 ki_1 ?_
    refine r_iadd C0 dL_law_525 ?_
    rw [show Int32.ofNat (6 * j) + 1 = Int32.ofNat (6 * j + 1) from sc_add (k := 1)]
    refine r_sld C0 hX (sc_at hj hX.2.2.2 (by decide)) dL_law_526 ?_
    refine r_aload_n C0 dL_law_527 rfl 0 rfl ?_
    refine r_iload_n C0 dL_law_528 rfl 3 rfl ?_
    refine r_iconst C0 dL_law_529 ki_2 ?_
    refine r_iadd C0 dL_law_530 ?_
    rw [show Int32.ofNat (6 * j) + 2 = Int32.ofNat (6 * j + 2) from sc_add (k := 2)]
    refine r_sld C0 hX (sc_at hj hX.2.2.2 (by decide)) dL_law_531 ?_
    refine r_aload_n C0 dL_law_532 rfl 0 rfl ?_
    refine r_iload_n C0 dL_law_533 rfl 3 rfl ?_
    refine r_iconst C0 dL_law_534 ki_3 ?_
    refine r_iadd C0 dL_law_535 ?_
    rw [show Int32.ofNat (6 * j) + 3 = Int32.ofNat (6 * j + 3) from sc_add (k := 3)]
    refine r_sld C0 hX (sc_at hj hX.2.2.2 (by decide)) dL_law_536 ?_
    refine r_if_eq (T := Unit) (z := ()) (E1 := some ()) (E2 := none) C0 544 dL_law_537 rfl (if_pos hk) (fun _ _ => ?_) (fun _ h => by cases h)
    refine r_iconst C0 dL_law_544 ki_0 ?_
    refine callAV (ce := 39 + 3 * j) (sl := 210633 + 3750 * j) (As := [.int (xs (6 * j + 1)), .int (xs (6 * j + 2)), .int 0]) (b := a 0) (rest := []) C0 en_ok trivial hD mw_X11_hook rv_0 tm_L_53 (c_X11_hook hy) rfl (Nat.le_of_ble_eq_true rfl) (Nat.le_of_ble_eq_true rfl) hrc dL_law_545 (fun w2 r2 hΦ hD => ?_)
    obtain ⟨rfl, hΦ⟩ := hΦ
    obtain ⟨K2, X2, rfl, hdx⟩ := dx_kw hΦ hdx
    refine r_permP pm_cm ?_
    have hD := va_D_perm pm_cm hD
    refine r_aload_n C0 dL_law_548 rfl 2 rfl ?_
    refine r_aload_n C0 dL_law_549 rfl 0 rfl ?_
    refine r_iload_n C0 dL_law_550 rfl 3 rfl ?_
    refine r_iconst C0 dL_law_551 ki_1 ?_
    refine r_iadd C0 dL_law_552 ?_
    rw [show Int32.ofNat (6 * j) + 1 = Int32.ofNat (6 * j + 1) from sc_add (k := 1)]
    refine r_sld C0 hX (sc_at hj hX.2.2.2 (by decide)) dL_law_553 ?_
    refine r_aload_n C0 dL_law_554 rfl 0 rfl ?_
    refine r_iload_n C0 dL_law_555 rfl 3 rfl ?_
    refine r_iconst C0 dL_law_556 ki_2 ?_
    refine r_iadd C0 dL_law_557 ?_
    rw [show Int32.ofNat (6 * j) + 2 = Int32.ofNat (6 * j + 2) from sc_add (k := 2)]
    refine r_sld C0 hX (sc_at hj hX.2.2.2 (by decide)) dL_law_558 ?_
    refine r_aload_n C0 dL_law_559 rfl 0 rfl ?_
    refine r_iload_n C0 dL_law_560 rfl 3 rfl ?_
    refine r_iconst C0 dL_law_561 ki_3 ?_
    refine r_iadd C0 dL_law_562 ?_
    rw [show Int32.ofNat (6 * j) + 3 = Int32.ofNat (6 * j + 3) from sc_add (k := 3)]
    refine r_sld C0 hX (sc_at hj hX.2.2.2 (by decide)) dL_law_563 ?_
    refine r_if_eq (T := Unit) (z := ()) (E1 := some ()) (E2 := none) C0 571 dL_law_564 rfl (if_pos hk) (fun _ _ => ?_) (fun _ h => by cases h)
    refine r_iconst C0 dL_law_571 ki_0 ?_
    refine callVz3 C0 hz hD mw_X12_hook rv_m tm_L_57 (fun z2 hz2 => c_X12_hook hz2) (Nat.le_of_ble_eq_true rfl) hrc (Nat.le_of_ble_eq_true rfl) dL_law_572 ?_
    have hD := dm_of hD z.2
    refine r_permP pm_cm.symm ?_
    have hD := va_D_perm pm_cm.symm hD
    refine r_icmp_eq (T := Unit) (z := ()) (E1 := some ()) (E2 := none) C0 1311 dL_law_575 rfl (if_pos hyz) (fun _ _ => ?_) (fun _ h => by cases h)
    exact hN _ _ _ _ _ _ _ rfl hI2 hdx hD
  · obtain ⟨y, z, hy, hz, hyz, hI2⟩ := hO j V J dd M (xs (6 * j + 1)) (xs (6 * j + 2)) 1 hn (by decide) hI
    show Wp Γ (39 + 3 * j) (210633 + 3750 * j) 521 [(0, .ref b), (1, .ref (a 0)), (2, .ref (mm 0)), (3, .int (Int32.ofNat (6 * j)))] [] (WC cy a V J K (WM cy mm M X))
    refine r_aload_n C0 dL_law_521 rfl 1 rfl ?_
    refine r_aload_n C0 dL_law_522 rfl 0 rfl ?_
    refine r_iload_n C0 dL_law_523 rfl 3 rfl ?_
    refine r_iconst C0 dL_law_524 ki_1 ?_
    refine r_iadd C0 dL_law_525 ?_
    rw [show Int32.ofNat (6 * j) + 1 = Int32.ofNat (6 * j + 1) from sc_add (k := 1)]
    refine r_sld C0 hX (sc_at hj hX.2.2.2 (by decide)) dL_law_526 ?_
    refine r_aload_n C0 dL_law_527 rfl 0 rfl ?_
    refine r_iload_n C0 dL_law_528 rfl 3 rfl ?_
    refine r_iconst C0 dL_law_529 ki_2 ?_
    refine r_iadd C0 dL_law_530 ?_
    rw [show Int32.ofNat (6 * j) + 2 = Int32.ofNat (6 * j + 2) from sc_add (k := 2)]
    refine r_sld C0 hX (sc_at hj hX.2.2.2 (by decide)) dL_law_531 ?_
    refine r_aload_n C0 dL_law_532 rfl 0 rfl ?_
    refine r_iload_n C0 dL_law_533 rfl 3 rfl ?_
    refine r_iconst C0 dL_law_534 ki_3 ?_
    refine r_iadd C0 dL_law_535 ?_
    rw [show Int32.ofNat (6 * j) + 3 = Int32.ofNat (6 * j + 3) from sc_add (k := 3)]
    refine r_sld C0 hX (sc_at hj hX.2.2.2 (by decide)) dL_law_536 ?_
    refine r_if_eq (T := Unit) (z := ()) (E1 := none) (E2 := some ()) C0 544 dL_law_537 rfl (if_neg hk) (fun _ h => by cases h) (fun _ _ => ?_)
    refine r_iconst C0 dL_law_540 ki_1 ?_
    refine r_goto C0 545 dL_law_541 rfl ?_
    refine callAV (ce := 39 + 3 * j) (sl := 210633 + 3750 * j) (As := [.int (xs (6 * j + 1)), .int (xs (6 * j + 2)), .int 1]) (b := a 0) (rest := []) C0 en_ok trivial hD mw_X11_hook rv_0 tm_L_53 (c_X11_hook hy) rfl (Nat.le_of_ble_eq_true rfl) (Nat.le_of_ble_eq_true rfl) hrc dL_law_545 (fun w2 r2 hΦ hD => ?_)
    obtain ⟨rfl, hΦ⟩ := hΦ
    obtain ⟨K2, X2, rfl, hdx⟩ := dx_kw hΦ hdx
    refine r_permP pm_cm ?_
    have hD := va_D_perm pm_cm hD
    refine r_aload_n C0 dL_law_548 rfl 2 rfl ?_
    refine r_aload_n C0 dL_law_549 rfl 0 rfl ?_
    refine r_iload_n C0 dL_law_550 rfl 3 rfl ?_
    refine r_iconst C0 dL_law_551 ki_1 ?_
    refine r_iadd C0 dL_law_552 ?_
    rw [show Int32.ofNat (6 * j) + 1 = Int32.ofNat (6 * j + 1) from sc_add (k := 1)]
    refine r_sld C0 hX (sc_at hj hX.2.2.2 (by decide)) dL_law_553 ?_
    refine r_aload_n C0 dL_law_554 rfl 0 rfl ?_
    refine r_iload_n C0 dL_law_555 rfl 3 rfl ?_
    refine r_iconst C0 dL_law_556 ki_2 ?_
    refine r_iadd C0 dL_law_557 ?_
    rw [show Int32.ofNat (6 * j) + 2 = Int32.ofNat (6 * j + 2) from sc_add (k := 2)]
    refine r_sld C0 hX (sc_at hj hX.2.2.2 (by decide)) dL_law_558 ?_
    refine r_aload_n C0 dL_law_559 rfl 0 rfl ?_
    refine r_iload_n C0 dL_law_560 rfl 3 rfl ?_
    refine r_iconst C0 dL_law_561 ki_3 ?_
    refine r_iadd C0 dL_law_562 ?_
    rw [show Int32.ofNat (6 * j) + 3 = Int32.ofNat (6 * j + 3) from sc_add (k := 3)]
    refine r_sld C0 hX (sc_at hj hX.2.2.2 (by decide)) dL_law_563 ?_
    refine r_if_eq (T := Unit) (z := ()) (E1 := none) (E2 := some ()) C0 571 dL_law_564 rfl (if_neg hk) (fun _ h => by cases h) (fun _ _ => ?_)
    refine r_iconst C0 dL_law_567 ki_1 ?_
    refine r_goto C0 572 dL_law_568 rfl ?_
    refine callVz3 C0 hz hD mw_X12_hook rv_m tm_L_57 (fun z2 hz2 => c_X12_hook hz2) (Nat.le_of_ble_eq_true rfl) hrc (Nat.le_of_ble_eq_true rfl) dL_law_572 ?_
    have hD := dm_of hD z.2
    refine r_permP pm_cm.symm ?_
    have hD := va_D_perm pm_cm.symm hD
    refine r_icmp_eq (T := Unit) (z := ()) (E1 := some ()) (E2 := none) C0 1311 dL_law_575 rfl (if_pos hyz) (fun _ _ => ?_) (fun _ h => by cases h)
    exact hN _ _ _ _ _ _ _ rfl hI2 hdx hD
theorem lc_brick {I : IT} {Γ : Gam} {cy : Nat → ClassId} {a mm : Nat → Nat} {b L j : Nat} {xs : Nat → Int32} {V M : VT} {J : JT} {K : Nat → Option Nat} {X : va_W} {dd : DT} (C0 : CXg Γ cL_law 8 13 RL cy) (hX : SX Γ b L xs) (hj : 6 * j + 6 ≤ L) (hrc : RC Γ j) (hI : I j V J dd M) (hdx : DX cy K X dd) (hD : va_D Γ.2.2.2.2.2.2.2.2.2.2.2.2.1 (WC cy a V J K (WM cy mm M X))) (hN : NX I Γ cy a mm b j) (hO : O_brick I) : Wp Γ (39 + 3 * j) (210633 + 3750 * j) 580 [(0, .ref b), (1, .ref (a 0)), (2, .ref (mm 0)), (3, .int (Int32.ofNat (6 * j)))] [] (WC cy a V J K (WM cy mm M X)) := by
  have hn : j < 512 := by have := hX.2.2.2; omega
  obtain ⟨y, z, hy, hz, hyz, hI2⟩ := hO j V J dd M (xs (6 * j + 1)) (xs (6 * j + 2)) hn hI
  show Wp Γ (39 + 3 * j) (210633 + 3750 * j) 580 [(0, .ref b), (1, .ref (a 0)), (2, .ref (mm 0)), (3, .int (Int32.ofNat (6 * j)))] [] (WC cy a V J K (WM cy mm M X))
  refine r_aload_n C0 dL_law_580 rfl 1 rfl ?_
  refine r_aload_n C0 dL_law_581 rfl 0 rfl ?_
  refine r_iload_n C0 dL_law_582 rfl 3 rfl ?_
  refine r_iconst C0 dL_law_583 ki_1 ?_
  refine r_iadd C0 dL_law_584 ?_
  rw [show Int32.ofNat (6 * j) + 1 = Int32.ofNat (6 * j + 1) from sc_add (k := 1)]
  refine r_sld C0 hX (sc_at hj hX.2.2.2 (by decide)) dL_law_585 ?_
  refine r_aload_n C0 dL_law_586 rfl 0 rfl ?_
  refine r_iload_n C0 dL_law_587 rfl 3 rfl ?_
  refine r_iconst C0 dL_law_588 ki_2 ?_
  refine r_iadd C0 dL_law_589 ?_
  rw [show Int32.ofNat (6 * j) + 2 = Int32.ofNat (6 * j + 2) from sc_add (k := 2)]
  refine r_sld C0 hX (sc_at hj hX.2.2.2 (by decide)) dL_law_590 ?_
  refine callAV (ce := 39 + 3 * j) (sl := 210633 + 3750 * j) (As := [.int (xs (6 * j + 1)), .int (xs (6 * j + 2))]) (b := a 0) (rest := []) C0 en_ok trivial hD mw_X11_brick rv_0 tm_L_58 (c_X11_brick hy) rfl (Nat.le_of_ble_eq_true rfl) (Nat.le_of_ble_eq_true rfl) hrc dL_law_591 (fun w2 r2 hΦ hD => ?_)
  obtain ⟨rfl, hΦ⟩ := hΦ
  obtain ⟨K2, X2, rfl, hdx⟩ := dx_kw hΦ hdx
  refine r_permP pm_cm ?_
  have hD := va_D_perm pm_cm hD
  refine r_aload_n C0 dL_law_594 rfl 2 rfl ?_
  refine r_aload_n C0 dL_law_595 rfl 0 rfl ?_
  refine r_iload_n C0 dL_law_596 rfl 3 rfl ?_
  refine r_iconst C0 dL_law_597 ki_1 ?_
  refine r_iadd C0 dL_law_598 ?_
  rw [show Int32.ofNat (6 * j) + 1 = Int32.ofNat (6 * j + 1) from sc_add (k := 1)]
  refine r_sld C0 hX (sc_at hj hX.2.2.2 (by decide)) dL_law_599 ?_
  refine r_aload_n C0 dL_law_600 rfl 0 rfl ?_
  refine r_iload_n C0 dL_law_601 rfl 3 rfl ?_
  refine r_iconst C0 dL_law_602 ki_2 ?_
  refine r_iadd C0 dL_law_603 ?_
  rw [show Int32.ofNat (6 * j) + 2 = Int32.ofNat (6 * j + 2) from sc_add (k := 2)]
  refine r_sld C0 hX (sc_at hj hX.2.2.2 (by decide)) dL_law_604 ?_
  refine callVz2 C0 hz hD mw_X12_brick rv_m tm_L_61 (fun z2 hz2 => c_X12_brick hz2) (Nat.le_of_ble_eq_true rfl) hrc (Nat.le_of_ble_eq_true rfl) dL_law_605 ?_
  have hD := dm_of hD z.2
  refine r_permP pm_cm.symm ?_
  have hD := va_D_perm pm_cm.symm hD
  refine r_icmp_eq (T := Unit) (z := ()) (E1 := some ()) (E2 := none) C0 1311 dL_law_608 rfl (if_pos hyz) (fun _ _ => ?_) (fun _ h => by cases h)
  exact hN _ _ _ _ _ _ _ rfl hI2 hdx hD
theorem lc_shift {I : IT} {Γ : Gam} {cy : Nat → ClassId} {a mm : Nat → Nat} {b L j : Nat} {xs : Nat → Int32} {V M : VT} {J : JT} {K : Nat → Option Nat} {X : va_W} {dd : DT} (C0 : CXg Γ cL_law 8 13 RL cy) (hX : SX Γ b L xs) (hj : 6 * j + 6 ≤ L) (hrc : RC Γ j) (hI : I j V J dd M) (hdx : DX cy K X dd) (hD : va_D Γ.2.2.2.2.2.2.2.2.2.2.2.2.1 (WC cy a V J K (WM cy mm M X))) (hN : NX I Γ cy a mm b j) (hO : O_shift I) : Wp Γ (39 + 3 * j) (210633 + 3750 * j) 613 [(0, .ref b), (1, .ref (a 0)), (2, .ref (mm 0)), (3, .int (Int32.ofNat (6 * j)))] [] (WC cy a V J K (WM cy mm M X)) := by
  have hn : j < 512 := by have := hX.2.2.2; omega
  obtain ⟨y, z, hy, hz, hyz, hI2⟩ := hO j V J dd M (xs (6 * j + 1)) (xs (6 * j + 2)) (xs (6 * j + 3)) (xs (6 * j + 4)) hn hI
  show Wp Γ (39 + 3 * j) (210633 + 3750 * j) 613 [(0, .ref b), (1, .ref (a 0)), (2, .ref (mm 0)), (3, .int (Int32.ofNat (6 * j)))] [] (WC cy a V J K (WM cy mm M X))
  refine r_aload_n C0 dL_law_613 rfl 1 rfl ?_
  refine r_aload_n C0 dL_law_614 rfl 0 rfl ?_
  refine r_iload_n C0 dL_law_615 rfl 3 rfl ?_
  refine r_iconst C0 dL_law_616 ki_1 ?_
  refine r_iadd C0 dL_law_617 ?_
  rw [show Int32.ofNat (6 * j) + 1 = Int32.ofNat (6 * j + 1) from sc_add (k := 1)]
  refine r_sld C0 hX (sc_at hj hX.2.2.2 (by decide)) dL_law_618 ?_
  refine r_aload_n C0 dL_law_619 rfl 0 rfl ?_
  refine r_iload_n C0 dL_law_620 rfl 3 rfl ?_
  refine r_iconst C0 dL_law_621 ki_2 ?_
  refine r_iadd C0 dL_law_622 ?_
  rw [show Int32.ofNat (6 * j) + 2 = Int32.ofNat (6 * j + 2) from sc_add (k := 2)]
  refine r_sld C0 hX (sc_at hj hX.2.2.2 (by decide)) dL_law_623 ?_
  refine r_aload_n C0 dL_law_624 rfl 0 rfl ?_
  refine r_iload_n C0 dL_law_625 rfl 3 rfl ?_
  refine r_iconst C0 dL_law_626 ki_3 ?_
  refine r_iadd C0 dL_law_627 ?_
  rw [show Int32.ofNat (6 * j) + 3 = Int32.ofNat (6 * j + 3) from sc_add (k := 3)]
  refine r_sld C0 hX (sc_at hj hX.2.2.2 (by decide)) dL_law_628 ?_
  refine r_aload_n C0 dL_law_629 rfl 0 rfl ?_
  refine r_iload_n C0 dL_law_630 rfl 3 rfl ?_
  refine r_iconst C0 dL_law_631 ki_4 ?_
  refine r_iadd C0 dL_law_632 ?_
  rw [show Int32.ofNat (6 * j) + 4 = Int32.ofNat (6 * j + 4) from sc_add (k := 4)]
  refine r_sld C0 hX (sc_at hj hX.2.2.2 (by decide)) dL_law_633 ?_
  refine callAV (ce := 39 + 3 * j) (sl := 210633 + 3750 * j) (As := [.int (xs (6 * j + 1)), .int (xs (6 * j + 2)), .int (xs (6 * j + 3)), .int (xs (6 * j + 4))]) (b := a 0) (rest := []) C0 en_ok trivial hD mw_X11_shift rv_0 tm_L_62 (c_X11_shift hy) rfl (Nat.le_of_ble_eq_true rfl) (Nat.le_of_ble_eq_true rfl) hrc dL_law_634 (fun w2 r2 hΦ hD => ?_)
  obtain ⟨rfl, hΦ⟩ := hΦ
  obtain ⟨K2, X2, rfl, hdx⟩ := dx_kw hΦ hdx
  refine r_permP pm_cm ?_
  have hD := va_D_perm pm_cm hD
  refine r_aload_n C0 dL_law_637 rfl 2 rfl ?_
  refine r_aload_n C0 dL_law_638 rfl 0 rfl ?_
  refine r_iload_n C0 dL_law_639 rfl 3 rfl ?_
  refine r_iconst C0 dL_law_640 ki_1 ?_
  refine r_iadd C0 dL_law_641 ?_
  rw [show Int32.ofNat (6 * j) + 1 = Int32.ofNat (6 * j + 1) from sc_add (k := 1)]
  refine r_sld C0 hX (sc_at hj hX.2.2.2 (by decide)) dL_law_642 ?_
  refine r_aload_n C0 dL_law_643 rfl 0 rfl ?_
  refine r_iload_n C0 dL_law_644 rfl 3 rfl ?_
  refine r_iconst C0 dL_law_645 ki_2 ?_
  refine r_iadd C0 dL_law_646 ?_
  rw [show Int32.ofNat (6 * j) + 2 = Int32.ofNat (6 * j + 2) from sc_add (k := 2)]
  refine r_sld C0 hX (sc_at hj hX.2.2.2 (by decide)) dL_law_647 ?_
  refine r_aload_n C0 dL_law_648 rfl 0 rfl ?_
  refine r_iload_n C0 dL_law_649 rfl 3 rfl ?_
  refine r_iconst C0 dL_law_650 ki_3 ?_
  refine r_iadd C0 dL_law_651 ?_
  rw [show Int32.ofNat (6 * j) + 3 = Int32.ofNat (6 * j + 3) from sc_add (k := 3)]
  refine r_sld C0 hX (sc_at hj hX.2.2.2 (by decide)) dL_law_652 ?_
  refine r_aload_n C0 dL_law_653 rfl 0 rfl ?_
  refine r_iload_n C0 dL_law_654 rfl 3 rfl ?_
  refine r_iconst C0 dL_law_655 ki_4 ?_
  refine r_iadd C0 dL_law_656 ?_
  rw [show Int32.ofNat (6 * j) + 4 = Int32.ofNat (6 * j + 4) from sc_add (k := 4)]
  refine r_sld C0 hX (sc_at hj hX.2.2.2 (by decide)) dL_law_657 ?_
  refine callVz4 C0 hz hD mw_X12_shift rv_m tm_L_65 (fun z2 hz2 => c_X12_shift hz2) (Nat.le_of_ble_eq_true rfl) hrc (Nat.le_of_ble_eq_true rfl) dL_law_658 ?_
  have hD := dm_of hD z.2
  refine r_permP pm_cm.symm ?_
  have hD := va_D_perm pm_cm.symm hD
  refine r_icmp_eq (T := Unit) (z := ()) (E1 := some ()) (E2 := none) C0 1311 dL_law_661 rfl (if_pos hyz) (fun _ _ => ?_) (fun _ h => by cases h)
  exact hN _ _ _ _ _ _ _ rfl hI2 hdx hD
theorem lc_flag {I : IT} {Γ : Gam} {cy : Nat → ClassId} {a mm : Nat → Nat} {b L j : Nat} {xs : Nat → Int32} {V M : VT} {J : JT} {K : Nat → Option Nat} {X : va_W} {dd : DT} (C0 : CXg Γ cL_law 8 13 RL cy) (hX : SX Γ b L xs) (hj : 6 * j + 6 ≤ L) (hrc : RC Γ j) (hI : I j V J dd M) (hdx : DX cy K X dd) (hD : va_D Γ.2.2.2.2.2.2.2.2.2.2.2.2.1 (WC cy a V J K (WM cy mm M X))) (hN : NX I Γ cy a mm b j) (hO : O_flag I) : Wp Γ (39 + 3 * j) (210633 + 3750 * j) 666 [(0, .ref b), (1, .ref (a 0)), (2, .ref (mm 0)), (3, .int (Int32.ofNat (6 * j)))] [] (WC cy a V J K (WM cy mm M X)) := by
  have hn : j < 512 := by have := hX.2.2.2; omega
  obtain ⟨y, z, hy, hz, hyz, hI2⟩ := hO j V J dd M (xs (6 * j + 1)) (xs (6 * j + 2)) hn hI
  show Wp Γ (39 + 3 * j) (210633 + 3750 * j) 666 [(0, .ref b), (1, .ref (a 0)), (2, .ref (mm 0)), (3, .int (Int32.ofNat (6 * j)))] [] (WC cy a V J K (WM cy mm M X))
  refine r_aload_n C0 dL_law_666 rfl 1 rfl ?_
  refine r_aload_n C0 dL_law_667 rfl 0 rfl ?_
  refine r_iload_n C0 dL_law_668 rfl 3 rfl ?_
  refine r_iconst C0 dL_law_669 ki_1 ?_
  refine r_iadd C0 dL_law_670 ?_
  rw [show Int32.ofNat (6 * j) + 1 = Int32.ofNat (6 * j + 1) from sc_add (k := 1)]
  refine r_sld C0 hX (sc_at hj hX.2.2.2 (by decide)) dL_law_671 ?_
  refine r_aload_n C0 dL_law_672 rfl 0 rfl ?_
  refine r_iload_n C0 dL_law_673 rfl 3 rfl ?_
  refine r_iconst C0 dL_law_674 ki_2 ?_
  refine r_iadd C0 dL_law_675 ?_
  rw [show Int32.ofNat (6 * j) + 2 = Int32.ofNat (6 * j + 2) from sc_add (k := 2)]
  refine r_sld C0 hX (sc_at hj hX.2.2.2 (by decide)) dL_law_676 ?_
  refine callAV (ce := 39 + 3 * j) (sl := 210633 + 3750 * j) (As := [.int (xs (6 * j + 1)), .int (xs (6 * j + 2))]) (b := a 0) (rest := []) C0 en_ok trivial hD mw_X11_flag rv_0 tm_L_66 (c_X11_flag hy) rfl (Nat.le_of_ble_eq_true rfl) (Nat.le_of_ble_eq_true rfl) hrc dL_law_677 (fun w2 r2 hΦ hD => ?_)
  obtain ⟨rfl, hΦ⟩ := hΦ
  obtain ⟨K2, X2, rfl, hdx⟩ := dx_kw hΦ hdx
  refine r_permP pm_cm ?_
  have hD := va_D_perm pm_cm hD
  refine r_aload_n C0 dL_law_680 rfl 2 rfl ?_
  refine r_aload_n C0 dL_law_681 rfl 0 rfl ?_
  refine r_iload_n C0 dL_law_682 rfl 3 rfl ?_
  refine r_iconst C0 dL_law_683 ki_1 ?_
  refine r_iadd C0 dL_law_684 ?_
  rw [show Int32.ofNat (6 * j) + 1 = Int32.ofNat (6 * j + 1) from sc_add (k := 1)]
  refine r_sld C0 hX (sc_at hj hX.2.2.2 (by decide)) dL_law_685 ?_
  refine r_aload_n C0 dL_law_686 rfl 0 rfl ?_
  refine r_iload_n C0 dL_law_687 rfl 3 rfl ?_
  refine r_iconst C0 dL_law_688 ki_2 ?_
  refine r_iadd C0 dL_law_689 ?_
  rw [show Int32.ofNat (6 * j) + 2 = Int32.ofNat (6 * j + 2) from sc_add (k := 2)]
  refine r_sld C0 hX (sc_at hj hX.2.2.2 (by decide)) dL_law_690 ?_
  refine callVz2 C0 hz hD mw_X12_flag rv_m tm_L_69 (fun z2 hz2 => c_X12_flag hz2) (Nat.le_of_ble_eq_true rfl) hrc (Nat.le_of_ble_eq_true rfl) dL_law_691 ?_
  have hD := dm_of hD z.2
  refine r_permP pm_cm.symm ?_
  have hD := va_D_perm pm_cm.symm hD
  refine r_icmp_eq (T := Unit) (z := ()) (E1 := some ()) (E2 := none) C0 1311 dL_law_694 rfl (if_pos hyz) (fun _ _ => ?_) (fun _ h => by cases h)
  exact hN _ _ _ _ _ _ _ rfl hI2 hdx hD
theorem lc_wave {I : IT} {Γ : Gam} {cy : Nat → ClassId} {a mm : Nat → Nat} {b L j : Nat} {xs : Nat → Int32} {V M : VT} {J : JT} {K : Nat → Option Nat} {X : va_W} {dd : DT} (C0 : CXg Γ cL_law 8 13 RL cy) (hX : SX Γ b L xs) (hj : 6 * j + 6 ≤ L) (hrc : RC Γ j) (hI : I j V J dd M) (hdx : DX cy K X dd) (hD : va_D Γ.2.2.2.2.2.2.2.2.2.2.2.2.1 (WC cy a V J K (WM cy mm M X))) (hN : NX I Γ cy a mm b j) (hO : O_wave I) : Wp Γ (39 + 3 * j) (210633 + 3750 * j) 699 [(0, .ref b), (1, .ref (a 0)), (2, .ref (mm 0)), (3, .int (Int32.ofNat (6 * j)))] [] (WC cy a V J K (WM cy mm M X)) := by
  have hn : j < 512 := by have := hX.2.2.2; omega
  obtain ⟨y, z, hy, hz, hyz, hI2⟩ := hO j V J dd M (xs (6 * j + 1)) hn hI
  show Wp Γ (39 + 3 * j) (210633 + 3750 * j) 699 [(0, .ref b), (1, .ref (a 0)), (2, .ref (mm 0)), (3, .int (Int32.ofNat (6 * j)))] [] (WC cy a V J K (WM cy mm M X))
  refine r_aload_n C0 dL_law_699 rfl 1 rfl ?_
  refine r_aload_n C0 dL_law_700 rfl 0 rfl ?_
  refine r_iload_n C0 dL_law_701 rfl 3 rfl ?_
  refine r_iconst C0 dL_law_702 ki_1 ?_
  refine r_iadd C0 dL_law_703 ?_
  rw [show Int32.ofNat (6 * j) + 1 = Int32.ofNat (6 * j + 1) from sc_add (k := 1)]
  refine r_sld C0 hX (sc_at hj hX.2.2.2 (by decide)) dL_law_704 ?_
  refine callVz1 C0 hy hD mw_X11_wave rv_0 tm_L_70 (fun y2 hy2 => c_X11_wave hy2) (Nat.le_of_ble_eq_true rfl) (rc_le hrc) (Nat.le_of_ble_eq_true rfl) dL_law_705 ?_
  have hD : va_D Γ.2.2.2.2.2.2.2.2.2.2.2.2.1 (WC cy a y.2 J K (WM cy mm M X)) := dc_of hD _ _ _
  refine r_permP pm_cm ?_
  have hD := va_D_perm pm_cm hD
  refine r_aload_n C0 dL_law_708 rfl 2 rfl ?_
  refine r_aload_n C0 dL_law_709 rfl 0 rfl ?_
  refine r_iload_n C0 dL_law_710 rfl 3 rfl ?_
  refine r_iconst C0 dL_law_711 ki_1 ?_
  refine r_iadd C0 dL_law_712 ?_
  rw [show Int32.ofNat (6 * j) + 1 = Int32.ofNat (6 * j + 1) from sc_add (k := 1)]
  refine r_sld C0 hX (sc_at hj hX.2.2.2 (by decide)) dL_law_713 ?_
  refine callVz1 C0 hz hD mw_X12_wave rv_m tm_L_73 (fun z2 hz2 => c_X12_wave hz2) (Nat.le_of_ble_eq_true rfl) (rc_le hrc) (Nat.le_of_ble_eq_true rfl) dL_law_714 ?_
  have hD := dm_of hD z.2
  refine r_permP pm_cm.symm ?_
  have hD := va_D_perm pm_cm.symm hD
  refine r_icmp_eq (T := Unit) (z := ()) (E1 := some ()) (E2 := none) C0 1311 dL_law_717 rfl (if_pos hyz) (fun _ _ => ?_) (fun _ h => by cases h)
  refine r_widen (Nat.le_add_right _ 3) (Nat.le_add_right _ 3750) ?_
  exact hN _ _ _ _ _ _ _ rfl hI2 hdx hD
theorem lc_cue {I : IT} {Γ : Gam} {cy : Nat → ClassId} {a mm : Nat → Nat} {b L j : Nat} {xs : Nat → Int32} {V M : VT} {J : JT} {K : Nat → Option Nat} {X : va_W} {dd : DT} (C0 : CXg Γ cL_law 8 13 RL cy) (hX : SX Γ b L xs) (hj : 6 * j + 6 ≤ L) (hrc : RC Γ j) (hI : I j V J dd M) (hdx : DX cy K X dd) (hD : va_D Γ.2.2.2.2.2.2.2.2.2.2.2.2.1 (WC cy a V J K (WM cy mm M X))) (hN : NX I Γ cy a mm b j) (hO : O_cue I) : Wp Γ (39 + 3 * j) (210633 + 3750 * j) 722 [(0, .ref b), (1, .ref (a 0)), (2, .ref (mm 0)), (3, .int (Int32.ofNat (6 * j)))] [] (WC cy a V J K (WM cy mm M X)) := by
  have hn : j < 512 := by have := hX.2.2.2; omega
  obtain ⟨y, z, hy, hz, hyz, hI2⟩ := hO j V J dd M (xs (6 * j + 1)) (xs (6 * j + 2)) (xs (6 * j + 3)) (xs (6 * j + 4)) hn hI
  show Wp Γ (39 + 3 * j) (210633 + 3750 * j) 722 [(0, .ref b), (1, .ref (a 0)), (2, .ref (mm 0)), (3, .int (Int32.ofNat (6 * j)))] [] (WC cy a V J K (WM cy mm M X))
  refine r_aload_n C0 dL_law_722 rfl 1 rfl ?_
  refine r_aload_n C0 dL_law_723 rfl 0 rfl ?_
  refine r_iload_n C0 dL_law_724 rfl 3 rfl ?_
  refine r_iconst C0 dL_law_725 ki_1 ?_
  refine r_iadd C0 dL_law_726 ?_
  rw [show Int32.ofNat (6 * j) + 1 = Int32.ofNat (6 * j + 1) from sc_add (k := 1)]
  refine r_sld C0 hX (sc_at hj hX.2.2.2 (by decide)) dL_law_727 ?_
  refine r_aload_n C0 dL_law_728 rfl 0 rfl ?_
  refine r_iload_n C0 dL_law_729 rfl 3 rfl ?_
  refine r_iconst C0 dL_law_730 ki_2 ?_
  refine r_iadd C0 dL_law_731 ?_
  rw [show Int32.ofNat (6 * j) + 2 = Int32.ofNat (6 * j + 2) from sc_add (k := 2)]
  refine r_sld C0 hX (sc_at hj hX.2.2.2 (by decide)) dL_law_732 ?_
  refine r_aload_n C0 dL_law_733 rfl 0 rfl ?_
  refine r_iload_n C0 dL_law_734 rfl 3 rfl ?_
  refine r_iconst C0 dL_law_735 ki_3 ?_
  refine r_iadd C0 dL_law_736 ?_
  rw [show Int32.ofNat (6 * j) + 3 = Int32.ofNat (6 * j + 3) from sc_add (k := 3)]
  refine r_sld C0 hX (sc_at hj hX.2.2.2 (by decide)) dL_law_737 ?_
  refine r_aload_n C0 dL_law_738 rfl 0 rfl ?_
  refine r_iload_n C0 dL_law_739 rfl 3 rfl ?_
  refine r_iconst C0 dL_law_740 ki_4 ?_
  refine r_iadd C0 dL_law_741 ?_
  rw [show Int32.ofNat (6 * j) + 4 = Int32.ofNat (6 * j + 4) from sc_add (k := 4)]
  refine r_sld C0 hX (sc_at hj hX.2.2.2 (by decide)) dL_law_742 ?_
  refine callAV (ce := 39 + 3 * j) (sl := 210633 + 3750 * j) (As := [.int (xs (6 * j + 1)), .int (xs (6 * j + 2)), .int (xs (6 * j + 3)), .int (xs (6 * j + 4))]) (b := a 0) (rest := []) C0 en_ok trivial hD mw_X11_cue rv_0 tm_L_74 (c_X11_cue hy) rfl (Nat.le_of_ble_eq_true rfl) (Nat.le_of_ble_eq_true rfl) hrc dL_law_743 (fun w2 r2 hΦ hD => ?_)
  obtain ⟨rfl, hΦ⟩ := hΦ
  obtain ⟨K2, X2, rfl, hdx⟩ := dx_kw hΦ hdx
  refine r_permP pm_cm ?_
  have hD := va_D_perm pm_cm hD
  refine r_aload_n C0 dL_law_746 rfl 2 rfl ?_
  refine r_aload_n C0 dL_law_747 rfl 0 rfl ?_
  refine r_iload_n C0 dL_law_748 rfl 3 rfl ?_
  refine r_iconst C0 dL_law_749 ki_1 ?_
  refine r_iadd C0 dL_law_750 ?_
  rw [show Int32.ofNat (6 * j) + 1 = Int32.ofNat (6 * j + 1) from sc_add (k := 1)]
  refine r_sld C0 hX (sc_at hj hX.2.2.2 (by decide)) dL_law_751 ?_
  refine r_aload_n C0 dL_law_752 rfl 0 rfl ?_
  refine r_iload_n C0 dL_law_753 rfl 3 rfl ?_
  refine r_iconst C0 dL_law_754 ki_2 ?_
  refine r_iadd C0 dL_law_755 ?_
  rw [show Int32.ofNat (6 * j) + 2 = Int32.ofNat (6 * j + 2) from sc_add (k := 2)]
  refine r_sld C0 hX (sc_at hj hX.2.2.2 (by decide)) dL_law_756 ?_
  refine r_aload_n C0 dL_law_757 rfl 0 rfl ?_
  refine r_iload_n C0 dL_law_758 rfl 3 rfl ?_
  refine r_iconst C0 dL_law_759 ki_3 ?_
  refine r_iadd C0 dL_law_760 ?_
  rw [show Int32.ofNat (6 * j) + 3 = Int32.ofNat (6 * j + 3) from sc_add (k := 3)]
  refine r_sld C0 hX (sc_at hj hX.2.2.2 (by decide)) dL_law_761 ?_
  refine r_aload_n C0 dL_law_762 rfl 0 rfl ?_
  refine r_iload_n C0 dL_law_763 rfl 3 rfl ?_
  refine r_iconst C0 dL_law_764 ki_4 ?_
  refine r_iadd C0 dL_law_765 ?_
  rw [show Int32.ofNat (6 * j) + 4 = Int32.ofNat (6 * j + 4) from sc_add (k := 4)]
  refine r_sld C0 hX (sc_at hj hX.2.2.2 (by decide)) dL_law_766 ?_
  refine callVz4 C0 hz hD mw_X12_cue rv_m tm_L_77 (fun z2 hz2 => c_X12_cue hz2) (Nat.le_of_ble_eq_true rfl) hrc (Nat.le_of_ble_eq_true rfl) dL_law_767 ?_
  have hD := dm_of hD z.2
  refine r_permP pm_cm.symm ?_
  have hD := va_D_perm pm_cm.symm hD
  refine r_icmp_eq (T := Unit) (z := ()) (E1 := some ()) (E2 := none) C0 1311 dL_law_770 rfl (if_pos hyz) (fun _ _ => ?_) (fun _ h => by cases h)
  exact hN _ _ _ _ _ _ _ rfl hI2 hdx hD
theorem lc_hush {I : IT} {Γ : Gam} {cy : Nat → ClassId} {a mm : Nat → Nat} {b L j : Nat} {xs : Nat → Int32} {V M : VT} {J : JT} {K : Nat → Option Nat} {X : va_W} {dd : DT} (C0 : CXg Γ cL_law 8 13 RL cy) (hX : SX Γ b L xs) (hj : 6 * j + 6 ≤ L) (hrc : RC Γ j) (hI : I j V J dd M) (hdx : DX cy K X dd) (hD : va_D Γ.2.2.2.2.2.2.2.2.2.2.2.2.1 (WC cy a V J K (WM cy mm M X))) (hN : NX I Γ cy a mm b j) (hO : O_hush I) : Wp Γ (39 + 3 * j) (210633 + 3750 * j) 775 [(0, .ref b), (1, .ref (a 0)), (2, .ref (mm 0)), (3, .int (Int32.ofNat (6 * j)))] [] (WC cy a V J K (WM cy mm M X)) := by
  have hn : j < 512 := by have := hX.2.2.2; omega
  obtain ⟨y, z, hy, hz, hyz, hI2⟩ := hO j V J dd M (xs (6 * j + 1)) hn hI
  show Wp Γ (39 + 3 * j) (210633 + 3750 * j) 775 [(0, .ref b), (1, .ref (a 0)), (2, .ref (mm 0)), (3, .int (Int32.ofNat (6 * j)))] [] (WC cy a V J K (WM cy mm M X))
  refine r_aload_n C0 dL_law_775 rfl 1 rfl ?_
  refine r_aload_n C0 dL_law_776 rfl 0 rfl ?_
  refine r_iload_n C0 dL_law_777 rfl 3 rfl ?_
  refine r_iconst C0 dL_law_778 ki_1 ?_
  refine r_iadd C0 dL_law_779 ?_
  rw [show Int32.ofNat (6 * j) + 1 = Int32.ofNat (6 * j + 1) from sc_add (k := 1)]
  refine r_sld C0 hX (sc_at hj hX.2.2.2 (by decide)) dL_law_780 ?_
  refine callAV (ce := 39 + 3 * j) (sl := 210633 + 3750 * j) (As := [.int (xs (6 * j + 1))]) (b := a 0) (rest := []) C0 en_ok trivial hD mw_X11_hush rv_0 tm_L_78 (c_X11_hush hy) rfl (Nat.le_of_ble_eq_true rfl) (Nat.le_of_ble_eq_true rfl) hrc dL_law_781 (fun w2 r2 hΦ hD => ?_)
  obtain ⟨rfl, hΦ⟩ := hΦ
  obtain ⟨K2, X2, rfl, hdx⟩ := dx_kw hΦ hdx
  refine r_permP pm_cm ?_
  have hD := va_D_perm pm_cm hD
  refine r_aload_n C0 dL_law_784 rfl 2 rfl ?_
  refine r_aload_n C0 dL_law_785 rfl 0 rfl ?_
  refine r_iload_n C0 dL_law_786 rfl 3 rfl ?_
  refine r_iconst C0 dL_law_787 ki_1 ?_
  refine r_iadd C0 dL_law_788 ?_
  rw [show Int32.ofNat (6 * j) + 1 = Int32.ofNat (6 * j + 1) from sc_add (k := 1)]
  refine r_sld C0 hX (sc_at hj hX.2.2.2 (by decide)) dL_law_789 ?_
  refine callVz1 C0 hz hD mw_X12_hush rv_m tm_L_81 (fun z2 hz2 => c_X12_hush hz2) (Nat.le_of_ble_eq_true rfl) hrc (Nat.le_of_ble_eq_true rfl) dL_law_790 ?_
  have hD := dm_of hD z.2
  refine r_permP pm_cm.symm ?_
  have hD := va_D_perm pm_cm.symm hD
  refine r_icmp_eq (T := Unit) (z := ()) (E1 := some ()) (E2 := none) C0 1311 dL_law_793 rfl (if_pos hyz) (fun _ _ => ?_) (fun _ h => by cases h)
  exact hN _ _ _ _ _ _ _ rfl hI2 hdx hD
theorem lc_go {I : IT} {Γ : Gam} {cy : Nat → ClassId} {a mm : Nat → Nat} {b L j : Nat} {xs : Nat → Int32} {V M : VT} {J : JT} {K : Nat → Option Nat} {X : va_W} {dd : DT} (C0 : CXg Γ cL_law 8 13 RL cy) (hX : SX Γ b L xs) (hj : 6 * j + 6 ≤ L) (hrc : RC Γ j) (hI : I j V J dd M) (hdx : DX cy K X dd) (hD : va_D Γ.2.2.2.2.2.2.2.2.2.2.2.2.1 (WC cy a V J K (WM cy mm M X))) (hN : NX I Γ cy a mm b j) (hO : O_go I) : Wp Γ (39 + 3 * j) (210633 + 3750 * j) 798 [(0, .ref b), (1, .ref (a 0)), (2, .ref (mm 0)), (3, .int (Int32.ofNat (6 * j)))] [] (WC cy a V J K (WM cy mm M X)) := by
  have hn : j < 512 := by have := hX.2.2.2; omega
  obtain ⟨y, z, hy, hz, hyz, hI2⟩ := hO j V J dd M (xs (6 * j + 1)) hn hI
  show Wp Γ (39 + 3 * j) (210633 + 3750 * j) 798 [(0, .ref b), (1, .ref (a 0)), (2, .ref (mm 0)), (3, .int (Int32.ofNat (6 * j)))] [] (WC cy a V J K (WM cy mm M X))
  refine r_aload_n C0 dL_law_798 rfl 1 rfl ?_
  refine r_aload_n C0 dL_law_799 rfl 0 rfl ?_
  refine r_iload_n C0 dL_law_800 rfl 3 rfl ?_
  refine r_iconst C0 dL_law_801 ki_1 ?_
  refine r_iadd C0 dL_law_802 ?_
  rw [show Int32.ofNat (6 * j) + 1 = Int32.ofNat (6 * j + 1) from sc_add (k := 1)]
  refine r_sld C0 hX (sc_at hj hX.2.2.2 (by decide)) dL_law_803 ?_
  refine callAV (ce := 39 + 3 * j) (sl := 210633 + 3750 * j) (As := [.int (xs (6 * j + 1))]) (b := a 0) (rest := []) C0 en_ok trivial hD mw_X11_go rv_0 tm_L_82 (c_X11_go hy) rfl (Nat.le_of_ble_eq_true rfl) (Nat.le_of_ble_eq_true rfl) hrc dL_law_804 (fun w2 r2 hΦ hD => ?_)
  obtain ⟨rfl, hΦ⟩ := hΦ
  obtain ⟨K2, X2, rfl, hdx⟩ := dx_kw hΦ hdx
  refine r_permP pm_cm ?_
  have hD := va_D_perm pm_cm hD
  refine r_aload_n C0 dL_law_807 rfl 2 rfl ?_
  refine r_aload_n C0 dL_law_808 rfl 0 rfl ?_
  refine r_iload_n C0 dL_law_809 rfl 3 rfl ?_
  refine r_iconst C0 dL_law_810 ki_1 ?_
  refine r_iadd C0 dL_law_811 ?_
  rw [show Int32.ofNat (6 * j) + 1 = Int32.ofNat (6 * j + 1) from sc_add (k := 1)]
  refine r_sld C0 hX (sc_at hj hX.2.2.2 (by decide)) dL_law_812 ?_
  refine callVz1 C0 hz hD mw_X12_go rv_m tm_L_85 (fun z2 hz2 => c_X12_go hz2) (Nat.le_of_ble_eq_true rfl) hrc (Nat.le_of_ble_eq_true rfl) dL_law_813 ?_
  have hD := dm_of hD z.2
  refine r_permP pm_cm.symm ?_
  have hD := va_D_perm pm_cm.symm hD
  refine r_icmp_eq (T := Unit) (z := ()) (E1 := some ()) (E2 := none) C0 1311 dL_law_816 rfl (if_pos hyz) (fun _ _ => ?_) (fun _ h => by cases h)
  exact hN _ _ _ _ _ _ _ rfl hI2 hdx hD
theorem lc_undo {I : IT} {Γ : Gam} {cy : Nat → ClassId} {a mm : Nat → Nat} {b L j : Nat} {xs : Nat → Int32} {V M : VT} {J : JT} {K : Nat → Option Nat} {X : va_W} {dd : DT} (C0 : CXg Γ cL_law 8 13 RL cy) (hX : SX Γ b L xs) (hj : 6 * j + 6 ≤ L) (hrc : RC Γ j) (hI : I j V J dd M) (hdx : DX cy K X dd) (hD : va_D Γ.2.2.2.2.2.2.2.2.2.2.2.2.1 (WC cy a V J K (WM cy mm M X))) (hN : NX I Γ cy a mm b j) (hO : O_undo I) : Wp Γ (39 + 3 * j) (210633 + 3750 * j) 821 [(0, .ref b), (1, .ref (a 0)), (2, .ref (mm 0)), (3, .int (Int32.ofNat (6 * j)))] [] (WC cy a V J K (WM cy mm M X)) := by
  have hn : j < 512 := by have := hX.2.2.2; omega
  obtain ⟨y, z, hy, hz, hyz, hI2⟩ := hO j V J dd M hn hI
  show Wp Γ (39 + 3 * j) (210633 + 3750 * j) 821 [(0, .ref b), (1, .ref (a 0)), (2, .ref (mm 0)), (3, .int (Int32.ofNat (6 * j)))] [] (WC cy a V J K (WM cy mm M X))
  refine r_aload_n C0 dL_law_821 rfl 1 rfl ?_
  refine callVz0 C0 hy hD mw_X11_undo rv_0 tm_L_86 (fun y2 hy2 => c_X11_undo (dx_dd hdx) hy2) (Nat.le_of_ble_eq_true rfl) (rc_le hrc) (Nat.le_of_ble_eq_true rfl) dL_law_822 ?_
  have hdx := dx_ku (q := y.2.2) hdx
  have hD : va_D Γ.2.2.2.2.2.2.2.2.2.2.2.2.1 (WC cy a y.2.1 J (KU K y.2.2) (WM cy mm M X)) := dc_of hD _ _ _
  refine r_permP pm_cm ?_
  have hD := va_D_perm pm_cm hD
  refine r_aload_n C0 dL_law_825 rfl 2 rfl ?_
  refine callVz0 C0 hz hD mw_X12_undo rv_m tm_L_90 (fun z2 hz2 => c_X12_undo hz2) (Nat.le_of_ble_eq_true rfl) (rc_le hrc) (Nat.le_of_ble_eq_true rfl) dL_law_826 ?_
  have hD := dm_of hD z.2
  refine r_permP pm_cm.symm ?_
  have hD := va_D_perm pm_cm.symm hD
  refine r_icmp_eq (T := Unit) (z := ()) (E1 := some ()) (E2 := none) C0 1311 dL_law_829 rfl (if_pos hyz) (fun _ _ => ?_) (fun _ h => by cases h)
  refine r_widen (Nat.le_add_right _ 3) (Nat.le_add_right _ 3750) ?_
  exact hN _ _ _ _ _ _ _ rfl hI2 hdx hD
theorem lc_tell {I : IT} {Γ : Gam} {cy : Nat → ClassId} {a mm : Nat → Nat} {b L j : Nat} {xs : Nat → Int32} {V M : VT} {J : JT} {K : Nat → Option Nat} {X : va_W} {dd : DT} (C0 : CXg Γ cL_law 8 13 RL cy) (hX : SX Γ b L xs) (hj : 6 * j + 6 ≤ L) (hrc : RC Γ j) (hI : I j V J dd M) (hdx : DX cy K X dd) (hD : va_D Γ.2.2.2.2.2.2.2.2.2.2.2.2.1 (WC cy a V J K (WM cy mm M X))) (hN : NX I Γ cy a mm b j) (hO : O_tell I) : Wp Γ (39 + 3 * j) (210633 + 3750 * j) 834 [(0, .ref b), (1, .ref (a 0)), (2, .ref (mm 0)), (3, .int (Int32.ofNat (6 * j)))] [] (WC cy a V J K (WM cy mm M X)) := by
  have hn : j < 512 := by have := hX.2.2.2; omega
  obtain ⟨y, z, hy, hz, hyz, hI2⟩ := hO j V J dd M (xs (6 * j + 1)) (xs (6 * j + 2)) (xs (6 * j + 3)) (xs (6 * j + 4)) (xs (6 * j + 5)) hn hI
  show Wp Γ (39 + 3 * j) (210633 + 3750 * j) 834 [(0, .ref b), (1, .ref (a 0)), (2, .ref (mm 0)), (3, .int (Int32.ofNat (6 * j)))] [] (WC cy a V J K (WM cy mm M X))
  refine r_aload_n C0 dL_law_834 rfl 1 rfl ?_
  refine r_aload_n C0 dL_law_835 rfl 0 rfl ?_
  refine r_iload_n C0 dL_law_836 rfl 3 rfl ?_
  refine r_iconst C0 dL_law_837 ki_1 ?_
  refine r_iadd C0 dL_law_838 ?_
  rw [show Int32.ofNat (6 * j) + 1 = Int32.ofNat (6 * j + 1) from sc_add (k := 1)]
  refine r_sld C0 hX (sc_at hj hX.2.2.2 (by decide)) dL_law_839 ?_
  refine r_aload_n C0 dL_law_840 rfl 0 rfl ?_
  refine r_iload_n C0 dL_law_841 rfl 3 rfl ?_
  refine r_iconst C0 dL_law_842 ki_2 ?_
  refine r_iadd C0 dL_law_843 ?_
  rw [show Int32.ofNat (6 * j) + 2 = Int32.ofNat (6 * j + 2) from sc_add (k := 2)]
  refine r_sld C0 hX (sc_at hj hX.2.2.2 (by decide)) dL_law_844 ?_
  refine r_aload_n C0 dL_law_845 rfl 0 rfl ?_
  refine r_iload_n C0 dL_law_846 rfl 3 rfl ?_
  refine r_iconst C0 dL_law_847 ki_3 ?_
  refine r_iadd C0 dL_law_848 ?_
  rw [show Int32.ofNat (6 * j) + 3 = Int32.ofNat (6 * j + 3) from sc_add (k := 3)]
  refine r_sld C0 hX (sc_at hj hX.2.2.2 (by decide)) dL_law_849 ?_
  refine r_aload_n C0 dL_law_850 rfl 0 rfl ?_
  refine r_iload_n C0 dL_law_851 rfl 3 rfl ?_
  refine r_iconst C0 dL_law_852 ki_4 ?_
  refine r_iadd C0 dL_law_853 ?_
  rw [show Int32.ofNat (6 * j) + 4 = Int32.ofNat (6 * j + 4) from sc_add (k := 4)]
  refine r_sld C0 hX (sc_at hj hX.2.2.2 (by decide)) dL_law_854 ?_
  refine r_aload_n C0 dL_law_855 rfl 0 rfl ?_
  refine r_iload_n C0 dL_law_856 rfl 3 rfl ?_
  refine r_iconst C0 dL_law_857 ki_5 ?_
  refine r_iadd C0 dL_law_858 ?_
  rw [show Int32.ofNat (6 * j) + 5 = Int32.ofNat (6 * j + 5) from sc_add (k := 5)]
  refine r_sld C0 hX (sc_at hj hX.2.2.2 (by decide)) dL_law_859 ?_
  refine callVz5 C0 hy hD mw_X11_tell rv_0 tm_L_91 (fun y2 hy2 => c_X11_tell hy2) (Nat.le_of_ble_eq_true rfl) (rc_le hrc) (Nat.le_of_ble_eq_true rfl) dL_law_860 ?_
  have hD : va_D Γ.2.2.2.2.2.2.2.2.2.2.2.2.1 (WC cy a y.2 J K (WM cy mm M X)) := dc_of hD _ _ _
  refine r_permP pm_cm ?_
  have hD := va_D_perm pm_cm hD
  refine r_aload_n C0 dL_law_863 rfl 2 rfl ?_
  refine r_aload_n C0 dL_law_864 rfl 0 rfl ?_
  refine r_iload_n C0 dL_law_865 rfl 3 rfl ?_
  refine r_iconst C0 dL_law_866 ki_1 ?_
  refine r_iadd C0 dL_law_867 ?_
  rw [show Int32.ofNat (6 * j) + 1 = Int32.ofNat (6 * j + 1) from sc_add (k := 1)]
  refine r_sld C0 hX (sc_at hj hX.2.2.2 (by decide)) dL_law_868 ?_
  refine r_aload_n C0 dL_law_869 rfl 0 rfl ?_
  refine r_iload_n C0 dL_law_870 rfl 3 rfl ?_
  refine r_iconst C0 dL_law_871 ki_2 ?_
  refine r_iadd C0 dL_law_872 ?_
  rw [show Int32.ofNat (6 * j) + 2 = Int32.ofNat (6 * j + 2) from sc_add (k := 2)]
  refine r_sld C0 hX (sc_at hj hX.2.2.2 (by decide)) dL_law_873 ?_
  refine r_aload_n C0 dL_law_874 rfl 0 rfl ?_
  refine r_iload_n C0 dL_law_875 rfl 3 rfl ?_
  refine r_iconst C0 dL_law_876 ki_3 ?_
  refine r_iadd C0 dL_law_877 ?_
  rw [show Int32.ofNat (6 * j) + 3 = Int32.ofNat (6 * j + 3) from sc_add (k := 3)]
  refine r_sld C0 hX (sc_at hj hX.2.2.2 (by decide)) dL_law_878 ?_
  refine r_aload_n C0 dL_law_879 rfl 0 rfl ?_
  refine r_iload_n C0 dL_law_880 rfl 3 rfl ?_
  refine r_iconst C0 dL_law_881 ki_4 ?_
  refine r_iadd C0 dL_law_882 ?_
  rw [show Int32.ofNat (6 * j) + 4 = Int32.ofNat (6 * j + 4) from sc_add (k := 4)]
  refine r_sld C0 hX (sc_at hj hX.2.2.2 (by decide)) dL_law_883 ?_
  refine r_aload_n C0 dL_law_884 rfl 0 rfl ?_
  refine r_iload_n C0 dL_law_885 rfl 3 rfl ?_
  refine r_iconst C0 dL_law_886 ki_5 ?_
  refine r_iadd C0 dL_law_887 ?_
  rw [show Int32.ofNat (6 * j) + 5 = Int32.ofNat (6 * j + 5) from sc_add (k := 5)]
  refine r_sld C0 hX (sc_at hj hX.2.2.2 (by decide)) dL_law_888 ?_
  refine callVz5 C0 hz hD mw_X12_tell rv_m tm_L_95 (fun z2 hz2 => c_X12_tell hz2) (Nat.le_of_ble_eq_true rfl) (rc_le hrc) (Nat.le_of_ble_eq_true rfl) dL_law_889 ?_
  have hD := dm_of hD z.2
  refine r_permP pm_cm.symm ?_
  have hD := va_D_perm pm_cm.symm hD
  refine r_icmp_eq (T := Unit) (z := ()) (E1 := some ()) (E2 := none) C0 1311 dL_law_892 rfl (if_pos hyz) (fun _ _ => ?_) (fun _ h => by cases h)
  refine r_widen (Nat.le_add_right _ 3) (Nat.le_add_right _ 3750) ?_
  exact hN _ _ _ _ _ _ _ rfl hI2 hdx hD
theorem lc_forge {I : IT} {Γ : Gam} {cy : Nat → ClassId} {a mm : Nat → Nat} {b L j : Nat} {xs : Nat → Int32} {V M : VT} {J : JT} {K : Nat → Option Nat} {X : va_W} {dd : DT} (C0 : CXg Γ cL_law 8 13 RL cy) (hX : SX Γ b L xs) (hj : 6 * j + 6 ≤ L) (hrc : RC Γ j) (hI : I j V J dd M) (hdx : DX cy K X dd) (hD : va_D Γ.2.2.2.2.2.2.2.2.2.2.2.2.1 (WC cy a V J K (WM cy mm M X))) (hN : NX I Γ cy a mm b j) (hO : O_forge I) : Wp Γ (39 + 3 * j) (210633 + 3750 * j) 897 [(0, .ref b), (1, .ref (a 0)), (2, .ref (mm 0)), (3, .int (Int32.ofNat (6 * j)))] [] (WC cy a V J K (WM cy mm M X)) := by
  have hn : j < 512 := by have := hX.2.2.2; omega
  obtain ⟨y, z, hy, hz, hyz, hI2⟩ := hO j V J dd M (xs (6 * j + 1)) (xs (6 * j + 2)) (xs (6 * j + 3)) hn hI
  show Wp Γ (39 + 3 * j) (210633 + 3750 * j) 897 [(0, .ref b), (1, .ref (a 0)), (2, .ref (mm 0)), (3, .int (Int32.ofNat (6 * j)))] [] (WC cy a V J K (WM cy mm M X))
  refine r_aload_n C0 dL_law_897 rfl 1 rfl ?_
  refine r_aload_n C0 dL_law_898 rfl 0 rfl ?_
  refine r_iload_n C0 dL_law_899 rfl 3 rfl ?_
  refine r_iconst C0 dL_law_900 ki_1 ?_
  refine r_iadd C0 dL_law_901 ?_
  rw [show Int32.ofNat (6 * j) + 1 = Int32.ofNat (6 * j + 1) from sc_add (k := 1)]
  refine r_sld C0 hX (sc_at hj hX.2.2.2 (by decide)) dL_law_902 ?_
  refine r_aload_n C0 dL_law_903 rfl 0 rfl ?_
  refine r_iload_n C0 dL_law_904 rfl 3 rfl ?_
  refine r_iconst C0 dL_law_905 ki_2 ?_
  refine r_iadd C0 dL_law_906 ?_
  rw [show Int32.ofNat (6 * j) + 2 = Int32.ofNat (6 * j + 2) from sc_add (k := 2)]
  refine r_sld C0 hX (sc_at hj hX.2.2.2 (by decide)) dL_law_907 ?_
  refine r_aload_n C0 dL_law_908 rfl 0 rfl ?_
  refine r_iload_n C0 dL_law_909 rfl 3 rfl ?_
  refine r_iconst C0 dL_law_910 ki_3 ?_
  refine r_iadd C0 dL_law_911 ?_
  rw [show Int32.ofNat (6 * j) + 3 = Int32.ofNat (6 * j + 3) from sc_add (k := 3)]
  refine r_sld C0 hX (sc_at hj hX.2.2.2 (by decide)) dL_law_912 ?_
  refine callVz3 C0 hy hD mw_X11_forge rv_0 tm_L_96 (fun y2 hy2 => c_X11_forge hy2) (Nat.le_of_ble_eq_true rfl) (rc_le hrc) (Nat.le_of_ble_eq_true rfl) dL_law_913 ?_
  have hD : va_D Γ.2.2.2.2.2.2.2.2.2.2.2.2.1 (WC cy a y.2 J K (WM cy mm M X)) := dc_of hD _ _ _
  refine r_permP pm_cm ?_
  have hD := va_D_perm pm_cm hD
  refine r_aload_n C0 dL_law_916 rfl 2 rfl ?_
  refine r_aload_n C0 dL_law_917 rfl 0 rfl ?_
  refine r_iload_n C0 dL_law_918 rfl 3 rfl ?_
  refine r_iconst C0 dL_law_919 ki_1 ?_
  refine r_iadd C0 dL_law_920 ?_
  rw [show Int32.ofNat (6 * j) + 1 = Int32.ofNat (6 * j + 1) from sc_add (k := 1)]
  refine r_sld C0 hX (sc_at hj hX.2.2.2 (by decide)) dL_law_921 ?_
  refine r_aload_n C0 dL_law_922 rfl 0 rfl ?_
  refine r_iload_n C0 dL_law_923 rfl 3 rfl ?_
  refine r_iconst C0 dL_law_924 ki_2 ?_
  refine r_iadd C0 dL_law_925 ?_
  rw [show Int32.ofNat (6 * j) + 2 = Int32.ofNat (6 * j + 2) from sc_add (k := 2)]
  refine r_sld C0 hX (sc_at hj hX.2.2.2 (by decide)) dL_law_926 ?_
  refine r_aload_n C0 dL_law_927 rfl 0 rfl ?_
  refine r_iload_n C0 dL_law_928 rfl 3 rfl ?_
  refine r_iconst C0 dL_law_929 ki_3 ?_
  refine r_iadd C0 dL_law_930 ?_
  rw [show Int32.ofNat (6 * j) + 3 = Int32.ofNat (6 * j + 3) from sc_add (k := 3)]
  refine r_sld C0 hX (sc_at hj hX.2.2.2 (by decide)) dL_law_931 ?_
  refine callVz3 C0 hz hD mw_X12_forge rv_m tm_L_99 (fun z2 hz2 => c_X12_forge hz2) (Nat.le_of_ble_eq_true rfl) (rc_le hrc) (Nat.le_of_ble_eq_true rfl) dL_law_932 ?_
  have hD := dm_of hD z.2
  refine r_permP pm_cm.symm ?_
  have hD := va_D_perm pm_cm.symm hD
  refine r_icmp_eq (T := Unit) (z := ()) (E1 := some ()) (E2 := none) C0 1311 dL_law_935 rfl (if_pos hyz) (fun _ _ => ?_) (fun _ h => by cases h)
  refine r_widen (Nat.le_add_right _ 3) (Nat.le_add_right _ 3750) ?_
  exact hN _ _ _ _ _ _ _ rfl hI2 hdx hD
theorem lc_clear {I : IT} {Γ : Gam} {cy : Nat → ClassId} {a mm : Nat → Nat} {b L j : Nat} {xs : Nat → Int32} {V M : VT} {J : JT} {K : Nat → Option Nat} {X : va_W} {dd : DT} (C0 : CXg Γ cL_law 8 13 RL cy) (hX : SX Γ b L xs) (hj : 6 * j + 6 ≤ L) (hrc : RC Γ j) (hI : I j V J dd M) (hdx : DX cy K X dd) (hD : va_D Γ.2.2.2.2.2.2.2.2.2.2.2.2.1 (WC cy a V J K (WM cy mm M X))) (hN : NX I Γ cy a mm b j) (hO : O_clear I) : Wp Γ (39 + 3 * j) (210633 + 3750 * j) 940 [(0, .ref b), (1, .ref (a 0)), (2, .ref (mm 0)), (3, .int (Int32.ofNat (6 * j)))] [] (WC cy a V J K (WM cy mm M X)) := by
  have hn : j < 512 := by have := hX.2.2.2; omega
  obtain ⟨y, z, hy, hz, hyz, hI2⟩ := hO j V J dd M hn hI
  show Wp Γ (39 + 3 * j) (210633 + 3750 * j) 940 [(0, .ref b), (1, .ref (a 0)), (2, .ref (mm 0)), (3, .int (Int32.ofNat (6 * j)))] [] (WC cy a V J K (WM cy mm M X))
  refine r_aload_n C0 dL_law_940 rfl 1 rfl ?_
  refine callVz0 C0 hy hD mw_X11_clear rv_0 tm_L_100 (fun y2 hy2 => c_X11_clear hy2) (Nat.le_of_ble_eq_true rfl) (rc_le hrc) (Nat.le_of_ble_eq_true rfl) dL_law_941 ?_
  have hD : va_D Γ.2.2.2.2.2.2.2.2.2.2.2.2.1 (WC cy a y.2 J K (WM cy mm M X)) := dc_of hD _ _ _
  refine r_permP pm_cm ?_
  have hD := va_D_perm pm_cm hD
  refine r_aload_n C0 dL_law_944 rfl 2 rfl ?_
  refine callVz0 C0 hz hD mw_X12_clear rv_m tm_L_103 (fun z2 hz2 => c_X12_clear hz2) (Nat.le_of_ble_eq_true rfl) (rc_le hrc) (Nat.le_of_ble_eq_true rfl) dL_law_945 ?_
  have hD := dm_of hD z.2
  refine r_permP pm_cm.symm ?_
  have hD := va_D_perm pm_cm.symm hD
  refine r_icmp_eq (T := Unit) (z := ()) (E1 := some ()) (E2 := none) C0 1311 dL_law_948 rfl (if_pos hyz) (fun _ _ => ?_) (fun _ h => by cases h)
  refine r_widen (Nat.le_add_right _ 3) (Nat.le_add_right _ 3750) ?_
  exact hN _ _ _ _ _ _ _ rfl hI2 hdx hD
theorem lc_check {I : IT} {Γ : Gam} {cy : Nat → ClassId} {a mm : Nat → Nat} {b L j : Nat} {xs : Nat → Int32} {V M : VT} {J : JT} {K : Nat → Option Nat} {X : va_W} {dd : DT} (C0 : CXg Γ cL_law 8 13 RL cy) (hX : SX Γ b L xs) (hj : 6 * j + 6 ≤ L) (hrc : RC Γ j) (hI : I j V J dd M) (hdx : DX cy K X dd) (hD : va_D Γ.2.2.2.2.2.2.2.2.2.2.2.2.1 (WC cy a V J K (WM cy mm M X))) (hN : NX I Γ cy a mm b j) (hO : O_check I) : Wp Γ (39 + 3 * j) (210633 + 3750 * j) 953 [(0, .ref b), (1, .ref (a 0)), (2, .ref (mm 0)), (3, .int (Int32.ofNat (6 * j)))] [] (WC cy a V J K (WM cy mm M X)) := by
  have hn : j < 512 := by have := hX.2.2.2; omega
  obtain ⟨y, z, hy, hz, hyz, hI2⟩ := hO j V J dd M hn hI
  show Wp Γ (39 + 3 * j) (210633 + 3750 * j) 953 [(0, .ref b), (1, .ref (a 0)), (2, .ref (mm 0)), (3, .int (Int32.ofNat (6 * j)))] [] (WC cy a V J K (WM cy mm M X))
  refine r_aload_n C0 dL_law_953 rfl 1 rfl ?_
  refine callVz0 C0 hy hD mw_X11_check rv_0 tm_L_104 (fun y2 hy2 => c_X11_check hy2) (Nat.le_of_ble_eq_true rfl) (rc_le hrc) (Nat.le_of_ble_eq_true rfl) dL_law_954 ?_
  have hD : va_D Γ.2.2.2.2.2.2.2.2.2.2.2.2.1 (WC cy a y.2.1 y.2.2 K (WM cy mm M X)) := dc_of hD _ _ _
  refine r_permP pm_cm ?_
  have hD := va_D_perm pm_cm hD
  refine r_aload_n C0 dL_law_957 rfl 2 rfl ?_
  refine callVz0 C0 hz hD mw_X12_check rv_m tm_L_107 (fun z2 hz2 => c_X12_check hz2) (Nat.le_of_ble_eq_true rfl) (rc_le hrc) (Nat.le_of_ble_eq_true rfl) dL_law_958 ?_
  have hD := dm_of hD z.2
  refine r_permP pm_cm.symm ?_
  have hD := va_D_perm pm_cm.symm hD
  refine r_icmp_eq (T := Unit) (z := ()) (E1 := some ()) (E2 := none) C0 1311 dL_law_961 rfl (if_pos hyz) (fun _ _ => ?_) (fun _ h => by cases h)
  refine r_widen (Nat.le_add_right _ 3) (Nat.le_add_right _ 3750) ?_
  exact hN _ _ _ _ _ _ _ rfl hI2 hdx hD
theorem lc_at {I : IT} {Γ : Gam} {cy : Nat → ClassId} {a mm : Nat → Nat} {b L j : Nat} {xs : Nat → Int32} {V M : VT} {J : JT} {K : Nat → Option Nat} {X : va_W} {dd : DT} (C0 : CXg Γ cL_law 8 13 RL cy) (hX : SX Γ b L xs) (hj : 6 * j + 6 ≤ L) (hrc : RC Γ j) (hI : I j V J dd M) (hdx : DX cy K X dd) (hD : va_D Γ.2.2.2.2.2.2.2.2.2.2.2.2.1 (WC cy a V J K (WM cy mm M X))) (hN : NX I Γ cy a mm b j) (hO : O_at I) : Wp Γ (39 + 3 * j) (210633 + 3750 * j) 966 [(0, .ref b), (1, .ref (a 0)), (2, .ref (mm 0)), (3, .int (Int32.ofNat (6 * j)))] [] (WC cy a V J K (WM cy mm M X)) := by
  have hn : j < 512 := by have := hX.2.2.2; omega
  obtain ⟨y, z, hy, hz, hyz, hI2⟩ := hO j V J dd M (xs (6 * j + 1)) (xs (6 * j + 2)) hn hI
  show Wp Γ (39 + 3 * j) (210633 + 3750 * j) 966 [(0, .ref b), (1, .ref (a 0)), (2, .ref (mm 0)), (3, .int (Int32.ofNat (6 * j)))] [] (WC cy a V J K (WM cy mm M X))
  refine r_aload_n C0 dL_law_966 rfl 1 rfl ?_
  refine r_aload_n C0 dL_law_967 rfl 0 rfl ?_
  refine r_iload_n C0 dL_law_968 rfl 3 rfl ?_
  refine r_iconst C0 dL_law_969 ki_1 ?_
  refine r_iadd C0 dL_law_970 ?_
  rw [show Int32.ofNat (6 * j) + 1 = Int32.ofNat (6 * j + 1) from sc_add (k := 1)]
  refine r_sld C0 hX (sc_at hj hX.2.2.2 (by decide)) dL_law_971 ?_
  refine r_aload_n C0 dL_law_972 rfl 0 rfl ?_
  refine r_iload_n C0 dL_law_973 rfl 3 rfl ?_
  refine r_iconst C0 dL_law_974 ki_2 ?_
  refine r_iadd C0 dL_law_975 ?_
  rw [show Int32.ofNat (6 * j) + 2 = Int32.ofNat (6 * j + 2) from sc_add (k := 2)]
  refine r_sld C0 hX (sc_at hj hX.2.2.2 (by decide)) dL_law_976 ?_
  refine callVz2 C0 hy hD mw_X11_at rv_0 tm_L_108 (fun y2 hy2 => c_X11_at hy2) (Nat.le_of_ble_eq_true rfl) (rc_le hrc) (Nat.le_of_ble_eq_true rfl) dL_law_977 ?_
  have hD : va_D Γ.2.2.2.2.2.2.2.2.2.2.2.2.1 (WC cy a V J K (WM cy mm M X)) := dc_of hD _ _ _
  refine r_permP pm_cm ?_
  have hD := va_D_perm pm_cm hD
  refine r_aload_n C0 dL_law_980 rfl 2 rfl ?_
  refine r_aload_n C0 dL_law_981 rfl 0 rfl ?_
  refine r_iload_n C0 dL_law_982 rfl 3 rfl ?_
  refine r_iconst C0 dL_law_983 ki_1 ?_
  refine r_iadd C0 dL_law_984 ?_
  rw [show Int32.ofNat (6 * j) + 1 = Int32.ofNat (6 * j + 1) from sc_add (k := 1)]
  refine r_sld C0 hX (sc_at hj hX.2.2.2 (by decide)) dL_law_985 ?_
  refine r_aload_n C0 dL_law_986 rfl 0 rfl ?_
  refine r_iload_n C0 dL_law_987 rfl 3 rfl ?_
  refine r_iconst C0 dL_law_988 ki_2 ?_
  refine r_iadd C0 dL_law_989 ?_
  rw [show Int32.ofNat (6 * j) + 2 = Int32.ofNat (6 * j + 2) from sc_add (k := 2)]
  refine r_sld C0 hX (sc_at hj hX.2.2.2 (by decide)) dL_law_990 ?_
  refine callVz2 C0 hz hD mw_X12_at rv_m tm_L_111 (fun z2 hz2 => c_X12_at hz2) (Nat.le_of_ble_eq_true rfl) (rc_le hrc) (Nat.le_of_ble_eq_true rfl) dL_law_991 ?_
  have hD := dm_of hD M
  refine r_permP pm_cm.symm ?_
  have hD := va_D_perm pm_cm.symm hD
  refine r_icmp_eq (T := Unit) (z := ()) (E1 := some ()) (E2 := none) C0 1311 dL_law_994 rfl (if_pos hyz) (fun _ _ => ?_) (fun _ h => by cases h)
  refine r_widen (Nat.le_add_right _ 3) (Nat.le_add_right _ 3750) ?_
  exact hN _ _ _ _ _ _ _ rfl hI2 hdx hD
theorem lc_of {I : IT} {Γ : Gam} {cy : Nat → ClassId} {a mm : Nat → Nat} {b L j : Nat} {xs : Nat → Int32} {V M : VT} {J : JT} {K : Nat → Option Nat} {X : va_W} {dd : DT} (C0 : CXg Γ cL_law 8 13 RL cy) (hX : SX Γ b L xs) (hj : 6 * j + 6 ≤ L) (hrc : RC Γ j) (hI : I j V J dd M) (hdx : DX cy K X dd) (hD : va_D Γ.2.2.2.2.2.2.2.2.2.2.2.2.1 (WC cy a V J K (WM cy mm M X))) (hN : NX I Γ cy a mm b j) (hO : O_of I) : Wp Γ (39 + 3 * j) (210633 + 3750 * j) 999 [(0, .ref b), (1, .ref (a 0)), (2, .ref (mm 0)), (3, .int (Int32.ofNat (6 * j)))] [] (WC cy a V J K (WM cy mm M X)) := by
  have hn : j < 512 := by have := hX.2.2.2; omega
  obtain ⟨y, z, hy, hz, hyz, hI2⟩ := hO j V J dd M (xs (6 * j + 1)) (xs (6 * j + 2)) hn hI
  show Wp Γ (39 + 3 * j) (210633 + 3750 * j) 999 [(0, .ref b), (1, .ref (a 0)), (2, .ref (mm 0)), (3, .int (Int32.ofNat (6 * j)))] [] (WC cy a V J K (WM cy mm M X))
  refine r_aload_n C0 dL_law_999 rfl 1 rfl ?_
  refine r_aload_n C0 dL_law_1000 rfl 0 rfl ?_
  refine r_iload_n C0 dL_law_1001 rfl 3 rfl ?_
  refine r_iconst C0 dL_law_1002 ki_1 ?_
  refine r_iadd C0 dL_law_1003 ?_
  rw [show Int32.ofNat (6 * j) + 1 = Int32.ofNat (6 * j + 1) from sc_add (k := 1)]
  refine r_sld C0 hX (sc_at hj hX.2.2.2 (by decide)) dL_law_1004 ?_
  refine r_aload_n C0 dL_law_1005 rfl 0 rfl ?_
  refine r_iload_n C0 dL_law_1006 rfl 3 rfl ?_
  refine r_iconst C0 dL_law_1007 ki_2 ?_
  refine r_iadd C0 dL_law_1008 ?_
  rw [show Int32.ofNat (6 * j) + 2 = Int32.ofNat (6 * j + 2) from sc_add (k := 2)]
  refine r_sld C0 hX (sc_at hj hX.2.2.2 (by decide)) dL_law_1009 ?_
  refine callVz2 C0 hy hD mw_X11_of rv_0 tm_L_112 (fun y2 hy2 => c_X11_of hy2) (Nat.le_of_ble_eq_true rfl) (rc_le hrc) (Nat.le_of_ble_eq_true rfl) dL_law_1010 ?_
  have hD : va_D Γ.2.2.2.2.2.2.2.2.2.2.2.2.1 (WC cy a V J K (WM cy mm M X)) := dc_of hD _ _ _
  refine r_permP pm_cm ?_
  have hD := va_D_perm pm_cm hD
  refine r_aload_n C0 dL_law_1013 rfl 2 rfl ?_
  refine r_aload_n C0 dL_law_1014 rfl 0 rfl ?_
  refine r_iload_n C0 dL_law_1015 rfl 3 rfl ?_
  refine r_iconst C0 dL_law_1016 ki_1 ?_
  refine r_iadd C0 dL_law_1017 ?_
  rw [show Int32.ofNat (6 * j) + 1 = Int32.ofNat (6 * j + 1) from sc_add (k := 1)]
  refine r_sld C0 hX (sc_at hj hX.2.2.2 (by decide)) dL_law_1018 ?_
  refine r_aload_n C0 dL_law_1019 rfl 0 rfl ?_
  refine r_iload_n C0 dL_law_1020 rfl 3 rfl ?_
  refine r_iconst C0 dL_law_1021 ki_2 ?_
  refine r_iadd C0 dL_law_1022 ?_
  rw [show Int32.ofNat (6 * j) + 2 = Int32.ofNat (6 * j + 2) from sc_add (k := 2)]
  refine r_sld C0 hX (sc_at hj hX.2.2.2 (by decide)) dL_law_1023 ?_
  refine callVz2 C0 hz hD mw_X12_of rv_m tm_L_115 (fun z2 hz2 => c_X12_of hz2) (Nat.le_of_ble_eq_true rfl) (rc_le hrc) (Nat.le_of_ble_eq_true rfl) dL_law_1024 ?_
  have hD := dm_of hD M
  refine r_permP pm_cm.symm ?_
  have hD := va_D_perm pm_cm.symm hD
  refine r_icmp_eq (T := Unit) (z := ()) (E1 := some ()) (E2 := none) C0 1311 dL_law_1027 rfl (if_pos hyz) (fun _ _ => ?_) (fun _ h => by cases h)
  refine r_widen (Nat.le_add_right _ 3) (Nat.le_add_right _ 3750) ?_
  exact hN _ _ _ _ _ _ _ rfl hI2 hdx hD
theorem lc_barOf {I : IT} {Γ : Gam} {cy : Nat → ClassId} {a mm : Nat → Nat} {b L j : Nat} {xs : Nat → Int32} {V M : VT} {J : JT} {K : Nat → Option Nat} {X : va_W} {dd : DT} (C0 : CXg Γ cL_law 8 13 RL cy) (hX : SX Γ b L xs) (hj : 6 * j + 6 ≤ L) (hrc : RC Γ j) (hI : I j V J dd M) (hdx : DX cy K X dd) (hD : va_D Γ.2.2.2.2.2.2.2.2.2.2.2.2.1 (WC cy a V J K (WM cy mm M X))) (hN : NX I Γ cy a mm b j) (hO : O_barOf I) : Wp Γ (39 + 3 * j) (210633 + 3750 * j) 1032 [(0, .ref b), (1, .ref (a 0)), (2, .ref (mm 0)), (3, .int (Int32.ofNat (6 * j)))] [] (WC cy a V J K (WM cy mm M X)) := by
  have hn : j < 512 := by have := hX.2.2.2; omega
  obtain ⟨y, z, hy, hz, hyz, hI2⟩ := hO j V J dd M (xs (6 * j + 1)) (xs (6 * j + 2)) hn hI
  show Wp Γ (39 + 3 * j) (210633 + 3750 * j) 1032 [(0, .ref b), (1, .ref (a 0)), (2, .ref (mm 0)), (3, .int (Int32.ofNat (6 * j)))] [] (WC cy a V J K (WM cy mm M X))
  refine r_aload_n C0 dL_law_1032 rfl 1 rfl ?_
  refine r_aload_n C0 dL_law_1033 rfl 0 rfl ?_
  refine r_iload_n C0 dL_law_1034 rfl 3 rfl ?_
  refine r_iconst C0 dL_law_1035 ki_1 ?_
  refine r_iadd C0 dL_law_1036 ?_
  rw [show Int32.ofNat (6 * j) + 1 = Int32.ofNat (6 * j + 1) from sc_add (k := 1)]
  refine r_sld C0 hX (sc_at hj hX.2.2.2 (by decide)) dL_law_1037 ?_
  refine r_aload_n C0 dL_law_1038 rfl 0 rfl ?_
  refine r_iload_n C0 dL_law_1039 rfl 3 rfl ?_
  refine r_iconst C0 dL_law_1040 ki_2 ?_
  refine r_iadd C0 dL_law_1041 ?_
  rw [show Int32.ofNat (6 * j) + 2 = Int32.ofNat (6 * j + 2) from sc_add (k := 2)]
  refine r_sld C0 hX (sc_at hj hX.2.2.2 (by decide)) dL_law_1042 ?_
  refine callVz2 C0 hy hD mw_X11_barOf rv_0 tm_L_116 (fun y2 hy2 => c_X11_barOf hy2) (Nat.le_of_ble_eq_true rfl) (rc_le hrc) (Nat.le_of_ble_eq_true rfl) dL_law_1043 ?_
  have hD : va_D Γ.2.2.2.2.2.2.2.2.2.2.2.2.1 (WC cy a y.2.1 y.2.2 K (WM cy mm M X)) := dc_of hD _ _ _
  refine r_permP pm_cm ?_
  have hD := va_D_perm pm_cm hD
  refine r_aload_n C0 dL_law_1046 rfl 2 rfl ?_
  refine r_aload_n C0 dL_law_1047 rfl 0 rfl ?_
  refine r_iload_n C0 dL_law_1048 rfl 3 rfl ?_
  refine r_iconst C0 dL_law_1049 ki_1 ?_
  refine r_iadd C0 dL_law_1050 ?_
  rw [show Int32.ofNat (6 * j) + 1 = Int32.ofNat (6 * j + 1) from sc_add (k := 1)]
  refine r_sld C0 hX (sc_at hj hX.2.2.2 (by decide)) dL_law_1051 ?_
  refine r_aload_n C0 dL_law_1052 rfl 0 rfl ?_
  refine r_iload_n C0 dL_law_1053 rfl 3 rfl ?_
  refine r_iconst C0 dL_law_1054 ki_2 ?_
  refine r_iadd C0 dL_law_1055 ?_
  rw [show Int32.ofNat (6 * j) + 2 = Int32.ofNat (6 * j + 2) from sc_add (k := 2)]
  refine r_sld C0 hX (sc_at hj hX.2.2.2 (by decide)) dL_law_1056 ?_
  refine callVz2 C0 hz hD mw_X12_barOf rv_m tm_L_119 (fun z2 hz2 => c_X12_barOf hz2) (Nat.le_of_ble_eq_true rfl) (rc_le hrc) (Nat.le_of_ble_eq_true rfl) dL_law_1057 ?_
  have hD := dm_of hD M
  refine r_permP pm_cm.symm ?_
  have hD := va_D_perm pm_cm.symm hD
  refine r_icmp_eq (T := Unit) (z := ()) (E1 := some ()) (E2 := none) C0 1311 dL_law_1060 rfl (if_pos hyz) (fun _ _ => ?_) (fun _ h => by cases h)
  refine r_widen (Nat.le_add_right _ 3) (Nat.le_add_right _ 3750) ?_
  exact hN _ _ _ _ _ _ _ rfl hI2 hdx hD
theorem lc_load {I : IT} {Γ : Gam} {cy : Nat → ClassId} {a mm : Nat → Nat} {b L j : Nat} {xs : Nat → Int32} {V M : VT} {J : JT} {K : Nat → Option Nat} {X : va_W} {dd : DT} (C0 : CXg Γ cL_law 8 13 RL cy) (hX : SX Γ b L xs) (hj : 6 * j + 6 ≤ L) (hrc : RC Γ j) (hI : I j V J dd M) (hdx : DX cy K X dd) (hD : va_D Γ.2.2.2.2.2.2.2.2.2.2.2.2.1 (WC cy a V J K (WM cy mm M X))) (hN : NX I Γ cy a mm b j) (hO : O_load I) : Wp Γ (39 + 3 * j) (210633 + 3750 * j) 1065 [(0, .ref b), (1, .ref (a 0)), (2, .ref (mm 0)), (3, .int (Int32.ofNat (6 * j)))] [] (WC cy a V J K (WM cy mm M X)) := by
  have hn : j < 512 := by have := hX.2.2.2; omega
  obtain ⟨y, z, hy, hz, hyz, hI2⟩ := hO j V J dd M (xs (6 * j + 1)) hn hI
  show Wp Γ (39 + 3 * j) (210633 + 3750 * j) 1065 [(0, .ref b), (1, .ref (a 0)), (2, .ref (mm 0)), (3, .int (Int32.ofNat (6 * j)))] [] (WC cy a V J K (WM cy mm M X))
  refine r_aload_n C0 dL_law_1065 rfl 1 rfl ?_
  refine r_aload_n C0 dL_law_1066 rfl 0 rfl ?_
  refine r_iload_n C0 dL_law_1067 rfl 3 rfl ?_
  refine r_iconst C0 dL_law_1068 ki_1 ?_
  refine r_iadd C0 dL_law_1069 ?_
  rw [show Int32.ofNat (6 * j) + 1 = Int32.ofNat (6 * j + 1) from sc_add (k := 1)]
  refine r_sld C0 hX (sc_at hj hX.2.2.2 (by decide)) dL_law_1070 ?_
  refine callVz1 C0 hy hD mw_X11_load rv_0 tm_L_120 (fun y2 hy2 => c_X11_load hy2) (Nat.le_of_ble_eq_true rfl) (rc_le hrc) (Nat.le_of_ble_eq_true rfl) dL_law_1071 ?_
  have hD : va_D Γ.2.2.2.2.2.2.2.2.2.2.2.2.1 (WC cy a V J K (WM cy mm M X)) := dc_of hD _ _ _
  refine r_permP pm_cm ?_
  have hD := va_D_perm pm_cm hD
  refine r_dstore (lv2 := [(4, .double y), (0, .ref b), (1, .ref (a 0)), (2, .ref (mm 0)), (3, .int (Int32.ofNat (6 * j)))]) C0 dL_law_1074 (Nat.le_of_ble_eq_true rfl) rfl ?_
  refine r_aload_n C0 dL_law_1076 rfl 3 rfl ?_
  refine r_aload_n C0 dL_law_1077 rfl 1 rfl ?_
  refine r_iload_n C0 dL_law_1078 rfl 4 rfl ?_
  refine r_iconst C0 dL_law_1079 ki_1 ?_
  refine r_iadd C0 dL_law_1080 ?_
  rw [show Int32.ofNat (6 * j) + 1 = Int32.ofNat (6 * j + 1) from sc_add (k := 1)]
  refine r_sld C0 hX (sc_at hj hX.2.2.2 (by decide)) dL_law_1081 ?_
  refine callVz1 C0 hz hD mw_X12_load rv_m tm_L_124 (fun z2 hz2 => c_X12_load hz2) (Nat.le_of_ble_eq_true rfl) (rc_le hrc) (Nat.le_of_ble_eq_true rfl) dL_law_1082 ?_
  have hD := dm_of hD M
  refine r_permP pm_cm.symm ?_
  have hD := va_D_perm pm_cm.symm hD
  refine r_dstore (lv2 := [(6, .double z), (4, .double y), (0, .ref b), (1, .ref (a 0)), (2, .ref (mm 0)), (3, .int (Int32.ofNat (6 * j)))]) C0 dL_law_1085 (Nat.le_of_ble_eq_true rfl) rfl ?_
  obtain rfl : y = z := hyz
  refine r_dload C0 dL_law_1087 1 rfl ?_
  refine r_dload C0 dL_law_1089 0 rfl ?_
  refine r_dcmp C0 dL_law_1091 ?_
  by_cases hu : Op.cmpValue (FP.dcmp y y) .l = 0
  · refine r_if_eq (T := Unit) (z := ()) (E1 := some ()) (E2 := none) C0 1113 dL_law_1092 rfl (if_pos hu) (fun _ _ => ?_) (fun _ h => by cases h)
    refine r_goto C0 1311 dL_law_1113 rfl ?_
    refine r_widen (Nat.le_add_right _ 3) (Nat.le_add_right _ 3750) ?_
    exact r_sub [2, 3, 4, 5] rfl (hN _ _ _ _ _ _ _ rfl hI2 hdx hD)
  · refine r_if_eq (T := Unit) (z := ()) (E1 := none) (E2 := some ()) C0 1113 dL_law_1092 rfl (if_neg hu) (fun _ h => by cases h) (fun _ _ => ?_)
    refine r_dload C0 dL_law_1095 1 rfl ?_
    refine r_dload C0 dL_law_1097 1 rfl ?_
    refine r_dcmp C0 dL_law_1099 ?_
    refine r_if_eq (T := Unit) (z := ()) (E1 := none) (E2 := some ()) C0 1111 dL_law_1100 rfl (if_neg hu) (fun _ h => by cases h) (fun _ _ => ?_)
    refine r_dload C0 dL_law_1103 0 rfl ?_
    refine r_dload C0 dL_law_1105 0 rfl ?_
    refine r_dcmp C0 dL_law_1107 ?_
    refine r_if_ne (T := Unit) (z := ()) (E1 := none) (E2 := some ()) C0 1113 dL_law_1108 rfl (if_neg hu) (fun _ _ => ?_) (fun _ h => by cases h)
    refine r_goto C0 1311 dL_law_1113 rfl ?_
    refine r_widen (Nat.le_add_right _ 3) (Nat.le_add_right _ 3750) ?_
    exact r_sub [2, 3, 4, 5] rfl (hN _ _ _ _ _ _ _ rfl hI2 hdx hD)
theorem lc_share {I : IT} {Γ : Gam} {cy : Nat → ClassId} {a mm : Nat → Nat} {b L j : Nat} {xs : Nat → Int32} {V M : VT} {J : JT} {K : Nat → Option Nat} {X : va_W} {dd : DT} (C0 : CXg Γ cL_law 8 13 RL cy) (hX : SX Γ b L xs) (hj : 6 * j + 6 ≤ L) (hrc : RC Γ j) (hI : I j V J dd M) (hdx : DX cy K X dd) (hD : va_D Γ.2.2.2.2.2.2.2.2.2.2.2.2.1 (WC cy a V J K (WM cy mm M X))) (hN : NX I Γ cy a mm b j) (hO : O_share I) : Wp Γ (39 + 3 * j) (210633 + 3750 * j) 1116 [(0, .ref b), (1, .ref (a 0)), (2, .ref (mm 0)), (3, .int (Int32.ofNat (6 * j)))] [] (WC cy a V J K (WM cy mm M X)) := by
  have hn : j < 512 := by have := hX.2.2.2; omega
  obtain ⟨y, z, hy, hz, hyz, hI2⟩ := hO j V J dd M (xs (6 * j + 1)) hn hI
  show Wp Γ (39 + 3 * j) (210633 + 3750 * j) 1116 [(0, .ref b), (1, .ref (a 0)), (2, .ref (mm 0)), (3, .int (Int32.ofNat (6 * j)))] [] (WC cy a V J K (WM cy mm M X))
  refine r_aload_n C0 dL_law_1116 rfl 1 rfl ?_
  refine r_aload_n C0 dL_law_1117 rfl 0 rfl ?_
  refine r_iload_n C0 dL_law_1118 rfl 3 rfl ?_
  refine r_iconst C0 dL_law_1119 ki_1 ?_
  refine r_iadd C0 dL_law_1120 ?_
  rw [show Int32.ofNat (6 * j) + 1 = Int32.ofNat (6 * j + 1) from sc_add (k := 1)]
  refine r_sld C0 hX (sc_at hj hX.2.2.2 (by decide)) dL_law_1121 ?_
  refine callVz1 C0 hy hD mw_X11_share rv_0 tm_L_125 (fun y2 hy2 => c_X11_share hy2) (Nat.le_of_ble_eq_true rfl) (rc_le hrc) (Nat.le_of_ble_eq_true rfl) dL_law_1122 ?_
  have hD : va_D Γ.2.2.2.2.2.2.2.2.2.2.2.2.1 (WC cy a y.2.1 y.2.2 K (WM cy mm M X)) := dc_of hD _ _ _
  refine r_permP pm_cm ?_
  have hD := va_D_perm pm_cm hD
  refine r_aload_n C0 dL_law_1125 rfl 2 rfl ?_
  refine r_aload_n C0 dL_law_1126 rfl 0 rfl ?_
  refine r_iload_n C0 dL_law_1127 rfl 3 rfl ?_
  refine r_iconst C0 dL_law_1128 ki_1 ?_
  refine r_iadd C0 dL_law_1129 ?_
  rw [show Int32.ofNat (6 * j) + 1 = Int32.ofNat (6 * j + 1) from sc_add (k := 1)]
  refine r_sld C0 hX (sc_at hj hX.2.2.2 (by decide)) dL_law_1130 ?_
  refine callVz1 C0 hz hD mw_X12_share rv_m tm_L_129 (fun z2 hz2 => c_X12_share hz2) (Nat.le_of_ble_eq_true rfl) (rc_le hrc) (Nat.le_of_ble_eq_true rfl) dL_law_1131 ?_
  have hD := dm_of hD M
  refine r_permP pm_cm.symm ?_
  have hD := va_D_perm pm_cm.symm hD
  refine r_lcmp C0 dL_law_1134 ?_
  refine r_if_eq (T := Unit) (z := ()) (E1 := some ()) (E2 := none) C0 1311 dL_law_1135 rfl (if_pos (by rw [hyz]; exact lg_self _)) (fun _ _ => ?_) (fun _ h => by cases h)
  refine r_widen (Nat.le_add_right _ 3) (Nat.le_add_right _ 3750) ?_
  exact hN _ _ _ _ _ _ _ rfl hI2 hdx hD
theorem lc_strength {I : IT} {Γ : Gam} {cy : Nat → ClassId} {a mm : Nat → Nat} {b L j : Nat} {xs : Nat → Int32} {V M : VT} {J : JT} {K : Nat → Option Nat} {X : va_W} {dd : DT} (C0 : CXg Γ cL_law 8 13 RL cy) (hX : SX Γ b L xs) (hj : 6 * j + 6 ≤ L) (hrc : RC Γ j) (hI : I j V J dd M) (hdx : DX cy K X dd) (hD : va_D Γ.2.2.2.2.2.2.2.2.2.2.2.2.1 (WC cy a V J K (WM cy mm M X))) (hN : NX I Γ cy a mm b j) (hO : O_strength I) : Wp Γ (39 + 3 * j) (210633 + 3750 * j) 1140 [(0, .ref b), (1, .ref (a 0)), (2, .ref (mm 0)), (3, .int (Int32.ofNat (6 * j)))] [] (WC cy a V J K (WM cy mm M X)) := by
  have hn : j < 512 := by have := hX.2.2.2; omega
  obtain ⟨y, z, hy, hz, hyz, hI2⟩ := hO j V J dd M (xs (6 * j + 1)) hn hI
  show Wp Γ (39 + 3 * j) (210633 + 3750 * j) 1140 [(0, .ref b), (1, .ref (a 0)), (2, .ref (mm 0)), (3, .int (Int32.ofNat (6 * j)))] [] (WC cy a V J K (WM cy mm M X))
  refine r_aload_n C0 dL_law_1140 rfl 1 rfl ?_
  refine r_aload_n C0 dL_law_1141 rfl 0 rfl ?_
  refine r_iload_n C0 dL_law_1142 rfl 3 rfl ?_
  refine r_iconst C0 dL_law_1143 ki_1 ?_
  refine r_iadd C0 dL_law_1144 ?_
  rw [show Int32.ofNat (6 * j) + 1 = Int32.ofNat (6 * j + 1) from sc_add (k := 1)]
  refine r_sld C0 hX (sc_at hj hX.2.2.2 (by decide)) dL_law_1145 ?_
  refine callVz1 C0 hy hD mw_X11_strength rv_0 tm_L_130 (fun y2 hy2 => c_X11_strength hy2) (Nat.le_of_ble_eq_true rfl) (rc_le hrc) (Nat.le_of_ble_eq_true rfl) dL_law_1146 ?_
  have hD : va_D Γ.2.2.2.2.2.2.2.2.2.2.2.2.1 (WC cy a V J K (WM cy mm M X)) := dc_of hD _ _ _
  refine r_permP pm_cm ?_
  have hD := va_D_perm pm_cm hD
  refine r_aload_n C0 dL_law_1149 rfl 2 rfl ?_
  refine r_aload_n C0 dL_law_1150 rfl 0 rfl ?_
  refine r_iload_n C0 dL_law_1151 rfl 3 rfl ?_
  refine r_iconst C0 dL_law_1152 ki_1 ?_
  refine r_iadd C0 dL_law_1153 ?_
  rw [show Int32.ofNat (6 * j) + 1 = Int32.ofNat (6 * j + 1) from sc_add (k := 1)]
  refine r_sld C0 hX (sc_at hj hX.2.2.2 (by decide)) dL_law_1154 ?_
  refine callVz1 C0 hz hD mw_X12_strength rv_m tm_L_133 (fun z2 hz2 => c_X12_strength hz2) (Nat.le_of_ble_eq_true rfl) (rc_le hrc) (Nat.le_of_ble_eq_true rfl) dL_law_1155 ?_
  have hD := dm_of hD M
  refine r_permP pm_cm.symm ?_
  have hD := va_D_perm pm_cm.symm hD
  refine r_icmp_eq (T := Unit) (z := ()) (E1 := some ()) (E2 := none) C0 1311 dL_law_1158 rfl (if_pos hyz) (fun _ _ => ?_) (fun _ h => by cases h)
  refine r_widen (Nat.le_add_right _ 3) (Nat.le_add_right _ 3750) ?_
  exact hN _ _ _ _ _ _ _ rfl hI2 hdx hD
theorem lc_even {I : IT} {Γ : Gam} {cy : Nat → ClassId} {a mm : Nat → Nat} {b L j : Nat} {xs : Nat → Int32} {V M : VT} {J : JT} {K : Nat → Option Nat} {X : va_W} {dd : DT} (C0 : CXg Γ cL_law 8 13 RL cy) (hX : SX Γ b L xs) (hj : 6 * j + 6 ≤ L) (hrc : RC Γ j) (hI : I j V J dd M) (hdx : DX cy K X dd) (hD : va_D Γ.2.2.2.2.2.2.2.2.2.2.2.2.1 (WC cy a V J K (WM cy mm M X))) (hN : NX I Γ cy a mm b j) (hO : O_even I) : Wp Γ (39 + 3 * j) (210633 + 3750 * j) 1163 [(0, .ref b), (1, .ref (a 0)), (2, .ref (mm 0)), (3, .int (Int32.ofNat (6 * j)))] [] (WC cy a V J K (WM cy mm M X)) := by
  have hn : j < 512 := by have := hX.2.2.2; omega
  obtain ⟨y, z, hy, hz, hyz, hI2⟩ := hO j V J dd M (xs (6 * j + 1)) hn hI
  show Wp Γ (39 + 3 * j) (210633 + 3750 * j) 1163 [(0, .ref b), (1, .ref (a 0)), (2, .ref (mm 0)), (3, .int (Int32.ofNat (6 * j)))] [] (WC cy a V J K (WM cy mm M X))
  refine r_aload_n C0 dL_law_1163 rfl 1 rfl ?_
  refine r_aload_n C0 dL_law_1164 rfl 0 rfl ?_
  refine r_iload_n C0 dL_law_1165 rfl 3 rfl ?_
  refine r_iconst C0 dL_law_1166 ki_1 ?_
  refine r_iadd C0 dL_law_1167 ?_
  rw [show Int32.ofNat (6 * j) + 1 = Int32.ofNat (6 * j + 1) from sc_add (k := 1)]
  refine r_sld C0 hX (sc_at hj hX.2.2.2 (by decide)) dL_law_1168 ?_
  refine callVz1 C0 hy hD mw_X11_even rv_0 tm_L_134 (fun y2 hy2 => c_X11_even hy2) (Nat.le_of_ble_eq_true rfl) (rc_le hrc) (Nat.le_of_ble_eq_true rfl) dL_law_1169 ?_
  have hD : va_D Γ.2.2.2.2.2.2.2.2.2.2.2.2.1 (WC cy a V J K (WM cy mm M X)) := dc_of hD _ _ _
  refine r_permP pm_cm ?_
  have hD := va_D_perm pm_cm hD
  refine r_aload_n C0 dL_law_1172 rfl 2 rfl ?_
  refine r_aload_n C0 dL_law_1173 rfl 0 rfl ?_
  refine r_iload_n C0 dL_law_1174 rfl 3 rfl ?_
  refine r_iconst C0 dL_law_1175 ki_1 ?_
  refine r_iadd C0 dL_law_1176 ?_
  rw [show Int32.ofNat (6 * j) + 1 = Int32.ofNat (6 * j + 1) from sc_add (k := 1)]
  refine r_sld C0 hX (sc_at hj hX.2.2.2 (by decide)) dL_law_1177 ?_
  refine callVz1 C0 hz hD mw_X12_even rv_m tm_L_137 (fun z2 hz2 => c_X12_even hz2) (Nat.le_of_ble_eq_true rfl) (rc_le hrc) (Nat.le_of_ble_eq_true rfl) dL_law_1178 ?_
  have hD := dm_of hD M
  refine r_permP pm_cm.symm ?_
  have hD := va_D_perm pm_cm.symm hD
  refine r_icmp_eq (T := Unit) (z := ()) (E1 := some ()) (E2 := none) C0 1311 dL_law_1181 rfl (if_pos hyz) (fun _ _ => ?_) (fun _ h => by cases h)
  refine r_widen (Nat.le_add_right _ 3) (Nat.le_add_right _ 3750) ?_
  exact hN _ _ _ _ _ _ _ rfl hI2 hdx hD
theorem lc_least {I : IT} {Γ : Gam} {cy : Nat → ClassId} {a mm : Nat → Nat} {b L j : Nat} {xs : Nat → Int32} {V M : VT} {J : JT} {K : Nat → Option Nat} {X : va_W} {dd : DT} (C0 : CXg Γ cL_law 8 13 RL cy) (hX : SX Γ b L xs) (hj : 6 * j + 6 ≤ L) (hrc : RC Γ j) (hI : I j V J dd M) (hdx : DX cy K X dd) (hD : va_D Γ.2.2.2.2.2.2.2.2.2.2.2.2.1 (WC cy a V J K (WM cy mm M X))) (hN : NX I Γ cy a mm b j) (hO : O_least I) : Wp Γ (39 + 3 * j) (210633 + 3750 * j) 1186 [(0, .ref b), (1, .ref (a 0)), (2, .ref (mm 0)), (3, .int (Int32.ofNat (6 * j)))] [] (WC cy a V J K (WM cy mm M X)) := by
  have hn : j < 512 := by have := hX.2.2.2; omega
  obtain ⟨y, z, hy, hz, hyz, hI2⟩ := hO j V J dd M hn hI
  show Wp Γ (39 + 3 * j) (210633 + 3750 * j) 1186 [(0, .ref b), (1, .ref (a 0)), (2, .ref (mm 0)), (3, .int (Int32.ofNat (6 * j)))] [] (WC cy a V J K (WM cy mm M X))
  refine r_aload_n C0 dL_law_1186 rfl 1 rfl ?_
  refine callVz0 C0 hy hD mw_X11_least rv_0 tm_L_138 (fun y2 hy2 => c_X11_least hy2) (Nat.le_of_ble_eq_true rfl) (rc_le hrc) (Nat.le_of_ble_eq_true rfl) dL_law_1187 ?_
  have hD : va_D Γ.2.2.2.2.2.2.2.2.2.2.2.2.1 (WC cy a V J K (WM cy mm M X)) := dc_of hD _ _ _
  refine r_permP pm_cm ?_
  have hD := va_D_perm pm_cm hD
  refine r_aload_n C0 dL_law_1190 rfl 2 rfl ?_
  refine callVz0 C0 hz hD mw_X12_least rv_m tm_L_141 (fun z2 hz2 => c_X12_least hz2) (Nat.le_of_ble_eq_true rfl) (rc_le hrc) (Nat.le_of_ble_eq_true rfl) dL_law_1191 ?_
  have hD := dm_of hD M
  refine r_permP pm_cm.symm ?_
  have hD := va_D_perm pm_cm.symm hD
  refine r_icmp_eq (T := Unit) (z := ()) (E1 := some ()) (E2 := none) C0 1311 dL_law_1194 rfl (if_pos hyz) (fun _ _ => ?_) (fun _ h => by cases h)
  refine r_widen (Nat.le_add_right _ 3) (Nat.le_add_right _ 3750) ?_
  exact hN _ _ _ _ _ _ _ rfl hI2 hdx hD
theorem lc_stop {I : IT} {Γ : Gam} {cy : Nat → ClassId} {a mm : Nat → Nat} {b L j : Nat} {xs : Nat → Int32} {V M : VT} {J : JT} {K : Nat → Option Nat} {X : va_W} {dd : DT} (C0 : CXg Γ cL_law 8 13 RL cy) (hX : SX Γ b L xs) (hj : 6 * j + 6 ≤ L) (hrc : RC Γ j) (hI : I j V J dd M) (hdx : DX cy K X dd) (hD : va_D Γ.2.2.2.2.2.2.2.2.2.2.2.2.1 (WC cy a V J K (WM cy mm M X))) (hN : NX I Γ cy a mm b j) (hO : O_stop I) : Wp Γ (39 + 3 * j) (210633 + 3750 * j) 1199 [(0, .ref b), (1, .ref (a 0)), (2, .ref (mm 0)), (3, .int (Int32.ofNat (6 * j)))] [] (WC cy a V J K (WM cy mm M X)) := by
  have hn : j < 512 := by have := hX.2.2.2; omega
  obtain ⟨y, z, hy, hz, hyz, hI2⟩ := hO j V J dd M (xs (6 * j + 1)) (xs (6 * j + 2)) hn hI
  show Wp Γ (39 + 3 * j) (210633 + 3750 * j) 1199 [(0, .ref b), (1, .ref (a 0)), (2, .ref (mm 0)), (3, .int (Int32.ofNat (6 * j)))] [] (WC cy a V J K (WM cy mm M X))
  refine r_aload_n C0 dL_law_1199 rfl 1 rfl ?_
  refine r_aload_n C0 dL_law_1200 rfl 0 rfl ?_
  refine r_iload_n C0 dL_law_1201 rfl 3 rfl ?_
  refine r_iconst C0 dL_law_1202 ki_1 ?_
  refine r_iadd C0 dL_law_1203 ?_
  rw [show Int32.ofNat (6 * j) + 1 = Int32.ofNat (6 * j + 1) from sc_add (k := 1)]
  refine r_sld C0 hX (sc_at hj hX.2.2.2 (by decide)) dL_law_1204 ?_
  refine r_aload_n C0 dL_law_1205 rfl 0 rfl ?_
  refine r_iload_n C0 dL_law_1206 rfl 3 rfl ?_
  refine r_iconst C0 dL_law_1207 ki_2 ?_
  refine r_iadd C0 dL_law_1208 ?_
  rw [show Int32.ofNat (6 * j) + 2 = Int32.ofNat (6 * j + 2) from sc_add (k := 2)]
  refine r_sld C0 hX (sc_at hj hX.2.2.2 (by decide)) dL_law_1209 ?_
  refine callVz2 C0 hy hD mw_X11_stop rv_0 tm_L_142 (fun y2 hy2 => c_X11_stop hy2) (Nat.le_of_ble_eq_true rfl) (rc_le hrc) (Nat.le_of_ble_eq_true rfl) dL_law_1210 ?_
  have hD : va_D Γ.2.2.2.2.2.2.2.2.2.2.2.2.1 (WC cy a V J K (WM cy mm M X)) := dc_of hD _ _ _
  refine r_permP pm_cm ?_
  have hD := va_D_perm pm_cm hD
  refine r_aload_n C0 dL_law_1213 rfl 2 rfl ?_
  refine r_aload_n C0 dL_law_1214 rfl 0 rfl ?_
  refine r_iload_n C0 dL_law_1215 rfl 3 rfl ?_
  refine r_iconst C0 dL_law_1216 ki_1 ?_
  refine r_iadd C0 dL_law_1217 ?_
  rw [show Int32.ofNat (6 * j) + 1 = Int32.ofNat (6 * j + 1) from sc_add (k := 1)]
  refine r_sld C0 hX (sc_at hj hX.2.2.2 (by decide)) dL_law_1218 ?_
  refine r_aload_n C0 dL_law_1219 rfl 0 rfl ?_
  refine r_iload_n C0 dL_law_1220 rfl 3 rfl ?_
  refine r_iconst C0 dL_law_1221 ki_2 ?_
  refine r_iadd C0 dL_law_1222 ?_
  rw [show Int32.ofNat (6 * j) + 2 = Int32.ofNat (6 * j + 2) from sc_add (k := 2)]
  refine r_sld C0 hX (sc_at hj hX.2.2.2 (by decide)) dL_law_1223 ?_
  refine callVz2 C0 hz hD mw_X12_stop rv_m tm_L_145 (fun z2 hz2 => c_X12_stop hz2) (Nat.le_of_ble_eq_true rfl) (rc_le hrc) (Nat.le_of_ble_eq_true rfl) dL_law_1224 ?_
  have hD := dm_of hD M
  refine r_permP pm_cm.symm ?_
  have hD := va_D_perm pm_cm.symm hD
  refine r_icmp_eq (T := Unit) (z := ()) (E1 := some ()) (E2 := none) C0 1311 dL_law_1227 rfl (if_pos hyz) (fun _ _ => ?_) (fun _ h => by cases h)
  refine r_widen (Nat.le_add_right _ 3) (Nat.le_add_right _ 3750) ?_
  exact hN _ _ _ _ _ _ _ rfl hI2 hdx hD
theorem lc_cueOf {I : IT} {Γ : Gam} {cy : Nat → ClassId} {a mm : Nat → Nat} {b L j : Nat} {xs : Nat → Int32} {V M : VT} {J : JT} {K : Nat → Option Nat} {X : va_W} {dd : DT} (C0 : CXg Γ cL_law 8 13 RL cy) (hX : SX Γ b L xs) (hj : 6 * j + 6 ≤ L) (hrc : RC Γ j) (hI : I j V J dd M) (hdx : DX cy K X dd) (hD : va_D Γ.2.2.2.2.2.2.2.2.2.2.2.2.1 (WC cy a V J K (WM cy mm M X))) (hN : NX I Γ cy a mm b j) (hO : O_cueOf I) : Wp Γ (39 + 3 * j) (210633 + 3750 * j) 1232 [(0, .ref b), (1, .ref (a 0)), (2, .ref (mm 0)), (3, .int (Int32.ofNat (6 * j)))] [] (WC cy a V J K (WM cy mm M X)) := by
  have hn : j < 512 := by have := hX.2.2.2; omega
  obtain ⟨y, z, hy, hz, hyz, hI2⟩ := hO j V J dd M (xs (6 * j + 1)) (xs (6 * j + 2)) hn hI
  show Wp Γ (39 + 3 * j) (210633 + 3750 * j) 1232 [(0, .ref b), (1, .ref (a 0)), (2, .ref (mm 0)), (3, .int (Int32.ofNat (6 * j)))] [] (WC cy a V J K (WM cy mm M X))
  refine r_aload_n C0 dL_law_1232 rfl 1 rfl ?_
  refine r_aload_n C0 dL_law_1233 rfl 0 rfl ?_
  refine r_iload_n C0 dL_law_1234 rfl 3 rfl ?_
  refine r_iconst C0 dL_law_1235 ki_1 ?_
  refine r_iadd C0 dL_law_1236 ?_
  rw [show Int32.ofNat (6 * j) + 1 = Int32.ofNat (6 * j + 1) from sc_add (k := 1)]
  refine r_sld C0 hX (sc_at hj hX.2.2.2 (by decide)) dL_law_1237 ?_
  refine r_aload_n C0 dL_law_1238 rfl 0 rfl ?_
  refine r_iload_n C0 dL_law_1239 rfl 3 rfl ?_
  refine r_iconst C0 dL_law_1240 ki_2 ?_
  refine r_iadd C0 dL_law_1241 ?_
  rw [show Int32.ofNat (6 * j) + 2 = Int32.ofNat (6 * j + 2) from sc_add (k := 2)]
  refine r_sld C0 hX (sc_at hj hX.2.2.2 (by decide)) dL_law_1242 ?_
  refine callVz2 C0 hy hD mw_X11_cueOf rv_0 tm_L_146 (fun y2 hy2 => c_X11_cueOf hy2) (Nat.le_of_ble_eq_true rfl) (rc_le hrc) (Nat.le_of_ble_eq_true rfl) dL_law_1243 ?_
  have hD : va_D Γ.2.2.2.2.2.2.2.2.2.2.2.2.1 (WC cy a V J K (WM cy mm M X)) := dc_of hD _ _ _
  refine r_permP pm_cm ?_
  have hD := va_D_perm pm_cm hD
  refine r_aload_n C0 dL_law_1246 rfl 2 rfl ?_
  refine r_aload_n C0 dL_law_1247 rfl 0 rfl ?_
  refine r_iload_n C0 dL_law_1248 rfl 3 rfl ?_
  refine r_iconst C0 dL_law_1249 ki_1 ?_
  refine r_iadd C0 dL_law_1250 ?_
  rw [show Int32.ofNat (6 * j) + 1 = Int32.ofNat (6 * j + 1) from sc_add (k := 1)]
  refine r_sld C0 hX (sc_at hj hX.2.2.2 (by decide)) dL_law_1251 ?_
  refine r_aload_n C0 dL_law_1252 rfl 0 rfl ?_
  refine r_iload_n C0 dL_law_1253 rfl 3 rfl ?_
  refine r_iconst C0 dL_law_1254 ki_2 ?_
  refine r_iadd C0 dL_law_1255 ?_
  rw [show Int32.ofNat (6 * j) + 2 = Int32.ofNat (6 * j + 2) from sc_add (k := 2)]
  refine r_sld C0 hX (sc_at hj hX.2.2.2 (by decide)) dL_law_1256 ?_
  refine callVz2 C0 hz hD mw_X12_cueOf rv_m tm_L_149 (fun z2 hz2 => c_X12_cueOf hz2) (Nat.le_of_ble_eq_true rfl) (rc_le hrc) (Nat.le_of_ble_eq_true rfl) dL_law_1257 ?_
  have hD := dm_of hD M
  refine r_permP pm_cm.symm ?_
  have hD := va_D_perm pm_cm.symm hD
  refine r_icmp_eq (T := Unit) (z := ()) (E1 := some ()) (E2 := none) C0 1311 dL_law_1260 rfl (if_pos hyz) (fun _ _ => ?_) (fun _ h => by cases h)
  refine r_widen (Nat.le_add_right _ 3) (Nat.le_add_right _ 3750) ?_
  exact hN _ _ _ _ _ _ _ rfl hI2 hdx hD
theorem lc_told {I : IT} {Γ : Gam} {cy : Nat → ClassId} {a mm : Nat → Nat} {b L j : Nat} {xs : Nat → Int32} {V M : VT} {J : JT} {K : Nat → Option Nat} {X : va_W} {dd : DT} (C0 : CXg Γ cL_law 8 13 RL cy) (hX : SX Γ b L xs) (hj : 6 * j + 6 ≤ L) (hrc : RC Γ j) (hI : I j V J dd M) (hdx : DX cy K X dd) (hD : va_D Γ.2.2.2.2.2.2.2.2.2.2.2.2.1 (WC cy a V J K (WM cy mm M X))) (hN : NX I Γ cy a mm b j) (hO : O_told I) : Wp Γ (39 + 3 * j) (210633 + 3750 * j) 1265 [(0, .ref b), (1, .ref (a 0)), (2, .ref (mm 0)), (3, .int (Int32.ofNat (6 * j)))] [] (WC cy a V J K (WM cy mm M X)) := by
  have hn : j < 512 := by have := hX.2.2.2; omega
  obtain ⟨y, z, hy, hz, hyz, hI2⟩ := hO j V J dd M (xs (6 * j + 1)) hn hI
  show Wp Γ (39 + 3 * j) (210633 + 3750 * j) 1265 [(0, .ref b), (1, .ref (a 0)), (2, .ref (mm 0)), (3, .int (Int32.ofNat (6 * j)))] [] (WC cy a V J K (WM cy mm M X))
  refine r_aload_n C0 dL_law_1265 rfl 1 rfl ?_
  refine r_aload_n C0 dL_law_1266 rfl 0 rfl ?_
  refine r_iload_n C0 dL_law_1267 rfl 3 rfl ?_
  refine r_iconst C0 dL_law_1268 ki_1 ?_
  refine r_iadd C0 dL_law_1269 ?_
  rw [show Int32.ofNat (6 * j) + 1 = Int32.ofNat (6 * j + 1) from sc_add (k := 1)]
  refine r_sld C0 hX (sc_at hj hX.2.2.2 (by decide)) dL_law_1270 ?_
  refine callVz1 C0 hy hD mw_X11_told rv_0 tm_L_150 (fun y2 hy2 => c_X11_told hy2) (Nat.le_of_ble_eq_true rfl) (rc_le hrc) (Nat.le_of_ble_eq_true rfl) dL_law_1271 ?_
  have hD : va_D Γ.2.2.2.2.2.2.2.2.2.2.2.2.1 (WC cy a V J K (WM cy mm M X)) := dc_of hD _ _ _
  refine r_permP pm_cm ?_
  have hD := va_D_perm pm_cm hD
  refine r_aload_n C0 dL_law_1274 rfl 2 rfl ?_
  refine r_aload_n C0 dL_law_1275 rfl 0 rfl ?_
  refine r_iload_n C0 dL_law_1276 rfl 3 rfl ?_
  refine r_iconst C0 dL_law_1277 ki_1 ?_
  refine r_iadd C0 dL_law_1278 ?_
  rw [show Int32.ofNat (6 * j) + 1 = Int32.ofNat (6 * j + 1) from sc_add (k := 1)]
  refine r_sld C0 hX (sc_at hj hX.2.2.2 (by decide)) dL_law_1279 ?_
  refine callVz1 C0 hz hD mw_X12_told rv_m tm_L_153 (fun z2 hz2 => c_X12_told hz2) (Nat.le_of_ble_eq_true rfl) (rc_le hrc) (Nat.le_of_ble_eq_true rfl) dL_law_1280 ?_
  have hD := dm_of hD M
  refine r_permP pm_cm.symm ?_
  have hD := va_D_perm pm_cm.symm hD
  refine r_icmp_eq (T := Unit) (z := ()) (E1 := some ()) (E2 := none) C0 1311 dL_law_1283 rfl (if_pos hyz) (fun _ _ => ?_) (fun _ h => by cases h)
  refine r_widen (Nat.le_add_right _ 3) (Nat.le_add_right _ 3750) ?_
  exact hN _ _ _ _ _ _ _ rfl hI2 hdx hD
theorem lc_status {I : IT} {Γ : Gam} {cy : Nat → ClassId} {a mm : Nat → Nat} {b L j : Nat} {xs : Nat → Int32} {V M : VT} {J : JT} {K : Nat → Option Nat} {X : va_W} {dd : DT} (C0 : CXg Γ cL_law 8 13 RL cy) (hX : SX Γ b L xs) (hj : 6 * j + 6 ≤ L) (hrc : RC Γ j) (hI : I j V J dd M) (hdx : DX cy K X dd) (hD : va_D Γ.2.2.2.2.2.2.2.2.2.2.2.2.1 (WC cy a V J K (WM cy mm M X))) (hN : NX I Γ cy a mm b j) (hO : O_status I) : Wp Γ (39 + 3 * j) (210633 + 3750 * j) 1288 [(0, .ref b), (1, .ref (a 0)), (2, .ref (mm 0)), (3, .int (Int32.ofNat (6 * j)))] [] (WC cy a V J K (WM cy mm M X)) := by
  have hn : j < 512 := by have := hX.2.2.2; omega
  obtain ⟨y, z, hy, hz, hyz, hI2⟩ := hO j V J dd M (xs (6 * j + 1)) hn hI
  show Wp Γ (39 + 3 * j) (210633 + 3750 * j) 1288 [(0, .ref b), (1, .ref (a 0)), (2, .ref (mm 0)), (3, .int (Int32.ofNat (6 * j)))] [] (WC cy a V J K (WM cy mm M X))
  refine r_aload_n C0 dL_law_1288 rfl 1 rfl ?_
  refine r_aload_n C0 dL_law_1289 rfl 0 rfl ?_
  refine r_iload_n C0 dL_law_1290 rfl 3 rfl ?_
  refine r_iconst C0 dL_law_1291 ki_1 ?_
  refine r_iadd C0 dL_law_1292 ?_
  rw [show Int32.ofNat (6 * j) + 1 = Int32.ofNat (6 * j + 1) from sc_add (k := 1)]
  refine r_sld C0 hX (sc_at hj hX.2.2.2 (by decide)) dL_law_1293 ?_
  refine callVz1 C0 hy hD mw_X11_status rv_0 tm_L_154 (fun y2 hy2 => c_X11_status hy2) (Nat.le_of_ble_eq_true rfl) (rc_le hrc) (Nat.le_of_ble_eq_true rfl) dL_law_1294 ?_
  have hD : va_D Γ.2.2.2.2.2.2.2.2.2.2.2.2.1 (WC cy a V J K (WM cy mm M X)) := dc_of hD _ _ _
  refine r_permP pm_cm ?_
  have hD := va_D_perm pm_cm hD
  refine r_aload_n C0 dL_law_1297 rfl 2 rfl ?_
  refine r_aload_n C0 dL_law_1298 rfl 0 rfl ?_
  refine r_iload_n C0 dL_law_1299 rfl 3 rfl ?_
  refine r_iconst C0 dL_law_1300 ki_1 ?_
  refine r_iadd C0 dL_law_1301 ?_
  rw [show Int32.ofNat (6 * j) + 1 = Int32.ofNat (6 * j + 1) from sc_add (k := 1)]
  refine r_sld C0 hX (sc_at hj hX.2.2.2 (by decide)) dL_law_1302 ?_
  refine callVz1 C0 hz hD mw_X12_status rv_m tm_L_157 (fun z2 hz2 => c_X12_status hz2) (Nat.le_of_ble_eq_true rfl) (rc_le hrc) (Nat.le_of_ble_eq_true rfl) dL_law_1303 ?_
  have hD := dm_of hD M
  refine r_permP pm_cm.symm ?_
  have hD := va_D_perm pm_cm.symm hD
  refine r_icmp_eq (T := Unit) (z := ()) (E1 := some ()) (E2 := none) C0 1311 dL_law_1306 rfl (if_pos hyz) (fun _ _ => ?_) (fun _ h => by cases h)
  refine r_widen (Nat.le_add_right _ 3) (Nat.le_add_right _ 3750) ?_
  exact hN _ _ _ _ _ _ _ rfl hI2 hdx hD
