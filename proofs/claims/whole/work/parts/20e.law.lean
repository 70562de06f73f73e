/-! 20e.law: the functions that the methods answer by, and that they do; printed by wip/whole/dec.py -/
theorem f_268_18 : e_fetch 268 18 = some (1, 3, 1, 0, 0) := by decide +kernel
theorem f_268_19 : e_fetch 268 19 = some (2, 0, 1, 0, 0) := by decide +kernel
theorem f_268_20 : e_fetch 268 20 = some (38, 0, 0, 0, 0) := by decide +kernel
theorem f_268_21 : e_fetch 268 21 = some (0, 2, 0, 0, 6) := by decide +kernel
theorem f_268_23 : e_fetch 268 23 = some (9, 0, 0, 0, 0) := by decide +kernel
theorem f_268_24 : e_fetch 268 24 = some (29, 4, 1124, 0, 0) := by decide +kernel
theorem f_268_27 : e_fetch 268 27 = some (2, 0, 1, 0, 0) := by decide +kernel
theorem f_268_28 : e_fetch 268 28 = some (1, 3, 1, 0, 0) := by decide +kernel
theorem f_268_29 : e_fetch 268 29 = some (32, 0, 0, 0, 0) := by decide +kernel
theorem f_268_30 : e_fetch 268 30 = some (0, 2, 0, 0, 63) := by decide +kernel
theorem f_268_32 : e_fetch 268 32 = some (16, 0, 0, 0, 0) := by decide +kernel
theorem f_268_33 : e_fetch 268 33 = some (47, 7, 0, 0, 0) := by decide +kernel
theorem f_268_204 : e_fetch 268 204 = some (2, 1, 1, 0, 0) := by decide +kernel
theorem f_268_205 : e_fetch 268 205 = some (2, 0, 1, 0, 0) := by decide +kernel
theorem f_268_206 : e_fetch 268 206 = some (1, 3, 1, 0, 0) := by decide +kernel
theorem f_268_207 : e_fetch 268 207 = some (0, 1, 0, 0, 1) := by decide +kernel
theorem f_268_208 : e_fetch 268 208 = some (8, 0, 0, 0, 0) := by decide +kernel
theorem f_268_209 : e_fetch 268 209 = some (32, 0, 0, 0, 0) := by decide +kernel
theorem f_268_210 : e_fetch 268 210 = some (44, 4346, 152, 2, 0) := by decide +kernel
theorem f_268_213 : e_fetch 268 213 = some (2, 2, 1, 0, 0) := by decide +kernel
theorem f_268_214 : e_fetch 268 214 = some (2, 0, 1, 0, 0) := by decide +kernel
theorem f_268_215 : e_fetch 268 215 = some (1, 3, 1, 0, 0) := by decide +kernel
theorem f_268_216 : e_fetch 268 216 = some (0, 1, 0, 0, 1) := by decide +kernel
theorem f_268_217 : e_fetch 268 217 = some (8, 0, 0, 0, 0) := by decide +kernel
theorem f_268_218 : e_fetch 268 218 = some (32, 0, 0, 0, 0) := by decide +kernel
theorem f_268_219 : e_fetch 268 219 = some (44, 4363, 196, 2, 0) := by decide +kernel
theorem f_268_222 : e_fetch 268 222 = some (29, 0, 1118, 0, 0) := by decide +kernel
theorem f_268_225 : e_fetch 268 225 = some (0, 1, 0, 0, 0) := by decide +kernel
theorem f_268_226 : e_fetch 268 226 = some (52, 0, 0, 0, 0) := by decide +kernel
theorem f_268_227 : e_fetch 268 227 = some (2, 1, 1, 0, 0) := by decide +kernel
theorem f_268_228 : e_fetch 268 228 = some (2, 0, 1, 0, 0) := by decide +kernel
theorem f_268_229 : e_fetch 268 229 = some (1, 3, 1, 0, 0) := by decide +kernel
theorem f_268_230 : e_fetch 268 230 = some (0, 1, 0, 0, 1) := by decide +kernel
theorem f_268_231 : e_fetch 268 231 = some (8, 0, 0, 0, 0) := by decide +kernel
theorem f_268_232 : e_fetch 268 232 = some (32, 0, 0, 0, 0) := by decide +kernel
theorem f_268_233 : e_fetch 268 233 = some (44, 4378, 153, 2, 0) := by decide +kernel
theorem f_268_236 : e_fetch 268 236 = some (2, 2, 1, 0, 0) := by decide +kernel
theorem f_268_237 : e_fetch 268 237 = some (2, 0, 1, 0, 0) := by decide +kernel
theorem f_268_238 : e_fetch 268 238 = some (1, 3, 1, 0, 0) := by decide +kernel
theorem f_268_239 : e_fetch 268 239 = some (0, 1, 0, 0, 1) := by decide +kernel
theorem f_268_240 : e_fetch 268 240 = some (8, 0, 0, 0, 0) := by decide +kernel
theorem f_268_241 : e_fetch 268 241 = some (32, 0, 0, 0, 0) := by decide +kernel
theorem f_268_242 : e_fetch 268 242 = some (44, 4395, 199, 2, 0) := by decide +kernel
theorem f_268_245 : e_fetch 268 245 = some (29, 0, 1118, 0, 0) := by decide +kernel
theorem f_268_248 : e_fetch 268 248 = some (0, 1, 0, 0, 0) := by decide +kernel
theorem f_268_249 : e_fetch 268 249 = some (52, 0, 0, 0, 0) := by decide +kernel
theorem f_268_250 : e_fetch 268 250 = some (2, 1, 1, 0, 0) := by decide +kernel
theorem f_268_251 : e_fetch 268 251 = some (2, 0, 1, 0, 0) := by decide +kernel
theorem f_268_252 : e_fetch 268 252 = some (1, 3, 1, 0, 0) := by decide +kernel
theorem f_268_253 : e_fetch 268 253 = some (0, 1, 0, 0, 1) := by decide +kernel
theorem f_268_254 : e_fetch 268 254 = some (8, 0, 0, 0, 0) := by decide +kernel
theorem f_268_255 : e_fetch 268 255 = some (32, 0, 0, 0, 0) := by decide +kernel
theorem f_268_256 : e_fetch 268 256 = some (44, 4410, 154, 2, 0) := by decide +kernel
theorem f_268_259 : e_fetch 268 259 = some (2, 2, 1, 0, 0) := by decide +kernel
theorem f_268_260 : e_fetch 268 260 = some (2, 0, 1, 0, 0) := by decide +kernel
theorem f_268_261 : e_fetch 268 261 = some (1, 3, 1, 0, 0) := by decide +kernel
theorem f_268_262 : e_fetch 268 262 = some (0, 1, 0, 0, 1) := by decide +kernel
theorem f_268_263 : e_fetch 268 263 = some (8, 0, 0, 0, 0) := by decide +kernel
theorem f_268_264 : e_fetch 268 264 = some (32, 0, 0, 0, 0) := by decide +kernel
theorem f_268_265 : e_fetch 268 265 = some (44, 4427, 206, 2, 0) := by decide +kernel
theorem f_268_268 : e_fetch 268 268 = some (29, 0, 1118, 0, 0) := by decide +kernel
theorem f_268_271 : e_fetch 268 271 = some (0, 1, 0, 0, 0) := by decide +kernel
theorem f_268_272 : e_fetch 268 272 = some (52, 0, 0, 0, 0) := by decide +kernel
theorem f_268_273 : e_fetch 268 273 = some (2, 1, 1, 0, 0) := by decide +kernel
theorem f_268_274 : e_fetch 268 274 = some (2, 0, 1, 0, 0) := by decide +kernel
theorem f_268_275 : e_fetch 268 275 = some (1, 3, 1, 0, 0) := by decide +kernel
theorem f_268_276 : e_fetch 268 276 = some (0, 1, 0, 0, 1) := by decide +kernel
theorem f_268_277 : e_fetch 268 277 = some (8, 0, 0, 0, 0) := by decide +kernel
theorem f_268_278 : e_fetch 268 278 = some (32, 0, 0, 0, 0) := by decide +kernel
theorem f_268_279 : e_fetch 268 279 = some (2, 0, 1, 0, 0) := by decide +kernel
theorem f_268_280 : e_fetch 268 280 = some (1, 3, 1, 0, 0) := by decide +kernel
theorem f_268_281 : e_fetch 268 281 = some (0, 1, 0, 0, 2) := by decide +kernel
theorem f_268_282 : e_fetch 268 282 = some (8, 0, 0, 0, 0) := by decide +kernel
theorem f_268_283 : e_fetch 268 283 = some (32, 0, 0, 0, 0) := by decide +kernel
theorem f_268_284 : e_fetch 268 284 = some (44, 4442, 155, 3, 0) := by decide +kernel
theorem f_268_287 : e_fetch 268 287 = some (2, 2, 1, 0, 0) := by decide +kernel
theorem f_268_288 : e_fetch 268 288 = some (2, 0, 1, 0, 0) := by decide +kernel
theorem f_268_289 : e_fetch 268 289 = some (1, 3, 1, 0, 0) := by decide +kernel
theorem f_268_290 : e_fetch 268 290 = some (0, 1, 0, 0, 1) := by decide +kernel
theorem f_268_291 : e_fetch 268 291 = some (8, 0, 0, 0, 0) := by decide +kernel
theorem f_268_292 : e_fetch 268 292 = some (32, 0, 0, 0, 0) := by decide +kernel
theorem f_268_293 : e_fetch 268 293 = some (2, 0, 1, 0, 0) := by decide +kernel
theorem f_268_294 : e_fetch 268 294 = some (1, 3, 1, 0, 0) := by decide +kernel
theorem f_268_295 : e_fetch 268 295 = some (0, 1, 0, 0, 2) := by decide +kernel
theorem f_268_296 : e_fetch 268 296 = some (8, 0, 0, 0, 0) := by decide +kernel
theorem f_268_297 : e_fetch 268 297 = some (32, 0, 0, 0, 0) := by decide +kernel
theorem f_268_298 : e_fetch 268 298 = some (44, 4459, 207, 3, 0) := by decide +kernel
theorem f_268_301 : e_fetch 268 301 = some (29, 0, 1118, 0, 0) := by decide +kernel
theorem f_268_304 : e_fetch 268 304 = some (0, 1, 0, 0, 0) := by decide +kernel
theorem f_268_305 : e_fetch 268 305 = some (52, 0, 0, 0, 0) := by decide +kernel
theorem f_268_306 : e_fetch 268 306 = some (2, 1, 1, 0, 0) := by decide +kernel
theorem f_268_307 : e_fetch 268 307 = some (2, 0, 1, 0, 0) := by decide +kernel
theorem f_268_308 : e_fetch 268 308 = some (1, 3, 1, 0, 0) := by decide +kernel
theorem f_268_309 : e_fetch 268 309 = some (0, 1, 0, 0, 1) := by decide +kernel
theorem f_268_310 : e_fetch 268 310 = some (8, 0, 0, 0, 0) := by decide +kernel
theorem f_268_311 : e_fetch 268 311 = some (32, 0, 0, 0, 0) := by decide +kernel
theorem f_268_312 : e_fetch 268 312 = some (28, 0, 319, 0, 0) := by decide +kernel
theorem f_268_315 : e_fetch 268 315 = some (0, 1, 0, 0, 1) := by decide +kernel
theorem f_268_316 : e_fetch 268 316 = some (27, 320, 0, 0, 0) := by decide +kernel
theorem f_268_319 : e_fetch 268 319 = some (0, 1, 0, 0, 0) := by decide +kernel
theorem f_268_320 : e_fetch 268 320 = some (44, 4474, 156, 2, 0) := by decide +kernel
theorem f_268_323 : e_fetch 268 323 = some (2, 2, 1, 0, 0) := by decide +kernel
theorem f_268_324 : e_fetch 268 324 = some (2, 0, 1, 0, 0) := by decide +kernel
theorem f_268_325 : e_fetch 268 325 = some (1, 3, 1, 0, 0) := by decide +kernel
theorem f_268_326 : e_fetch 268 326 = some (0, 1, 0, 0, 1) := by decide +kernel
theorem f_268_327 : e_fetch 268 327 = some (8, 0, 0, 0, 0) := by decide +kernel
theorem f_268_328 : e_fetch 268 328 = some (32, 0, 0, 0, 0) := by decide +kernel
theorem f_268_329 : e_fetch 268 329 = some (28, 0, 336, 0, 0) := by decide +kernel
theorem f_268_332 : e_fetch 268 332 = some (0, 1, 0, 0, 1) := by decide +kernel
theorem f_268_333 : e_fetch 268 333 = some (27, 337, 0, 0, 0) := by decide +kernel
theorem f_268_336 : e_fetch 268 336 = some (0, 1, 0, 0, 0) := by decide +kernel
theorem f_268_337 : e_fetch 268 337 = some (44, 4491, 208, 2, 0) := by decide +kernel
theorem f_268_340 : e_fetch 268 340 = some (29, 0, 1118, 0, 0) := by decide +kernel
theorem f_268_343 : e_fetch 268 343 = some (0, 1, 0, 0, 0) := by decide +kernel
theorem f_268_344 : e_fetch 268 344 = some (52, 0, 0, 0, 0) := by decide +kernel
theorem f_268_345 : e_fetch 268 345 = some (2, 1, 1, 0, 0) := by decide +kernel
theorem f_268_346 : e_fetch 268 346 = some (2, 0, 1, 0, 0) := by decide +kernel
theorem f_268_347 : e_fetch 268 347 = some (1, 3, 1, 0, 0) := by decide +kernel
theorem f_268_348 : e_fetch 268 348 = some (0, 1, 0, 0, 1) := by decide +kernel
theorem f_268_349 : e_fetch 268 349 = some (8, 0, 0, 0, 0) := by decide +kernel
theorem f_268_350 : e_fetch 268 350 = some (32, 0, 0, 0, 0) := by decide +kernel
theorem f_268_351 : e_fetch 268 351 = some (44, 4506, 157, 2, 0) := by decide +kernel
theorem f_268_354 : e_fetch 268 354 = some (2, 2, 1, 0, 0) := by decide +kernel
theorem f_268_355 : e_fetch 268 355 = some (2, 0, 1, 0, 0) := by decide +kernel
theorem f_268_356 : e_fetch 268 356 = some (1, 3, 1, 0, 0) := by decide +kernel
theorem f_268_357 : e_fetch 268 357 = some (0, 1, 0, 0, 1) := by decide +kernel
theorem f_268_358 : e_fetch 268 358 = some (8, 0, 0, 0, 0) := by decide +kernel
theorem f_268_359 : e_fetch 268 359 = some (32, 0, 0, 0, 0) := by decide +kernel
theorem f_268_360 : e_fetch 268 360 = some (44, 4523, 209, 2, 0) := by decide +kernel
theorem f_268_363 : e_fetch 268 363 = some (29, 0, 1118, 0, 0) := by decide +kernel
theorem f_268_366 : e_fetch 268 366 = some (0, 1, 0, 0, 0) := by decide +kernel
theorem f_268_367 : e_fetch 268 367 = some (52, 0, 0, 0, 0) := by decide +kernel
theorem f_268_368 : e_fetch 268 368 = some (2, 1, 1, 0, 0) := by decide +kernel
theorem f_268_369 : e_fetch 268 369 = some (44, 4538, 158, 1, 0) := by decide +kernel
theorem f_268_372 : e_fetch 268 372 = some (2, 2, 1, 0, 0) := by decide +kernel
theorem f_268_373 : e_fetch 268 373 = some (44, 4555, 210, 1, 0) := by decide +kernel
theorem f_268_376 : e_fetch 268 376 = some (29, 0, 1118, 0, 0) := by decide +kernel
theorem f_268_379 : e_fetch 268 379 = some (0, 1, 0, 0, 0) := by decide +kernel
theorem f_268_380 : e_fetch 268 380 = some (52, 0, 0, 0, 0) := by decide +kernel
theorem f_268_381 : e_fetch 268 381 = some (2, 1, 1, 0, 0) := by decide +kernel
theorem f_268_382 : e_fetch 268 382 = some (44, 4570, 159, 1, 0) := by decide +kernel
theorem f_268_385 : e_fetch 268 385 = some (2, 2, 1, 0, 0) := by decide +kernel
theorem f_268_386 : e_fetch 268 386 = some (44, 4587, 211, 1, 0) := by decide +kernel
theorem f_268_389 : e_fetch 268 389 = some (29, 0, 1118, 0, 0) := by decide +kernel
theorem f_268_392 : e_fetch 268 392 = some (0, 1, 0, 0, 0) := by decide +kernel
theorem f_268_393 : e_fetch 268 393 = some (52, 0, 0, 0, 0) := by decide +kernel
theorem f_268_394 : e_fetch 268 394 = some (2, 1, 1, 0, 0) := by decide +kernel
theorem f_268_395 : e_fetch 268 395 = some (2, 0, 1, 0, 0) := by decide +kernel
theorem f_268_396 : e_fetch 268 396 = some (1, 3, 1, 0, 0) := by decide +kernel
theorem f_268_397 : e_fetch 268 397 = some (0, 1, 0, 0, 1) := by decide +kernel
theorem f_268_398 : e_fetch 268 398 = some (8, 0, 0, 0, 0) := by decide +kernel
theorem f_268_399 : e_fetch 268 399 = some (32, 0, 0, 0, 0) := by decide +kernel
theorem f_268_400 : e_fetch 268 400 = some (44, 4602, 160, 2, 0) := by decide +kernel
theorem f_268_403 : e_fetch 268 403 = some (2, 2, 1, 0, 0) := by decide +kernel
theorem f_268_404 : e_fetch 268 404 = some (2, 0, 1, 0, 0) := by decide +kernel
theorem f_268_405 : e_fetch 268 405 = some (1, 3, 1, 0, 0) := by decide +kernel
theorem f_268_406 : e_fetch 268 406 = some (0, 1, 0, 0, 1) := by decide +kernel
theorem f_268_407 : e_fetch 268 407 = some (8, 0, 0, 0, 0) := by decide +kernel
theorem f_268_408 : e_fetch 268 408 = some (32, 0, 0, 0, 0) := by decide +kernel
theorem f_268_409 : e_fetch 268 409 = some (44, 4619, 213, 2, 0) := by decide +kernel
theorem f_268_412 : e_fetch 268 412 = some (29, 0, 1118, 0, 0) := by decide +kernel
theorem f_268_415 : e_fetch 268 415 = some (0, 1, 0, 0, 0) := by decide +kernel
theorem f_268_416 : e_fetch 268 416 = some (52, 0, 0, 0, 0) := by decide +kernel
theorem f_268_417 : e_fetch 268 417 = some (2, 1, 1, 0, 0) := by decide +kernel
theorem f_268_418 : e_fetch 268 418 = some (2, 0, 1, 0, 0) := by decide +kernel
theorem f_268_419 : e_fetch 268 419 = some (1, 3, 1, 0, 0) := by decide +kernel
theorem f_268_420 : e_fetch 268 420 = some (0, 1, 0, 0, 1) := by decide +kernel
theorem f_268_421 : e_fetch 268 421 = some (8, 0, 0, 0, 0) := by decide +kernel
theorem f_268_422 : e_fetch 268 422 = some (32, 0, 0, 0, 0) := by decide +kernel
theorem f_268_423 : e_fetch 268 423 = some (2, 0, 1, 0, 0) := by decide +kernel
theorem f_268_424 : e_fetch 268 424 = some (1, 3, 1, 0, 0) := by decide +kernel
theorem f_268_425 : e_fetch 268 425 = some (0, 1, 0, 0, 2) := by decide +kernel
theorem f_268_426 : e_fetch 268 426 = some (8, 0, 0, 0, 0) := by decide +kernel
theorem f_268_427 : e_fetch 268 427 = some (32, 0, 0, 0, 0) := by decide +kernel
theorem f_268_428 : e_fetch 268 428 = some (44, 4634, 161, 3, 0) := by decide +kernel
theorem f_268_431 : e_fetch 268 431 = some (2, 2, 1, 0, 0) := by decide +kernel
theorem f_268_432 : e_fetch 268 432 = some (2, 0, 1, 0, 0) := by decide +kernel
theorem f_268_433 : e_fetch 268 433 = some (1, 3, 1, 0, 0) := by decide +kernel
theorem f_268_434 : e_fetch 268 434 = some (0, 1, 0, 0, 1) := by decide +kernel
theorem f_268_435 : e_fetch 268 435 = some (8, 0, 0, 0, 0) := by decide +kernel
theorem f_268_436 : e_fetch 268 436 = some (32, 0, 0, 0, 0) := by decide +kernel
theorem f_268_437 : e_fetch 268 437 = some (2, 0, 1, 0, 0) := by decide +kernel
theorem f_268_438 : e_fetch 268 438 = some (1, 3, 1, 0, 0) := by decide +kernel
theorem f_268_439 : e_fetch 268 439 = some (0, 1, 0, 0, 2) := by decide +kernel
theorem f_268_440 : e_fetch 268 440 = some (8, 0, 0, 0, 0) := by decide +kernel
theorem f_268_441 : e_fetch 268 441 = some (32, 0, 0, 0, 0) := by decide +kernel
theorem f_268_442 : e_fetch 268 442 = some (44, 4651, 215, 3, 0) := by decide +kernel
theorem f_268_445 : e_fetch 268 445 = some (29, 0, 1118, 0, 0) := by decide +kernel
theorem f_268_448 : e_fetch 268 448 = some (0, 1, 0, 0, 0) := by decide +kernel
theorem f_268_449 : e_fetch 268 449 = some (52, 0, 0, 0, 0) := by decide +kernel
theorem f_268_450 : e_fetch 268 450 = some (2, 1, 1, 0, 0) := by decide +kernel
theorem f_268_451 : e_fetch 268 451 = some (2, 0, 1, 0, 0) := by decide +kernel
theorem f_268_452 : e_fetch 268 452 = some (1, 3, 1, 0, 0) := by decide +kernel
theorem f_268_453 : e_fetch 268 453 = some (0, 1, 0, 0, 1) := by decide +kernel
theorem f_268_454 : e_fetch 268 454 = some (8, 0, 0, 0, 0) := by decide +kernel
theorem f_268_455 : e_fetch 268 455 = some (32, 0, 0, 0, 0) := by decide +kernel
theorem f_268_456 : e_fetch 268 456 = some (2, 0, 1, 0, 0) := by decide +kernel
theorem f_268_457 : e_fetch 268 457 = some (1, 3, 1, 0, 0) := by decide +kernel
theorem f_268_458 : e_fetch 268 458 = some (0, 1, 0, 0, 2) := by decide +kernel
theorem f_268_459 : e_fetch 268 459 = some (8, 0, 0, 0, 0) := by decide +kernel
theorem f_268_460 : e_fetch 268 460 = some (32, 0, 0, 0, 0) := by decide +kernel
theorem f_268_461 : e_fetch 268 461 = some (44, 4666, 162, 3, 0) := by decide +kernel
theorem f_268_464 : e_fetch 268 464 = some (2, 2, 1, 0, 0) := by decide +kernel
theorem f_268_465 : e_fetch 268 465 = some (2, 0, 1, 0, 0) := by decide +kernel
theorem f_268_466 : e_fetch 268 466 = some (1, 3, 1, 0, 0) := by decide +kernel
theorem f_268_467 : e_fetch 268 467 = some (0, 1, 0, 0, 1) := by decide +kernel
theorem f_268_468 : e_fetch 268 468 = some (8, 0, 0, 0, 0) := by decide +kernel
theorem f_268_469 : e_fetch 268 469 = some (32, 0, 0, 0, 0) := by decide +kernel
theorem f_268_470 : e_fetch 268 470 = some (2, 0, 1, 0, 0) := by decide +kernel
theorem f_268_471 : e_fetch 268 471 = some (1, 3, 1, 0, 0) := by decide +kernel
theorem f_268_472 : e_fetch 268 472 = some (0, 1, 0, 0, 2) := by decide +kernel
theorem f_268_473 : e_fetch 268 473 = some (8, 0, 0, 0, 0) := by decide +kernel
theorem f_268_474 : e_fetch 268 474 = some (32, 0, 0, 0, 0) := by decide +kernel
theorem f_268_475 : e_fetch 268 475 = some (44, 4683, 216, 3, 0) := by decide +kernel
theorem f_268_478 : e_fetch 268 478 = some (29, 0, 1118, 0, 0) := by decide +kernel
theorem f_268_481 : e_fetch 268 481 = some (0, 1, 0, 0, 0) := by decide +kernel
theorem f_268_482 : e_fetch 268 482 = some (52, 0, 0, 0, 0) := by decide +kernel
theorem f_268_483 : e_fetch 268 483 = some (2, 1, 1, 0, 0) := by decide +kernel
theorem f_268_484 : e_fetch 268 484 = some (44, 4698, 163, 1, 0) := by decide +kernel
theorem f_268_487 : e_fetch 268 487 = some (2, 2, 1, 0, 0) := by decide +kernel
theorem f_268_488 : e_fetch 268 488 = some (44, 4715, 219, 1, 0) := by decide +kernel
theorem f_268_491 : e_fetch 268 491 = some (29, 0, 1118, 0, 0) := by decide +kernel
theorem f_268_494 : e_fetch 268 494 = some (0, 1, 0, 0, 0) := by decide +kernel
theorem f_268_495 : e_fetch 268 495 = some (52, 0, 0, 0, 0) := by decide +kernel
theorem f_268_496 : e_fetch 268 496 = some (2, 1, 1, 0, 0) := by decide +kernel
theorem f_268_497 : e_fetch 268 497 = some (44, 4730, 164, 1, 0) := by decide +kernel
theorem f_268_500 : e_fetch 268 500 = some (2, 2, 1, 0, 0) := by decide +kernel
theorem f_268_501 : e_fetch 268 501 = some (44, 4747, 220, 1, 0) := by decide +kernel
theorem f_268_504 : e_fetch 268 504 = some (29, 0, 1118, 0, 0) := by decide +kernel
theorem f_268_507 : e_fetch 268 507 = some (0, 1, 0, 0, 0) := by decide +kernel
theorem f_268_508 : e_fetch 268 508 = some (52, 0, 0, 0, 0) := by decide +kernel
theorem f_268_509 : e_fetch 268 509 = some (2, 1, 1, 0, 0) := by decide +kernel
theorem f_268_510 : e_fetch 268 510 = some (2, 0, 1, 0, 0) := by decide +kernel
theorem f_268_511 : e_fetch 268 511 = some (1, 3, 1, 0, 0) := by decide +kernel
theorem f_268_512 : e_fetch 268 512 = some (0, 1, 0, 0, 1) := by decide +kernel
theorem f_268_513 : e_fetch 268 513 = some (8, 0, 0, 0, 0) := by decide +kernel
theorem f_268_514 : e_fetch 268 514 = some (32, 0, 0, 0, 0) := by decide +kernel
theorem f_268_515 : e_fetch 268 515 = some (44, 4762, 165, 2, 0) := by decide +kernel
theorem f_268_518 : e_fetch 268 518 = some (2, 2, 1, 0, 0) := by decide +kernel
theorem f_268_519 : e_fetch 268 519 = some (2, 0, 1, 0, 0) := by decide +kernel
theorem f_268_520 : e_fetch 268 520 = some (1, 3, 1, 0, 0) := by decide +kernel
theorem f_268_521 : e_fetch 268 521 = some (0, 1, 0, 0, 1) := by decide +kernel
theorem f_268_522 : e_fetch 268 522 = some (8, 0, 0, 0, 0) := by decide +kernel
theorem f_268_523 : e_fetch 268 523 = some (32, 0, 0, 0, 0) := by decide +kernel
theorem f_268_524 : e_fetch 268 524 = some (44, 4779, 221, 2, 0) := by decide +kernel
theorem f_268_527 : e_fetch 268 527 = some (29, 0, 1118, 0, 0) := by decide +kernel
theorem f_268_530 : e_fetch 268 530 = some (0, 1, 0, 0, 0) := by decide +kernel
theorem f_268_531 : e_fetch 268 531 = some (52, 0, 0, 0, 0) := by decide +kernel
theorem f_268_532 : e_fetch 268 532 = some (2, 1, 1, 0, 0) := by decide +kernel
theorem f_268_533 : e_fetch 268 533 = some (2, 0, 1, 0, 0) := by decide +kernel
theorem f_268_534 : e_fetch 268 534 = some (1, 3, 1, 0, 0) := by decide +kernel
theorem f_268_535 : e_fetch 268 535 = some (0, 1, 0, 0, 1) := by decide +kernel
theorem f_268_536 : e_fetch 268 536 = some (8, 0, 0, 0, 0) := by decide +kernel
theorem f_268_537 : e_fetch 268 537 = some (32, 0, 0, 0, 0) := by decide +kernel
theorem f_268_538 : e_fetch 268 538 = some (2, 0, 1, 0, 0) := by decide +kernel
theorem f_268_539 : e_fetch 268 539 = some (1, 3, 1, 0, 0) := by decide +kernel
theorem f_268_540 : e_fetch 268 540 = some (0, 1, 0, 0, 2) := by decide +kernel
theorem f_268_541 : e_fetch 268 541 = some (8, 0, 0, 0, 0) := by decide +kernel
theorem f_268_542 : e_fetch 268 542 = some (32, 0, 0, 0, 0) := by decide +kernel
theorem f_268_543 : e_fetch 268 543 = some (2, 0, 1, 0, 0) := by decide +kernel
theorem f_268_544 : e_fetch 268 544 = some (1, 3, 1, 0, 0) := by decide +kernel
theorem f_268_545 : e_fetch 268 545 = some (0, 1, 0, 0, 3) := by decide +kernel
theorem f_268_546 : e_fetch 268 546 = some (8, 0, 0, 0, 0) := by decide +kernel
theorem f_268_547 : e_fetch 268 547 = some (32, 0, 0, 0, 0) := by decide +kernel
theorem f_268_548 : e_fetch 268 548 = some (2, 0, 1, 0, 0) := by decide +kernel
theorem f_268_549 : e_fetch 268 549 = some (1, 3, 1, 0, 0) := by decide +kernel
theorem f_268_550 : e_fetch 268 550 = some (0, 1, 0, 0, 4) := by decide +kernel
theorem f_268_551 : e_fetch 268 551 = some (8, 0, 0, 0, 0) := by decide +kernel
theorem f_268_552 : e_fetch 268 552 = some (32, 0, 0, 0, 0) := by decide +kernel
theorem f_268_553 : e_fetch 268 553 = some (2, 0, 1, 0, 0) := by decide +kernel
theorem f_268_554 : e_fetch 268 554 = some (1, 3, 1, 0, 0) := by decide +kernel
theorem f_268_555 : e_fetch 268 555 = some (0, 1, 0, 0, 5) := by decide +kernel
theorem f_268_556 : e_fetch 268 556 = some (8, 0, 0, 0, 0) := by decide +kernel
theorem f_268_557 : e_fetch 268 557 = some (32, 0, 0, 0, 0) := by decide +kernel
theorem f_268_558 : e_fetch 268 558 = some (44, 4794, 166, 6, 0) := by decide +kernel
theorem f_268_561 : e_fetch 268 561 = some (2, 2, 1, 0, 0) := by decide +kernel
theorem f_268_562 : e_fetch 268 562 = some (2, 0, 1, 0, 0) := by decide +kernel
theorem f_268_563 : e_fetch 268 563 = some (1, 3, 1, 0, 0) := by decide +kernel
theorem f_268_564 : e_fetch 268 564 = some (0, 1, 0, 0, 1) := by decide +kernel
theorem f_268_565 : e_fetch 268 565 = some (8, 0, 0, 0, 0) := by decide +kernel
theorem f_268_566 : e_fetch 268 566 = some (32, 0, 0, 0, 0) := by decide +kernel
theorem f_268_567 : e_fetch 268 567 = some (2, 0, 1, 0, 0) := by decide +kernel
theorem f_268_568 : e_fetch 268 568 = some (1, 3, 1, 0, 0) := by decide +kernel
theorem f_268_569 : e_fetch 268 569 = some (0, 1, 0, 0, 2) := by decide +kernel
theorem f_268_570 : e_fetch 268 570 = some (8, 0, 0, 0, 0) := by decide +kernel
theorem f_268_571 : e_fetch 268 571 = some (32, 0, 0, 0, 0) := by decide +kernel
theorem f_268_572 : e_fetch 268 572 = some (2, 0, 1, 0, 0) := by decide +kernel
theorem f_268_573 : e_fetch 268 573 = some (1, 3, 1, 0, 0) := by decide +kernel
theorem f_268_574 : e_fetch 268 574 = some (0, 1, 0, 0, 3) := by decide +kernel
theorem f_268_575 : e_fetch 268 575 = some (8, 0, 0, 0, 0) := by decide +kernel
theorem f_268_576 : e_fetch 268 576 = some (32, 0, 0, 0, 0) := by decide +kernel
theorem f_268_577 : e_fetch 268 577 = some (2, 0, 1, 0, 0) := by decide +kernel
theorem f_268_578 : e_fetch 268 578 = some (1, 3, 1, 0, 0) := by decide +kernel
theorem f_268_579 : e_fetch 268 579 = some (0, 1, 0, 0, 4) := by decide +kernel
theorem f_268_580 : e_fetch 268 580 = some (8, 0, 0, 0, 0) := by decide +kernel
theorem f_268_581 : e_fetch 268 581 = some (32, 0, 0, 0, 0) := by decide +kernel
theorem f_268_582 : e_fetch 268 582 = some (2, 0, 1, 0, 0) := by decide +kernel
theorem f_268_583 : e_fetch 268 583 = some (1, 3, 1, 0, 0) := by decide +kernel
theorem f_268_584 : e_fetch 268 584 = some (0, 1, 0, 0, 5) := by decide +kernel
theorem f_268_585 : e_fetch 268 585 = some (8, 0, 0, 0, 0) := by decide +kernel
theorem f_268_586 : e_fetch 268 586 = some (32, 0, 0, 0, 0) := by decide +kernel
theorem f_268_587 : e_fetch 268 587 = some (44, 4811, 223, 6, 0) := by decide +kernel
theorem f_268_590 : e_fetch 268 590 = some (29, 0, 1118, 0, 0) := by decide +kernel
theorem f_268_593 : e_fetch 268 593 = some (0, 1, 0, 0, 0) := by decide +kernel
theorem f_268_594 : e_fetch 268 594 = some (52, 0, 0, 0, 0) := by decide +kernel
theorem f_268_595 : e_fetch 268 595 = some (2, 1, 1, 0, 0) := by decide +kernel
theorem f_268_596 : e_fetch 268 596 = some (2, 0, 1, 0, 0) := by decide +kernel
theorem f_268_597 : e_fetch 268 597 = some (1, 3, 1, 0, 0) := by decide +kernel
theorem f_268_598 : e_fetch 268 598 = some (0, 1, 0, 0, 1) := by decide +kernel
theorem f_268_599 : e_fetch 268 599 = some (8, 0, 0, 0, 0) := by decide +kernel
theorem f_268_600 : e_fetch 268 600 = some (32, 0, 0, 0, 0) := by decide +kernel
theorem f_268_601 : e_fetch 268 601 = some (44, 4826, 167, 2, 0) := by decide +kernel
theorem f_268_604 : e_fetch 268 604 = some (2, 2, 1, 0, 0) := by decide +kernel
theorem f_268_605 : e_fetch 268 605 = some (2, 0, 1, 0, 0) := by decide +kernel
theorem f_268_606 : e_fetch 268 606 = some (1, 3, 1, 0, 0) := by decide +kernel
theorem f_268_607 : e_fetch 268 607 = some (0, 1, 0, 0, 1) := by decide +kernel
theorem f_268_608 : e_fetch 268 608 = some (8, 0, 0, 0, 0) := by decide +kernel
theorem f_268_609 : e_fetch 268 609 = some (32, 0, 0, 0, 0) := by decide +kernel
theorem f_268_610 : e_fetch 268 610 = some (44, 4843, 224, 2, 0) := by decide +kernel
theorem f_268_613 : e_fetch 268 613 = some (29, 0, 1118, 0, 0) := by decide +kernel
theorem f_268_616 : e_fetch 268 616 = some (0, 1, 0, 0, 0) := by decide +kernel
theorem f_268_617 : e_fetch 268 617 = some (52, 0, 0, 0, 0) := by decide +kernel
theorem f_268_618 : e_fetch 268 618 = some (2, 1, 1, 0, 0) := by decide +kernel
theorem f_268_619 : e_fetch 268 619 = some (2, 0, 1, 0, 0) := by decide +kernel
theorem f_268_620 : e_fetch 268 620 = some (1, 3, 1, 0, 0) := by decide +kernel
theorem f_268_621 : e_fetch 268 621 = some (0, 1, 0, 0, 1) := by decide +kernel
theorem f_268_622 : e_fetch 268 622 = some (8, 0, 0, 0, 0) := by decide +kernel
theorem f_268_623 : e_fetch 268 623 = some (32, 0, 0, 0, 0) := by decide +kernel
theorem f_268_624 : e_fetch 268 624 = some (44, 4858, 168, 2, 0) := by decide +kernel
theorem f_268_627 : e_fetch 268 627 = some (2, 2, 1, 0, 0) := by decide +kernel
theorem f_268_628 : e_fetch 268 628 = some (2, 0, 1, 0, 0) := by decide +kernel
theorem f_268_629 : e_fetch 268 629 = some (1, 3, 1, 0, 0) := by decide +kernel
theorem f_268_630 : e_fetch 268 630 = some (0, 1, 0, 0, 1) := by decide +kernel
theorem f_268_631 : e_fetch 268 631 = some (8, 0, 0, 0, 0) := by decide +kernel
theorem f_268_632 : e_fetch 268 632 = some (32, 0, 0, 0, 0) := by decide +kernel
theorem f_268_633 : e_fetch 268 633 = some (44, 4875, 226, 2, 0) := by decide +kernel
theorem f_268_636 : e_fetch 268 636 = some (29, 0, 1118, 0, 0) := by decide +kernel
theorem f_268_639 : e_fetch 268 639 = some (0, 1, 0, 0, 0) := by decide +kernel
theorem f_268_640 : e_fetch 268 640 = some (52, 0, 0, 0, 0) := by decide +kernel
theorem f_268_641 : e_fetch 268 641 = some (2, 1, 1, 0, 0) := by decide +kernel
theorem f_268_642 : e_fetch 268 642 = some (44, 4890, 169, 1, 0) := by decide +kernel
theorem f_268_645 : e_fetch 268 645 = some (2, 2, 1, 0, 0) := by decide +kernel
theorem f_268_646 : e_fetch 268 646 = some (44, 4907, 229, 1, 0) := by decide +kernel
theorem f_268_649 : e_fetch 268 649 = some (29, 0, 1118, 0, 0) := by decide +kernel
theorem f_268_652 : e_fetch 268 652 = some (0, 1, 0, 0, 0) := by decide +kernel
theorem f_268_653 : e_fetch 268 653 = some (52, 0, 0, 0, 0) := by decide +kernel
theorem f_268_654 : e_fetch 268 654 = some (2, 1, 1, 0, 0) := by decide +kernel
theorem f_268_655 : e_fetch 268 655 = some (44, 4922, 170, 1, 0) := by decide +kernel
theorem f_268_658 : e_fetch 268 658 = some (2, 2, 1, 0, 0) := by decide +kernel
theorem f_268_659 : e_fetch 268 659 = some (44, 4939, 230, 1, 0) := by decide +kernel
theorem f_268_662 : e_fetch 268 662 = some (29, 0, 1118, 0, 0) := by decide +kernel
theorem f_268_665 : e_fetch 268 665 = some (0, 1, 0, 0, 0) := by decide +kernel
theorem f_268_666 : e_fetch 268 666 = some (52, 0, 0, 0, 0) := by decide +kernel
theorem f_268_667 : e_fetch 268 667 = some (2, 1, 1, 0, 0) := by decide +kernel
theorem f_268_668 : e_fetch 268 668 = some (2, 0, 1, 0, 0) := by decide +kernel
theorem f_268_669 : e_fetch 268 669 = some (1, 3, 1, 0, 0) := by decide +kernel
theorem f_268_670 : e_fetch 268 670 = some (0, 1, 0, 0, 1) := by decide +kernel
theorem f_268_671 : e_fetch 268 671 = some (8, 0, 0, 0, 0) := by decide +kernel
theorem f_268_672 : e_fetch 268 672 = some (32, 0, 0, 0, 0) := by decide +kernel
theorem f_268_673 : e_fetch 268 673 = some (44, 4954, 171, 2, 0) := by decide +kernel
theorem f_268_676 : e_fetch 268 676 = some (2, 2, 1, 0, 0) := by decide +kernel
theorem f_268_677 : e_fetch 268 677 = some (2, 0, 1, 0, 0) := by decide +kernel
theorem f_268_678 : e_fetch 268 678 = some (1, 3, 1, 0, 0) := by decide +kernel
theorem f_268_679 : e_fetch 268 679 = some (0, 1, 0, 0, 1) := by decide +kernel
theorem f_268_680 : e_fetch 268 680 = some (8, 0, 0, 0, 0) := by decide +kernel
theorem f_268_681 : e_fetch 268 681 = some (32, 0, 0, 0, 0) := by decide +kernel
theorem f_268_682 : e_fetch 268 682 = some (44, 4971, 231, 2, 0) := by decide +kernel
theorem f_268_685 : e_fetch 268 685 = some (29, 0, 1118, 0, 0) := by decide +kernel
theorem f_268_688 : e_fetch 268 688 = some (0, 1, 0, 0, 0) := by decide +kernel
theorem f_268_689 : e_fetch 268 689 = some (52, 0, 0, 0, 0) := by decide +kernel
theorem f_268_690 : e_fetch 268 690 = some (2, 1, 1, 0, 0) := by decide +kernel
theorem f_268_691 : e_fetch 268 691 = some (2, 0, 1, 0, 0) := by decide +kernel
theorem f_268_692 : e_fetch 268 692 = some (1, 3, 1, 0, 0) := by decide +kernel
theorem f_268_693 : e_fetch 268 693 = some (0, 1, 0, 0, 1) := by decide +kernel
theorem f_268_694 : e_fetch 268 694 = some (8, 0, 0, 0, 0) := by decide +kernel
theorem f_268_695 : e_fetch 268 695 = some (32, 0, 0, 0, 0) := by decide +kernel
theorem f_268_696 : e_fetch 268 696 = some (44, 4986, 172, 2, 0) := by decide +kernel
theorem f_268_699 : e_fetch 268 699 = some (2, 2, 1, 0, 0) := by decide +kernel
theorem f_268_700 : e_fetch 268 700 = some (2, 0, 1, 0, 0) := by decide +kernel
theorem f_268_701 : e_fetch 268 701 = some (1, 3, 1, 0, 0) := by decide +kernel
theorem f_268_702 : e_fetch 268 702 = some (0, 1, 0, 0, 1) := by decide +kernel
theorem f_268_703 : e_fetch 268 703 = some (8, 0, 0, 0, 0) := by decide +kernel
theorem f_268_704 : e_fetch 268 704 = some (32, 0, 0, 0, 0) := by decide +kernel
theorem f_268_705 : e_fetch 268 705 = some (44, 5003, 232, 2, 0) := by decide +kernel
theorem f_268_708 : e_fetch 268 708 = some (29, 0, 1118, 0, 0) := by decide +kernel
theorem f_268_711 : e_fetch 268 711 = some (0, 1, 0, 0, 0) := by decide +kernel
theorem f_268_712 : e_fetch 268 712 = some (52, 0, 0, 0, 0) := by decide +kernel
theorem f_268_713 : e_fetch 268 713 = some (2, 1, 1, 0, 0) := by decide +kernel
theorem f_268_714 : e_fetch 268 714 = some (2, 0, 1, 0, 0) := by decide +kernel
theorem f_268_715 : e_fetch 268 715 = some (1, 3, 1, 0, 0) := by decide +kernel
theorem f_268_716 : e_fetch 268 716 = some (0, 1, 0, 0, 1) := by decide +kernel
theorem f_268_717 : e_fetch 268 717 = some (8, 0, 0, 0, 0) := by decide +kernel
theorem f_268_718 : e_fetch 268 718 = some (32, 0, 0, 0, 0) := by decide +kernel
theorem f_268_719 : e_fetch 268 719 = some (2, 0, 1, 0, 0) := by decide +kernel
theorem f_268_720 : e_fetch 268 720 = some (1, 3, 1, 0, 0) := by decide +kernel
theorem f_268_721 : e_fetch 268 721 = some (0, 1, 0, 0, 2) := by decide +kernel
theorem f_268_722 : e_fetch 268 722 = some (8, 0, 0, 0, 0) := by decide +kernel
theorem f_268_723 : e_fetch 268 723 = some (32, 0, 0, 0, 0) := by decide +kernel
theorem f_268_724 : e_fetch 268 724 = some (44, 5018, 173, 3, 0) := by decide +kernel
theorem f_268_727 : e_fetch 268 727 = some (2, 2, 1, 0, 0) := by decide +kernel
theorem f_268_728 : e_fetch 268 728 = some (2, 0, 1, 0, 0) := by decide +kernel
theorem f_268_729 : e_fetch 268 729 = some (1, 3, 1, 0, 0) := by decide +kernel
theorem f_268_730 : e_fetch 268 730 = some (0, 1, 0, 0, 1) := by decide +kernel
theorem f_268_731 : e_fetch 268 731 = some (8, 0, 0, 0, 0) := by decide +kernel
theorem f_268_732 : e_fetch 268 732 = some (32, 0, 0, 0, 0) := by decide +kernel
theorem f_268_733 : e_fetch 268 733 = some (2, 0, 1, 0, 0) := by decide +kernel
theorem f_268_734 : e_fetch 268 734 = some (1, 3, 1, 0, 0) := by decide +kernel
theorem f_268_735 : e_fetch 268 735 = some (0, 1, 0, 0, 2) := by decide +kernel
theorem f_268_736 : e_fetch 268 736 = some (8, 0, 0, 0, 0) := by decide +kernel
theorem f_268_737 : e_fetch 268 737 = some (32, 0, 0, 0, 0) := by decide +kernel
theorem f_268_738 : e_fetch 268 738 = some (44, 5035, 234, 3, 0) := by decide +kernel
theorem f_268_741 : e_fetch 268 741 = some (29, 0, 1118, 0, 0) := by decide +kernel
theorem f_268_744 : e_fetch 268 744 = some (0, 1, 0, 0, 0) := by decide +kernel
theorem f_268_745 : e_fetch 268 745 = some (52, 0, 0, 0, 0) := by decide +kernel
theorem f_268_746 : e_fetch 268 746 = some (2, 1, 1, 0, 0) := by decide +kernel
theorem f_268_747 : e_fetch 268 747 = some (2, 0, 1, 0, 0) := by decide +kernel
theorem f_268_748 : e_fetch 268 748 = some (1, 3, 1, 0, 0) := by decide +kernel
theorem f_268_749 : e_fetch 268 749 = some (0, 1, 0, 0, 1) := by decide +kernel
theorem f_268_750 : e_fetch 268 750 = some (8, 0, 0, 0, 0) := by decide +kernel
theorem f_268_751 : e_fetch 268 751 = some (32, 0, 0, 0, 0) := by decide +kernel
theorem f_268_752 : e_fetch 268 752 = some (44, 5050, 174, 2, 0) := by decide +kernel
theorem f_268_755 : e_fetch 268 755 = some (2, 2, 1, 0, 0) := by decide +kernel
theorem f_268_756 : e_fetch 268 756 = some (2, 0, 1, 0, 0) := by decide +kernel
theorem f_268_757 : e_fetch 268 757 = some (1, 3, 1, 0, 0) := by decide +kernel
theorem f_268_758 : e_fetch 268 758 = some (0, 1, 0, 0, 1) := by decide +kernel
theorem f_268_759 : e_fetch 268 759 = some (8, 0, 0, 0, 0) := by decide +kernel
theorem f_268_760 : e_fetch 268 760 = some (32, 0, 0, 0, 0) := by decide +kernel
theorem f_268_761 : e_fetch 268 761 = some (44, 5067, 239, 2, 0) := by decide +kernel
theorem f_268_764 : e_fetch 268 764 = some (29, 0, 1118, 0, 0) := by decide +kernel
theorem f_268_767 : e_fetch 268 767 = some (0, 1, 0, 0, 0) := by decide +kernel
theorem f_268_768 : e_fetch 268 768 = some (52, 0, 0, 0, 0) := by decide +kernel
theorem f_268_769 : e_fetch 268 769 = some (2, 1, 1, 0, 0) := by decide +kernel
theorem f_268_770 : e_fetch 268 770 = some (2, 0, 1, 0, 0) := by decide +kernel
theorem f_268_771 : e_fetch 268 771 = some (1, 3, 1, 0, 0) := by decide +kernel
theorem f_268_772 : e_fetch 268 772 = some (0, 1, 0, 0, 1) := by decide +kernel
theorem f_268_773 : e_fetch 268 773 = some (8, 0, 0, 0, 0) := by decide +kernel
theorem f_268_774 : e_fetch 268 774 = some (32, 0, 0, 0, 0) := by decide +kernel
theorem f_268_775 : e_fetch 268 775 = some (44, 5082, 175, 2, 0) := by decide +kernel
theorem f_268_778 : e_fetch 268 778 = some (2, 2, 1, 0, 0) := by decide +kernel
theorem f_268_779 : e_fetch 268 779 = some (2, 0, 1, 0, 0) := by decide +kernel
theorem f_268_780 : e_fetch 268 780 = some (1, 3, 1, 0, 0) := by decide +kernel
theorem f_268_781 : e_fetch 268 781 = some (0, 1, 0, 0, 1) := by decide +kernel
theorem f_268_782 : e_fetch 268 782 = some (8, 0, 0, 0, 0) := by decide +kernel
theorem f_268_783 : e_fetch 268 783 = some (32, 0, 0, 0, 0) := by decide +kernel
theorem f_268_784 : e_fetch 268 784 = some (44, 5099, 240, 2, 0) := by decide +kernel
theorem f_268_787 : e_fetch 268 787 = some (29, 0, 1118, 0, 0) := by decide +kernel
theorem f_268_790 : e_fetch 268 790 = some (0, 1, 0, 0, 0) := by decide +kernel
theorem f_268_791 : e_fetch 268 791 = some (52, 0, 0, 0, 0) := by decide +kernel
theorem f_268_792 : e_fetch 268 792 = some (2, 1, 1, 0, 0) := by decide +kernel
theorem f_268_793 : e_fetch 268 793 = some (2, 0, 1, 0, 0) := by decide +kernel
theorem f_268_794 : e_fetch 268 794 = some (1, 3, 1, 0, 0) := by decide +kernel
theorem f_268_795 : e_fetch 268 795 = some (0, 1, 0, 0, 1) := by decide +kernel
theorem f_268_796 : e_fetch 268 796 = some (8, 0, 0, 0, 0) := by decide +kernel
theorem f_268_797 : e_fetch 268 797 = some (32, 0, 0, 0, 0) := by decide +kernel
theorem f_268_798 : e_fetch 268 798 = some (44, 5114, 176, 2, 0) := by decide +kernel
theorem f_268_801 : e_fetch 268 801 = some (2, 2, 1, 0, 0) := by decide +kernel
theorem f_268_802 : e_fetch 268 802 = some (2, 0, 1, 0, 0) := by decide +kernel
theorem f_268_803 : e_fetch 268 803 = some (1, 3, 1, 0, 0) := by decide +kernel
theorem f_268_804 : e_fetch 268 804 = some (0, 1, 0, 0, 1) := by decide +kernel
theorem f_268_805 : e_fetch 268 805 = some (8, 0, 0, 0, 0) := by decide +kernel
theorem f_268_806 : e_fetch 268 806 = some (32, 0, 0, 0, 0) := by decide +kernel
theorem f_268_807 : e_fetch 268 807 = some (44, 5131, 241, 2, 0) := by decide +kernel
theorem f_268_810 : e_fetch 268 810 = some (29, 0, 1118, 0, 0) := by decide +kernel
theorem f_268_813 : e_fetch 268 813 = some (0, 1, 0, 0, 0) := by decide +kernel
theorem f_268_814 : e_fetch 268 814 = some (52, 0, 0, 0, 0) := by decide +kernel
theorem f_268_815 : e_fetch 268 815 = some (2, 1, 1, 0, 0) := by decide +kernel
theorem f_268_816 : e_fetch 268 816 = some (44, 5146, 177, 1, 0) := by decide +kernel
theorem f_268_819 : e_fetch 268 819 = some (2, 2, 1, 0, 0) := by decide +kernel
theorem f_268_820 : e_fetch 268 820 = some (44, 5163, 243, 1, 0) := by decide +kernel
theorem f_268_823 : e_fetch 268 823 = some (29, 0, 1118, 0, 0) := by decide +kernel
theorem f_268_826 : e_fetch 268 826 = some (0, 1, 0, 0, 0) := by decide +kernel
theorem f_268_827 : e_fetch 268 827 = some (52, 0, 0, 0, 0) := by decide +kernel
theorem f_268_828 : e_fetch 268 828 = some (2, 1, 1, 0, 0) := by decide +kernel
theorem f_268_829 : e_fetch 268 829 = some (44, 5178, 178, 1, 0) := by decide +kernel
theorem f_268_832 : e_fetch 268 832 = some (2, 2, 1, 0, 0) := by decide +kernel
theorem f_268_833 : e_fetch 268 833 = some (44, 5195, 244, 1, 0) := by decide +kernel
theorem f_268_836 : e_fetch 268 836 = some (29, 0, 1118, 0, 0) := by decide +kernel
theorem f_268_839 : e_fetch 268 839 = some (0, 1, 0, 0, 0) := by decide +kernel
theorem f_268_840 : e_fetch 268 840 = some (52, 0, 0, 0, 0) := by decide +kernel
theorem f_268_841 : e_fetch 268 841 = some (2, 1, 1, 0, 0) := by decide +kernel
theorem f_268_842 : e_fetch 268 842 = some (44, 5210, 179, 1, 0) := by decide +kernel
theorem f_268_845 : e_fetch 268 845 = some (2, 2, 1, 0, 0) := by decide +kernel
theorem f_268_846 : e_fetch 268 846 = some (44, 5227, 245, 1, 0) := by decide +kernel
theorem f_268_849 : e_fetch 268 849 = some (29, 0, 1118, 0, 0) := by decide +kernel
theorem f_268_852 : e_fetch 268 852 = some (0, 1, 0, 0, 0) := by decide +kernel
theorem f_268_853 : e_fetch 268 853 = some (52, 0, 0, 0, 0) := by decide +kernel
theorem f_268_854 : e_fetch 268 854 = some (2, 1, 1, 0, 0) := by decide +kernel
theorem f_268_855 : e_fetch 268 855 = some (2, 0, 1, 0, 0) := by decide +kernel
theorem f_268_856 : e_fetch 268 856 = some (1, 3, 1, 0, 0) := by decide +kernel
theorem f_268_857 : e_fetch 268 857 = some (0, 1, 0, 0, 1) := by decide +kernel
theorem f_268_858 : e_fetch 268 858 = some (8, 0, 0, 0, 0) := by decide +kernel
theorem f_268_859 : e_fetch 268 859 = some (32, 0, 0, 0, 0) := by decide +kernel
theorem f_268_860 : e_fetch 268 860 = some (2, 0, 1, 0, 0) := by decide +kernel
theorem f_268_861 : e_fetch 268 861 = some (1, 3, 1, 0, 0) := by decide +kernel
theorem f_268_862 : e_fetch 268 862 = some (0, 1, 0, 0, 2) := by decide +kernel
theorem f_268_863 : e_fetch 268 863 = some (8, 0, 0, 0, 0) := by decide +kernel
theorem f_268_864 : e_fetch 268 864 = some (32, 0, 0, 0, 0) := by decide +kernel
theorem f_268_865 : e_fetch 268 865 = some (44, 5242, 180, 3, 0) := by decide +kernel
theorem f_268_868 : e_fetch 268 868 = some (2, 2, 1, 0, 0) := by decide +kernel
theorem f_268_869 : e_fetch 268 869 = some (2, 0, 1, 0, 0) := by decide +kernel
theorem f_268_870 : e_fetch 268 870 = some (1, 3, 1, 0, 0) := by decide +kernel
theorem f_268_871 : e_fetch 268 871 = some (0, 1, 0, 0, 1) := by decide +kernel
theorem f_268_872 : e_fetch 268 872 = some (8, 0, 0, 0, 0) := by decide +kernel
theorem f_268_873 : e_fetch 268 873 = some (32, 0, 0, 0, 0) := by decide +kernel
theorem f_268_874 : e_fetch 268 874 = some (2, 0, 1, 0, 0) := by decide +kernel
theorem f_268_875 : e_fetch 268 875 = some (1, 3, 1, 0, 0) := by decide +kernel
theorem f_268_876 : e_fetch 268 876 = some (0, 1, 0, 0, 2) := by decide +kernel
theorem f_268_877 : e_fetch 268 877 = some (8, 0, 0, 0, 0) := by decide +kernel
theorem f_268_878 : e_fetch 268 878 = some (32, 0, 0, 0, 0) := by decide +kernel
theorem f_268_879 : e_fetch 268 879 = some (44, 5259, 246, 3, 0) := by decide +kernel
theorem f_268_882 : e_fetch 268 882 = some (29, 0, 1118, 0, 0) := by decide +kernel
theorem f_268_885 : e_fetch 268 885 = some (0, 1, 0, 0, 0) := by decide +kernel
theorem f_268_886 : e_fetch 268 886 = some (52, 0, 0, 0, 0) := by decide +kernel
theorem f_268_887 : e_fetch 268 887 = some (2, 1, 1, 0, 0) := by decide +kernel
theorem f_268_888 : e_fetch 268 888 = some (2, 0, 1, 0, 0) := by decide +kernel
theorem f_268_889 : e_fetch 268 889 = some (1, 3, 1, 0, 0) := by decide +kernel
theorem f_268_890 : e_fetch 268 890 = some (0, 1, 0, 0, 1) := by decide +kernel
theorem f_268_891 : e_fetch 268 891 = some (8, 0, 0, 0, 0) := by decide +kernel
theorem f_268_892 : e_fetch 268 892 = some (32, 0, 0, 0, 0) := by decide +kernel
theorem f_268_893 : e_fetch 268 893 = some (2, 0, 1, 0, 0) := by decide +kernel
theorem f_268_894 : e_fetch 268 894 = some (1, 3, 1, 0, 0) := by decide +kernel
theorem f_268_895 : e_fetch 268 895 = some (0, 1, 0, 0, 2) := by decide +kernel
theorem f_268_896 : e_fetch 268 896 = some (8, 0, 0, 0, 0) := by decide +kernel
theorem f_268_897 : e_fetch 268 897 = some (32, 0, 0, 0, 0) := by decide +kernel
theorem f_268_898 : e_fetch 268 898 = some (44, 5274, 181, 3, 0) := by decide +kernel
theorem f_268_901 : e_fetch 268 901 = some (2, 2, 1, 0, 0) := by decide +kernel
theorem f_268_902 : e_fetch 268 902 = some (2, 0, 1, 0, 0) := by decide +kernel
theorem f_268_903 : e_fetch 268 903 = some (1, 3, 1, 0, 0) := by decide +kernel
theorem f_268_904 : e_fetch 268 904 = some (0, 1, 0, 0, 1) := by decide +kernel
theorem f_268_905 : e_fetch 268 905 = some (8, 0, 0, 0, 0) := by decide +kernel
theorem f_268_906 : e_fetch 268 906 = some (32, 0, 0, 0, 0) := by decide +kernel
theorem f_268_907 : e_fetch 268 907 = some (2, 0, 1, 0, 0) := by decide +kernel
theorem f_268_908 : e_fetch 268 908 = some (1, 3, 1, 0, 0) := by decide +kernel
theorem f_268_909 : e_fetch 268 909 = some (0, 1, 0, 0, 2) := by decide +kernel
theorem f_268_910 : e_fetch 268 910 = some (8, 0, 0, 0, 0) := by decide +kernel
theorem f_268_911 : e_fetch 268 911 = some (32, 0, 0, 0, 0) := by decide +kernel
theorem f_268_912 : e_fetch 268 912 = some (44, 5291, 249, 3, 0) := by decide +kernel
theorem f_268_915 : e_fetch 268 915 = some (29, 0, 1118, 0, 0) := by decide +kernel
theorem f_268_918 : e_fetch 268 918 = some (0, 1, 0, 0, 0) := by decide +kernel
theorem f_268_919 : e_fetch 268 919 = some (52, 0, 0, 0, 0) := by decide +kernel
theorem f_268_920 : e_fetch 268 920 = some (2, 1, 1, 0, 0) := by decide +kernel
theorem f_268_921 : e_fetch 268 921 = some (44, 5306, 182, 1, 0) := by decide +kernel
theorem f_268_924 : e_fetch 268 924 = some (2, 2, 1, 0, 0) := by decide +kernel
theorem f_268_925 : e_fetch 268 925 = some (44, 5323, 250, 1, 0) := by decide +kernel
theorem f_268_928 : e_fetch 268 928 = some (29, 0, 1118, 0, 0) := by decide +kernel
theorem f_268_931 : e_fetch 268 931 = some (0, 1, 0, 0, 0) := by decide +kernel
theorem f_268_932 : e_fetch 268 932 = some (52, 0, 0, 0, 0) := by decide +kernel
theorem f_268_933 : e_fetch 268 933 = some (2, 1, 1, 0, 0) := by decide +kernel
theorem f_268_934 : e_fetch 268 934 = some (44, 5338, 183, 1, 0) := by decide +kernel
theorem f_268_937 : e_fetch 268 937 = some (2, 2, 1, 0, 0) := by decide +kernel
theorem f_268_938 : e_fetch 268 938 = some (44, 5355, 251, 1, 0) := by decide +kernel
theorem f_268_941 : e_fetch 268 941 = some (29, 0, 1118, 0, 0) := by decide +kernel
theorem f_268_944 : e_fetch 268 944 = some (0, 1, 0, 0, 0) := by decide +kernel
theorem f_268_945 : e_fetch 268 945 = some (52, 0, 0, 0, 0) := by decide +kernel
theorem f_268_946 : e_fetch 268 946 = some (2, 1, 1, 0, 0) := by decide +kernel
theorem f_268_947 : e_fetch 268 947 = some (2, 0, 1, 0, 0) := by decide +kernel
theorem f_268_948 : e_fetch 268 948 = some (1, 3, 1, 0, 0) := by decide +kernel
theorem f_268_949 : e_fetch 268 949 = some (0, 1, 0, 0, 1) := by decide +kernel
theorem f_268_950 : e_fetch 268 950 = some (8, 0, 0, 0, 0) := by decide +kernel
theorem f_268_951 : e_fetch 268 951 = some (32, 0, 0, 0, 0) := by decide +kernel
theorem f_268_952 : e_fetch 268 952 = some (2, 0, 1, 0, 0) := by decide +kernel
theorem f_268_953 : e_fetch 268 953 = some (1, 3, 1, 0, 0) := by decide +kernel
theorem f_268_954 : e_fetch 268 954 = some (0, 1, 0, 0, 2) := by decide +kernel
theorem f_268_955 : e_fetch 268 955 = some (8, 0, 0, 0, 0) := by decide +kernel
theorem f_268_956 : e_fetch 268 956 = some (32, 0, 0, 0, 0) := by decide +kernel
theorem f_268_957 : e_fetch 268 957 = some (2, 0, 1, 0, 0) := by decide +kernel
theorem f_268_958 : e_fetch 268 958 = some (1, 3, 1, 0, 0) := by decide +kernel
theorem f_268_959 : e_fetch 268 959 = some (0, 1, 0, 0, 3) := by decide +kernel
theorem f_268_960 : e_fetch 268 960 = some (8, 0, 0, 0, 0) := by decide +kernel
theorem f_268_961 : e_fetch 268 961 = some (32, 0, 0, 0, 0) := by decide +kernel
theorem f_268_962 : e_fetch 268 962 = some (44, 5370, 184, 4, 0) := by decide +kernel
theorem f_268_965 : e_fetch 268 965 = some (2, 2, 1, 0, 0) := by decide +kernel
theorem f_268_966 : e_fetch 268 966 = some (2, 0, 1, 0, 0) := by decide +kernel
theorem f_268_967 : e_fetch 268 967 = some (1, 3, 1, 0, 0) := by decide +kernel
theorem f_268_968 : e_fetch 268 968 = some (0, 1, 0, 0, 1) := by decide +kernel
theorem f_268_969 : e_fetch 268 969 = some (8, 0, 0, 0, 0) := by decide +kernel
theorem f_268_970 : e_fetch 268 970 = some (32, 0, 0, 0, 0) := by decide +kernel
theorem f_268_971 : e_fetch 268 971 = some (2, 0, 1, 0, 0) := by decide +kernel
theorem f_268_972 : e_fetch 268 972 = some (1, 3, 1, 0, 0) := by decide +kernel
theorem f_268_973 : e_fetch 268 973 = some (0, 1, 0, 0, 2) := by decide +kernel
theorem f_268_974 : e_fetch 268 974 = some (8, 0, 0, 0, 0) := by decide +kernel
theorem f_268_975 : e_fetch 268 975 = some (32, 0, 0, 0, 0) := by decide +kernel
theorem f_268_976 : e_fetch 268 976 = some (2, 0, 1, 0, 0) := by decide +kernel
theorem f_268_977 : e_fetch 268 977 = some (1, 3, 1, 0, 0) := by decide +kernel
theorem f_268_978 : e_fetch 268 978 = some (0, 1, 0, 0, 3) := by decide +kernel
theorem f_268_979 : e_fetch 268 979 = some (8, 0, 0, 0, 0) := by decide +kernel
theorem f_268_980 : e_fetch 268 980 = some (32, 0, 0, 0, 0) := by decide +kernel
theorem f_268_981 : e_fetch 268 981 = some (44, 5387, 252, 4, 0) := by decide +kernel
theorem f_268_984 : e_fetch 268 984 = some (29, 0, 1118, 0, 0) := by decide +kernel
theorem f_268_987 : e_fetch 268 987 = some (0, 1, 0, 0, 0) := by decide +kernel
theorem f_268_988 : e_fetch 268 988 = some (52, 0, 0, 0, 0) := by decide +kernel
theorem f_268_989 : e_fetch 268 989 = some (2, 1, 1, 0, 0) := by decide +kernel
theorem f_268_990 : e_fetch 268 990 = some (2, 0, 1, 0, 0) := by decide +kernel
theorem f_268_991 : e_fetch 268 991 = some (1, 3, 1, 0, 0) := by decide +kernel
theorem f_268_992 : e_fetch 268 992 = some (0, 1, 0, 0, 1) := by decide +kernel
theorem f_268_993 : e_fetch 268 993 = some (8, 0, 0, 0, 0) := by decide +kernel
theorem f_268_994 : e_fetch 268 994 = some (32, 0, 0, 0, 0) := by decide +kernel
theorem f_268_995 : e_fetch 268 995 = some (2, 0, 1, 0, 0) := by decide +kernel
theorem f_268_996 : e_fetch 268 996 = some (1, 3, 1, 0, 0) := by decide +kernel
theorem f_268_997 : e_fetch 268 997 = some (0, 1, 0, 0, 2) := by decide +kernel
theorem f_268_998 : e_fetch 268 998 = some (8, 0, 0, 0, 0) := by decide +kernel
theorem f_268_999 : e_fetch 268 999 = some (32, 0, 0, 0, 0) := by decide +kernel
theorem f_268_1000 : e_fetch 268 1000 = some (2, 0, 1, 0, 0) := by decide +kernel
theorem f_268_1001 : e_fetch 268 1001 = some (1, 3, 1, 0, 0) := by decide +kernel
theorem f_268_1002 : e_fetch 268 1002 = some (0, 1, 0, 0, 3) := by decide +kernel
theorem f_268_1003 : e_fetch 268 1003 = some (8, 0, 0, 0, 0) := by decide +kernel
theorem f_268_1004 : e_fetch 268 1004 = some (32, 0, 0, 0, 0) := by decide +kernel
theorem f_268_1005 : e_fetch 268 1005 = some (44, 5402, 185, 4, 0) := by decide +kernel
theorem f_268_1008 : e_fetch 268 1008 = some (2, 2, 1, 0, 0) := by decide +kernel
theorem f_268_1009 : e_fetch 268 1009 = some (2, 0, 1, 0, 0) := by decide +kernel
theorem f_268_1010 : e_fetch 268 1010 = some (1, 3, 1, 0, 0) := by decide +kernel
theorem f_268_1011 : e_fetch 268 1011 = some (0, 1, 0, 0, 1) := by decide +kernel
theorem f_268_1012 : e_fetch 268 1012 = some (8, 0, 0, 0, 0) := by decide +kernel
theorem f_268_1013 : e_fetch 268 1013 = some (32, 0, 0, 0, 0) := by decide +kernel
theorem f_268_1014 : e_fetch 268 1014 = some (2, 0, 1, 0, 0) := by decide +kernel
theorem f_268_1015 : e_fetch 268 1015 = some (1, 3, 1, 0, 0) := by decide +kernel
theorem f_268_1016 : e_fetch 268 1016 = some (0, 1, 0, 0, 2) := by decide +kernel
theorem f_268_1017 : e_fetch 268 1017 = some (8, 0, 0, 0, 0) := by decide +kernel
theorem f_268_1018 : e_fetch 268 1018 = some (32, 0, 0, 0, 0) := by decide +kernel
theorem f_268_1019 : e_fetch 268 1019 = some (2, 0, 1, 0, 0) := by decide +kernel
theorem f_268_1020 : e_fetch 268 1020 = some (1, 3, 1, 0, 0) := by decide +kernel
theorem f_268_1021 : e_fetch 268 1021 = some (0, 1, 0, 0, 3) := by decide +kernel
theorem f_268_1022 : e_fetch 268 1022 = some (8, 0, 0, 0, 0) := by decide +kernel
theorem f_268_1023 : e_fetch 268 1023 = some (32, 0, 0, 0, 0) := by decide +kernel
theorem f_268_1024 : e_fetch 268 1024 = some (44, 5419, 253, 4, 0) := by decide +kernel
theorem f_268_1027 : e_fetch 268 1027 = some (29, 0, 1118, 0, 0) := by decide +kernel
theorem f_268_1030 : e_fetch 268 1030 = some (0, 1, 0, 0, 0) := by decide +kernel
theorem f_268_1031 : e_fetch 268 1031 = some (52, 0, 0, 0, 0) := by decide +kernel
theorem f_268_1032 : e_fetch 268 1032 = some (2, 1, 1, 0, 0) := by decide +kernel
theorem f_268_1033 : e_fetch 268 1033 = some (44, 5434, 186, 1, 0) := by decide +kernel
theorem f_268_1036 : e_fetch 268 1036 = some (2, 2, 1, 0, 0) := by decide +kernel
theorem f_268_1037 : e_fetch 268 1037 = some (44, 5451, 254, 1, 0) := by decide +kernel
theorem f_268_1040 : e_fetch 268 1040 = some (29, 0, 1118, 0, 0) := by decide +kernel
theorem f_268_1043 : e_fetch 268 1043 = some (0, 1, 0, 0, 0) := by decide +kernel
theorem f_268_1044 : e_fetch 268 1044 = some (52, 0, 0, 0, 0) := by decide +kernel
theorem f_268_1045 : e_fetch 268 1045 = some (2, 1, 1, 0, 0) := by decide +kernel
theorem f_268_1046 : e_fetch 268 1046 = some (2, 0, 1, 0, 0) := by decide +kernel
theorem f_268_1047 : e_fetch 268 1047 = some (1, 3, 1, 0, 0) := by decide +kernel
theorem f_268_1048 : e_fetch 268 1048 = some (0, 1, 0, 0, 1) := by decide +kernel
theorem f_268_1049 : e_fetch 268 1049 = some (8, 0, 0, 0, 0) := by decide +kernel
theorem f_268_1050 : e_fetch 268 1050 = some (32, 0, 0, 0, 0) := by decide +kernel
theorem f_268_1051 : e_fetch 268 1051 = some (2, 0, 1, 0, 0) := by decide +kernel
theorem f_268_1052 : e_fetch 268 1052 = some (1, 3, 1, 0, 0) := by decide +kernel
theorem f_268_1053 : e_fetch 268 1053 = some (0, 1, 0, 0, 2) := by decide +kernel
theorem f_268_1054 : e_fetch 268 1054 = some (8, 0, 0, 0, 0) := by decide +kernel
theorem f_268_1055 : e_fetch 268 1055 = some (32, 0, 0, 0, 0) := by decide +kernel
theorem f_268_1056 : e_fetch 268 1056 = some (44, 5466, 187, 3, 0) := by decide +kernel
theorem f_268_1059 : e_fetch 268 1059 = some (2, 2, 1, 0, 0) := by decide +kernel
theorem f_268_1060 : e_fetch 268 1060 = some (2, 0, 1, 0, 0) := by decide +kernel
theorem f_268_1061 : e_fetch 268 1061 = some (1, 3, 1, 0, 0) := by decide +kernel
theorem f_268_1062 : e_fetch 268 1062 = some (0, 1, 0, 0, 1) := by decide +kernel
theorem f_268_1063 : e_fetch 268 1063 = some (8, 0, 0, 0, 0) := by decide +kernel
theorem f_268_1064 : e_fetch 268 1064 = some (32, 0, 0, 0, 0) := by decide +kernel
theorem f_268_1065 : e_fetch 268 1065 = some (2, 0, 1, 0, 0) := by decide +kernel
theorem f_268_1066 : e_fetch 268 1066 = some (1, 3, 1, 0, 0) := by decide +kernel
theorem f_268_1067 : e_fetch 268 1067 = some (0, 1, 0, 0, 2) := by decide +kernel
theorem f_268_1068 : e_fetch 268 1068 = some (8, 0, 0, 0, 0) := by decide +kernel
theorem f_268_1069 : e_fetch 268 1069 = some (32, 0, 0, 0, 0) := by decide +kernel
theorem f_268_1070 : e_fetch 268 1070 = some (44, 5483, 259, 3, 0) := by decide +kernel
theorem f_268_1073 : e_fetch 268 1073 = some (29, 0, 1118, 0, 0) := by decide +kernel
theorem f_268_1076 : e_fetch 268 1076 = some (0, 1, 0, 0, 0) := by decide +kernel
theorem f_268_1077 : e_fetch 268 1077 = some (52, 0, 0, 0, 0) := by decide +kernel
theorem f_268_1078 : e_fetch 268 1078 = some (2, 1, 1, 0, 0) := by decide +kernel
theorem f_268_1079 : e_fetch 268 1079 = some (44, 5498, 188, 1, 0) := by decide +kernel
theorem f_268_1082 : e_fetch 268 1082 = some (2, 2, 1, 0, 0) := by decide +kernel
theorem f_268_1083 : e_fetch 268 1083 = some (44, 5515, 260, 1, 0) := by decide +kernel
theorem f_268_1086 : e_fetch 268 1086 = some (29, 0, 1118, 0, 0) := by decide +kernel
theorem f_268_1089 : e_fetch 268 1089 = some (0, 1, 0, 0, 0) := by decide +kernel
theorem f_268_1090 : e_fetch 268 1090 = some (52, 0, 0, 0, 0) := by decide +kernel
theorem f_268_1091 : e_fetch 268 1091 = some (2, 1, 1, 0, 0) := by decide +kernel
theorem f_268_1092 : e_fetch 268 1092 = some (44, 5530, 189, 1, 0) := by decide +kernel
theorem f_268_1095 : e_fetch 268 1095 = some (2, 2, 1, 0, 0) := by decide +kernel
theorem f_268_1096 : e_fetch 268 1096 = some (44, 5547, 261, 1, 0) := by decide +kernel
theorem f_268_1099 : e_fetch 268 1099 = some (29, 0, 1118, 0, 0) := by decide +kernel
theorem f_268_1102 : e_fetch 268 1102 = some (0, 1, 0, 0, 0) := by decide +kernel
theorem f_268_1103 : e_fetch 268 1103 = some (52, 0, 0, 0, 0) := by decide +kernel
theorem f_268_1104 : e_fetch 268 1104 = some (2, 1, 1, 0, 0) := by decide +kernel
theorem f_268_1105 : e_fetch 268 1105 = some (44, 5562, 190, 1, 0) := by decide +kernel
theorem f_268_1108 : e_fetch 268 1108 = some (2, 2, 1, 0, 0) := by decide +kernel
theorem f_268_1109 : e_fetch 268 1109 = some (44, 5579, 262, 1, 0) := by decide +kernel
theorem f_268_1112 : e_fetch 268 1112 = some (22, 0, 0, 0, 0) := by decide +kernel
theorem f_268_1113 : e_fetch 268 1113 = some (28, 0, 1118, 0, 0) := by decide +kernel
theorem f_268_1116 : e_fetch 268 1116 = some (0, 1, 0, 0, 0) := by decide +kernel
theorem f_268_1117 : e_fetch 268 1117 = some (52, 0, 0, 0, 0) := by decide +kernel
theorem f_268_1118 : e_fetch 268 1118 = some (7, 3, 0, 0, 6) := by decide +kernel
theorem f_268_1121 : e_fetch 268 1121 = some (27, 18, 0, 0, 0) := by decide +kernel
theorem f_268_1124 : e_fetch 268 1124 = some (0, 1, 0, 0, 1) := by decide +kernel
theorem f_268_1125 : e_fetch 268 1125 = some (52, 0, 0, 0, 0) := by decide +kernel
section
variable {G : e_G}
def la_law_b337 (G : e_G) (k18 : Int32 → e_Me → Option (Int32 × e_Me)) (a3 : Int32) (s0 : Int32) (s2 : Int32) (M : e_Me) : Option (Int32 × e_Me) :=
  x_bi (md_drive s0 M) fun x1 M2 =>
  if s2 = x1 then
    k18 (a3 + (6 : Int32)) M2
  else
    some ((0 : Int32), M2)
theorem c_la_law_b337 (kk nn : Nat) (k18 : Int32 → e_Me → Option (Int32 × e_Me)) (a3 : Int32) (s0 : Int32) (s2 : Int32) (M : e_Me) (hk18 : ∀ (a3 : Int32) (M : e_Me), x_X G 268 kk nn x_rim 18 [some (.ref 1000), some (.ref 0), some (.ref 182), some (.int a3)] [] M (k18 a3 M)) : x_X G 268 kk nn x_rim 337 [some (.ref 1000), some (.ref 0), some (.ref 182), some (.int a3)] [.int s0, .ref 182, .int s2] M (la_law_b337 G k18 a3 s0 s2 M) := by
  rw [la_law_b337]
  refine xr_cim f_268_337 (Nat.le_of_ble_eq_true rfl) rfl rfl (xr_rv kd_208 h_182) (Nat.le_of_ble_eq_true rfl) mc_208 ms_208 (c_md_drive s0 M) ?_
  intro x1 M2
  refine xr_29_0 f_268_340 ?_ ?_
  · refine xr_7 [some (.ref 1000), some (.ref 0), some (.ref 182), some (.int (a3 + (6 : Int32)))] f_268_1118 rfl rfl rfl ?_
    refine xr_27 f_268_1121 ?_
    exact hk18 (a3 + (6 : Int32)) M2
  · refine xr_0 f_268_343 ?_
    exact xr_52mc f_268_344 (by decide)

def la_law_b320 (G : e_G) (k18 : Int32 → e_Me → Option (Int32 × e_Me)) (a3 : Int32) (s0 : Int32) (M : e_Me) : Option (Int32 × e_Me) :=
  x_bi (ew_drive s0 M) fun x1 M2 =>
  x_rd (e_sx G) (e_sn G) (a3 + (1 : Int32)) fun x3 =>
  if x3 = 0 then
    la_law_b337 G k18 a3 (0 : Int32) x1 M2
  else
    la_law_b337 G k18 a3 (1 : Int32) x1 M2
theorem c_la_law_b320 (kk nn : Nat) (k18 : Int32 → e_Me → Option (Int32 × e_Me)) (a3 : Int32) (s0 : Int32) (M : e_Me) (hk18 : ∀ (a3 : Int32) (M : e_Me), x_X G 268 kk nn x_rim 18 [some (.ref 1000), some (.ref 0), some (.ref 182), some (.int a3)] [] M (k18 a3 M)) : x_X G 268 kk nn x_rim 320 [some (.ref 1000), some (.ref 0), some (.ref 182), some (.int a3)] [.int s0, .ref 0] M (la_law_b320 G k18 a3 s0 M) := by
  rw [la_law_b320]
  refine xr_cim f_268_320 (Nat.le_of_ble_eq_true rfl) rfl rfl (xr_rv kd_156 h_0) (Nat.le_of_ble_eq_true rfl) mc_156 ms_156 (c_ew_drive s0 M) ?_
  intro x1 M2
  refine xr_2 f_268_323 rfl ?_
  refine xr_2 f_268_324 rfl ?_
  refine xr_1 f_268_325 rfl ?_
  refine xr_0 f_268_326 ?_
  refine xr_8 f_268_327 ?_
  refine xr_32r f_268_328 (e_SHn (by decide)) rfl ?_
  intro x3
  refine xr_28_0 f_268_329 ?_ ?_
  · refine xr_0 f_268_336 ?_
    exact c_la_law_b337 kk nn k18 a3 (0 : Int32) x1 M2 hk18
  · refine xr_0 f_268_332 ?_
    refine xr_27 f_268_333 ?_
    exact c_la_law_b337 kk nn k18 a3 (1 : Int32) x1 M2 hk18

def la_law_l18 (G : e_G)   : Nat → Int32 → e_Me → Option (Int32 × e_Me)
  | 0, _, _ => none
  | F + 1, a3, M =>
    if ((nI (e_sn G)) - (6 : Int32)) < a3 then
      some ((1 : Int32), M)
    else
      x_rd (e_sx G) (e_sn G) a3 fun x1 =>
      if (x1 &&& (63 : Int32)) = 0 then
        x_rd (e_sx G) (e_sn G) (a3 + (1 : Int32)) fun x2 =>
        x_bi (ew_build x2 M) fun x3 M4 =>
        x_rd (e_sx G) (e_sn G) (a3 + (1 : Int32)) fun x5 =>
        x_bi (md_build x5 M4) fun x6 M7 =>
        if x3 = x6 then
          la_law_l18 G  F (a3 + (6 : Int32)) M7
        else
          some ((0 : Int32), M7)
      else
      if (x1 &&& (63 : Int32)) = 1 then
        x_rd (e_sx G) (e_sn G) (a3 + (1 : Int32)) fun x8 =>
        x_bd (ew_arm x8 M) fun x9 =>
        x_rd (e_sx G) (e_sn G) (a3 + (1 : Int32)) fun x10 =>
        x_bd (md_arm x10 M) fun x11 =>
        if x9 = x11 then
          la_law_l18 G  F (a3 + (6 : Int32)) M
        else
          some ((0 : Int32), M)
      else
      if (x1 &&& (63 : Int32)) = 2 then
        x_rd (e_sx G) (e_sn G) (a3 + (1 : Int32)) fun x12 =>
        x_bd (ew_told x12 M) fun x13 =>
        x_rd (e_sx G) (e_sn G) (a3 + (1 : Int32)) fun x14 =>
        x_bd (md_told x14 M) fun x15 =>
        if x13 = x15 then
          la_law_l18 G  F (a3 + (6 : Int32)) M
        else
          some ((0 : Int32), M)
      else
      if (x1 &&& (63 : Int32)) = 3 then
        x_rd (e_sx G) (e_sn G) (a3 + (1 : Int32)) fun x16 =>
        x_rd (e_sx G) (e_sn G) (a3 + (2 : Int32)) fun x17 =>
        x_bi (ew_rule x16 x17 M) fun x18 M19 =>
        x_rd (e_sx G) (e_sn G) (a3 + (1 : Int32)) fun x20 =>
        x_rd (e_sx G) (e_sn G) (a3 + (2 : Int32)) fun x21 =>
        x_bi (md_rule x20 x21 M19) fun x22 M23 =>
        if x18 = x22 then
          la_law_l18 G  F (a3 + (6 : Int32)) M23
        else
          some ((0 : Int32), M23)
      else
      if (x1 &&& (63 : Int32)) = 4 then
        x_rd (e_sx G) (e_sn G) (a3 + (1 : Int32)) fun x24 =>
        if x24 = 0 then
          la_law_b320 G (la_law_l18 G  F) a3 (0 : Int32) M
        else
          la_law_b320 G (la_law_l18 G  F) a3 (1 : Int32) M
      else
      if (x1 &&& (63 : Int32)) = 5 then
        x_rd (e_sx G) (e_sn G) (a3 + (1 : Int32)) fun x25 =>
        x_bd (ew_lean x25 M) fun x26 =>
        x_rd (e_sx G) (e_sn G) (a3 + (1 : Int32)) fun x27 =>
        x_bd (md_lean x27 M) fun x28 =>
        if x26 = x28 then
          la_law_l18 G  F (a3 + (6 : Int32)) M
        else
          some ((0 : Int32), M)
      else
      if (x1 &&& (63 : Int32)) = 6 then
        x_bd (ew_greatest M) fun x29 =>
        x_bd (md_greatest M) fun x30 =>
        if x29 = x30 then
          la_law_l18 G  F (a3 + (6 : Int32)) M
        else
          some ((0 : Int32), M)
      else
      if (x1 &&& (63 : Int32)) = 7 then
        x_bd (ew_worst M) fun x31 =>
        x_bd (md_worst M) fun x32 =>
        if x31 = x32 then
          la_law_l18 G  F (a3 + (6 : Int32)) M
        else
          some ((0 : Int32), M)
      else
      if (x1 &&& (63 : Int32)) = 8 then
        x_rd (e_sx G) (e_sn G) (a3 + (1 : Int32)) fun x33 =>
        x_bd (ew_load x33 M) fun x34 =>
        x_rd (e_sx G) (e_sn G) (a3 + (1 : Int32)) fun x35 =>
        x_bd (md_load x35 M) fun x36 =>
        if x34 = x36 then
          la_law_l18 G  F (a3 + (6 : Int32)) M
        else
          some ((0 : Int32), M)
      else
      if (x1 &&& (63 : Int32)) = 9 then
        x_rd (e_sx G) (e_sn G) (a3 + (1 : Int32)) fun x37 =>
        x_rd (e_sx G) (e_sn G) (a3 + (2 : Int32)) fun x38 =>
        x_bd (ew_cabin x37 x38 M) fun x39 =>
        x_rd (e_sx G) (e_sn G) (a3 + (1 : Int32)) fun x40 =>
        x_rd (e_sx G) (e_sn G) (a3 + (2 : Int32)) fun x41 =>
        x_bd (md_cabin x40 x41 M) fun x42 =>
        if x39 = x42 then
          la_law_l18 G  F (a3 + (6 : Int32)) M
        else
          some ((0 : Int32), M)
      else
      if (x1 &&& (63 : Int32)) = 10 then
        x_rd (e_sx G) (e_sn G) (a3 + (1 : Int32)) fun x43 =>
        x_rd (e_sx G) (e_sn G) (a3 + (2 : Int32)) fun x44 =>
        x_bd (ew_inside x43 x44 M) fun x45 =>
        x_rd (e_sx G) (e_sn G) (a3 + (1 : Int32)) fun x46 =>
        x_rd (e_sx G) (e_sn G) (a3 + (2 : Int32)) fun x47 =>
        x_bd (md_inside x46 x47 M) fun x48 =>
        if x45 = x48 then
          la_law_l18 G  F (a3 + (6 : Int32)) M
        else
          some ((0 : Int32), M)
      else
      if (x1 &&& (63 : Int32)) = 11 then
        x_bi (ew_step M) fun x49 M50 =>
        x_bi (md_step M50) fun x51 M52 =>
        if x49 = x51 then
          la_law_l18 G  F (a3 + (6 : Int32)) M52
        else
          some ((0 : Int32), M52)
      else
      if (x1 &&& (63 : Int32)) = 12 then
        x_bd (ew_why M) fun x53 =>
        x_bd (md_why M) fun x54 =>
        if x53 = x54 then
          la_law_l18 G  F (a3 + (6 : Int32)) M
        else
          some ((0 : Int32), M)
      else
      if (x1 &&& (63 : Int32)) = 13 then
        x_rd (e_sx G) (e_sn G) (a3 + (1 : Int32)) fun x55 =>
        x_bi (ew_stop x55 M) fun x56 M57 =>
        x_rd (e_sx G) (e_sn G) (a3 + (1 : Int32)) fun x58 =>
        x_bi (md_stop x58 M57) fun x59 M60 =>
        if x56 = x59 then
          la_law_l18 G  F (a3 + (6 : Int32)) M60
        else
          some ((0 : Int32), M60)
      else
      if (x1 &&& (63 : Int32)) = 14 then
        x_rd (e_sx G) (e_sn G) (a3 + (1 : Int32)) fun x61 =>
        x_rd (e_sx G) (e_sn G) (a3 + (2 : Int32)) fun x62 =>
        x_rd (e_sx G) (e_sn G) (a3 + (3 : Int32)) fun x63 =>
        x_rd (e_sx G) (e_sn G) (a3 + (4 : Int32)) fun x64 =>
        x_rd (e_sx G) (e_sn G) (a3 + (5 : Int32)) fun x65 =>
        x_bi (ew_come x61 x62 x63 x64 x65 M) fun x66 M67 =>
        x_rd (e_sx G) (e_sn G) (a3 + (1 : Int32)) fun x68 =>
        x_rd (e_sx G) (e_sn G) (a3 + (2 : Int32)) fun x69 =>
        x_rd (e_sx G) (e_sn G) (a3 + (3 : Int32)) fun x70 =>
        x_rd (e_sx G) (e_sn G) (a3 + (4 : Int32)) fun x71 =>
        x_rd (e_sx G) (e_sn G) (a3 + (5 : Int32)) fun x72 =>
        x_bi (md_come x68 x69 x70 x71 x72 M67) fun x73 M74 =>
        if x66 = x73 then
          la_law_l18 G  F (a3 + (6 : Int32)) M74
        else
          some ((0 : Int32), M74)
      else
      if (x1 &&& (63 : Int32)) = 15 then
        x_rd (e_sx G) (e_sn G) (a3 + (1 : Int32)) fun x75 =>
        x_bd (ew_waits x75 M) fun x76 =>
        x_rd (e_sx G) (e_sn G) (a3 + (1 : Int32)) fun x77 =>
        x_bd (md_waits x77 M) fun x78 =>
        if x76 = x78 then
          la_law_l18 G  F (a3 + (6 : Int32)) M
        else
          some ((0 : Int32), M)
      else
      if (x1 &&& (63 : Int32)) = 16 then
        x_rd (e_sx G) (e_sn G) (a3 + (1 : Int32)) fun x79 =>
        x_bd (ew_may x79 M) fun x80 =>
        x_rd (e_sx G) (e_sn G) (a3 + (1 : Int32)) fun x81 =>
        x_bi (md_may x81 M) fun x82 M83 =>
        if x80 = x82 then
          la_law_l18 G  F (a3 + (6 : Int32)) M83
        else
          some ((0 : Int32), M83)
      else
      if (x1 &&& (63 : Int32)) = 17 then
        x_bi (ew_next M) fun x84 M85 =>
        x_bi (md_next M85) fun x86 M87 =>
        if x84 = x86 then
          la_law_l18 G  F (a3 + (6 : Int32)) M87
        else
          some ((0 : Int32), M87)
      else
      if (x1 &&& (63 : Int32)) = 18 then
        x_bi (ew_fill M) fun x88 M89 =>
        x_bi (md_fill M89) fun x90 M91 =>
        if x88 = x90 then
          la_law_l18 G  F (a3 + (6 : Int32)) M91
        else
          some ((0 : Int32), M91)
      else
      if (x1 &&& (63 : Int32)) = 19 then
        x_rd (e_sx G) (e_sn G) (a3 + (1 : Int32)) fun x92 =>
        x_bi (ew_tire x92 M) fun x93 M94 =>
        x_rd (e_sx G) (e_sn G) (a3 + (1 : Int32)) fun x95 =>
        x_bi (md_tire x95 M94) fun x96 M97 =>
        if x93 = x96 then
          la_law_l18 G  F (a3 + (6 : Int32)) M97
        else
          some ((0 : Int32), M97)
      else
      if (x1 &&& (63 : Int32)) = 20 then
        x_rd (e_sx G) (e_sn G) (a3 + (1 : Int32)) fun x98 =>
        x_bi (ew_leave x98 M) fun x99 M100 =>
        x_rd (e_sx G) (e_sn G) (a3 + (1 : Int32)) fun x101 =>
        x_bi (md_leave x101 M100) fun x102 M103 =>
        if x99 = x102 then
          la_law_l18 G  F (a3 + (6 : Int32)) M103
        else
          some ((0 : Int32), M103)
      else
      if (x1 &&& (63 : Int32)) = 21 then
        x_rd (e_sx G) (e_sn G) (a3 + (1 : Int32)) fun x104 =>
        x_rd (e_sx G) (e_sn G) (a3 + (2 : Int32)) fun x105 =>
        x_bd (ew_party x104 x105 M) fun x106 =>
        x_rd (e_sx G) (e_sn G) (a3 + (1 : Int32)) fun x107 =>
        x_rd (e_sx G) (e_sn G) (a3 + (2 : Int32)) fun x108 =>
        x_bd (md_party x107 x108 M) fun x109 =>
        if x106 = x109 then
          la_law_l18 G  F (a3 + (6 : Int32)) M
        else
          some ((0 : Int32), M)
      else
      if (x1 &&& (63 : Int32)) = 22 then
        x_rd (e_sx G) (e_sn G) (a3 + (1 : Int32)) fun x110 =>
        x_bi (ew_order x110 M) fun x111 M112 =>
        x_rd (e_sx G) (e_sn G) (a3 + (1 : Int32)) fun x113 =>
        x_bi (md_order x113 M112) fun x114 M115 =>
        if x111 = x114 then
          la_law_l18 G  F (a3 + (6 : Int32)) M115
        else
          some ((0 : Int32), M115)
      else
      if (x1 &&& (63 : Int32)) = 23 then
        x_rd (e_sx G) (e_sn G) (a3 + (1 : Int32)) fun x116 =>
        x_bi (ew_ordered x116 M) fun x117 M118 =>
        x_rd (e_sx G) (e_sn G) (a3 + (1 : Int32)) fun x119 =>
        x_bi (md_ordered x119 M118) fun x120 M121 =>
        if x117 = x120 then
          la_law_l18 G  F (a3 + (6 : Int32)) M121
        else
          some ((0 : Int32), M121)
      else
      if (x1 &&& (63 : Int32)) = 24 then
        x_rd (e_sx G) (e_sn G) (a3 + (1 : Int32)) fun x122 =>
        x_bi (ew_cost x122 M) fun x123 M124 =>
        x_rd (e_sx G) (e_sn G) (a3 + (1 : Int32)) fun x125 =>
        x_bi (md_cost x125 M124) fun x126 M127 =>
        if x123 = x126 then
          la_law_l18 G  F (a3 + (6 : Int32)) M127
        else
          some ((0 : Int32), M127)
      else
      if (x1 &&& (63 : Int32)) = 25 then
        x_bi (ew_roll M) fun x128 M129 =>
        x_bi (md_roll M129) fun x130 M131 =>
        if x128 = x130 then
          la_law_l18 G  F (a3 + (6 : Int32)) M131
        else
          some ((0 : Int32), M131)
      else
      if (x1 &&& (63 : Int32)) = 26 then
        x_bi (ew_letOut M) fun x132 M133 =>
        x_bi (md_letOut M133) fun x134 M135 =>
        if x132 = x134 then
          la_law_l18 G  F (a3 + (6 : Int32)) M135
        else
          some ((0 : Int32), M135)
      else
      if (x1 &&& (63 : Int32)) = 27 then
        x_bi (ew_stranded M) fun x136 M137 =>
        x_bi (md_stranded M137) fun x138 M139 =>
        if x136 = x138 then
          la_law_l18 G  F (a3 + (6 : Int32)) M139
        else
          some ((0 : Int32), M139)
      else
      if (x1 &&& (63 : Int32)) = 28 then
        x_rd (e_sx G) (e_sn G) (a3 + (1 : Int32)) fun x140 =>
        x_rd (e_sx G) (e_sn G) (a3 + (2 : Int32)) fun x141 =>
        x_bi (ew_note x140 x141 M) fun x142 M143 =>
        x_rd (e_sx G) (e_sn G) (a3 + (1 : Int32)) fun x144 =>
        x_rd (e_sx G) (e_sn G) (a3 + (2 : Int32)) fun x145 =>
        x_bi (md_note x144 x145 M143) fun x146 M147 =>
        if x142 = x146 then
          la_law_l18 G  F (a3 + (6 : Int32)) M147
        else
          some ((0 : Int32), M147)
      else
      if (x1 &&& (63 : Int32)) = 29 then
        x_rd (e_sx G) (e_sn G) (a3 + (1 : Int32)) fun x148 =>
        x_rd (e_sx G) (e_sn G) (a3 + (2 : Int32)) fun x149 =>
        x_bi (ew_up x148 x149 M) fun x150 M151 =>
        x_rd (e_sx G) (e_sn G) (a3 + (1 : Int32)) fun x152 =>
        x_rd (e_sx G) (e_sn G) (a3 + (2 : Int32)) fun x153 =>
        x_bi (md_up x152 x153 M151) fun x154 M155 =>
        if x150 = x154 then
          la_law_l18 G  F (a3 + (6 : Int32)) M155
        else
          some ((0 : Int32), M155)
      else
      if (x1 &&& (63 : Int32)) = 30 then
        x_bi (ew_begins M) fun x156 M157 =>
        x_bi (md_begins M157) fun x158 M159 =>
        if x156 = x158 then
          la_law_l18 G  F (a3 + (6 : Int32)) M159
        else
          some ((0 : Int32), M159)
      else
      if (x1 &&& (63 : Int32)) = 31 then
        x_bi (ew_tear M) fun x160 M161 =>
        x_bi (md_tear M161) fun x162 M163 =>
        if x160 = x162 then
          la_law_l18 G  F (a3 + (6 : Int32)) M163
        else
          some ((0 : Int32), M163)
      else
      if (x1 &&& (63 : Int32)) = 32 then
        x_rd (e_sx G) (e_sn G) (a3 + (1 : Int32)) fun x164 =>
        x_rd (e_sx G) (e_sn G) (a3 + (2 : Int32)) fun x165 =>
        x_rd (e_sx G) (e_sn G) (a3 + (3 : Int32)) fun x166 =>
        x_bi (ew_guess x164 x165 x166 M) fun x167 M168 =>
        x_rd (e_sx G) (e_sn G) (a3 + (1 : Int32)) fun x169 =>
        x_rd (e_sx G) (e_sn G) (a3 + (2 : Int32)) fun x170 =>
        x_rd (e_sx G) (e_sn G) (a3 + (3 : Int32)) fun x171 =>
        x_bi (md_guess x169 x170 x171 M168) fun x172 M173 =>
        if x167 = x172 then
          la_law_l18 G  F (a3 + (6 : Int32)) M173
        else
          some ((0 : Int32), M173)
      else
      if (x1 &&& (63 : Int32)) = 33 then
        x_rd (e_sx G) (e_sn G) (a3 + (1 : Int32)) fun x174 =>
        x_rd (e_sx G) (e_sn G) (a3 + (2 : Int32)) fun x175 =>
        x_rd (e_sx G) (e_sn G) (a3 + (3 : Int32)) fun x176 =>
        x_bi (ew_read x174 x175 x176 M) fun x177 M178 =>
        x_rd (e_sx G) (e_sn G) (a3 + (1 : Int32)) fun x179 =>
        x_rd (e_sx G) (e_sn G) (a3 + (2 : Int32)) fun x180 =>
        x_rd (e_sx G) (e_sn G) (a3 + (3 : Int32)) fun x181 =>
        x_bi (md_read x179 x180 x181 M178) fun x182 M183 =>
        if x177 = x182 then
          la_law_l18 G  F (a3 + (6 : Int32)) M183
        else
          some ((0 : Int32), M183)
      else
      if (x1 &&& (63 : Int32)) = 34 then
        x_bi (ew_forget M) fun x184 M185 =>
        x_bi (md_forget M185) fun x186 M187 =>
        if x184 = x186 then
          la_law_l18 G  F (a3 + (6 : Int32)) M187
        else
          some ((0 : Int32), M187)
      else
      if (x1 &&& (63 : Int32)) = 35 then
        x_rd (e_sx G) (e_sn G) (a3 + (1 : Int32)) fun x188 =>
        x_rd (e_sx G) (e_sn G) (a3 + (2 : Int32)) fun x189 =>
        x_bi (ew_fit x188 x189 M) fun x190 M191 =>
        x_rd (e_sx G) (e_sn G) (a3 + (1 : Int32)) fun x192 =>
        x_rd (e_sx G) (e_sn G) (a3 + (2 : Int32)) fun x193 =>
        x_bi (md_fit x192 x193 M191) fun x194 M195 =>
        if x190 = x194 then
          la_law_l18 G  F (a3 + (6 : Int32)) M195
        else
          some ((0 : Int32), M195)
      else
      if (x1 &&& (63 : Int32)) = 36 then
        x_bi (ew_breaks M) fun x196 M197 =>
        x_bi (md_breaks M197) fun x198 M199 =>
        if x196 = x198 then
          la_law_l18 G  F (a3 + (6 : Int32)) M199
        else
          some ((0 : Int32), M199)
      else
      if (x1 &&& (63 : Int32)) = 37 then
        x_bi (ew_agree M) fun x200 M201 =>
        x_bi (md_agree M201) fun x202 M203 =>
        if x200 = x202 then
          la_law_l18 G  F (a3 + (6 : Int32)) M203
        else
          some ((0 : Int32), M203)
      else
      if (x1 &&& (63 : Int32)) = 38 then
        x_bd (ew_digest M) fun x204 =>
        x_bd (md_digest M) fun x205 =>
        if (lg_cmp x204 x205) = 0 then
          la_law_l18 G  F (a3 + (6 : Int32)) M
        else
          some ((0 : Int32), M)
      else
      la_law_l18 G  F (a3 + (6 : Int32)) M
theorem c_la_law_l18 (kk nn : Nat)    : ∀ (F : Nat) (a3 : Int32) (M : e_Me), x_X G 268 kk nn x_rim 18 [some (.ref 1000), some (.ref 0), some (.ref 182), some (.int a3)] [] M (la_law_l18 G  F a3 M) := by
  intro F
  induction F with
  | zero => intro a3 M; exact xr_none
  | succ F ih =>
    intro a3 M
    rw [la_law_l18]
    refine xr_1 f_268_18 rfl ?_
    refine xr_2 f_268_19 rfl ?_
    refine xr_38r f_268_20 (e_SHn (by decide)) rfl ?_
    refine xr_0 f_268_21 ?_
    refine xr_9 f_268_23 ?_
    refine xr_29_4 f_268_24 ?_ ?_
    · refine xr_0 f_268_1124 ?_
      exact xr_52mc f_268_1125 (by decide)
    · refine xr_2 f_268_27 rfl ?_
      refine xr_1 f_268_28 rfl ?_
      refine xr_32r f_268_29 (e_SHn (by decide)) rfl ?_
      intro x1
      refine xr_0 f_268_30 ?_
      refine xr_16 f_268_32 ?_
      refine xr_47 f_268_33 rfl ?_
      refine xr_s1 ?_ ?_
      · refine xr_2 f_268_204 rfl ?_
        refine xr_2 f_268_205 rfl ?_
        refine xr_1 f_268_206 rfl ?_
        refine xr_0 f_268_207 ?_
        refine xr_8 f_268_208 ?_
        refine xr_32r f_268_209 (e_SHn (by decide)) rfl ?_
        intro x2
        refine xr_cim f_268_210 (Nat.le_of_ble_eq_true rfl) rfl rfl (xr_rv kd_152 h_0) (Nat.le_of_ble_eq_true rfl) mc_152 ms_152 (c_ew_build x2 M) ?_
        intro x3 M4
        refine xr_2 f_268_213 rfl ?_
        refine xr_2 f_268_214 rfl ?_
        refine xr_1 f_268_215 rfl ?_
        refine xr_0 f_268_216 ?_
        refine xr_8 f_268_217 ?_
        refine xr_32r f_268_218 (e_SHn (by decide)) rfl ?_
        intro x5
        refine xr_cim f_268_219 (Nat.le_of_ble_eq_true rfl) rfl rfl (xr_rv kd_196 h_182) (Nat.le_of_ble_eq_true rfl) mc_196 ms_196 (c_md_build x5 M4) ?_
        intro x6 M7
        refine xr_29_0 f_268_222 ?_ ?_
        · refine xr_7 [some (.ref 1000), some (.ref 0), some (.ref 182), some (.int (a3 + (6 : Int32)))] f_268_1118 rfl rfl rfl ?_
          refine xr_27 f_268_1121 ?_
          exact ih (a3 + (6 : Int32)) M7
        · refine xr_0 f_268_225 ?_
          exact xr_52mc f_268_226 (by decide)
      refine xr_s1 ?_ ?_
      · refine xr_2 f_268_227 rfl ?_
        refine xr_2 f_268_228 rfl ?_
        refine xr_1 f_268_229 rfl ?_
        refine xr_0 f_268_230 ?_
        refine xr_8 f_268_231 ?_
        refine xr_32r f_268_232 (e_SHn (by decide)) rfl ?_
        intro x8
        refine xr_ci f_268_233 (Nat.le_of_ble_eq_true rfl) rfl rfl (xr_rv kd_153 h_0) (Nat.le_of_ble_eq_true rfl) mc_153 ms_153 (c_ew_arm x8 M) ?_
        intro x9
        refine xr_2 f_268_236 rfl ?_
        refine xr_2 f_268_237 rfl ?_
        refine xr_1 f_268_238 rfl ?_
        refine xr_0 f_268_239 ?_
        refine xr_8 f_268_240 ?_
        refine xr_32r f_268_241 (e_SHn (by decide)) rfl ?_
        intro x10
        refine xr_ci f_268_242 (Nat.le_of_ble_eq_true rfl) rfl rfl (xr_rv kd_199 h_182) (Nat.le_of_ble_eq_true rfl) mc_199 ms_199 (c_md_arm x10 M) ?_
        intro x11
        refine xr_29_0 f_268_245 ?_ ?_
        · refine xr_7 [some (.ref 1000), some (.ref 0), some (.ref 182), some (.int (a3 + (6 : Int32)))] f_268_1118 rfl rfl rfl ?_
          refine xr_27 f_268_1121 ?_
          exact ih (a3 + (6 : Int32)) M
        · refine xr_0 f_268_248 ?_
          exact xr_52mc f_268_249 (by decide)
      refine xr_s1 ?_ ?_
      · refine xr_2 f_268_250 rfl ?_
        refine xr_2 f_268_251 rfl ?_
        refine xr_1 f_268_252 rfl ?_
        refine xr_0 f_268_253 ?_
        refine xr_8 f_268_254 ?_
        refine xr_32r f_268_255 (e_SHn (by decide)) rfl ?_
        intro x12
        refine xr_ci f_268_256 (Nat.le_of_ble_eq_true rfl) rfl rfl (xr_rv kd_154 h_0) (Nat.le_of_ble_eq_true rfl) mc_154 ms_154 (c_ew_told x12 M) ?_
        intro x13
        refine xr_2 f_268_259 rfl ?_
        refine xr_2 f_268_260 rfl ?_
        refine xr_1 f_268_261 rfl ?_
        refine xr_0 f_268_262 ?_
        refine xr_8 f_268_263 ?_
        refine xr_32r f_268_264 (e_SHn (by decide)) rfl ?_
        intro x14
        refine xr_ci f_268_265 (Nat.le_of_ble_eq_true rfl) rfl rfl (xr_rv kd_206 h_182) (Nat.le_of_ble_eq_true rfl) mc_206 ms_206 (c_md_told x14 M) ?_
        intro x15
        refine xr_29_0 f_268_268 ?_ ?_
        · refine xr_7 [some (.ref 1000), some (.ref 0), some (.ref 182), some (.int (a3 + (6 : Int32)))] f_268_1118 rfl rfl rfl ?_
          refine xr_27 f_268_1121 ?_
          exact ih (a3 + (6 : Int32)) M
        · refine xr_0 f_268_271 ?_
          exact xr_52mc f_268_272 (by decide)
      refine xr_s1 ?_ ?_
      · refine xr_2 f_268_273 rfl ?_
        refine xr_2 f_268_274 rfl ?_
        refine xr_1 f_268_275 rfl ?_
        refine xr_0 f_268_276 ?_
        refine xr_8 f_268_277 ?_
        refine xr_32r f_268_278 (e_SHn (by decide)) rfl ?_
        intro x16
        refine xr_2 f_268_279 rfl ?_
        refine xr_1 f_268_280 rfl ?_
        refine xr_0 f_268_281 ?_
        refine xr_8 f_268_282 ?_
        refine xr_32r f_268_283 (e_SHn (by decide)) rfl ?_
        intro x17
        refine xr_cim f_268_284 (Nat.le_of_ble_eq_true rfl) rfl rfl (xr_rv kd_155 h_0) (Nat.le_of_ble_eq_true rfl) mc_155 ms_155 (c_ew_rule x16 x17 M) ?_
        intro x18 M19
        refine xr_2 f_268_287 rfl ?_
        refine xr_2 f_268_288 rfl ?_
        refine xr_1 f_268_289 rfl ?_
        refine xr_0 f_268_290 ?_
        refine xr_8 f_268_291 ?_
        refine xr_32r f_268_292 (e_SHn (by decide)) rfl ?_
        intro x20
        refine xr_2 f_268_293 rfl ?_
        refine xr_1 f_268_294 rfl ?_
        refine xr_0 f_268_295 ?_
        refine xr_8 f_268_296 ?_
        refine xr_32r f_268_297 (e_SHn (by decide)) rfl ?_
        intro x21
        refine xr_cim f_268_298 (Nat.le_of_ble_eq_true rfl) rfl rfl (xr_rv kd_207 h_182) (Nat.le_of_ble_eq_true rfl) mc_207 ms_207 (c_md_rule x20 x21 M19) ?_
        intro x22 M23
        refine xr_29_0 f_268_301 ?_ ?_
        · refine xr_7 [some (.ref 1000), some (.ref 0), some (.ref 182), some (.int (a3 + (6 : Int32)))] f_268_1118 rfl rfl rfl ?_
          refine xr_27 f_268_1121 ?_
          exact ih (a3 + (6 : Int32)) M23
        · refine xr_0 f_268_304 ?_
          exact xr_52mc f_268_305 (by decide)
      refine xr_s1 ?_ ?_
      · refine xr_2 f_268_306 rfl ?_
        refine xr_2 f_268_307 rfl ?_
        refine xr_1 f_268_308 rfl ?_
        refine xr_0 f_268_309 ?_
        refine xr_8 f_268_310 ?_
        refine xr_32r f_268_311 (e_SHn (by decide)) rfl ?_
        intro x24
        refine xr_28_0 f_268_312 ?_ ?_
        · refine xr_0 f_268_319 ?_
          exact c_la_law_b320 kk nn (la_law_l18 G  F) a3 (0 : Int32) M ih
        · refine xr_0 f_268_315 ?_
          refine xr_27 f_268_316 ?_
          exact c_la_law_b320 kk nn (la_law_l18 G  F) a3 (1 : Int32) M ih
      refine xr_s1 ?_ ?_
      · refine xr_2 f_268_345 rfl ?_
        refine xr_2 f_268_346 rfl ?_
        refine xr_1 f_268_347 rfl ?_
        refine xr_0 f_268_348 ?_
        refine xr_8 f_268_349 ?_
        refine xr_32r f_268_350 (e_SHn (by decide)) rfl ?_
        intro x25
        refine xr_ci f_268_351 (Nat.le_of_ble_eq_true rfl) rfl rfl (xr_rv kd_157 h_0) (Nat.le_of_ble_eq_true rfl) mc_157 ms_157 (c_ew_lean x25 M) ?_
        intro x26
        refine xr_2 f_268_354 rfl ?_
        refine xr_2 f_268_355 rfl ?_
        refine xr_1 f_268_356 rfl ?_
        refine xr_0 f_268_357 ?_
        refine xr_8 f_268_358 ?_
        refine xr_32r f_268_359 (e_SHn (by decide)) rfl ?_
        intro x27
        refine xr_ci f_268_360 (Nat.le_of_ble_eq_true rfl) rfl rfl (xr_rv kd_209 h_182) (Nat.le_of_ble_eq_true rfl) mc_209 ms_209 (c_md_lean x27 M) ?_
        intro x28
        refine xr_29_0 f_268_363 ?_ ?_
        · refine xr_7 [some (.ref 1000), some (.ref 0), some (.ref 182), some (.int (a3 + (6 : Int32)))] f_268_1118 rfl rfl rfl ?_
          refine xr_27 f_268_1121 ?_
          exact ih (a3 + (6 : Int32)) M
        · refine xr_0 f_268_366 ?_
          exact xr_52mc f_268_367 (by decide)
      refine xr_s1 ?_ ?_
      · refine xr_2 f_268_368 rfl ?_
        refine xr_ci f_268_369 (Nat.le_of_ble_eq_true rfl) rfl rfl (xr_rv kd_158 h_0) (Nat.le_of_ble_eq_true rfl) mc_158 ms_158 (c_ew_greatest M) ?_
        intro x29
        refine xr_2 f_268_372 rfl ?_
        refine xr_ci f_268_373 (Nat.le_of_ble_eq_true rfl) rfl rfl (xr_rv kd_210 h_182) (Nat.le_of_ble_eq_true rfl) mc_210 ms_210 (c_md_greatest M) ?_
        intro x30
        refine xr_29_0 f_268_376 ?_ ?_
        · refine xr_7 [some (.ref 1000), some (.ref 0), some (.ref 182), some (.int (a3 + (6 : Int32)))] f_268_1118 rfl rfl rfl ?_
          refine xr_27 f_268_1121 ?_
          exact ih (a3 + (6 : Int32)) M
        · refine xr_0 f_268_379 ?_
          exact xr_52mc f_268_380 (by decide)
      refine xr_s1 ?_ ?_
      · refine xr_2 f_268_381 rfl ?_
        refine xr_ci f_268_382 (Nat.le_of_ble_eq_true rfl) rfl rfl (xr_rv kd_159 h_0) (Nat.le_of_ble_eq_true rfl) mc_159 ms_159 (c_ew_worst M) ?_
        intro x31
        refine xr_2 f_268_385 rfl ?_
        refine xr_ci f_268_386 (Nat.le_of_ble_eq_true rfl) rfl rfl (xr_rv kd_211 h_182) (Nat.le_of_ble_eq_true rfl) mc_211 ms_211 (c_md_worst M) ?_
        intro x32
        refine xr_29_0 f_268_389 ?_ ?_
        · refine xr_7 [some (.ref 1000), some (.ref 0), some (.ref 182), some (.int (a3 + (6 : Int32)))] f_268_1118 rfl rfl rfl ?_
          refine xr_27 f_268_1121 ?_
          exact ih (a3 + (6 : Int32)) M
        · refine xr_0 f_268_392 ?_
          exact xr_52mc f_268_393 (by decide)
      refine xr_s1 ?_ ?_
      · refine xr_2 f_268_394 rfl ?_
        refine xr_2 f_268_395 rfl ?_
        refine xr_1 f_268_396 rfl ?_
        refine xr_0 f_268_397 ?_
        refine xr_8 f_268_398 ?_
        refine xr_32r f_268_399 (e_SHn (by decide)) rfl ?_
        intro x33
        refine xr_ci f_268_400 (Nat.le_of_ble_eq_true rfl) rfl rfl (xr_rv kd_160 h_0) (Nat.le_of_ble_eq_true rfl) mc_160 ms_160 (c_ew_load x33 M) ?_
        intro x34
        refine xr_2 f_268_403 rfl ?_
        refine xr_2 f_268_404 rfl ?_
        refine xr_1 f_268_405 rfl ?_
        refine xr_0 f_268_406 ?_
        refine xr_8 f_268_407 ?_
        refine xr_32r f_268_408 (e_SHn (by decide)) rfl ?_
        intro x35
        refine xr_ci f_268_409 (Nat.le_of_ble_eq_true rfl) rfl rfl (xr_rv kd_213 h_182) (Nat.le_of_ble_eq_true rfl) mc_213 ms_213 (c_md_load x35 M) ?_
        intro x36
        refine xr_29_0 f_268_412 ?_ ?_
        · refine xr_7 [some (.ref 1000), some (.ref 0), some (.ref 182), some (.int (a3 + (6 : Int32)))] f_268_1118 rfl rfl rfl ?_
          refine xr_27 f_268_1121 ?_
          exact ih (a3 + (6 : Int32)) M
        · refine xr_0 f_268_415 ?_
          exact xr_52mc f_268_416 (by decide)
      refine xr_s1 ?_ ?_
      · refine xr_2 f_268_417 rfl ?_
        refine xr_2 f_268_418 rfl ?_
        refine xr_1 f_268_419 rfl ?_
        refine xr_0 f_268_420 ?_
        refine xr_8 f_268_421 ?_
        refine xr_32r f_268_422 (e_SHn (by decide)) rfl ?_
        intro x37
        refine xr_2 f_268_423 rfl ?_
        refine xr_1 f_268_424 rfl ?_
        refine xr_0 f_268_425 ?_
        refine xr_8 f_268_426 ?_
        refine xr_32r f_268_427 (e_SHn (by decide)) rfl ?_
        intro x38
        refine xr_ci f_268_428 (Nat.le_of_ble_eq_true rfl) rfl rfl (xr_rv kd_161 h_0) (Nat.le_of_ble_eq_true rfl) mc_161 ms_161 (c_ew_cabin x37 x38 M) ?_
        intro x39
        refine xr_2 f_268_431 rfl ?_
        refine xr_2 f_268_432 rfl ?_
        refine xr_1 f_268_433 rfl ?_
        refine xr_0 f_268_434 ?_
        refine xr_8 f_268_435 ?_
        refine xr_32r f_268_436 (e_SHn (by decide)) rfl ?_
        intro x40
        refine xr_2 f_268_437 rfl ?_
        refine xr_1 f_268_438 rfl ?_
        refine xr_0 f_268_439 ?_
        refine xr_8 f_268_440 ?_
        refine xr_32r f_268_441 (e_SHn (by decide)) rfl ?_
        intro x41
        refine xr_ci f_268_442 (Nat.le_of_ble_eq_true rfl) rfl rfl (xr_rv kd_215 h_182) (Nat.le_of_ble_eq_true rfl) mc_215 ms_215 (c_md_cabin x40 x41 M) ?_
        intro x42
        refine xr_29_0 f_268_445 ?_ ?_
        · refine xr_7 [some (.ref 1000), some (.ref 0), some (.ref 182), some (.int (a3 + (6 : Int32)))] f_268_1118 rfl rfl rfl ?_
          refine xr_27 f_268_1121 ?_
          exact ih (a3 + (6 : Int32)) M
        · refine xr_0 f_268_448 ?_
          exact xr_52mc f_268_449 (by decide)
      refine xr_s1 ?_ ?_
      · refine xr_2 f_268_450 rfl ?_
        refine xr_2 f_268_451 rfl ?_
        refine xr_1 f_268_452 rfl ?_
        refine xr_0 f_268_453 ?_
        refine xr_8 f_268_454 ?_
        refine xr_32r f_268_455 (e_SHn (by decide)) rfl ?_
        intro x43
        refine xr_2 f_268_456 rfl ?_
        refine xr_1 f_268_457 rfl ?_
        refine xr_0 f_268_458 ?_
        refine xr_8 f_268_459 ?_
        refine xr_32r f_268_460 (e_SHn (by decide)) rfl ?_
        intro x44
        refine xr_ci f_268_461 (Nat.le_of_ble_eq_true rfl) rfl rfl (xr_rv kd_162 h_0) (Nat.le_of_ble_eq_true rfl) mc_162 ms_162 (c_ew_inside x43 x44 M) ?_
        intro x45
        refine xr_2 f_268_464 rfl ?_
        refine xr_2 f_268_465 rfl ?_
        refine xr_1 f_268_466 rfl ?_
        refine xr_0 f_268_467 ?_
        refine xr_8 f_268_468 ?_
        refine xr_32r f_268_469 (e_SHn (by decide)) rfl ?_
        intro x46
        refine xr_2 f_268_470 rfl ?_
        refine xr_1 f_268_471 rfl ?_
        refine xr_0 f_268_472 ?_
        refine xr_8 f_268_473 ?_
        refine xr_32r f_268_474 (e_SHn (by decide)) rfl ?_
        intro x47
        refine xr_ci f_268_475 (Nat.le_of_ble_eq_true rfl) rfl rfl (xr_rv kd_216 h_182) (Nat.le_of_ble_eq_true rfl) mc_216 ms_216 (c_md_inside x46 x47 M) ?_
        intro x48
        refine xr_29_0 f_268_478 ?_ ?_
        · refine xr_7 [some (.ref 1000), some (.ref 0), some (.ref 182), some (.int (a3 + (6 : Int32)))] f_268_1118 rfl rfl rfl ?_
          refine xr_27 f_268_1121 ?_
          exact ih (a3 + (6 : Int32)) M
        · refine xr_0 f_268_481 ?_
          exact xr_52mc f_268_482 (by decide)
      refine xr_s1 ?_ ?_
      · refine xr_2 f_268_483 rfl ?_
        refine xr_cim f_268_484 (Nat.le_of_ble_eq_true rfl) rfl rfl (xr_rv kd_163 h_0) (Nat.le_of_ble_eq_true rfl) mc_163 ms_163 (c_ew_step M) ?_
        intro x49 M50
        refine xr_2 f_268_487 rfl ?_
        refine xr_cim f_268_488 (Nat.le_of_ble_eq_true rfl) rfl rfl (xr_rv kd_219 h_182) (Nat.le_of_ble_eq_true rfl) mc_219 ms_219 (c_md_step M50) ?_
        intro x51 M52
        refine xr_29_0 f_268_491 ?_ ?_
        · refine xr_7 [some (.ref 1000), some (.ref 0), some (.ref 182), some (.int (a3 + (6 : Int32)))] f_268_1118 rfl rfl rfl ?_
          refine xr_27 f_268_1121 ?_
          exact ih (a3 + (6 : Int32)) M52
        · refine xr_0 f_268_494 ?_
          exact xr_52mc f_268_495 (by decide)
      refine xr_s1 ?_ ?_
      · refine xr_2 f_268_496 rfl ?_
        refine xr_ci f_268_497 (Nat.le_of_ble_eq_true rfl) rfl rfl (xr_rv kd_164 h_0) (Nat.le_of_ble_eq_true rfl) mc_164 ms_164 (c_ew_why M) ?_
        intro x53
        refine xr_2 f_268_500 rfl ?_
        refine xr_ci f_268_501 (Nat.le_of_ble_eq_true rfl) rfl rfl (xr_rv kd_220 h_182) (Nat.le_of_ble_eq_true rfl) mc_220 ms_220 (c_md_why M) ?_
        intro x54
        refine xr_29_0 f_268_504 ?_ ?_
        · refine xr_7 [some (.ref 1000), some (.ref 0), some (.ref 182), some (.int (a3 + (6 : Int32)))] f_268_1118 rfl rfl rfl ?_
          refine xr_27 f_268_1121 ?_
          exact ih (a3 + (6 : Int32)) M
        · refine xr_0 f_268_507 ?_
          exact xr_52mc f_268_508 (by decide)
      refine xr_s1 ?_ ?_
      · refine xr_2 f_268_509 rfl ?_
        refine xr_2 f_268_510 rfl ?_
        refine xr_1 f_268_511 rfl ?_
        refine xr_0 f_268_512 ?_
        refine xr_8 f_268_513 ?_
        refine xr_32r f_268_514 (e_SHn (by decide)) rfl ?_
        intro x55
        refine xr_cim f_268_515 (Nat.le_of_ble_eq_true rfl) rfl rfl (xr_rv kd_165 h_0) (Nat.le_of_ble_eq_true rfl) mc_165 ms_165 (c_ew_stop x55 M) ?_
        intro x56 M57
        refine xr_2 f_268_518 rfl ?_
        refine xr_2 f_268_519 rfl ?_
        refine xr_1 f_268_520 rfl ?_
        refine xr_0 f_268_521 ?_
        refine xr_8 f_268_522 ?_
        refine xr_32r f_268_523 (e_SHn (by decide)) rfl ?_
        intro x58
        refine xr_cim f_268_524 (Nat.le_of_ble_eq_true rfl) rfl rfl (xr_rv kd_221 h_182) (Nat.le_of_ble_eq_true rfl) mc_221 ms_221 (c_md_stop x58 M57) ?_
        intro x59 M60
        refine xr_29_0 f_268_527 ?_ ?_
        · refine xr_7 [some (.ref 1000), some (.ref 0), some (.ref 182), some (.int (a3 + (6 : Int32)))] f_268_1118 rfl rfl rfl ?_
          refine xr_27 f_268_1121 ?_
          exact ih (a3 + (6 : Int32)) M60
        · refine xr_0 f_268_530 ?_
          exact xr_52mc f_268_531 (by decide)
      refine xr_s1 ?_ ?_
      · refine xr_2 f_268_532 rfl ?_
        refine xr_2 f_268_533 rfl ?_
        refine xr_1 f_268_534 rfl ?_
        refine xr_0 f_268_535 ?_
        refine xr_8 f_268_536 ?_
        refine xr_32r f_268_537 (e_SHn (by decide)) rfl ?_
        intro x61
        refine xr_2 f_268_538 rfl ?_
        refine xr_1 f_268_539 rfl ?_
        refine xr_0 f_268_540 ?_
        refine xr_8 f_268_541 ?_
        refine xr_32r f_268_542 (e_SHn (by decide)) rfl ?_
        intro x62
        refine xr_2 f_268_543 rfl ?_
        refine xr_1 f_268_544 rfl ?_
        refine xr_0 f_268_545 ?_
        refine xr_8 f_268_546 ?_
        refine xr_32r f_268_547 (e_SHn (by decide)) rfl ?_
        intro x63
        refine xr_2 f_268_548 rfl ?_
        refine xr_1 f_268_549 rfl ?_
        refine xr_0 f_268_550 ?_
        refine xr_8 f_268_551 ?_
        refine xr_32r f_268_552 (e_SHn (by decide)) rfl ?_
        intro x64
        refine xr_2 f_268_553 rfl ?_
        refine xr_1 f_268_554 rfl ?_
        refine xr_0 f_268_555 ?_
        refine xr_8 f_268_556 ?_
        refine xr_32r f_268_557 (e_SHn (by decide)) rfl ?_
        intro x65
        refine xr_cim f_268_558 (Nat.le_of_ble_eq_true rfl) rfl rfl (xr_rv kd_166 h_0) (Nat.le_of_ble_eq_true rfl) mc_166 ms_166 (c_ew_come x61 x62 x63 x64 x65 M) ?_
        intro x66 M67
        refine xr_2 f_268_561 rfl ?_
        refine xr_2 f_268_562 rfl ?_
        refine xr_1 f_268_563 rfl ?_
        refine xr_0 f_268_564 ?_
        refine xr_8 f_268_565 ?_
        refine xr_32r f_268_566 (e_SHn (by decide)) rfl ?_
        intro x68
        refine xr_2 f_268_567 rfl ?_
        refine xr_1 f_268_568 rfl ?_
        refine xr_0 f_268_569 ?_
        refine xr_8 f_268_570 ?_
        refine xr_32r f_268_571 (e_SHn (by decide)) rfl ?_
        intro x69
        refine xr_2 f_268_572 rfl ?_
        refine xr_1 f_268_573 rfl ?_
        refine xr_0 f_268_574 ?_
        refine xr_8 f_268_575 ?_
        refine xr_32r f_268_576 (e_SHn (by decide)) rfl ?_
        intro x70
        refine xr_2 f_268_577 rfl ?_
        refine xr_1 f_268_578 rfl ?_
        refine xr_0 f_268_579 ?_
        refine xr_8 f_268_580 ?_
        refine xr_32r f_268_581 (e_SHn (by decide)) rfl ?_
        intro x71
        refine xr_2 f_268_582 rfl ?_
        refine xr_1 f_268_583 rfl ?_
        refine xr_0 f_268_584 ?_
        refine xr_8 f_268_585 ?_
        refine xr_32r f_268_586 (e_SHn (by decide)) rfl ?_
        intro x72
        refine xr_cim f_268_587 (Nat.le_of_ble_eq_true rfl) rfl rfl (xr_rv kd_223 h_182) (Nat.le_of_ble_eq_true rfl) mc_223 ms_223 (c_md_come x68 x69 x70 x71 x72 M67) ?_
        intro x73 M74
        refine xr_29_0 f_268_590 ?_ ?_
        · refine xr_7 [some (.ref 1000), some (.ref 0), some (.ref 182), some (.int (a3 + (6 : Int32)))] f_268_1118 rfl rfl rfl ?_
          refine xr_27 f_268_1121 ?_
          exact ih (a3 + (6 : Int32)) M74
        · refine xr_0 f_268_593 ?_
          exact xr_52mc f_268_594 (by decide)
      refine xr_s1 ?_ ?_
      · refine xr_2 f_268_595 rfl ?_
        refine xr_2 f_268_596 rfl ?_
        refine xr_1 f_268_597 rfl ?_
        refine xr_0 f_268_598 ?_
        refine xr_8 f_268_599 ?_
        refine xr_32r f_268_600 (e_SHn (by decide)) rfl ?_
        intro x75
        refine xr_ci f_268_601 (Nat.le_of_ble_eq_true rfl) rfl rfl (xr_rv kd_167 h_0) (Nat.le_of_ble_eq_true rfl) mc_167 ms_167 (c_ew_waits x75 M) ?_
        intro x76
        refine xr_2 f_268_604 rfl ?_
        refine xr_2 f_268_605 rfl ?_
        refine xr_1 f_268_606 rfl ?_
        refine xr_0 f_268_607 ?_
        refine xr_8 f_268_608 ?_
        refine xr_32r f_268_609 (e_SHn (by decide)) rfl ?_
        intro x77
        refine xr_ci f_268_610 (Nat.le_of_ble_eq_true rfl) rfl rfl (xr_rv kd_224 h_182) (Nat.le_of_ble_eq_true rfl) mc_224 ms_224 (c_md_waits x77 M) ?_
        intro x78
        refine xr_29_0 f_268_613 ?_ ?_
        · refine xr_7 [some (.ref 1000), some (.ref 0), some (.ref 182), some (.int (a3 + (6 : Int32)))] f_268_1118 rfl rfl rfl ?_
          refine xr_27 f_268_1121 ?_
          exact ih (a3 + (6 : Int32)) M
        · refine xr_0 f_268_616 ?_
          exact xr_52mc f_268_617 (by decide)
      refine xr_s1 ?_ ?_
      · refine xr_2 f_268_618 rfl ?_
        refine xr_2 f_268_619 rfl ?_
        refine xr_1 f_268_620 rfl ?_
        refine xr_0 f_268_621 ?_
        refine xr_8 f_268_622 ?_
        refine xr_32r f_268_623 (e_SHn (by decide)) rfl ?_
        intro x79
        refine xr_ci f_268_624 (Nat.le_of_ble_eq_true rfl) rfl rfl (xr_rv kd_168 h_0) (Nat.le_of_ble_eq_true rfl) mc_168 ms_168 (c_ew_may x79 M) ?_
        intro x80
        refine xr_2 f_268_627 rfl ?_
        refine xr_2 f_268_628 rfl ?_
        refine xr_1 f_268_629 rfl ?_
        refine xr_0 f_268_630 ?_
        refine xr_8 f_268_631 ?_
        refine xr_32r f_268_632 (e_SHn (by decide)) rfl ?_
        intro x81
        refine xr_cim f_268_633 (Nat.le_of_ble_eq_true rfl) rfl rfl (xr_rv kd_226 h_182) (Nat.le_of_ble_eq_true rfl) mc_226 ms_226 (c_md_may x81 M) ?_
        intro x82 M83
        refine xr_29_0 f_268_636 ?_ ?_
        · refine xr_7 [some (.ref 1000), some (.ref 0), some (.ref 182), some (.int (a3 + (6 : Int32)))] f_268_1118 rfl rfl rfl ?_
          refine xr_27 f_268_1121 ?_
          exact ih (a3 + (6 : Int32)) M83
        · refine xr_0 f_268_639 ?_
          exact xr_52mc f_268_640 (by decide)
      refine xr_s1 ?_ ?_
      · refine xr_2 f_268_641 rfl ?_
        refine xr_cim f_268_642 (Nat.le_of_ble_eq_true rfl) rfl rfl (xr_rv kd_169 h_0) (Nat.le_of_ble_eq_true rfl) mc_169 ms_169 (c_ew_next M) ?_
        intro x84 M85
        refine xr_2 f_268_645 rfl ?_
        refine xr_cim f_268_646 (Nat.le_of_ble_eq_true rfl) rfl rfl (xr_rv kd_229 h_182) (Nat.le_of_ble_eq_true rfl) mc_229 ms_229 (c_md_next M85) ?_
        intro x86 M87
        refine xr_29_0 f_268_649 ?_ ?_
        · refine xr_7 [some (.ref 1000), some (.ref 0), some (.ref 182), some (.int (a3 + (6 : Int32)))] f_268_1118 rfl rfl rfl ?_
          refine xr_27 f_268_1121 ?_
          exact ih (a3 + (6 : Int32)) M87
        · refine xr_0 f_268_652 ?_
          exact xr_52mc f_268_653 (by decide)
      refine xr_s1 ?_ ?_
      · refine xr_2 f_268_654 rfl ?_
        refine xr_cim f_268_655 (Nat.le_of_ble_eq_true rfl) rfl rfl (xr_rv kd_170 h_0) (Nat.le_of_ble_eq_true rfl) mc_170 ms_170 (c_ew_fill M) ?_
        intro x88 M89
        refine xr_2 f_268_658 rfl ?_
        refine xr_cim f_268_659 (Nat.le_of_ble_eq_true rfl) rfl rfl (xr_rv kd_230 h_182) (Nat.le_of_ble_eq_true rfl) mc_230 ms_230 (c_md_fill M89) ?_
        intro x90 M91
        refine xr_29_0 f_268_662 ?_ ?_
        · refine xr_7 [some (.ref 1000), some (.ref 0), some (.ref 182), some (.int (a3 + (6 : Int32)))] f_268_1118 rfl rfl rfl ?_
          refine xr_27 f_268_1121 ?_
          exact ih (a3 + (6 : Int32)) M91
        · refine xr_0 f_268_665 ?_
          exact xr_52mc f_268_666 (by decide)
      refine xr_s1 ?_ ?_
      · refine xr_2 f_268_667 rfl ?_
        refine xr_2 f_268_668 rfl ?_
        refine xr_1 f_268_669 rfl ?_
        refine xr_0 f_268_670 ?_
        refine xr_8 f_268_671 ?_
        refine xr_32r f_268_672 (e_SHn (by decide)) rfl ?_
        intro x92
        refine xr_cim f_268_673 (Nat.le_of_ble_eq_true rfl) rfl rfl (xr_rv kd_171 h_0) (Nat.le_of_ble_eq_true rfl) mc_171 ms_171 (c_ew_tire x92 M) ?_
        intro x93 M94
        refine xr_2 f_268_676 rfl ?_
        refine xr_2 f_268_677 rfl ?_
        refine xr_1 f_268_678 rfl ?_
        refine xr_0 f_268_679 ?_
        refine xr_8 f_268_680 ?_
        refine xr_32r f_268_681 (e_SHn (by decide)) rfl ?_
        intro x95
        refine xr_cim f_268_682 (Nat.le_of_ble_eq_true rfl) rfl rfl (xr_rv kd_231 h_182) (Nat.le_of_ble_eq_true rfl) mc_231 ms_231 (c_md_tire x95 M94) ?_
        intro x96 M97
        refine xr_29_0 f_268_685 ?_ ?_
        · refine xr_7 [some (.ref 1000), some (.ref 0), some (.ref 182), some (.int (a3 + (6 : Int32)))] f_268_1118 rfl rfl rfl ?_
          refine xr_27 f_268_1121 ?_
          exact ih (a3 + (6 : Int32)) M97
        · refine xr_0 f_268_688 ?_
          exact xr_52mc f_268_689 (by decide)
      refine xr_s1 ?_ ?_
      · refine xr_2 f_268_690 rfl ?_
        refine xr_2 f_268_691 rfl ?_
        refine xr_1 f_268_692 rfl ?_
        refine xr_0 f_268_693 ?_
        refine xr_8 f_268_694 ?_
        refine xr_32r f_268_695 (e_SHn (by decide)) rfl ?_
        intro x98
        refine xr_cim f_268_696 (Nat.le_of_ble_eq_true rfl) rfl rfl (xr_rv kd_172 h_0) (Nat.le_of_ble_eq_true rfl) mc_172 ms_172 (c_ew_leave x98 M) ?_
        intro x99 M100
        refine xr_2 f_268_699 rfl ?_
        refine xr_2 f_268_700 rfl ?_
        refine xr_1 f_268_701 rfl ?_
        refine xr_0 f_268_702 ?_
        refine xr_8 f_268_703 ?_
        refine xr_32r f_268_704 (e_SHn (by decide)) rfl ?_
        intro x101
        refine xr_cim f_268_705 (Nat.le_of_ble_eq_true rfl) rfl rfl (xr_rv kd_232 h_182) (Nat.le_of_ble_eq_true rfl) mc_232 ms_232 (c_md_leave x101 M100) ?_
        intro x102 M103
        refine xr_29_0 f_268_708 ?_ ?_
        · refine xr_7 [some (.ref 1000), some (.ref 0), some (.ref 182), some (.int (a3 + (6 : Int32)))] f_268_1118 rfl rfl rfl ?_
          refine xr_27 f_268_1121 ?_
          exact ih (a3 + (6 : Int32)) M103
        · refine xr_0 f_268_711 ?_
          exact xr_52mc f_268_712 (by decide)
      refine xr_s1 ?_ ?_
      · refine xr_2 f_268_713 rfl ?_
        refine xr_2 f_268_714 rfl ?_
        refine xr_1 f_268_715 rfl ?_
        refine xr_0 f_268_716 ?_
        refine xr_8 f_268_717 ?_
        refine xr_32r f_268_718 (e_SHn (by decide)) rfl ?_
        intro x104
        refine xr_2 f_268_719 rfl ?_
        refine xr_1 f_268_720 rfl ?_
        refine xr_0 f_268_721 ?_
        refine xr_8 f_268_722 ?_
        refine xr_32r f_268_723 (e_SHn (by decide)) rfl ?_
        intro x105
        refine xr_ci f_268_724 (Nat.le_of_ble_eq_true rfl) rfl rfl (xr_rv kd_173 h_0) (Nat.le_of_ble_eq_true rfl) mc_173 ms_173 (c_ew_party x104 x105 M) ?_
        intro x106
        refine xr_2 f_268_727 rfl ?_
        refine xr_2 f_268_728 rfl ?_
        refine xr_1 f_268_729 rfl ?_
        refine xr_0 f_268_730 ?_
        refine xr_8 f_268_731 ?_
        refine xr_32r f_268_732 (e_SHn (by decide)) rfl ?_
        intro x107
        refine xr_2 f_268_733 rfl ?_
        refine xr_1 f_268_734 rfl ?_
        refine xr_0 f_268_735 ?_
        refine xr_8 f_268_736 ?_
        refine xr_32r f_268_737 (e_SHn (by decide)) rfl ?_
        intro x108
        refine xr_ci f_268_738 (Nat.le_of_ble_eq_true rfl) rfl rfl (xr_rv kd_234 h_182) (Nat.le_of_ble_eq_true rfl) mc_234 ms_234 (c_md_party x107 x108 M) ?_
        intro x109
        refine xr_29_0 f_268_741 ?_ ?_
        · refine xr_7 [some (.ref 1000), some (.ref 0), some (.ref 182), some (.int (a3 + (6 : Int32)))] f_268_1118 rfl rfl rfl ?_
          refine xr_27 f_268_1121 ?_
          exact ih (a3 + (6 : Int32)) M
        · refine xr_0 f_268_744 ?_
          exact xr_52mc f_268_745 (by decide)
      refine xr_s1 ?_ ?_
      · refine xr_2 f_268_746 rfl ?_
        refine xr_2 f_268_747 rfl ?_
        refine xr_1 f_268_748 rfl ?_
        refine xr_0 f_268_749 ?_
        refine xr_8 f_268_750 ?_
        refine xr_32r f_268_751 (e_SHn (by decide)) rfl ?_
        intro x110
        refine xr_cim f_268_752 (Nat.le_of_ble_eq_true rfl) rfl rfl (xr_rv kd_174 h_0) (Nat.le_of_ble_eq_true rfl) mc_174 ms_174 (c_ew_order x110 M) ?_
        intro x111 M112
        refine xr_2 f_268_755 rfl ?_
        refine xr_2 f_268_756 rfl ?_
        refine xr_1 f_268_757 rfl ?_
        refine xr_0 f_268_758 ?_
        refine xr_8 f_268_759 ?_
        refine xr_32r f_268_760 (e_SHn (by decide)) rfl ?_
        intro x113
        refine xr_cim f_268_761 (Nat.le_of_ble_eq_true rfl) rfl rfl (xr_rv kd_239 h_182) (Nat.le_of_ble_eq_true rfl) mc_239 ms_239 (c_md_order x113 M112) ?_
        intro x114 M115
        refine xr_29_0 f_268_764 ?_ ?_
        · refine xr_7 [some (.ref 1000), some (.ref 0), some (.ref 182), some (.int (a3 + (6 : Int32)))] f_268_1118 rfl rfl rfl ?_
          refine xr_27 f_268_1121 ?_
          exact ih (a3 + (6 : Int32)) M115
        · refine xr_0 f_268_767 ?_
          exact xr_52mc f_268_768 (by decide)
      refine xr_s1 ?_ ?_
      · refine xr_2 f_268_769 rfl ?_
        refine xr_2 f_268_770 rfl ?_
        refine xr_1 f_268_771 rfl ?_
        refine xr_0 f_268_772 ?_
        refine xr_8 f_268_773 ?_
        refine xr_32r f_268_774 (e_SHn (by decide)) rfl ?_
        intro x116
        refine xr_cim f_268_775 (Nat.le_of_ble_eq_true rfl) rfl rfl (xr_rv kd_175 h_0) (Nat.le_of_ble_eq_true rfl) mc_175 ms_175 (c_ew_ordered x116 M) ?_
        intro x117 M118
        refine xr_2 f_268_778 rfl ?_
        refine xr_2 f_268_779 rfl ?_
        refine xr_1 f_268_780 rfl ?_
        refine xr_0 f_268_781 ?_
        refine xr_8 f_268_782 ?_
        refine xr_32r f_268_783 (e_SHn (by decide)) rfl ?_
        intro x119
        refine xr_cim f_268_784 (Nat.le_of_ble_eq_true rfl) rfl rfl (xr_rv kd_240 h_182) (Nat.le_of_ble_eq_true rfl) mc_240 ms_240 (c_md_ordered x119 M118) ?_
        intro x120 M121
        refine xr_29_0 f_268_787 ?_ ?_
        · refine xr_7 [some (.ref 1000), some (.ref 0), some (.ref 182), some (.int (a3 + (6 : Int32)))] f_268_1118 rfl rfl rfl ?_
          refine xr_27 f_268_1121 ?_
          exact ih (a3 + (6 : Int32)) M121
        · refine xr_0 f_268_790 ?_
          exact xr_52mc f_268_791 (by decide)
      refine xr_s1 ?_ ?_
      · refine xr_2 f_268_792 rfl ?_
        refine xr_2 f_268_793 rfl ?_
        refine xr_1 f_268_794 rfl ?_
        refine xr_0 f_268_795 ?_
        refine xr_8 f_268_796 ?_
        refine xr_32r f_268_797 (e_SHn (by decide)) rfl ?_
        intro x122
        refine xr_cim f_268_798 (Nat.le_of_ble_eq_true rfl) rfl rfl (xr_rv kd_176 h_0) (Nat.le_of_ble_eq_true rfl) mc_176 ms_176 (c_ew_cost x122 M) ?_
        intro x123 M124
        refine xr_2 f_268_801 rfl ?_
        refine xr_2 f_268_802 rfl ?_
        refine xr_1 f_268_803 rfl ?_
        refine xr_0 f_268_804 ?_
        refine xr_8 f_268_805 ?_
        refine xr_32r f_268_806 (e_SHn (by decide)) rfl ?_
        intro x125
        refine xr_cim f_268_807 (Nat.le_of_ble_eq_true rfl) rfl rfl (xr_rv kd_241 h_182) (Nat.le_of_ble_eq_true rfl) mc_241 ms_241 (c_md_cost x125 M124) ?_
        intro x126 M127
        refine xr_29_0 f_268_810 ?_ ?_
        · refine xr_7 [some (.ref 1000), some (.ref 0), some (.ref 182), some (.int (a3 + (6 : Int32)))] f_268_1118 rfl rfl rfl ?_
          refine xr_27 f_268_1121 ?_
          exact ih (a3 + (6 : Int32)) M127
        · refine xr_0 f_268_813 ?_
          exact xr_52mc f_268_814 (by decide)
      refine xr_s1 ?_ ?_
      · refine xr_2 f_268_815 rfl ?_
        refine xr_cim f_268_816 (Nat.le_of_ble_eq_true rfl) rfl rfl (xr_rv kd_177 h_0) (Nat.le_of_ble_eq_true rfl) mc_177 ms_177 (c_ew_roll M) ?_
        intro x128 M129
        refine xr_2 f_268_819 rfl ?_
        refine xr_cim f_268_820 (Nat.le_of_ble_eq_true rfl) rfl rfl (xr_rv kd_243 h_182) (Nat.le_of_ble_eq_true rfl) mc_243 ms_243 (c_md_roll M129) ?_
        intro x130 M131
        refine xr_29_0 f_268_823 ?_ ?_
        · refine xr_7 [some (.ref 1000), some (.ref 0), some (.ref 182), some (.int (a3 + (6 : Int32)))] f_268_1118 rfl rfl rfl ?_
          refine xr_27 f_268_1121 ?_
          exact ih (a3 + (6 : Int32)) M131
        · refine xr_0 f_268_826 ?_
          exact xr_52mc f_268_827 (by decide)
      refine xr_s1 ?_ ?_
      · refine xr_2 f_268_828 rfl ?_
        refine xr_cim f_268_829 (Nat.le_of_ble_eq_true rfl) rfl rfl (xr_rv kd_178 h_0) (Nat.le_of_ble_eq_true rfl) mc_178 ms_178 (c_ew_letOut M) ?_
        intro x132 M133
        refine xr_2 f_268_832 rfl ?_
        refine xr_cim f_268_833 (Nat.le_of_ble_eq_true rfl) rfl rfl (xr_rv kd_244 h_182) (Nat.le_of_ble_eq_true rfl) mc_244 ms_244 (c_md_letOut M133) ?_
        intro x134 M135
        refine xr_29_0 f_268_836 ?_ ?_
        · refine xr_7 [some (.ref 1000), some (.ref 0), some (.ref 182), some (.int (a3 + (6 : Int32)))] f_268_1118 rfl rfl rfl ?_
          refine xr_27 f_268_1121 ?_
          exact ih (a3 + (6 : Int32)) M135
        · refine xr_0 f_268_839 ?_
          exact xr_52mc f_268_840 (by decide)
      refine xr_s1 ?_ ?_
      · refine xr_2 f_268_841 rfl ?_
        refine xr_cim f_268_842 (Nat.le_of_ble_eq_true rfl) rfl rfl (xr_rv kd_179 h_0) (Nat.le_of_ble_eq_true rfl) mc_179 ms_179 (c_ew_stranded M) ?_
        intro x136 M137
        refine xr_2 f_268_845 rfl ?_
        refine xr_cim f_268_846 (Nat.le_of_ble_eq_true rfl) rfl rfl (xr_rv kd_245 h_182) (Nat.le_of_ble_eq_true rfl) mc_245 ms_245 (c_md_stranded M137) ?_
        intro x138 M139
        refine xr_29_0 f_268_849 ?_ ?_
        · refine xr_7 [some (.ref 1000), some (.ref 0), some (.ref 182), some (.int (a3 + (6 : Int32)))] f_268_1118 rfl rfl rfl ?_
          refine xr_27 f_268_1121 ?_
          exact ih (a3 + (6 : Int32)) M139
        · refine xr_0 f_268_852 ?_
          exact xr_52mc f_268_853 (by decide)
      refine xr_s1 ?_ ?_
      · refine xr_2 f_268_854 rfl ?_
        refine xr_2 f_268_855 rfl ?_
        refine xr_1 f_268_856 rfl ?_
        refine xr_0 f_268_857 ?_
        refine xr_8 f_268_858 ?_
        refine xr_32r f_268_859 (e_SHn (by decide)) rfl ?_
        intro x140
        refine xr_2 f_268_860 rfl ?_
        refine xr_1 f_268_861 rfl ?_
        refine xr_0 f_268_862 ?_
        refine xr_8 f_268_863 ?_
        refine xr_32r f_268_864 (e_SHn (by decide)) rfl ?_
        intro x141
        refine xr_cim f_268_865 (Nat.le_of_ble_eq_true rfl) rfl rfl (xr_rv kd_180 h_0) (Nat.le_of_ble_eq_true rfl) mc_180 ms_180 (c_ew_note x140 x141 M) ?_
        intro x142 M143
        refine xr_2 f_268_868 rfl ?_
        refine xr_2 f_268_869 rfl ?_
        refine xr_1 f_268_870 rfl ?_
        refine xr_0 f_268_871 ?_
        refine xr_8 f_268_872 ?_
        refine xr_32r f_268_873 (e_SHn (by decide)) rfl ?_
        intro x144
        refine xr_2 f_268_874 rfl ?_
        refine xr_1 f_268_875 rfl ?_
        refine xr_0 f_268_876 ?_
        refine xr_8 f_268_877 ?_
        refine xr_32r f_268_878 (e_SHn (by decide)) rfl ?_
        intro x145
        refine xr_cim f_268_879 (Nat.le_of_ble_eq_true rfl) rfl rfl (xr_rv kd_246 h_182) (Nat.le_of_ble_eq_true rfl) mc_246 ms_246 (c_md_note x144 x145 M143) ?_
        intro x146 M147
        refine xr_29_0 f_268_882 ?_ ?_
        · refine xr_7 [some (.ref 1000), some (.ref 0), some (.ref 182), some (.int (a3 + (6 : Int32)))] f_268_1118 rfl rfl rfl ?_
          refine xr_27 f_268_1121 ?_
          exact ih (a3 + (6 : Int32)) M147
        · refine xr_0 f_268_885 ?_
          exact xr_52mc f_268_886 (by decide)
      refine xr_s1 ?_ ?_
      · refine xr_2 f_268_887 rfl ?_
        refine xr_2 f_268_888 rfl ?_
        refine xr_1 f_268_889 rfl ?_
        refine xr_0 f_268_890 ?_
        refine xr_8 f_268_891 ?_
        refine xr_32r f_268_892 (e_SHn (by decide)) rfl ?_
        intro x148
        refine xr_2 f_268_893 rfl ?_
        refine xr_1 f_268_894 rfl ?_
        refine xr_0 f_268_895 ?_
        refine xr_8 f_268_896 ?_
        refine xr_32r f_268_897 (e_SHn (by decide)) rfl ?_
        intro x149
        refine xr_cim f_268_898 (Nat.le_of_ble_eq_true rfl) rfl rfl (xr_rv kd_181 h_0) (Nat.le_of_ble_eq_true rfl) mc_181 ms_181 (c_ew_up x148 x149 M) ?_
        intro x150 M151
        refine xr_2 f_268_901 rfl ?_
        refine xr_2 f_268_902 rfl ?_
        refine xr_1 f_268_903 rfl ?_
        refine xr_0 f_268_904 ?_
        refine xr_8 f_268_905 ?_
        refine xr_32r f_268_906 (e_SHn (by decide)) rfl ?_
        intro x152
        refine xr_2 f_268_907 rfl ?_
        refine xr_1 f_268_908 rfl ?_
        refine xr_0 f_268_909 ?_
        refine xr_8 f_268_910 ?_
        refine xr_32r f_268_911 (e_SHn (by decide)) rfl ?_
        intro x153
        refine xr_cim f_268_912 (Nat.le_of_ble_eq_true rfl) rfl rfl (xr_rv kd_249 h_182) (Nat.le_of_ble_eq_true rfl) mc_249 ms_249 (c_md_up x152 x153 M151) ?_
        intro x154 M155
        refine xr_29_0 f_268_915 ?_ ?_
        · refine xr_7 [some (.ref 1000), some (.ref 0), some (.ref 182), some (.int (a3 + (6 : Int32)))] f_268_1118 rfl rfl rfl ?_
          refine xr_27 f_268_1121 ?_
          exact ih (a3 + (6 : Int32)) M155
        · refine xr_0 f_268_918 ?_
          exact xr_52mc f_268_919 (by decide)
      refine xr_s1 ?_ ?_
      · refine xr_2 f_268_920 rfl ?_
        refine xr_cim f_268_921 (Nat.le_of_ble_eq_true rfl) rfl rfl (xr_rv kd_182 h_0) (Nat.le_of_ble_eq_true rfl) mc_182 ms_182 (c_ew_begins M) ?_
        intro x156 M157
        refine xr_2 f_268_924 rfl ?_
        refine xr_cim f_268_925 (Nat.le_of_ble_eq_true rfl) rfl rfl (xr_rv kd_250 h_182) (Nat.le_of_ble_eq_true rfl) mc_250 ms_250 (c_md_begins M157) ?_
        intro x158 M159
        refine xr_29_0 f_268_928 ?_ ?_
        · refine xr_7 [some (.ref 1000), some (.ref 0), some (.ref 182), some (.int (a3 + (6 : Int32)))] f_268_1118 rfl rfl rfl ?_
          refine xr_27 f_268_1121 ?_
          exact ih (a3 + (6 : Int32)) M159
        · refine xr_0 f_268_931 ?_
          exact xr_52mc f_268_932 (by decide)
      refine xr_s1 ?_ ?_
      · refine xr_2 f_268_933 rfl ?_
        refine xr_cim f_268_934 (Nat.le_of_ble_eq_true rfl) rfl rfl (xr_rv kd_183 h_0) (Nat.le_of_ble_eq_true rfl) mc_183 ms_183 (c_ew_tear M) ?_
        intro x160 M161
        refine xr_2 f_268_937 rfl ?_
        refine xr_cim f_268_938 (Nat.le_of_ble_eq_true rfl) rfl rfl (xr_rv kd_251 h_182) (Nat.le_of_ble_eq_true rfl) mc_251 ms_251 (c_md_tear M161) ?_
        intro x162 M163
        refine xr_29_0 f_268_941 ?_ ?_
        · refine xr_7 [some (.ref 1000), some (.ref 0), some (.ref 182), some (.int (a3 + (6 : Int32)))] f_268_1118 rfl rfl rfl ?_
          refine xr_27 f_268_1121 ?_
          exact ih (a3 + (6 : Int32)) M163
        · refine xr_0 f_268_944 ?_
          exact xr_52mc f_268_945 (by decide)
      refine xr_s1 ?_ ?_
      · refine xr_2 f_268_946 rfl ?_
        refine xr_2 f_268_947 rfl ?_
        refine xr_1 f_268_948 rfl ?_
        refine xr_0 f_268_949 ?_
        refine xr_8 f_268_950 ?_
        refine xr_32r f_268_951 (e_SHn (by decide)) rfl ?_
        intro x164
        refine xr_2 f_268_952 rfl ?_
        refine xr_1 f_268_953 rfl ?_
        refine xr_0 f_268_954 ?_
        refine xr_8 f_268_955 ?_
        refine xr_32r f_268_956 (e_SHn (by decide)) rfl ?_
        intro x165
        refine xr_2 f_268_957 rfl ?_
        refine xr_1 f_268_958 rfl ?_
        refine xr_0 f_268_959 ?_
        refine xr_8 f_268_960 ?_
        refine xr_32r f_268_961 (e_SHn (by decide)) rfl ?_
        intro x166
        refine xr_cim f_268_962 (Nat.le_of_ble_eq_true rfl) rfl rfl (xr_rv kd_184 h_0) (Nat.le_of_ble_eq_true rfl) mc_184 ms_184 (c_ew_guess x164 x165 x166 M) ?_
        intro x167 M168
        refine xr_2 f_268_965 rfl ?_
        refine xr_2 f_268_966 rfl ?_
        refine xr_1 f_268_967 rfl ?_
        refine xr_0 f_268_968 ?_
        refine xr_8 f_268_969 ?_
        refine xr_32r f_268_970 (e_SHn (by decide)) rfl ?_
        intro x169
        refine xr_2 f_268_971 rfl ?_
        refine xr_1 f_268_972 rfl ?_
        refine xr_0 f_268_973 ?_
        refine xr_8 f_268_974 ?_
        refine xr_32r f_268_975 (e_SHn (by decide)) rfl ?_
        intro x170
        refine xr_2 f_268_976 rfl ?_
        refine xr_1 f_268_977 rfl ?_
        refine xr_0 f_268_978 ?_
        refine xr_8 f_268_979 ?_
        refine xr_32r f_268_980 (e_SHn (by decide)) rfl ?_
        intro x171
        refine xr_cim f_268_981 (Nat.le_of_ble_eq_true rfl) rfl rfl (xr_rv kd_252 h_182) (Nat.le_of_ble_eq_true rfl) mc_252 ms_252 (c_md_guess x169 x170 x171 M168) ?_
        intro x172 M173
        refine xr_29_0 f_268_984 ?_ ?_
        · refine xr_7 [some (.ref 1000), some (.ref 0), some (.ref 182), some (.int (a3 + (6 : Int32)))] f_268_1118 rfl rfl rfl ?_
          refine xr_27 f_268_1121 ?_
          exact ih (a3 + (6 : Int32)) M173
        · refine xr_0 f_268_987 ?_
          exact xr_52mc f_268_988 (by decide)
      refine xr_s1 ?_ ?_
      · refine xr_2 f_268_989 rfl ?_
        refine xr_2 f_268_990 rfl ?_
        refine xr_1 f_268_991 rfl ?_
        refine xr_0 f_268_992 ?_
        refine xr_8 f_268_993 ?_
        refine xr_32r f_268_994 (e_SHn (by decide)) rfl ?_
        intro x174
        refine xr_2 f_268_995 rfl ?_
        refine xr_1 f_268_996 rfl ?_
        refine xr_0 f_268_997 ?_
        refine xr_8 f_268_998 ?_
        refine xr_32r f_268_999 (e_SHn (by decide)) rfl ?_
        intro x175
        refine xr_2 f_268_1000 rfl ?_
        refine xr_1 f_268_1001 rfl ?_
        refine xr_0 f_268_1002 ?_
        refine xr_8 f_268_1003 ?_
        refine xr_32r f_268_1004 (e_SHn (by decide)) rfl ?_
        intro x176
        refine xr_cim f_268_1005 (Nat.le_of_ble_eq_true rfl) rfl rfl (xr_rv kd_185 h_0) (Nat.le_of_ble_eq_true rfl) mc_185 ms_185 (c_ew_read x174 x175 x176 M) ?_
        intro x177 M178
        refine xr_2 f_268_1008 rfl ?_
        refine xr_2 f_268_1009 rfl ?_
        refine xr_1 f_268_1010 rfl ?_
        refine xr_0 f_268_1011 ?_
        refine xr_8 f_268_1012 ?_
        refine xr_32r f_268_1013 (e_SHn (by decide)) rfl ?_
        intro x179
        refine xr_2 f_268_1014 rfl ?_
        refine xr_1 f_268_1015 rfl ?_
        refine xr_0 f_268_1016 ?_
        refine xr_8 f_268_1017 ?_
        refine xr_32r f_268_1018 (e_SHn (by decide)) rfl ?_
        intro x180
        refine xr_2 f_268_1019 rfl ?_
        refine xr_1 f_268_1020 rfl ?_
        refine xr_0 f_268_1021 ?_
        refine xr_8 f_268_1022 ?_
        refine xr_32r f_268_1023 (e_SHn (by decide)) rfl ?_
        intro x181
        refine xr_cim f_268_1024 (Nat.le_of_ble_eq_true rfl) rfl rfl (xr_rv kd_253 h_182) (Nat.le_of_ble_eq_true rfl) mc_253 ms_253 (c_md_read x179 x180 x181 M178) ?_
        intro x182 M183
        refine xr_29_0 f_268_1027 ?_ ?_
        · refine xr_7 [some (.ref 1000), some (.ref 0), some (.ref 182), some (.int (a3 + (6 : Int32)))] f_268_1118 rfl rfl rfl ?_
          refine xr_27 f_268_1121 ?_
          exact ih (a3 + (6 : Int32)) M183
        · refine xr_0 f_268_1030 ?_
          exact xr_52mc f_268_1031 (by decide)
      refine xr_s1 ?_ ?_
      · refine xr_2 f_268_1032 rfl ?_
        refine xr_cim f_268_1033 (Nat.le_of_ble_eq_true rfl) rfl rfl (xr_rv kd_186 h_0) (Nat.le_of_ble_eq_true rfl) mc_186 ms_186 (c_ew_forget M) ?_
        intro x184 M185
        refine xr_2 f_268_1036 rfl ?_
        refine xr_cim f_268_1037 (Nat.le_of_ble_eq_true rfl) rfl rfl (xr_rv kd_254 h_182) (Nat.le_of_ble_eq_true rfl) mc_254 ms_254 (c_md_forget M185) ?_
        intro x186 M187
        refine xr_29_0 f_268_1040 ?_ ?_
        · refine xr_7 [some (.ref 1000), some (.ref 0), some (.ref 182), some (.int (a3 + (6 : Int32)))] f_268_1118 rfl rfl rfl ?_
          refine xr_27 f_268_1121 ?_
          exact ih (a3 + (6 : Int32)) M187
        · refine xr_0 f_268_1043 ?_
          exact xr_52mc f_268_1044 (by decide)
      refine xr_s1 ?_ ?_
      · refine xr_2 f_268_1045 rfl ?_
        refine xr_2 f_268_1046 rfl ?_
        refine xr_1 f_268_1047 rfl ?_
        refine xr_0 f_268_1048 ?_
        refine xr_8 f_268_1049 ?_
        refine xr_32r f_268_1050 (e_SHn (by decide)) rfl ?_
        intro x188
        refine xr_2 f_268_1051 rfl ?_
        refine xr_1 f_268_1052 rfl ?_
        refine xr_0 f_268_1053 ?_
        refine xr_8 f_268_1054 ?_
        refine xr_32r f_268_1055 (e_SHn (by decide)) rfl ?_
        intro x189
        refine xr_cim f_268_1056 (Nat.le_of_ble_eq_true rfl) rfl rfl (xr_rv kd_187 h_0) (Nat.le_of_ble_eq_true rfl) mc_187 ms_187 (c_ew_fit x188 x189 M) ?_
        intro x190 M191
        refine xr_2 f_268_1059 rfl ?_
        refine xr_2 f_268_1060 rfl ?_
        refine xr_1 f_268_1061 rfl ?_
        refine xr_0 f_268_1062 ?_
        refine xr_8 f_268_1063 ?_
        refine xr_32r f_268_1064 (e_SHn (by decide)) rfl ?_
        intro x192
        refine xr_2 f_268_1065 rfl ?_
        refine xr_1 f_268_1066 rfl ?_
        refine xr_0 f_268_1067 ?_
        refine xr_8 f_268_1068 ?_
        refine xr_32r f_268_1069 (e_SHn (by decide)) rfl ?_
        intro x193
        refine xr_cim f_268_1070 (Nat.le_of_ble_eq_true rfl) rfl rfl (xr_rv kd_259 h_182) (Nat.le_of_ble_eq_true rfl) mc_259 ms_259 (c_md_fit x192 x193 M191) ?_
        intro x194 M195
        refine xr_29_0 f_268_1073 ?_ ?_
        · refine xr_7 [some (.ref 1000), some (.ref 0), some (.ref 182), some (.int (a3 + (6 : Int32)))] f_268_1118 rfl rfl rfl ?_
          refine xr_27 f_268_1121 ?_
          exact ih (a3 + (6 : Int32)) M195
        · refine xr_0 f_268_1076 ?_
          exact xr_52mc f_268_1077 (by decide)
      refine xr_s1 ?_ ?_
      · refine xr_2 f_268_1078 rfl ?_
        refine xr_cim f_268_1079 (Nat.le_of_ble_eq_true rfl) rfl rfl (xr_rv kd_188 h_0) (Nat.le_of_ble_eq_true rfl) mc_188 ms_188 (c_ew_breaks M) ?_
        intro x196 M197
        refine xr_2 f_268_1082 rfl ?_
        refine xr_cim f_268_1083 (Nat.le_of_ble_eq_true rfl) rfl rfl (xr_rv kd_260 h_182) (Nat.le_of_ble_eq_true rfl) mc_260 ms_260 (c_md_breaks M197) ?_
        intro x198 M199
        refine xr_29_0 f_268_1086 ?_ ?_
        · refine xr_7 [some (.ref 1000), some (.ref 0), some (.ref 182), some (.int (a3 + (6 : Int32)))] f_268_1118 rfl rfl rfl ?_
          refine xr_27 f_268_1121 ?_
          exact ih (a3 + (6 : Int32)) M199
        · refine xr_0 f_268_1089 ?_
          exact xr_52mc f_268_1090 (by decide)
      refine xr_s1 ?_ ?_
      · refine xr_2 f_268_1091 rfl ?_
        refine xr_cim f_268_1092 (Nat.le_of_ble_eq_true rfl) rfl rfl (xr_rv kd_189 h_0) (Nat.le_of_ble_eq_true rfl) mc_189 ms_189 (c_ew_agree M) ?_
        intro x200 M201
        refine xr_2 f_268_1095 rfl ?_
        refine xr_cim f_268_1096 (Nat.le_of_ble_eq_true rfl) rfl rfl (xr_rv kd_261 h_182) (Nat.le_of_ble_eq_true rfl) mc_261 ms_261 (c_md_agree M201) ?_
        intro x202 M203
        refine xr_29_0 f_268_1099 ?_ ?_
        · refine xr_7 [some (.ref 1000), some (.ref 0), some (.ref 182), some (.int (a3 + (6 : Int32)))] f_268_1118 rfl rfl rfl ?_
          refine xr_27 f_268_1121 ?_
          exact ih (a3 + (6 : Int32)) M203
        · refine xr_0 f_268_1102 ?_
          exact xr_52mc f_268_1103 (by decide)
      refine xr_s1 ?_ ?_
      · refine xr_2 f_268_1104 rfl ?_
        refine xr_cl f_268_1105 (Nat.le_of_ble_eq_true rfl) rfl rfl (xr_rv kd_190 h_0) (Nat.le_of_ble_eq_true rfl) mc_190 ms_190 (c_ew_digest M) ?_
        intro x204
        refine xr_2 f_268_1108 rfl ?_
        refine xr_cl f_268_1109 (Nat.le_of_ble_eq_true rfl) rfl rfl (xr_rv kd_262 h_182) (Nat.le_of_ble_eq_true rfl) mc_262 ms_262 (c_md_digest M) ?_
        intro x205
        refine xr_22 f_268_1112 ?_
        refine xr_28_0 f_268_1113 ?_ ?_
        · refine xr_7 [some (.ref 1000), some (.ref 0), some (.ref 182), some (.int (a3 + (6 : Int32)))] f_268_1118 rfl rfl rfl ?_
          refine xr_27 f_268_1121 ?_
          exact ih (a3 + (6 : Int32)) M
        · refine xr_0 f_268_1116 ?_
          exact xr_52mc f_268_1117 (by decide)
      refine xr_s0 ?_
      refine xr_7 [some (.ref 1000), some (.ref 0), some (.ref 182), some (.int (a3 + (6 : Int32)))] f_268_1118 rfl rfl rfl ?_
      refine xr_27 f_268_1121 ?_
      exact ih (a3 + (6 : Int32)) M

end
