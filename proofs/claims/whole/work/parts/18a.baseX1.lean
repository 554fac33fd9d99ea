theorem dX1_firstWrong_0 : decode cX1_firstWrong 0 = .ok (.aload_n 0, 1) := by decide +kernel
theorem dX1_firstWrong_1 : decode cX1_firstWrong 1 = .ok (.iconst 0, 1) := by decide +kernel
theorem dX1_firstWrong_2 : decode cX1_firstWrong 2 = .ok (.putfield 19, 3) := by decide +kernel
theorem dX1_firstWrong_5 : decode cX1_firstWrong 5 = .ok (.aload_n 0, 1) := by decide +kernel
theorem dX1_firstWrong_6 : decode cX1_firstWrong 6 = .ok (.iconst (-1), 1) := by decide +kernel
theorem dX1_firstWrong_7 : decode cX1_firstWrong 7 = .ok (.putfield 23, 3) := by decide +kernel
theorem dX1_firstWrong_10 : decode cX1_firstWrong 10 = .ok (.iconst 0, 1) := by decide +kernel
theorem dX1_firstWrong_11 : decode cX1_firstWrong 11 = .ok (.istore_n 1, 1) := by decide +kernel
theorem dX1_firstWrong_12 : decode cX1_firstWrong 12 = .ok (.iload_n 1, 1) := by decide +kernel
theorem dX1_firstWrong_13 : decode cX1_firstWrong 13 = .ok (.aload_n 0, 1) := by decide +kernel
theorem dX1_firstWrong_14 : decode cX1_firstWrong 14 = .ok (.getfield 9, 3) := by decide +kernel
theorem dX1_firstWrong_17 : decode cX1_firstWrong 17 = .ok (.invokevirtual 26, 3) := by decide +kernel
theorem dX1_firstWrong_20 : decode cX1_firstWrong 20 = .ok (.if_icmp .ge 21, 3) := by decide +kernel
theorem dX1_firstWrong_23 : decode cX1_firstWrong 23 = .ok (.aload_n 0, 1) := by decide +kernel
theorem dX1_firstWrong_24 : decode cX1_firstWrong 24 = .ok (.iload_n 1, 1) := by decide +kernel
theorem dX1_firstWrong_25 : decode cX1_firstWrong 25 = .ok (.invokevirtual 32, 3) := by decide +kernel
theorem dX1_firstWrong_28 : decode cX1_firstWrong 28 = .ok (.istore_n 2, 1) := by decide +kernel
theorem dX1_firstWrong_29 : decode cX1_firstWrong 29 = .ok (.iload_n 2, 1) := by decide +kernel
theorem dX1_firstWrong_30 : decode cX1_firstWrong 30 = .ok (.ifCond .eq 5, 3) := by decide +kernel
theorem dX1_firstWrong_33 : decode cX1_firstWrong 33 = .ok (.iload_n 2, 1) := by decide +kernel
theorem dX1_firstWrong_34 : decode cX1_firstWrong 34 = .ok (.ireturn, 1) := by decide +kernel
theorem dX1_firstWrong_35 : decode cX1_firstWrong 35 = .ok (.iinc 1 1, 3) := by decide +kernel
theorem dX1_firstWrong_38 : decode cX1_firstWrong 38 = .ok (.goto (-26), 3) := by decide +kernel
theorem dX1_firstWrong_41 : decode cX1_firstWrong 41 = .ok (.iconst 0, 1) := by decide +kernel
theorem dX1_firstWrong_42 : decode cX1_firstWrong 42 = .ok (.ireturn, 1) := by decide +kernel
theorem dX1_wrongPlace_0 : decode cX1_wrongPlace 0 = .ok (.aload_n 0, 1) := by decide +kernel
theorem dX1_wrongPlace_1 : decode cX1_wrongPlace 1 = .ok (.getfield 23, 3) := by decide +kernel
theorem dX1_wrongPlace_4 : decode cX1_wrongPlace 4 = .ok (.ireturn, 1) := by decide +kernel
theorem dX1_look_0 : decode cX1_look 0 = .ok (.aload_n 0, 1) := by decide +kernel
theorem dX1_look_1 : decode cX1_look 1 = .ok (.getfield 9, 3) := by decide +kernel
theorem dX1_look_4 : decode cX1_look 4 = .ok (.iload_n 1, 1) := by decide +kernel
theorem dX1_look_5 : decode cX1_look 5 = .ok (.invokevirtual 36, 3) := by decide +kernel
theorem dX1_look_8 : decode cX1_look 8 = .ok (.lookupswitch 401 #[(2, 363), (11, 148), (13, 154), (14, 154), (15, 160), (16, 177), (18, 284), (20, 329), (21, 228), (23, 248), (25, 228), (26, 266), (27, 369), (28, 375), (29, 381), (33, 381), (126, 381)], 148) := by decide +kernel
theorem dX1_look_156 : decode cX1_look 156 = .ok (.aload_n 0, 1) := by decide +kernel
theorem dX1_look_157 : decode cX1_look 157 = .ok (.iload_n 1, 1) := by decide +kernel
theorem dX1_look_158 : decode cX1_look 158 = .ok (.invokevirtual 39, 3) := by decide +kernel
theorem dX1_look_161 : decode cX1_look 161 = .ok (.ireturn, 1) := by decide +kernel
theorem dX1_look_162 : decode cX1_look 162 = .ok (.aload_n 0, 1) := by decide +kernel
theorem dX1_look_163 : decode cX1_look 163 = .ok (.iload_n 1, 1) := by decide +kernel
theorem dX1_look_164 : decode cX1_look 164 = .ok (.invokevirtual 42, 3) := by decide +kernel
theorem dX1_look_167 : decode cX1_look 167 = .ok (.ireturn, 1) := by decide +kernel
theorem dX1_look_168 : decode cX1_look 168 = .ok (.aload_n 0, 1) := by decide +kernel
theorem dX1_look_169 : decode cX1_look 169 = .ok (.aload_n 0, 1) := by decide +kernel
theorem dX1_look_170 : decode cX1_look 170 = .ok (.getfield 9, 3) := by decide +kernel
theorem dX1_look_173 : decode cX1_look 173 = .ok (.iload_n 1, 1) := by decide +kernel
theorem dX1_look_174 : decode cX1_look 174 = .ok (.iconst 1, 1) := by decide +kernel
theorem dX1_look_175 : decode cX1_look 175 = .ok (.isub, 1) := by decide +kernel
theorem dX1_look_176 : decode cX1_look 176 = .ok (.invokevirtual 45, 3) := by decide +kernel
theorem dX1_look_179 : decode cX1_look 179 = .ok (.iconst 4, 1) := by decide +kernel
theorem dX1_look_180 : decode cX1_look 180 = .ok (.iload_n 1, 1) := by decide +kernel
theorem dX1_look_181 : decode cX1_look 181 = .ok (.invokevirtual 49, 3) := by decide +kernel
theorem dX1_look_184 : decode cX1_look 184 = .ok (.ireturn, 1) := by decide +kernel
theorem dX1_look_185 : decode cX1_look 185 = .ok (.aload_n 0, 1) := by decide +kernel
theorem dX1_look_186 : decode cX1_look 186 = .ok (.aload_n 0, 1) := by decide +kernel
theorem dX1_look_187 : decode cX1_look 187 = .ok (.getfield 9, 3) := by decide +kernel
theorem dX1_look_190 : decode cX1_look 190 = .ok (.iload_n 1, 1) := by decide +kernel
theorem dX1_look_191 : decode cX1_look 191 = .ok (.iconst 1, 1) := by decide +kernel
theorem dX1_look_192 : decode cX1_look 192 = .ok (.isub, 1) := by decide +kernel
theorem dX1_look_193 : decode cX1_look 193 = .ok (.invokevirtual 45, 3) := by decide +kernel
theorem dX1_look_196 : decode cX1_look 196 = .ok (.ifCond .eq 32, 3) := by decide +kernel
theorem dX1_look_199 : decode cX1_look 199 = .ok (.aload_n 0, 1) := by decide +kernel
theorem dX1_look_200 : decode cX1_look 200 = .ok (.getfield 15, 3) := by decide +kernel
theorem dX1_look_203 : decode cX1_look 203 = .ok (.aload_n 0, 1) := by decide +kernel
theorem dX1_look_204 : decode cX1_look 204 = .ok (.getfield 9, 3) := by decide +kernel
theorem dX1_look_207 : decode cX1_look 207 = .ok (.aload_n 0, 1) := by decide +kernel
theorem dX1_look_208 : decode cX1_look 208 = .ok (.getfield 9, 3) := by decide +kernel
theorem dX1_look_211 : decode cX1_look 211 = .ok (.iload_n 1, 1) := by decide +kernel
theorem dX1_look_212 : decode cX1_look 212 = .ok (.invokevirtual 53, 3) := by decide +kernel
theorem dX1_look_215 : decode cX1_look 215 = .ok (.invokevirtual 53, 3) := by decide +kernel
theorem dX1_look_218 : decode cX1_look 218 = .ok (.invokevirtual 56, 3) := by decide +kernel
theorem dX1_look_221 : decode cX1_look 221 = .ok (.ifCond .ne 7, 3) := by decide +kernel
theorem dX1_look_224 : decode cX1_look 224 = .ok (.iconst 1, 1) := by decide +kernel
theorem dX1_look_225 : decode cX1_look 225 = .ok (.goto 4, 3) := by decide +kernel
theorem dX1_look_228 : decode cX1_look 228 = .ok (.iconst 0, 1) := by decide +kernel
theorem dX1_look_229 : decode cX1_look 229 = .ok (.bipush 7, 2) := by decide +kernel
theorem dX1_look_231 : decode cX1_look 231 = .ok (.iload_n 1, 1) := by decide +kernel
theorem dX1_look_232 : decode cX1_look 232 = .ok (.invokevirtual 49, 3) := by decide +kernel
theorem dX1_look_235 : decode cX1_look 235 = .ok (.ireturn, 1) := by decide +kernel
theorem dX1_look_236 : decode cX1_look 236 = .ok (.aload_n 0, 1) := by decide +kernel
theorem dX1_look_237 : decode cX1_look 237 = .ok (.aload_n 0, 1) := by decide +kernel
theorem dX1_look_238 : decode cX1_look 238 = .ok (.getfield 19, 3) := by decide +kernel
theorem dX1_look_241 : decode cX1_look 241 = .ok (.ifCond .le 7, 3) := by decide +kernel
theorem dX1_look_244 : decode cX1_look 244 = .ok (.iconst 1, 1) := by decide +kernel
theorem dX1_look_245 : decode cX1_look 245 = .ok (.goto 4, 3) := by decide +kernel
theorem dX1_look_248 : decode cX1_look 248 = .ok (.iconst 0, 1) := by decide +kernel
theorem dX1_look_249 : decode cX1_look 249 = .ok (.bipush 8, 2) := by decide +kernel
theorem dX1_look_251 : decode cX1_look 251 = .ok (.iload_n 1, 1) := by decide +kernel
theorem dX1_look_252 : decode cX1_look 252 = .ok (.invokevirtual 49, 3) := by decide +kernel
theorem dX1_look_255 : decode cX1_look 255 = .ok (.ireturn, 1) := by decide +kernel
theorem dX1_look_256 : decode cX1_look 256 = .ok (.aload_n 0, 1) := by decide +kernel
theorem dX1_look_257 : decode cX1_look 257 = .ok (.aload_n 0, 1) := by decide +kernel
theorem dX1_look_258 : decode cX1_look 258 = .ok (.getfield 9, 3) := by decide +kernel
theorem dX1_look_261 : decode cX1_look 261 = .ok (.iload_n 1, 1) := by decide +kernel
theorem dX1_look_262 : decode cX1_look 262 = .ok (.iconst 1, 1) := by decide +kernel
theorem dX1_look_263 : decode cX1_look 263 = .ok (.isub, 1) := by decide +kernel
theorem dX1_look_264 : decode cX1_look 264 = .ok (.invokevirtual 45, 3) := by decide +kernel
theorem dX1_look_267 : decode cX1_look 267 = .ok (.bipush 6, 2) := by decide +kernel
theorem dX1_look_269 : decode cX1_look 269 = .ok (.iload_n 1, 1) := by decide +kernel
theorem dX1_look_270 : decode cX1_look 270 = .ok (.invokevirtual 49, 3) := by decide +kernel
theorem dX1_look_273 : decode cX1_look 273 = .ok (.ireturn, 1) := by decide +kernel
theorem dX1_look_274 : decode cX1_look 274 = .ok (.aload_n 0, 1) := by decide +kernel
theorem dX1_look_275 : decode cX1_look 275 = .ok (.aload_n 0, 1) := by decide +kernel
theorem dX1_look_276 : decode cX1_look 276 = .ok (.getfield 9, 3) := by decide +kernel
theorem dX1_look_279 : decode cX1_look 279 = .ok (.iload_n 1, 1) := by decide +kernel
theorem dX1_look_280 : decode cX1_look 280 = .ok (.iconst 1, 1) := by decide +kernel
theorem dX1_look_281 : decode cX1_look 281 = .ok (.isub, 1) := by decide +kernel
theorem dX1_look_282 : decode cX1_look 282 = .ok (.invokevirtual 45, 3) := by decide +kernel
theorem dX1_look_285 : decode cX1_look 285 = .ok (.bipush 7, 2) := by decide +kernel
theorem dX1_look_287 : decode cX1_look 287 = .ok (.iload_n 1, 1) := by decide +kernel
theorem dX1_look_288 : decode cX1_look 288 = .ok (.invokevirtual 49, 3) := by decide +kernel
theorem dX1_look_291 : decode cX1_look 291 = .ok (.ireturn, 1) := by decide +kernel
theorem dX1_look_292 : decode cX1_look 292 = .ok (.aload_n 0, 1) := by decide +kernel
theorem dX1_look_293 : decode cX1_look 293 = .ok (.getfield 9, 3) := by decide +kernel
theorem dX1_look_296 : decode cX1_look 296 = .ok (.iload_n 1, 1) := by decide +kernel
theorem dX1_look_297 : decode cX1_look 297 = .ok (.aload_n 0, 1) := by decide +kernel
theorem dX1_look_298 : decode cX1_look 298 = .ok (.getfield 9, 3) := by decide +kernel
theorem dX1_look_301 : decode cX1_look 301 = .ok (.iload_n 1, 1) := by decide +kernel
theorem dX1_look_302 : decode cX1_look 302 = .ok (.iconst 1, 1) := by decide +kernel
theorem dX1_look_303 : decode cX1_look 303 = .ok (.isub, 1) := by decide +kernel
theorem dX1_look_304 : decode cX1_look 304 = .ok (.invokevirtual 45, 3) := by decide +kernel
theorem dX1_look_307 : decode cX1_look 307 = .ok (.invokevirtual 59, 3) := by decide +kernel
theorem dX1_look_310 : decode cX1_look 310 = .ok (.aload_n 0, 1) := by decide +kernel
theorem dX1_look_311 : decode cX1_look 311 = .ok (.dup, 1) := by decide +kernel
theorem dX1_look_312 : decode cX1_look 312 = .ok (.getfield 19, 3) := by decide +kernel
theorem dX1_look_315 : decode cX1_look 315 = .ok (.aload_n 0, 1) := by decide +kernel
theorem dX1_look_316 : decode cX1_look 316 = .ok (.getfield 9, 3) := by decide +kernel
theorem dX1_look_319 : decode cX1_look 319 = .ok (.iload_n 1, 1) := by decide +kernel
theorem dX1_look_320 : decode cX1_look 320 = .ok (.invokevirtual 45, 3) := by decide +kernel
theorem dX1_look_323 : decode cX1_look 323 = .ok (.ifCond .eq 7, 3) := by decide +kernel
theorem dX1_look_326 : decode cX1_look 326 = .ok (.iconst 1, 1) := by decide +kernel
theorem dX1_look_327 : decode cX1_look 327 = .ok (.goto 4, 3) := by decide +kernel
theorem dX1_look_330 : decode cX1_look 330 = .ok (.iconst 0, 1) := by decide +kernel
theorem dX1_look_331 : decode cX1_look 331 = .ok (.iadd, 1) := by decide +kernel
theorem dX1_look_332 : decode cX1_look 332 = .ok (.putfield 19, 3) := by decide +kernel
theorem dX1_look_335 : decode cX1_look 335 = .ok (.iconst 0, 1) := by decide +kernel
theorem dX1_look_336 : decode cX1_look 336 = .ok (.ireturn, 1) := by decide +kernel
theorem dX1_look_337 : decode cX1_look 337 = .ok (.aload_n 0, 1) := by decide +kernel
theorem dX1_look_338 : decode cX1_look 338 = .ok (.dup, 1) := by decide +kernel
theorem dX1_look_339 : decode cX1_look 339 = .ok (.getfield 19, 3) := by decide +kernel
theorem dX1_look_342 : decode cX1_look 342 = .ok (.aload_n 0, 1) := by decide +kernel
theorem dX1_look_343 : decode cX1_look 343 = .ok (.getfield 9, 3) := by decide +kernel
theorem dX1_look_346 : decode cX1_look 346 = .ok (.aload_n 0, 1) := by decide +kernel
theorem dX1_look_347 : decode cX1_look 347 = .ok (.getfield 9, 3) := by decide +kernel
theorem dX1_look_350 : decode cX1_look 350 = .ok (.iload_n 1, 1) := by decide +kernel
theorem dX1_look_351 : decode cX1_look 351 = .ok (.invokevirtual 53, 3) := by decide +kernel
theorem dX1_look_354 : decode cX1_look 354 = .ok (.invokevirtual 45, 3) := by decide +kernel
theorem dX1_look_357 : decode cX1_look 357 = .ok (.ifCond .eq 7, 3) := by decide +kernel
theorem dX1_look_360 : decode cX1_look 360 = .ok (.iconst 1, 1) := by decide +kernel
theorem dX1_look_361 : decode cX1_look 361 = .ok (.goto 4, 3) := by decide +kernel
theorem dX1_look_364 : decode cX1_look 364 = .ok (.iconst 0, 1) := by decide +kernel
theorem dX1_look_365 : decode cX1_look 365 = .ok (.isub, 1) := by decide +kernel
theorem dX1_look_366 : decode cX1_look 366 = .ok (.putfield 19, 3) := by decide +kernel
theorem dX1_look_369 : decode cX1_look 369 = .ok (.iconst 0, 1) := by decide +kernel
theorem dX1_look_370 : decode cX1_look 370 = .ok (.ireturn, 1) := by decide +kernel
theorem dX1_look_371 : decode cX1_look 371 = .ok (.aload_n 0, 1) := by decide +kernel
theorem dX1_look_372 : decode cX1_look 372 = .ok (.iload_n 1, 1) := by decide +kernel
theorem dX1_look_373 : decode cX1_look 373 = .ok (.invokevirtual 63, 3) := by decide +kernel
theorem dX1_look_376 : decode cX1_look 376 = .ok (.ireturn, 1) := by decide +kernel
theorem dX1_look_377 : decode cX1_look 377 = .ok (.aload_n 0, 1) := by decide +kernel
theorem dX1_look_378 : decode cX1_look 378 = .ok (.iload_n 1, 1) := by decide +kernel
theorem dX1_look_379 : decode cX1_look 379 = .ok (.invokevirtual 66, 3) := by decide +kernel
theorem dX1_look_382 : decode cX1_look 382 = .ok (.ireturn, 1) := by decide +kernel
theorem dX1_look_383 : decode cX1_look 383 = .ok (.aload_n 0, 1) := by decide +kernel
theorem dX1_look_384 : decode cX1_look 384 = .ok (.iload_n 1, 1) := by decide +kernel
theorem dX1_look_385 : decode cX1_look 385 = .ok (.invokevirtual 69, 3) := by decide +kernel
theorem dX1_look_388 : decode cX1_look 388 = .ok (.ireturn, 1) := by decide +kernel
theorem dX1_look_389 : decode cX1_look 389 = .ok (.aload_n 0, 1) := by decide +kernel
theorem dX1_look_390 : decode cX1_look 390 = .ok (.getfield 9, 3) := by decide +kernel
theorem dX1_look_393 : decode cX1_look 393 = .ok (.iload_n 1, 1) := by decide +kernel
theorem dX1_look_394 : decode cX1_look 394 = .ok (.aload_n 0, 1) := by decide +kernel
theorem dX1_look_395 : decode cX1_look 395 = .ok (.getfield 9, 3) := by decide +kernel
theorem dX1_look_398 : decode cX1_look 398 = .ok (.iload_n 1, 1) := by decide +kernel
theorem dX1_look_399 : decode cX1_look 399 = .ok (.iconst 1, 1) := by decide +kernel
theorem dX1_look_400 : decode cX1_look 400 = .ok (.isub, 1) := by decide +kernel
theorem dX1_look_401 : decode cX1_look 401 = .ok (.invokevirtual 45, 3) := by decide +kernel
theorem dX1_look_404 : decode cX1_look 404 = .ok (.invokevirtual 59, 3) := by decide +kernel
theorem dX1_look_407 : decode cX1_look 407 = .ok (.iconst 0, 1) := by decide +kernel
theorem dX1_look_408 : decode cX1_look 408 = .ok (.ireturn, 1) := by decide +kernel
theorem dX1_look_409 : decode cX1_look 409 = .ok (.aload_n 0, 1) := by decide +kernel
theorem dX1_look_410 : decode cX1_look 410 = .ok (.getfield 9, 3) := by decide +kernel
theorem dX1_look_413 : decode cX1_look 413 = .ok (.iload_n 1, 1) := by decide +kernel
theorem dX1_look_414 : decode cX1_look 414 = .ok (.invokevirtual 36, 3) := by decide +kernel
theorem dX1_look_417 : decode cX1_look 417 = .ok (.invokestatic 72, 3) := by decide +kernel
theorem dX1_look_420 : decode cX1_look 420 = .ok (.iconst (-1), 1) := by decide +kernel
theorem dX1_look_421 : decode cX1_look 421 = .ok (.if_icmp .ne 7, 3) := by decide +kernel
theorem dX1_look_424 : decode cX1_look 424 = .ok (.iconst 0, 1) := by decide +kernel
theorem dX1_look_425 : decode cX1_look 425 = .ok (.goto 8, 3) := by decide +kernel
theorem dX1_look_428 : decode cX1_look 428 = .ok (.aload_n 0, 1) := by decide +kernel
theorem dX1_look_429 : decode cX1_look 429 = .ok (.iload_n 1, 1) := by decide +kernel
theorem dX1_look_430 : decode cX1_look 430 = .ok (.invokevirtual 75, 3) := by decide +kernel
theorem dX1_look_433 : decode cX1_look 433 = .ok (.ireturn, 1) := by decide +kernel
theorem dX1_wrong_0 : decode cX1_wrong 0 = .ok (.aload_n 0, 1) := by decide +kernel
theorem dX1_wrong_1 : decode cX1_wrong 1 = .ok (.iload_n 2, 1) := by decide +kernel
theorem dX1_wrong_2 : decode cX1_wrong 2 = .ok (.putfield 23, 3) := by decide +kernel
theorem dX1_wrong_5 : decode cX1_wrong 5 = .ok (.iload_n 1, 1) := by decide +kernel
theorem dX1_wrong_6 : decode cX1_wrong 6 = .ok (.ireturn, 1) := by decide +kernel
theorem dX1_wrongIf_0 : decode cX1_wrongIf 0 = .ok (.iload_n 1, 1) := by decide +kernel
theorem dX1_wrongIf_1 : decode cX1_wrongIf 1 = .ok (.ifCond .eq 19, 3) := by decide +kernel
theorem dX1_wrongIf_4 : decode cX1_wrongIf 4 = .ok (.aload_n 0, 1) := by decide +kernel
theorem dX1_wrongIf_5 : decode cX1_wrongIf 5 = .ok (.iload_n 2, 1) := by decide +kernel
theorem dX1_wrongIf_6 : decode cX1_wrongIf 6 = .ok (.aload_n 0, 1) := by decide +kernel
theorem dX1_wrongIf_7 : decode cX1_wrongIf 7 = .ok (.getfield 9, 3) := by decide +kernel
theorem dX1_wrongIf_10 : decode cX1_wrongIf 10 = .ok (.iload_n 3, 1) := by decide +kernel
theorem dX1_wrongIf_11 : decode cX1_wrongIf 11 = .ok (.invokevirtual 78, 3) := by decide +kernel
theorem dX1_wrongIf_14 : decode cX1_wrongIf 14 = .ok (.invokevirtual 81, 3) := by decide +kernel
theorem dX1_wrongIf_17 : decode cX1_wrongIf 17 = .ok (.goto 4, 3) := by decide +kernel
theorem dX1_wrongIf_20 : decode cX1_wrongIf 20 = .ok (.iconst 0, 1) := by decide +kernel
theorem dX1_wrongIf_21 : decode cX1_wrongIf 21 = .ok (.ireturn, 1) := by decide +kernel
theorem dX1_lookAtDeclaration_0 : decode cX1_lookAtDeclaration 0 = .ok (.aload_n 0, 1) := by decide +kernel
theorem dX1_lookAtDeclaration_1 : decode cX1_lookAtDeclaration 1 = .ok (.getfield 9, 3) := by decide +kernel
theorem dX1_lookAtDeclaration_4 : decode cX1_lookAtDeclaration 4 = .ok (.iload_n 1, 1) := by decide +kernel
theorem dX1_lookAtDeclaration_5 : decode cX1_lookAtDeclaration 5 = .ok (.invokevirtual 78, 3) := by decide +kernel
theorem dX1_lookAtDeclaration_8 : decode cX1_lookAtDeclaration 8 = .ok (.istore_n 2, 1) := by decide +kernel
theorem dX1_lookAtDeclaration_9 : decode cX1_lookAtDeclaration 9 = .ok (.aload_n 0, 1) := by decide +kernel
theorem dX1_lookAtDeclaration_10 : decode cX1_lookAtDeclaration 10 = .ok (.getfield 15, 3) := by decide +kernel
theorem dX1_lookAtDeclaration_13 : decode cX1_lookAtDeclaration 13 = .ok (.iload_n 2, 1) := by decide +kernel
theorem dX1_lookAtDeclaration_14 : decode cX1_lookAtDeclaration 14 = .ok (.invokevirtual 85, 3) := by decide +kernel
theorem dX1_lookAtDeclaration_17 : decode cX1_lookAtDeclaration 17 = .ok (.iconst (-1), 1) := by decide +kernel
theorem dX1_lookAtDeclaration_18 : decode cX1_lookAtDeclaration 18 = .ok (.if_icmp .eq 10, 3) := by decide +kernel
theorem dX1_lookAtDeclaration_21 : decode cX1_lookAtDeclaration 21 = .ok (.aload_n 0, 1) := by decide +kernel
theorem dX1_lookAtDeclaration_22 : decode cX1_lookAtDeclaration 22 = .ok (.iconst 1, 1) := by decide +kernel
theorem dX1_lookAtDeclaration_23 : decode cX1_lookAtDeclaration 23 = .ok (.iload_n 2, 1) := by decide +kernel
theorem dX1_lookAtDeclaration_24 : decode cX1_lookAtDeclaration 24 = .ok (.invokevirtual 81, 3) := by decide +kernel
theorem dX1_lookAtDeclaration_27 : decode cX1_lookAtDeclaration 27 = .ok (.ireturn, 1) := by decide +kernel
theorem dX1_lookAtDeclaration_28 : decode cX1_lookAtDeclaration 28 = .ok (.iconst 0, 1) := by decide +kernel
theorem dX1_lookAtDeclaration_29 : decode cX1_lookAtDeclaration 29 = .ok (.istore_n 3, 1) := by decide +kernel
theorem dX1_lookAtDeclaration_30 : decode cX1_lookAtDeclaration 30 = .ok (.aload_n 0, 1) := by decide +kernel
theorem dX1_lookAtDeclaration_31 : decode cX1_lookAtDeclaration 31 = .ok (.getfield 9, 3) := by decide +kernel
theorem dX1_lookAtDeclaration_34 : decode cX1_lookAtDeclaration 34 = .ok (.iload_n 1, 1) := by decide +kernel
theorem dX1_lookAtDeclaration_35 : decode cX1_lookAtDeclaration 35 = .ok (.iconst 1, 1) := by decide +kernel
theorem dX1_lookAtDeclaration_36 : decode cX1_lookAtDeclaration 36 = .ok (.iadd, 1) := by decide +kernel
theorem dX1_lookAtDeclaration_37 : decode cX1_lookAtDeclaration 37 = .ok (.invokevirtual 36, 3) := by decide +kernel
theorem dX1_lookAtDeclaration_40 : decode cX1_lookAtDeclaration 40 = .ok (.bipush 12, 2) := by decide +kernel
theorem dX1_lookAtDeclaration_42 : decode cX1_lookAtDeclaration 42 = .ok (.if_icmp .ne 41, 3) := by decide +kernel
theorem dX1_lookAtDeclaration_45 : decode cX1_lookAtDeclaration 45 = .ok (.aload_n 0, 1) := by decide +kernel
theorem dX1_lookAtDeclaration_46 : decode cX1_lookAtDeclaration 46 = .ok (.getfield 9, 3) := by decide +kernel
theorem dX1_lookAtDeclaration_49 : decode cX1_lookAtDeclaration 49 = .ok (.iload_n 1, 1) := by decide +kernel
theorem dX1_lookAtDeclaration_50 : decode cX1_lookAtDeclaration 50 = .ok (.iconst 1, 1) := by decide +kernel
theorem dX1_lookAtDeclaration_51 : decode cX1_lookAtDeclaration 51 = .ok (.iadd, 1) := by decide +kernel
theorem dX1_lookAtDeclaration_52 : decode cX1_lookAtDeclaration 52 = .ok (.invokevirtual 53, 3) := by decide +kernel
theorem dX1_lookAtDeclaration_55 : decode cX1_lookAtDeclaration 55 = .ok (.istore_n 3, 1) := by decide +kernel
theorem dX1_lookAtDeclaration_56 : decode cX1_lookAtDeclaration 56 = .ok (.iload_n 3, 1) := by decide +kernel
theorem dX1_lookAtDeclaration_57 : decode cX1_lookAtDeclaration 57 = .ok (.iconst 1, 1) := by decide +kernel
theorem dX1_lookAtDeclaration_58 : decode cX1_lookAtDeclaration 58 = .ok (.if_icmp .lt 9, 3) := by decide +kernel
theorem dX1_lookAtDeclaration_61 : decode cX1_lookAtDeclaration 61 = .ok (.iload_n 3, 1) := by decide +kernel
theorem dX1_lookAtDeclaration_62 : decode cX1_lookAtDeclaration 62 = .ok (.bipush 64, 2) := by decide +kernel
theorem dX1_lookAtDeclaration_64 : decode cX1_lookAtDeclaration 64 = .ok (.if_icmp .le 19, 3) := by decide +kernel
theorem dX1_lookAtDeclaration_67 : decode cX1_lookAtDeclaration 67 = .ok (.aload_n 0, 1) := by decide +kernel
theorem dX1_lookAtDeclaration_68 : decode cX1_lookAtDeclaration 68 = .ok (.iconst 2, 1) := by decide +kernel
theorem dX1_lookAtDeclaration_69 : decode cX1_lookAtDeclaration 69 = .ok (.aload_n 0, 1) := by decide +kernel
theorem dX1_lookAtDeclaration_70 : decode cX1_lookAtDeclaration 70 = .ok (.getfield 9, 3) := by decide +kernel
theorem dX1_lookAtDeclaration_73 : decode cX1_lookAtDeclaration 73 = .ok (.iload_n 1, 1) := by decide +kernel
theorem dX1_lookAtDeclaration_74 : decode cX1_lookAtDeclaration 74 = .ok (.iconst 1, 1) := by decide +kernel
theorem dX1_lookAtDeclaration_75 : decode cX1_lookAtDeclaration 75 = .ok (.iadd, 1) := by decide +kernel
theorem dX1_lookAtDeclaration_76 : decode cX1_lookAtDeclaration 76 = .ok (.invokevirtual 78, 3) := by decide +kernel
theorem dX1_lookAtDeclaration_79 : decode cX1_lookAtDeclaration 79 = .ok (.invokevirtual 81, 3) := by decide +kernel
theorem dX1_lookAtDeclaration_82 : decode cX1_lookAtDeclaration 82 = .ok (.ireturn, 1) := by decide +kernel
theorem dX1_lookAtDeclaration_83 : decode cX1_lookAtDeclaration 83 = .ok (.aload_n 0, 1) := by decide +kernel
theorem dX1_lookAtDeclaration_84 : decode cX1_lookAtDeclaration 84 = .ok (.aload_n 0, 1) := by decide +kernel
theorem dX1_lookAtDeclaration_85 : decode cX1_lookAtDeclaration 85 = .ok (.getfield 15, 3) := by decide +kernel
theorem dX1_lookAtDeclaration_88 : decode cX1_lookAtDeclaration 88 = .ok (.iload_n 2, 1) := by decide +kernel
theorem dX1_lookAtDeclaration_89 : decode cX1_lookAtDeclaration 89 = .ok (.iload_n 3, 1) := by decide +kernel
theorem dX1_lookAtDeclaration_90 : decode cX1_lookAtDeclaration 90 = .ok (.aload_n 0, 1) := by decide +kernel
theorem dX1_lookAtDeclaration_91 : decode cX1_lookAtDeclaration 91 = .ok (.getfield 9, 3) := by decide +kernel
theorem dX1_lookAtDeclaration_94 : decode cX1_lookAtDeclaration 94 = .ok (.iload_n 1, 1) := by decide +kernel
theorem dX1_lookAtDeclaration_95 : decode cX1_lookAtDeclaration 95 = .ok (.invokevirtual 53, 3) := by decide +kernel
theorem dX1_lookAtDeclaration_98 : decode cX1_lookAtDeclaration 98 = .ok (.invokevirtual 88, 3) := by decide +kernel
theorem dX1_lookAtDeclaration_101 : decode cX1_lookAtDeclaration 101 = .ok (.ifCond .ne 7, 3) := by decide +kernel
theorem dX1_lookAtDeclaration_104 : decode cX1_lookAtDeclaration 104 = .ok (.iconst 1, 1) := by decide +kernel
theorem dX1_lookAtDeclaration_105 : decode cX1_lookAtDeclaration 105 = .ok (.goto 4, 3) := by decide +kernel
theorem dX1_lookAtDeclaration_108 : decode cX1_lookAtDeclaration 108 = .ok (.iconst 0, 1) := by decide +kernel
theorem dX1_lookAtDeclaration_109 : decode cX1_lookAtDeclaration 109 = .ok (.iconst 2, 1) := by decide +kernel
theorem dX1_lookAtDeclaration_110 : decode cX1_lookAtDeclaration 110 = .ok (.iload_n 1, 1) := by decide +kernel
theorem dX1_lookAtDeclaration_111 : decode cX1_lookAtDeclaration 111 = .ok (.invokevirtual 49, 3) := by decide +kernel
theorem dX1_lookAtDeclaration_114 : decode cX1_lookAtDeclaration 114 = .ok (.ireturn, 1) := by decide +kernel
theorem dX1_lookAtTarget_0 : decode cX1_lookAtTarget 0 = .ok (.aload_n 0, 1) := by decide +kernel
theorem dX1_lookAtTarget_1 : decode cX1_lookAtTarget 1 = .ok (.getfield 15, 3) := by decide +kernel
theorem dX1_lookAtTarget_4 : decode cX1_lookAtTarget 4 = .ok (.aload_n 0, 1) := by decide +kernel
theorem dX1_lookAtTarget_5 : decode cX1_lookAtTarget 5 = .ok (.getfield 9, 3) := by decide +kernel
theorem dX1_lookAtTarget_8 : decode cX1_lookAtTarget 8 = .ok (.iload_n 1, 1) := by decide +kernel
theorem dX1_lookAtTarget_9 : decode cX1_lookAtTarget 9 = .ok (.invokevirtual 78, 3) := by decide +kernel
theorem dX1_lookAtTarget_12 : decode cX1_lookAtTarget 12 = .ok (.invokevirtual 85, 3) := by decide +kernel
theorem dX1_lookAtTarget_15 : decode cX1_lookAtTarget 15 = .ok (.istore_n 2, 1) := by decide +kernel
theorem dX1_lookAtTarget_16 : decode cX1_lookAtTarget 16 = .ok (.iload_n 2, 1) := by decide +kernel
theorem dX1_lookAtTarget_17 : decode cX1_lookAtTarget 17 = .ok (.iconst (-1), 1) := by decide +kernel
theorem dX1_lookAtTarget_18 : decode cX1_lookAtTarget 18 = .ok (.if_icmp .ne 17, 3) := by decide +kernel
theorem dX1_lookAtTarget_21 : decode cX1_lookAtTarget 21 = .ok (.aload_n 0, 1) := by decide +kernel
theorem dX1_lookAtTarget_22 : decode cX1_lookAtTarget 22 = .ok (.iconst 1, 1) := by decide +kernel
theorem dX1_lookAtTarget_23 : decode cX1_lookAtTarget 23 = .ok (.aload_n 0, 1) := by decide +kernel
theorem dX1_lookAtTarget_24 : decode cX1_lookAtTarget 24 = .ok (.getfield 9, 3) := by decide +kernel
theorem dX1_lookAtTarget_27 : decode cX1_lookAtTarget 27 = .ok (.iload_n 1, 1) := by decide +kernel
theorem dX1_lookAtTarget_28 : decode cX1_lookAtTarget 28 = .ok (.invokevirtual 78, 3) := by decide +kernel
theorem dX1_lookAtTarget_31 : decode cX1_lookAtTarget 31 = .ok (.invokevirtual 81, 3) := by decide +kernel
theorem dX1_lookAtTarget_34 : decode cX1_lookAtTarget 34 = .ok (.ireturn, 1) := by decide +kernel
theorem dX1_lookAtTarget_35 : decode cX1_lookAtTarget 35 = .ok (.aload_n 0, 1) := by decide +kernel
theorem dX1_lookAtTarget_36 : decode cX1_lookAtTarget 36 = .ok (.getfield 9, 3) := by decide +kernel
theorem dX1_lookAtTarget_39 : decode cX1_lookAtTarget 39 = .ok (.iload_n 1, 1) := by decide +kernel
theorem dX1_lookAtTarget_40 : decode cX1_lookAtTarget 40 = .ok (.iload_n 2, 1) := by decide +kernel
theorem dX1_lookAtTarget_41 : decode cX1_lookAtTarget 41 = .ok (.invokevirtual 92, 3) := by decide +kernel
theorem dX1_lookAtTarget_44 : decode cX1_lookAtTarget 44 = .ok (.aload_n 0, 1) := by decide +kernel
theorem dX1_lookAtTarget_45 : decode cX1_lookAtTarget 45 = .ok (.getfield 19, 3) := by decide +kernel
theorem dX1_lookAtTarget_48 : decode cX1_lookAtTarget 48 = .ok (.ifCond .le 40, 3) := by decide +kernel
theorem dX1_lookAtTarget_51 : decode cX1_lookAtTarget 51 = .ok (.aload_n 0, 1) := by decide +kernel
theorem dX1_lookAtTarget_52 : decode cX1_lookAtTarget 52 = .ok (.getfield 15, 3) := by decide +kernel
theorem dX1_lookAtTarget_55 : decode cX1_lookAtTarget 55 = .ok (.iload_n 2, 1) := by decide +kernel
theorem dX1_lookAtTarget_56 : decode cX1_lookAtTarget 56 = .ok (.invokevirtual 96, 3) := by decide +kernel
theorem dX1_lookAtTarget_59 : decode cX1_lookAtTarget 59 = .ok (.ifCond .ne 14, 3) := by decide +kernel
theorem dX1_lookAtTarget_62 : decode cX1_lookAtTarget 62 = .ok (.aload_n 0, 1) := by decide +kernel
theorem dX1_lookAtTarget_63 : decode cX1_lookAtTarget 63 = .ok (.getfield 15, 3) := by decide +kernel
theorem dX1_lookAtTarget_66 : decode cX1_lookAtTarget 66 = .ok (.iload_n 2, 1) := by decide +kernel
theorem dX1_lookAtTarget_67 : decode cX1_lookAtTarget 67 = .ok (.invokevirtual 56, 3) := by decide +kernel
theorem dX1_lookAtTarget_70 : decode cX1_lookAtTarget 70 = .ok (.ifCond .ne 18, 3) := by decide +kernel
theorem dX1_lookAtTarget_73 : decode cX1_lookAtTarget 73 = .ok (.aload_n 0, 1) := by decide +kernel
theorem dX1_lookAtTarget_74 : decode cX1_lookAtTarget 74 = .ok (.bipush 8, 2) := by decide +kernel
theorem dX1_lookAtTarget_76 : decode cX1_lookAtTarget 76 = .ok (.aload_n 0, 1) := by decide +kernel
theorem dX1_lookAtTarget_77 : decode cX1_lookAtTarget 77 = .ok (.getfield 9, 3) := by decide +kernel
theorem dX1_lookAtTarget_80 : decode cX1_lookAtTarget 80 = .ok (.iload_n 1, 1) := by decide +kernel
theorem dX1_lookAtTarget_81 : decode cX1_lookAtTarget 81 = .ok (.invokevirtual 78, 3) := by decide +kernel
theorem dX1_lookAtTarget_84 : decode cX1_lookAtTarget 84 = .ok (.invokevirtual 81, 3) := by decide +kernel
theorem dX1_lookAtTarget_87 : decode cX1_lookAtTarget 87 = .ok (.ireturn, 1) := by decide +kernel
theorem dX1_lookAtTarget_88 : decode cX1_lookAtTarget 88 = .ok (.aload_n 0, 1) := by decide +kernel
theorem dX1_lookAtTarget_89 : decode cX1_lookAtTarget 89 = .ok (.aload_n 0, 1) := by decide +kernel
theorem dX1_lookAtTarget_90 : decode cX1_lookAtTarget 90 = .ok (.getfield 15, 3) := by decide +kernel
theorem dX1_lookAtTarget_93 : decode cX1_lookAtTarget 93 = .ok (.iload_n 2, 1) := by decide +kernel
theorem dX1_lookAtTarget_94 : decode cX1_lookAtTarget 94 = .ok (.invokevirtual 96, 3) := by decide +kernel
theorem dX1_lookAtTarget_97 : decode cX1_lookAtTarget 97 = .ok (.aload_n 0, 1) := by decide +kernel
theorem dX1_lookAtTarget_98 : decode cX1_lookAtTarget 98 = .ok (.getfield 9, 3) := by decide +kernel
theorem dX1_lookAtTarget_101 : decode cX1_lookAtTarget 101 = .ok (.iload_n 1, 1) := by decide +kernel
theorem dX1_lookAtTarget_102 : decode cX1_lookAtTarget 102 = .ok (.invokevirtual 36, 3) := by decide +kernel
theorem dX1_lookAtTarget_105 : decode cX1_lookAtTarget 105 = .ok (.bipush 14, 2) := by decide +kernel
theorem dX1_lookAtTarget_107 : decode cX1_lookAtTarget 107 = .ok (.if_icmp .ne 7, 3) := by decide +kernel
theorem dX1_lookAtTarget_110 : decode cX1_lookAtTarget 110 = .ok (.iconst 1, 1) := by decide +kernel
theorem dX1_lookAtTarget_111 : decode cX1_lookAtTarget 111 = .ok (.goto 4, 3) := by decide +kernel
theorem dX1_lookAtTarget_114 : decode cX1_lookAtTarget 114 = .ok (.iconst 0, 1) := by decide +kernel
theorem dX1_lookAtTarget_115 : decode cX1_lookAtTarget 115 = .ok (.if_icmp .eq 7, 3) := by decide +kernel
theorem dX1_lookAtTarget_118 : decode cX1_lookAtTarget 118 = .ok (.iconst 1, 1) := by decide +kernel
theorem dX1_lookAtTarget_119 : decode cX1_lookAtTarget 119 = .ok (.goto 4, 3) := by decide +kernel
theorem dX1_lookAtTarget_122 : decode cX1_lookAtTarget 122 = .ok (.iconst 0, 1) := by decide +kernel
theorem dX1_lookAtTarget_123 : decode cX1_lookAtTarget 123 = .ok (.iconst 3, 1) := by decide +kernel
theorem dX1_lookAtTarget_124 : decode cX1_lookAtTarget 124 = .ok (.iload_n 1, 1) := by decide +kernel
theorem dX1_lookAtTarget_125 : decode cX1_lookAtTarget 125 = .ok (.invokevirtual 49, 3) := by decide +kernel
theorem dX1_lookAtTarget_128 : decode cX1_lookAtTarget 128 = .ok (.ireturn, 1) := by decide +kernel
theorem dX1_lookAtName_0 : decode cX1_lookAtName 0 = .ok (.aload_n 0, 1) := by decide +kernel
theorem dX1_lookAtName_1 : decode cX1_lookAtName 1 = .ok (.getfield 15, 3) := by decide +kernel
theorem dX1_lookAtName_4 : decode cX1_lookAtName 4 = .ok (.aload_n 0, 1) := by decide +kernel
theorem dX1_lookAtName_5 : decode cX1_lookAtName 5 = .ok (.getfield 9, 3) := by decide +kernel
theorem dX1_lookAtName_8 : decode cX1_lookAtName 8 = .ok (.iload_n 1, 1) := by decide +kernel
theorem dX1_lookAtName_9 : decode cX1_lookAtName 9 = .ok (.invokevirtual 78, 3) := by decide +kernel
theorem dX1_lookAtName_12 : decode cX1_lookAtName 12 = .ok (.invokevirtual 85, 3) := by decide +kernel
theorem dX1_lookAtName_15 : decode cX1_lookAtName 15 = .ok (.istore_n 2, 1) := by decide +kernel
theorem dX1_lookAtName_16 : decode cX1_lookAtName 16 = .ok (.iload_n 2, 1) := by decide +kernel
theorem dX1_lookAtName_17 : decode cX1_lookAtName 17 = .ok (.iconst (-1), 1) := by decide +kernel
theorem dX1_lookAtName_18 : decode cX1_lookAtName 18 = .ok (.if_icmp .ne 17, 3) := by decide +kernel
theorem dX1_lookAtName_21 : decode cX1_lookAtName 21 = .ok (.aload_n 0, 1) := by decide +kernel
theorem dX1_lookAtName_22 : decode cX1_lookAtName 22 = .ok (.iconst 1, 1) := by decide +kernel
theorem dX1_lookAtName_23 : decode cX1_lookAtName 23 = .ok (.aload_n 0, 1) := by decide +kernel
theorem dX1_lookAtName_24 : decode cX1_lookAtName 24 = .ok (.getfield 9, 3) := by decide +kernel
theorem dX1_lookAtName_27 : decode cX1_lookAtName 27 = .ok (.iload_n 1, 1) := by decide +kernel
theorem dX1_lookAtName_28 : decode cX1_lookAtName 28 = .ok (.invokevirtual 78, 3) := by decide +kernel
theorem dX1_lookAtName_31 : decode cX1_lookAtName 31 = .ok (.invokevirtual 81, 3) := by decide +kernel
theorem dX1_lookAtName_34 : decode cX1_lookAtName 34 = .ok (.ireturn, 1) := by decide +kernel
theorem dX1_lookAtName_35 : decode cX1_lookAtName 35 = .ok (.aload_n 0, 1) := by decide +kernel
theorem dX1_lookAtName_36 : decode cX1_lookAtName 36 = .ok (.getfield 9, 3) := by decide +kernel
theorem dX1_lookAtName_39 : decode cX1_lookAtName 39 = .ok (.iload_n 1, 1) := by decide +kernel
theorem dX1_lookAtName_40 : decode cX1_lookAtName 40 = .ok (.iload_n 2, 1) := by decide +kernel
theorem dX1_lookAtName_41 : decode cX1_lookAtName 41 = .ok (.invokevirtual 92, 3) := by decide +kernel
theorem dX1_lookAtName_44 : decode cX1_lookAtName 44 = .ok (.aload_n 0, 1) := by decide +kernel
theorem dX1_lookAtName_45 : decode cX1_lookAtName 45 = .ok (.getfield 9, 3) := by decide +kernel
theorem dX1_lookAtName_48 : decode cX1_lookAtName 48 = .ok (.iload_n 1, 1) := by decide +kernel
theorem dX1_lookAtName_49 : decode cX1_lookAtName 49 = .ok (.aload_n 0, 1) := by decide +kernel
theorem dX1_lookAtName_50 : decode cX1_lookAtName 50 = .ok (.getfield 15, 3) := by decide +kernel
theorem dX1_lookAtName_53 : decode cX1_lookAtName 53 = .ok (.iload_n 2, 1) := by decide +kernel
theorem dX1_lookAtName_54 : decode cX1_lookAtName 54 = .ok (.invokevirtual 56, 3) := by decide +kernel
theorem dX1_lookAtName_57 : decode cX1_lookAtName 57 = .ok (.invokevirtual 59, 3) := by decide +kernel
theorem dX1_lookAtName_60 : decode cX1_lookAtName 60 = .ok (.aload_n 0, 1) := by decide +kernel
theorem dX1_lookAtName_61 : decode cX1_lookAtName 61 = .ok (.aload_n 0, 1) := by decide +kernel
theorem dX1_lookAtName_62 : decode cX1_lookAtName 62 = .ok (.getfield 15, 3) := by decide +kernel
theorem dX1_lookAtName_65 : decode cX1_lookAtName 65 = .ok (.iload_n 2, 1) := by decide +kernel
theorem dX1_lookAtName_66 : decode cX1_lookAtName 66 = .ok (.invokevirtual 96, 3) := by decide +kernel
theorem dX1_lookAtName_69 : decode cX1_lookAtName 69 = .ok (.iconst 3, 1) := by decide +kernel
theorem dX1_lookAtName_70 : decode cX1_lookAtName 70 = .ok (.iload_n 1, 1) := by decide +kernel
theorem dX1_lookAtName_71 : decode cX1_lookAtName 71 = .ok (.invokevirtual 49, 3) := by decide +kernel
theorem dX1_lookAtName_74 : decode cX1_lookAtName 74 = .ok (.ireturn, 1) := by decide +kernel
theorem dX1_lookAtRow_0 : decode cX1_lookAtRow 0 = .ok (.aload_n 0, 1) := by decide +kernel
theorem dX1_lookAtRow_1 : decode cX1_lookAtRow 1 = .ok (.getfield 9, 3) := by decide +kernel
theorem dX1_lookAtRow_4 : decode cX1_lookAtRow 4 = .ok (.iload_n 1, 1) := by decide +kernel
theorem dX1_lookAtRow_5 : decode cX1_lookAtRow 5 = .ok (.invokevirtual 53, 3) := by decide +kernel
theorem dX1_lookAtRow_8 : decode cX1_lookAtRow 8 = .ok (.istore_n 2, 1) := by decide +kernel
theorem dX1_lookAtRow_9 : decode cX1_lookAtRow 9 = .ok (.aload_n 0, 1) := by decide +kernel
theorem dX1_lookAtRow_10 : decode cX1_lookAtRow 10 = .ok (.getfield 15, 3) := by decide +kernel
theorem dX1_lookAtRow_13 : decode cX1_lookAtRow 13 = .ok (.aload_n 0, 1) := by decide +kernel
theorem dX1_lookAtRow_14 : decode cX1_lookAtRow 14 = .ok (.getfield 9, 3) := by decide +kernel
theorem dX1_lookAtRow_17 : decode cX1_lookAtRow 17 = .ok (.iload_n 1, 1) := by decide +kernel
theorem dX1_lookAtRow_18 : decode cX1_lookAtRow 18 = .ok (.invokevirtual 78, 3) := by decide +kernel
theorem dX1_lookAtRow_21 : decode cX1_lookAtRow 21 = .ok (.invokevirtual 85, 3) := by decide +kernel
theorem dX1_lookAtRow_24 : decode cX1_lookAtRow 24 = .ok (.istore_n 3, 1) := by decide +kernel
theorem dX1_lookAtRow_25 : decode cX1_lookAtRow 25 = .ok (.iload_n 3, 1) := by decide +kernel
theorem dX1_lookAtRow_26 : decode cX1_lookAtRow 26 = .ok (.iconst (-1), 1) := by decide +kernel
theorem dX1_lookAtRow_27 : decode cX1_lookAtRow 27 = .ok (.if_icmp .ne 17, 3) := by decide +kernel
theorem dX1_lookAtRow_30 : decode cX1_lookAtRow 30 = .ok (.aload_n 0, 1) := by decide +kernel
theorem dX1_lookAtRow_31 : decode cX1_lookAtRow 31 = .ok (.iconst 1, 1) := by decide +kernel
theorem dX1_lookAtRow_32 : decode cX1_lookAtRow 32 = .ok (.aload_n 0, 1) := by decide +kernel
theorem dX1_lookAtRow_33 : decode cX1_lookAtRow 33 = .ok (.getfield 9, 3) := by decide +kernel
theorem dX1_lookAtRow_36 : decode cX1_lookAtRow 36 = .ok (.iload_n 1, 1) := by decide +kernel
theorem dX1_lookAtRow_37 : decode cX1_lookAtRow 37 = .ok (.invokevirtual 78, 3) := by decide +kernel
theorem dX1_lookAtRow_40 : decode cX1_lookAtRow 40 = .ok (.invokevirtual 81, 3) := by decide +kernel
theorem dX1_lookAtRow_43 : decode cX1_lookAtRow 43 = .ok (.ireturn, 1) := by decide +kernel
theorem dX1_lookAtRow_44 : decode cX1_lookAtRow 44 = .ok (.aload_n 0, 1) := by decide +kernel
theorem dX1_lookAtRow_45 : decode cX1_lookAtRow 45 = .ok (.getfield 9, 3) := by decide +kernel
theorem dX1_lookAtRow_48 : decode cX1_lookAtRow 48 = .ok (.iload_n 1, 1) := by decide +kernel
theorem dX1_lookAtRow_49 : decode cX1_lookAtRow 49 = .ok (.iload_n 3, 1) := by decide +kernel
theorem dX1_lookAtRow_50 : decode cX1_lookAtRow 50 = .ok (.invokevirtual 92, 3) := by decide +kernel
theorem dX1_lookAtRow_53 : decode cX1_lookAtRow 53 = .ok (.aload_n 0, 1) := by decide +kernel
theorem dX1_lookAtRow_54 : decode cX1_lookAtRow 54 = .ok (.getfield 19, 3) := by decide +kernel
theorem dX1_lookAtRow_57 : decode cX1_lookAtRow 57 = .ok (.ifCond .le 11, 3) := by decide +kernel
theorem dX1_lookAtRow_60 : decode cX1_lookAtRow 60 = .ok (.aload_n 0, 1) := by decide +kernel
theorem dX1_lookAtRow_61 : decode cX1_lookAtRow 61 = .ok (.bipush 8, 2) := by decide +kernel
theorem dX1_lookAtRow_63 : decode cX1_lookAtRow 63 = .ok (.iload_n 2, 1) := by decide +kernel
theorem dX1_lookAtRow_64 : decode cX1_lookAtRow 64 = .ok (.invokevirtual 81, 3) := by decide +kernel
theorem dX1_lookAtRow_67 : decode cX1_lookAtRow 67 = .ok (.ireturn, 1) := by decide +kernel
theorem dX1_lookAtRow_68 : decode cX1_lookAtRow 68 = .ok (.aload_n 0, 1) := by decide +kernel
theorem dX1_lookAtRow_69 : decode cX1_lookAtRow 69 = .ok (.aload_n 0, 1) := by decide +kernel
theorem dX1_lookAtRow_70 : decode cX1_lookAtRow 70 = .ok (.getfield 15, 3) := by decide +kernel
theorem dX1_lookAtRow_73 : decode cX1_lookAtRow 73 = .ok (.iload_n 3, 1) := by decide +kernel
theorem dX1_lookAtRow_74 : decode cX1_lookAtRow 74 = .ok (.invokevirtual 96, 3) := by decide +kernel
theorem dX1_lookAtRow_77 : decode cX1_lookAtRow 77 = .ok (.ifCond .ne 7, 3) := by decide +kernel
theorem dX1_lookAtRow_80 : decode cX1_lookAtRow 80 = .ok (.iconst 1, 1) := by decide +kernel
theorem dX1_lookAtRow_81 : decode cX1_lookAtRow 81 = .ok (.goto 4, 3) := by decide +kernel
theorem dX1_lookAtRow_84 : decode cX1_lookAtRow 84 = .ok (.iconst 0, 1) := by decide +kernel
theorem dX1_lookAtRow_85 : decode cX1_lookAtRow 85 = .ok (.iconst 3, 1) := by decide +kernel
theorem dX1_lookAtRow_86 : decode cX1_lookAtRow 86 = .ok (.iload_n 1, 1) := by decide +kernel
theorem dX1_lookAtRow_87 : decode cX1_lookAtRow 87 = .ok (.invokevirtual 49, 3) := by decide +kernel
theorem dX1_lookAtRow_90 : decode cX1_lookAtRow 90 = .ok (.ireturn, 1) := by decide +kernel
theorem dX1_lookAtItem_0 : decode cX1_lookAtItem 0 = .ok (.aload_n 0, 1) := by decide +kernel
theorem dX1_lookAtItem_1 : decode cX1_lookAtItem 1 = .ok (.getfield 9, 3) := by decide +kernel
theorem dX1_lookAtItem_4 : decode cX1_lookAtItem 4 = .ok (.aload_n 0, 1) := by decide +kernel
theorem dX1_lookAtItem_5 : decode cX1_lookAtItem 5 = .ok (.getfield 9, 3) := by decide +kernel
theorem dX1_lookAtItem_8 : decode cX1_lookAtItem 8 = .ok (.iload_n 1, 1) := by decide +kernel
theorem dX1_lookAtItem_9 : decode cX1_lookAtItem 9 = .ok (.invokevirtual 53, 3) := by decide +kernel
theorem dX1_lookAtItem_12 : decode cX1_lookAtItem 12 = .ok (.invokevirtual 53, 3) := by decide +kernel
theorem dX1_lookAtItem_15 : decode cX1_lookAtItem 15 = .ok (.istore_n 2, 1) := by decide +kernel
theorem dX1_lookAtItem_16 : decode cX1_lookAtItem 16 = .ok (.aload_n 0, 1) := by decide +kernel
theorem dX1_lookAtItem_17 : decode cX1_lookAtItem 17 = .ok (.getfield 9, 3) := by decide +kernel
theorem dX1_lookAtItem_20 : decode cX1_lookAtItem 20 = .ok (.iload_n 1, 1) := by decide +kernel
theorem dX1_lookAtItem_21 : decode cX1_lookAtItem 21 = .ok (.iload_n 2, 1) := by decide +kernel
theorem dX1_lookAtItem_22 : decode cX1_lookAtItem 22 = .ok (.invokevirtual 92, 3) := by decide +kernel
theorem dX1_lookAtItem_25 : decode cX1_lookAtItem 25 = .ok (.aload_n 0, 1) := by decide +kernel
theorem dX1_lookAtItem_26 : decode cX1_lookAtItem 26 = .ok (.getfield 9, 3) := by decide +kernel
theorem dX1_lookAtItem_29 : decode cX1_lookAtItem 29 = .ok (.iload_n 1, 1) := by decide +kernel
theorem dX1_lookAtItem_30 : decode cX1_lookAtItem 30 = .ok (.aload_n 0, 1) := by decide +kernel
theorem dX1_lookAtItem_31 : decode cX1_lookAtItem 31 = .ok (.getfield 15, 3) := by decide +kernel
theorem dX1_lookAtItem_34 : decode cX1_lookAtItem 34 = .ok (.iload_n 2, 1) := by decide +kernel
theorem dX1_lookAtItem_35 : decode cX1_lookAtItem 35 = .ok (.invokevirtual 56, 3) := by decide +kernel
theorem dX1_lookAtItem_38 : decode cX1_lookAtItem 38 = .ok (.invokevirtual 59, 3) := by decide +kernel
theorem dX1_lookAtItem_41 : decode cX1_lookAtItem 41 = .ok (.aload_n 0, 1) := by decide +kernel
theorem dX1_lookAtItem_42 : decode cX1_lookAtItem 42 = .ok (.aload_n 0, 1) := by decide +kernel
theorem dX1_lookAtItem_43 : decode cX1_lookAtItem 43 = .ok (.getfield 9, 3) := by decide +kernel
theorem dX1_lookAtItem_46 : decode cX1_lookAtItem 46 = .ok (.iload_n 1, 1) := by decide +kernel
theorem dX1_lookAtItem_47 : decode cX1_lookAtItem 47 = .ok (.iconst 1, 1) := by decide +kernel
theorem dX1_lookAtItem_48 : decode cX1_lookAtItem 48 = .ok (.isub, 1) := by decide +kernel
theorem dX1_lookAtItem_49 : decode cX1_lookAtItem 49 = .ok (.invokevirtual 45, 3) := by decide +kernel
theorem dX1_lookAtItem_52 : decode cX1_lookAtItem 52 = .ok (.iconst 4, 1) := by decide +kernel
theorem dX1_lookAtItem_53 : decode cX1_lookAtItem 53 = .ok (.iload_n 1, 1) := by decide +kernel
theorem dX1_lookAtItem_54 : decode cX1_lookAtItem 54 = .ok (.invokevirtual 49, 3) := by decide +kernel
theorem dX1_lookAtItem_57 : decode cX1_lookAtItem 57 = .ok (.ireturn, 1) := by decide +kernel
theorem dX1_lookAtPair_0 : decode cX1_lookAtPair 0 = .ok (.aload_n 0, 1) := by decide +kernel
theorem dX1_lookAtPair_1 : decode cX1_lookAtPair 1 = .ok (.getfield 9, 3) := by decide +kernel
theorem dX1_lookAtPair_4 : decode cX1_lookAtPair 4 = .ok (.iload_n 1, 1) := by decide +kernel
theorem dX1_lookAtPair_5 : decode cX1_lookAtPair 5 = .ok (.iconst 1, 1) := by decide +kernel
theorem dX1_lookAtPair_6 : decode cX1_lookAtPair 6 = .ok (.isub, 1) := by decide +kernel
theorem dX1_lookAtPair_7 : decode cX1_lookAtPair 7 = .ok (.invokevirtual 45, 3) := by decide +kernel
theorem dX1_lookAtPair_10 : decode cX1_lookAtPair 10 = .ok (.ifCond .ne 21, 3) := by decide +kernel
theorem dX1_lookAtPair_13 : decode cX1_lookAtPair 13 = .ok (.aload_n 0, 1) := by decide +kernel
theorem dX1_lookAtPair_14 : decode cX1_lookAtPair 14 = .ok (.getfield 9, 3) := by decide +kernel
theorem dX1_lookAtPair_17 : decode cX1_lookAtPair 17 = .ok (.aload_n 0, 1) := by decide +kernel
theorem dX1_lookAtPair_18 : decode cX1_lookAtPair 18 = .ok (.getfield 9, 3) := by decide +kernel
theorem dX1_lookAtPair_21 : decode cX1_lookAtPair 21 = .ok (.iload_n 1, 1) := by decide +kernel
theorem dX1_lookAtPair_22 : decode cX1_lookAtPair 22 = .ok (.invokevirtual 99, 3) := by decide +kernel
theorem dX1_lookAtPair_25 : decode cX1_lookAtPair 25 = .ok (.invokevirtual 45, 3) := by decide +kernel
theorem dX1_lookAtPair_28 : decode cX1_lookAtPair 28 = .ok (.ifCond .eq 7, 3) := by decide +kernel
theorem dX1_lookAtPair_31 : decode cX1_lookAtPair 31 = .ok (.iconst 1, 1) := by decide +kernel
theorem dX1_lookAtPair_32 : decode cX1_lookAtPair 32 = .ok (.goto 4, 3) := by decide +kernel
theorem dX1_lookAtPair_35 : decode cX1_lookAtPair 35 = .ok (.iconst 0, 1) := by decide +kernel
theorem dX1_lookAtPair_36 : decode cX1_lookAtPair 36 = .ok (.istore_n 2, 1) := by decide +kernel
theorem dX1_lookAtPair_37 : decode cX1_lookAtPair 37 = .ok (.aload_n 0, 1) := by decide +kernel
theorem dX1_lookAtPair_38 : decode cX1_lookAtPair 38 = .ok (.getfield 9, 3) := by decide +kernel
theorem dX1_lookAtPair_41 : decode cX1_lookAtPair 41 = .ok (.iload_n 1, 1) := by decide +kernel
theorem dX1_lookAtPair_42 : decode cX1_lookAtPair 42 = .ok (.iload_n 2, 1) := by decide +kernel
theorem dX1_lookAtPair_43 : decode cX1_lookAtPair 43 = .ok (.invokevirtual 59, 3) := by decide +kernel
theorem dX1_lookAtPair_46 : decode cX1_lookAtPair 46 = .ok (.aload_n 0, 1) := by decide +kernel
theorem dX1_lookAtPair_47 : decode cX1_lookAtPair 47 = .ok (.getfield 9, 3) := by decide +kernel
theorem dX1_lookAtPair_50 : decode cX1_lookAtPair 50 = .ok (.iload_n 1, 1) := by decide +kernel
theorem dX1_lookAtPair_51 : decode cX1_lookAtPair 51 = .ok (.invokevirtual 36, 3) := by decide +kernel
theorem dX1_lookAtPair_54 : decode cX1_lookAtPair 54 = .ok (.bipush 47, 2) := by decide +kernel
theorem dX1_lookAtPair_56 : decode cX1_lookAtPair 56 = .ok (.if_icmp .eq 16, 3) := by decide +kernel
theorem dX1_lookAtPair_59 : decode cX1_lookAtPair 59 = .ok (.aload_n 0, 1) := by decide +kernel
theorem dX1_lookAtPair_60 : decode cX1_lookAtPair 60 = .ok (.getfield 9, 3) := by decide +kernel
theorem dX1_lookAtPair_63 : decode cX1_lookAtPair 63 = .ok (.iload_n 1, 1) := by decide +kernel
theorem dX1_lookAtPair_64 : decode cX1_lookAtPair 64 = .ok (.invokevirtual 36, 3) := by decide +kernel
theorem dX1_lookAtPair_67 : decode cX1_lookAtPair 67 = .ok (.bipush 37, 2) := by decide +kernel
theorem dX1_lookAtPair_69 : decode cX1_lookAtPair 69 = .ok (.if_icmp .ne 7, 3) := by decide +kernel
theorem dX1_lookAtPair_72 : decode cX1_lookAtPair 72 = .ok (.iconst 1, 1) := by decide +kernel
theorem dX1_lookAtPair_73 : decode cX1_lookAtPair 73 = .ok (.goto 4, 3) := by decide +kernel
theorem dX1_lookAtPair_76 : decode cX1_lookAtPair 76 = .ok (.iconst 0, 1) := by decide +kernel
theorem dX1_lookAtPair_77 : decode cX1_lookAtPair 77 = .ok (.istore_n 3, 1) := by decide +kernel
theorem dX1_lookAtPair_78 : decode cX1_lookAtPair 78 = .ok (.iload_n 3, 1) := by decide +kernel
theorem dX1_lookAtPair_79 : decode cX1_lookAtPair 79 = .ok (.ifCond .eq 25, 3) := by decide +kernel
theorem dX1_lookAtPair_82 : decode cX1_lookAtPair 82 = .ok (.aload_n 0, 1) := by decide +kernel
theorem dX1_lookAtPair_83 : decode cX1_lookAtPair 83 = .ok (.getfield 19, 3) := by decide +kernel
theorem dX1_lookAtPair_86 : decode cX1_lookAtPair 86 = .ok (.ifCond .le 18, 3) := by decide +kernel
theorem dX1_lookAtPair_89 : decode cX1_lookAtPair 89 = .ok (.aload_n 0, 1) := by decide +kernel
theorem dX1_lookAtPair_90 : decode cX1_lookAtPair 90 = .ok (.bipush 8, 2) := by decide +kernel
theorem dX1_lookAtPair_92 : decode cX1_lookAtPair 92 = .ok (.aload_n 0, 1) := by decide +kernel
theorem dX1_lookAtPair_93 : decode cX1_lookAtPair 93 = .ok (.getfield 9, 3) := by decide +kernel
theorem dX1_lookAtPair_96 : decode cX1_lookAtPair 96 = .ok (.iload_n 1, 1) := by decide +kernel
theorem dX1_lookAtPair_97 : decode cX1_lookAtPair 97 = .ok (.invokevirtual 78, 3) := by decide +kernel
theorem dX1_lookAtPair_100 : decode cX1_lookAtPair 100 = .ok (.invokevirtual 81, 3) := by decide +kernel
theorem dX1_lookAtPair_103 : decode cX1_lookAtPair 103 = .ok (.ireturn, 1) := by decide +kernel
theorem dX1_lookAtPair_104 : decode cX1_lookAtPair 104 = .ok (.aload_n 0, 1) := by decide +kernel
theorem dX1_lookAtPair_105 : decode cX1_lookAtPair 105 = .ok (.iload_n 3, 1) := by decide +kernel
theorem dX1_lookAtPair_106 : decode cX1_lookAtPair 106 = .ok (.ifCond .eq 11, 3) := by decide +kernel
theorem dX1_lookAtPair_109 : decode cX1_lookAtPair 109 = .ok (.iload_n 2, 1) := by decide +kernel
theorem dX1_lookAtPair_110 : decode cX1_lookAtPair 110 = .ok (.ifCond .eq 7, 3) := by decide +kernel
theorem dX1_lookAtPair_113 : decode cX1_lookAtPair 113 = .ok (.iconst 1, 1) := by decide +kernel
theorem dX1_lookAtPair_114 : decode cX1_lookAtPair 114 = .ok (.goto 4, 3) := by decide +kernel
theorem dX1_lookAtPair_117 : decode cX1_lookAtPair 117 = .ok (.iconst 0, 1) := by decide +kernel
theorem dX1_lookAtPair_118 : decode cX1_lookAtPair 118 = .ok (.iconst 5, 1) := by decide +kernel
theorem dX1_lookAtPair_119 : decode cX1_lookAtPair 119 = .ok (.iload_n 1, 1) := by decide +kernel
theorem dX1_lookAtPair_120 : decode cX1_lookAtPair 120 = .ok (.invokevirtual 49, 3) := by decide +kernel
theorem dX1_lookAtPair_123 : decode cX1_lookAtPair 123 = .ok (.ireturn, 1) := by decide +kernel
abbrev MX1_firstWrong : aw_M := (yX1_firstWrong, cX1_firstWrong, 3, (some .int))
theorem codX1_firstWrong : Cond.code yX1_firstWrong cX1_firstWrong 3 (some .int) ∈ aw_T := aw_in 810 (by decide +kernel) rfl
theorem iniX1 : Cond.initialized RX1 ∈ aw_T := aw_in 120 (by decide +kernel) rfl
theorem insX1_firstWrong : Cond.instanceMethod yX1_firstWrong ∈ aw_T := aw_in 808 (by decide +kernel) rfl
theorem selX1_firstWrong : Cond.selects RX1 yX1_firstWrong yX1_firstWrong ∈ aw_T := aw_in 809 (by decide +kernel) rfl
abbrev MX1_look : aw_M := (yX1_look, cX1_look, 2, (some .int))
theorem codX1_look : Cond.code yX1_look cX1_look 2 (some .int) ∈ aw_T := aw_in 818 (by decide +kernel) rfl
theorem insX1_look : Cond.instanceMethod yX1_look ∈ aw_T := aw_in 817 (by decide +kernel) rfl
theorem selX1_look : Cond.selects RX1 yX1_look yX1_look ∈ aw_T := aw_in 19 (by decide +kernel) rfl
abbrev MX1_lookAtDeclaration : aw_M := (yX1_lookAtDeclaration, cX1_lookAtDeclaration, 4, (some .int))
theorem codX1_lookAtDeclaration : Cond.code yX1_lookAtDeclaration cX1_lookAtDeclaration 4 (some .int) ∈ aw_T := aw_in 826 (by decide +kernel) rfl
theorem insX1_lookAtDeclaration : Cond.instanceMethod yX1_lookAtDeclaration ∈ aw_T := aw_in 825 (by decide +kernel) rfl
theorem selX1_lookAtDeclaration : Cond.selects RX1 yX1_lookAtDeclaration yX1_lookAtDeclaration ∈ aw_T := aw_in 20 (by decide +kernel) rfl
abbrev MX1_lookAtItem : aw_M := (yX1_lookAtItem, cX1_lookAtItem, 3, (some .int))
theorem codX1_lookAtItem : Cond.code yX1_lookAtItem cX1_lookAtItem 3 (some .int) ∈ aw_T := aw_in 900 (by decide +kernel) rfl
theorem insX1_lookAtItem : Cond.instanceMethod yX1_lookAtItem ∈ aw_T := aw_in 899 (by decide +kernel) rfl
theorem selX1_lookAtItem : Cond.selects RX1 yX1_lookAtItem yX1_lookAtItem ∈ aw_T := aw_in 28 (by decide +kernel) rfl
abbrev MX1_lookAtName : aw_M := (yX1_lookAtName, cX1_lookAtName, 3, (some .int))
theorem codX1_lookAtName : Cond.code yX1_lookAtName cX1_lookAtName 3 (some .int) ∈ aw_T := aw_in 892 (by decide +kernel) rfl
theorem insX1_lookAtName : Cond.instanceMethod yX1_lookAtName ∈ aw_T := aw_in 891 (by decide +kernel) rfl
theorem selX1_lookAtName : Cond.selects RX1 yX1_lookAtName yX1_lookAtName ∈ aw_T := aw_in 26 (by decide +kernel) rfl
abbrev MX1_lookAtPair : aw_M := (yX1_lookAtPair, cX1_lookAtPair, 4, (some .int))
theorem codX1_lookAtPair : Cond.code yX1_lookAtPair cX1_lookAtPair 4 (some .int) ∈ aw_T := aw_in 905 (by decide +kernel) rfl
theorem insX1_lookAtPair : Cond.instanceMethod yX1_lookAtPair ∈ aw_T := aw_in 904 (by decide +kernel) rfl
theorem selX1_lookAtPair : Cond.selects RX1 yX1_lookAtPair yX1_lookAtPair ∈ aw_T := aw_in 29 (by decide +kernel) rfl
abbrev MX1_lookAtRow : aw_M := (yX1_lookAtRow, cX1_lookAtRow, 4, (some .int))
theorem codX1_lookAtRow : Cond.code yX1_lookAtRow cX1_lookAtRow 4 (some .int) ∈ aw_T := aw_in 896 (by decide +kernel) rfl
theorem insX1_lookAtRow : Cond.instanceMethod yX1_lookAtRow ∈ aw_T := aw_in 895 (by decide +kernel) rfl
theorem selX1_lookAtRow : Cond.selects RX1 yX1_lookAtRow yX1_lookAtRow ∈ aw_T := aw_in 27 (by decide +kernel) rfl
abbrev MX1_lookAtTarget : aw_M := (yX1_lookAtTarget, cX1_lookAtTarget, 3, (some .int))
theorem codX1_lookAtTarget : Cond.code yX1_lookAtTarget cX1_lookAtTarget 3 (some .int) ∈ aw_T := aw_in 863 (by decide +kernel) rfl
theorem insX1_lookAtTarget : Cond.instanceMethod yX1_lookAtTarget ∈ aw_T := aw_in 862 (by decide +kernel) rfl
theorem selX1_lookAtTarget : Cond.selects RX1 yX1_lookAtTarget yX1_lookAtTarget ∈ aw_T := aw_in 24 (by decide +kernel) rfl
abbrev MX1_wrong : aw_M := (yX1_wrong, cX1_wrong, 3, (some .int))
theorem codX1_wrong : Cond.code yX1_wrong cX1_wrong 3 (some .int) ∈ aw_T := aw_in 842 (by decide +kernel) rfl
theorem insX1_wrong : Cond.instanceMethod yX1_wrong ∈ aw_T := aw_in 841 (by decide +kernel) rfl
theorem selX1_wrong : Cond.selects RX1 yX1_wrong yX1_wrong ∈ aw_T := aw_in 21 (by decide +kernel) rfl
abbrev MX1_wrongIf : aw_M := (yX1_wrongIf, cX1_wrongIf, 4, (some .int))
theorem codX1_wrongIf : Cond.code yX1_wrongIf cX1_wrongIf 4 (some .int) ∈ aw_T := aw_in 859 (by decide +kernel) rfl
theorem insX1_wrongIf : Cond.instanceMethod yX1_wrongIf ∈ aw_T := aw_in 858 (by decide +kernel) rfl
theorem selX1_wrongIf : Cond.selects RX1 yX1_wrongIf yX1_wrongIf ∈ aw_T := aw_in 23 (by decide +kernel) rfl
abbrev MX1_wrongPlace : aw_M := (yX1_wrongPlace, cX1_wrongPlace, 1, (some .int))
theorem codX1_wrongPlace : Cond.code yX1_wrongPlace cX1_wrongPlace 1 (some .int) ∈ aw_T := aw_in 914 (by decide +kernel) rfl
theorem insX1_wrongPlace : Cond.instanceMethod yX1_wrongPlace ∈ aw_T := aw_in 912 (by decide +kernel) rfl
theorem selX1_wrongPlace : Cond.selects RX1 yX1_wrongPlace yX1_wrongPlace ∈ aw_T := aw_in 913 (by decide +kernel) rfl
theorem hX1_w : ∀ w ∈ u_ws RX1 TX1 4, w ∈ aw_T := by
  show ∀ w ∈ [u_lay RX1 TX1 0, u_lay RX1 TX1 1, u_lay RX1 TX1 2, u_lay RX1 TX1 3], w ∈ aw_T
  exact List.forall_mem_cons.mpr ⟨aw_in 325 (by decide +kernel) rfl, List.forall_mem_cons.mpr ⟨aw_in 327 (by decide +kernel) rfl, List.forall_mem_cons.mpr ⟨aw_in 329 (by decide +kernel) rfl, List.forall_mem_cons.mpr ⟨aw_in 331 (by decide +kernel) rfl, fun _ h => absurd h List.not_mem_nil⟩⟩⟩⟩
theorem hX1 : aw_C 1 RX1 TX1 4 tyX1 := ⟨rfl, hX1_w, tyX1_ok, nmX1⟩
theorem fX1_15 : aw_F RX1 15 1 1 (.object "QuietDesk$Names") true := aw_F.of hX1 1 (by decide) (aw_in 322 (by decide +kernel) rfl) rfl rfl rfl
theorem fX1_19 : aw_F RX1 19 1 3 .int false := aw_F.of hX1 3 (by decide) (aw_in 324 (by decide +kernel) rfl) rfl rfl rfl
theorem fX1_23 : aw_F RX1 23 1 2 .int false := aw_F.of hX1 2 (by decide) (aw_in 323 (by decide +kernel) rfl) rfl rfl rfl
theorem fX1_9 : aw_F RX1 9 1 0 (.object "QuietDesk$Nodes") true := aw_F.of hX1 0 (by decide) (aw_in 321 (by decide +kernel) rfl) rfl rfl rfl
theorem lX1_26 : aw_L RX1 26 MX4_size 0 := ⟨aw_in 811 (by decide +kernel) rfl, iniX4, codX4_size, ⟨by decide, by decide, by decide +kernel⟩, by decide⟩
theorem lX1_32 : aw_L RX1 32 MX1_look 1 := ⟨aw_in 815 (by decide +kernel) rfl, iniX1, codX1_look, ⟨by decide, by decide, by decide +kernel⟩, by decide⟩
theorem lX1_36 : aw_L RX1 36 MX4_kind 1 := ⟨aw_in 819 (by decide +kernel) rfl, iniX4, codX4_kind, ⟨by decide, by decide, by decide +kernel⟩, by decide⟩
theorem lX1_39 : aw_L RX1 39 MX1_lookAtDeclaration 1 := ⟨aw_in 823 (by decide +kernel) rfl, iniX1, codX1_lookAtDeclaration, ⟨by decide, by decide, by decide +kernel⟩, by decide⟩
theorem lX1_42 : aw_L RX1 42 MX1_lookAtTarget 1 := ⟨aw_in 860 (by decide +kernel) rfl, iniX1, codX1_lookAtTarget, ⟨by decide, by decide, by decide +kernel⟩, by decide⟩
theorem lX1_45 : aw_L RX1 45 MX4_secret 1 := ⟨aw_in 881 (by decide +kernel) rfl, iniX4, codX4_secret, ⟨by decide, by decide, by decide +kernel⟩, by decide⟩
theorem lX1_49 : aw_L RX1 49 MX1_wrongIf 3 := ⟨aw_in 856 (by decide +kernel) rfl, iniX1, codX1_wrongIf, ⟨by decide, by decide, by decide +kernel⟩, by decide⟩
theorem lX1_53 : aw_L RX1 53 MX4_value 1 := ⟨aw_in 843 (by decide +kernel) rfl, iniX4, codX4_value, ⟨by decide, by decide, by decide +kernel⟩, by decide⟩
theorem lX1_56 : aw_L RX1 56 MX3_secret 1 := ⟨aw_in 877 (by decide +kernel) rfl, iniX3, codX3_secret, ⟨by decide, by decide, by decide +kernel⟩, by decide⟩
theorem lX1_59 : aw_L RX1 59 MX4_keepSecret 2 := ⟨aw_in 885 (by decide +kernel) rfl, iniX4, codX4_keepSecret, ⟨by decide, by decide, by decide +kernel⟩, by decide⟩
theorem lX1_63 : aw_L RX1 63 MX1_lookAtName 1 := ⟨aw_in 889 (by decide +kernel) rfl, iniX1, codX1_lookAtName, ⟨by decide, by decide, by decide +kernel⟩, by decide⟩
theorem lX1_66 : aw_L RX1 66 MX1_lookAtRow 1 := ⟨aw_in 893 (by decide +kernel) rfl, iniX1, codX1_lookAtRow, ⟨by decide, by decide, by decide +kernel⟩, by decide⟩
theorem lX1_69 : aw_L RX1 69 MX1_lookAtItem 1 := ⟨aw_in 897 (by decide +kernel) rfl, iniX1, codX1_lookAtItem, ⟨by decide, by decide, by decide +kernel⟩, by decide⟩
theorem lX1_72 : aw_L RX1 72 MX4_level 1 := ⟨aw_in 901 (by decide +kernel) rfl, iniX4, codX4_level, ⟨by decide, by decide, by decide +kernel⟩, by decide⟩
theorem lX1_75 : aw_L RX1 75 MX1_lookAtPair 1 := ⟨aw_in 902 (by decide +kernel) rfl, iniX1, codX1_lookAtPair, ⟨by decide, by decide, by decide +kernel⟩, by decide⟩
theorem lX1_78 : aw_L RX1 78 MX4_place 1 := ⟨aw_in 827 (by decide +kernel) rfl, iniX4, codX4_place, ⟨by decide, by decide, by decide +kernel⟩, by decide⟩
theorem lX1_81 : aw_L RX1 81 MX1_wrong 2 := ⟨aw_in 839 (by decide +kernel) rfl, iniX1, codX1_wrong, ⟨by decide, by decide, by decide +kernel⟩, by decide⟩
theorem lX1_85 : aw_L RX1 85 MX3_find 1 := ⟨aw_in 831 (by decide +kernel) rfl, iniX3, codX3_find, ⟨by decide, by decide, by decide +kernel⟩, by decide⟩
theorem lX1_88 : aw_L RX1 88 MX3_declare 3 := ⟨aw_in 847 (by decide +kernel) rfl, iniX3, codX3_declare, ⟨by decide, by decide, by decide +kernel⟩, by decide⟩
theorem lX1_92 : aw_L RX1 92 MX4_keepValue 2 := ⟨aw_in 864 (by decide +kernel) rfl, iniX4, codX4_keepValue, ⟨by decide, by decide, by decide +kernel⟩, by decide⟩
theorem lX1_96 : aw_L RX1 96 MX3_isRow 1 := ⟨aw_in 865 (by decide +kernel) rfl, iniX3, codX3_isRow, ⟨by decide, by decide, by decide +kernel⟩, by decide⟩
theorem lX1_99 : aw_L RX1 99 MX4_left 1 := ⟨aw_in 906 (by decide +kernel) rfl, iniX4, codX4_left, ⟨by decide, by decide, by decide +kernel⟩, by decide⟩
