/-! ===== 50: the law: decode rows (written by program) ===== -/
theorem zd_L_0 : decode code 0 = .ok (.new 7, 3) := by decide +kernel
theorem zd_L_3 : decode code 3 = .ok (.dup, 1) := by decide +kernel
theorem zd_L_4 : decode code 4 = .ok (.invokespecial 9, 3) := by decide +kernel
theorem zd_L_7 : decode code 7 = .ok (.astore_n 1, 1) := by decide +kernel
theorem zd_L_8 : decode code 8 = .ok (.new 10, 3) := by decide +kernel
theorem zd_L_11 : decode code 11 = .ok (.dup, 1) := by decide +kernel
theorem zd_L_12 : decode code 12 = .ok (.invokespecial 12, 3) := by decide +kernel
theorem zd_L_15 : decode code 15 = .ok (.astore_n 2, 1) := by decide +kernel
theorem zd_L_16 : decode code 16 = .ok (.iconst 0, 1) := by decide +kernel
theorem zd_L_17 : decode code 17 = .ok (.istore_n 3, 1) := by decide +kernel
theorem zd_L_18 : decode code 18 = .ok (.iload_n 3, 1) := by decide +kernel
theorem zd_L_19 : decode code 19 = .ok (.aload_n 0, 1) := by decide +kernel
theorem zd_L_20 : decode code 20 = .ok (.arraylength, 1) := by decide +kernel
theorem zd_L_21 : decode code 21 = .ok (.bipush 6, 2) := by decide +kernel
theorem zd_L_23 : decode code 23 = .ok (.isub, 1) := by decide +kernel
theorem zd_L_24 : decode code 24 = .ok (.if_icmp .gt 951, 3) := by decide +kernel
theorem zd_L_27 : decode code 27 = .ok (.aload_n 0, 1) := by decide +kernel
theorem zd_L_28 : decode code 28 = .ok (.iload_n 3, 1) := by decide +kernel
theorem zd_L_29 : decode code 29 = .ok (.iaload, 1) := by decide +kernel
theorem zd_L_30 : decode code 30 = .ok (.bipush 31, 2) := by decide +kernel
theorem zd_L_32 : decode code 32 = .ok (.iand, 1) := by decide +kernel
theorem zd_L_33 : decode code 33 = .ok (.tableswitch 936 0 26 #[123, 176, 209, 242, 265, 288, 301, 314, 327, 350, 373, 436, 469, 492, 515, 538, 592, 635, 658, 701, 745, 808, 831, 854, 887, 900, 913], 123) := by decide +kernel
theorem zd_L_156 : decode code 156 = .ok (.aload_n 1, 1) := by decide +kernel
theorem zd_L_157 : decode code 157 = .ok (.aload_n 0, 1) := by decide +kernel
theorem zd_L_158 : decode code 158 = .ok (.iload_n 3, 1) := by decide +kernel
theorem zd_L_159 : decode code 159 = .ok (.iconst 1, 1) := by decide +kernel
theorem zd_L_160 : decode code 160 = .ok (.iadd, 1) := by decide +kernel
theorem zd_L_161 : decode code 161 = .ok (.iaload, 1) := by decide +kernel
theorem zd_L_162 : decode code 162 = .ok (.aload_n 0, 1) := by decide +kernel
theorem zd_L_163 : decode code 163 = .ok (.iload_n 3, 1) := by decide +kernel
theorem zd_L_164 : decode code 164 = .ok (.iconst 2, 1) := by decide +kernel
theorem zd_L_165 : decode code 165 = .ok (.iadd, 1) := by decide +kernel
theorem zd_L_166 : decode code 166 = .ok (.iaload, 1) := by decide +kernel
theorem zd_L_167 : decode code 167 = .ok (.aload_n 0, 1) := by decide +kernel
theorem zd_L_168 : decode code 168 = .ok (.iload_n 3, 1) := by decide +kernel
theorem zd_L_169 : decode code 169 = .ok (.iconst 3, 1) := by decide +kernel
theorem zd_L_170 : decode code 170 = .ok (.iadd, 1) := by decide +kernel
theorem zd_L_171 : decode code 171 = .ok (.iaload, 1) := by decide +kernel
theorem zd_L_172 : decode code 172 = .ok (.aload_n 0, 1) := by decide +kernel
theorem zd_L_173 : decode code 173 = .ok (.iload_n 3, 1) := by decide +kernel
theorem zd_L_174 : decode code 174 = .ok (.iconst 4, 1) := by decide +kernel
theorem zd_L_175 : decode code 175 = .ok (.iadd, 1) := by decide +kernel
theorem zd_L_176 : decode code 176 = .ok (.iaload, 1) := by decide +kernel
theorem zd_L_177 : decode code 177 = .ok (.invokevirtual 13, 3) := by decide +kernel
theorem zd_L_180 : decode code 180 = .ok (.aload_n 2, 1) := by decide +kernel
theorem zd_L_181 : decode code 181 = .ok (.aload_n 0, 1) := by decide +kernel
theorem zd_L_182 : decode code 182 = .ok (.iload_n 3, 1) := by decide +kernel
theorem zd_L_183 : decode code 183 = .ok (.iconst 1, 1) := by decide +kernel
theorem zd_L_184 : decode code 184 = .ok (.iadd, 1) := by decide +kernel
theorem zd_L_185 : decode code 185 = .ok (.iaload, 1) := by decide +kernel
theorem zd_L_186 : decode code 186 = .ok (.aload_n 0, 1) := by decide +kernel
theorem zd_L_187 : decode code 187 = .ok (.iload_n 3, 1) := by decide +kernel
theorem zd_L_188 : decode code 188 = .ok (.iconst 2, 1) := by decide +kernel
theorem zd_L_189 : decode code 189 = .ok (.iadd, 1) := by decide +kernel
theorem zd_L_190 : decode code 190 = .ok (.iaload, 1) := by decide +kernel
theorem zd_L_191 : decode code 191 = .ok (.aload_n 0, 1) := by decide +kernel
theorem zd_L_192 : decode code 192 = .ok (.iload_n 3, 1) := by decide +kernel
theorem zd_L_193 : decode code 193 = .ok (.iconst 3, 1) := by decide +kernel
theorem zd_L_194 : decode code 194 = .ok (.iadd, 1) := by decide +kernel
theorem zd_L_195 : decode code 195 = .ok (.iaload, 1) := by decide +kernel
theorem zd_L_196 : decode code 196 = .ok (.aload_n 0, 1) := by decide +kernel
theorem zd_L_197 : decode code 197 = .ok (.iload_n 3, 1) := by decide +kernel
theorem zd_L_198 : decode code 198 = .ok (.iconst 4, 1) := by decide +kernel
theorem zd_L_199 : decode code 199 = .ok (.iadd, 1) := by decide +kernel
theorem zd_L_200 : decode code 200 = .ok (.iaload, 1) := by decide +kernel
theorem zd_L_201 : decode code 201 = .ok (.invokevirtual 17, 3) := by decide +kernel
theorem zd_L_204 : decode code 204 = .ok (.if_icmp .eq 765, 3) := by decide +kernel
theorem zd_L_207 : decode code 207 = .ok (.iconst 0, 1) := by decide +kernel
theorem zd_L_208 : decode code 208 = .ok (.ireturn, 1) := by decide +kernel
theorem zd_L_209 : decode code 209 = .ok (.aload_n 1, 1) := by decide +kernel
theorem zd_L_210 : decode code 210 = .ok (.aload_n 0, 1) := by decide +kernel
theorem zd_L_211 : decode code 211 = .ok (.iload_n 3, 1) := by decide +kernel
theorem zd_L_212 : decode code 212 = .ok (.iconst 1, 1) := by decide +kernel
theorem zd_L_213 : decode code 213 = .ok (.iadd, 1) := by decide +kernel
theorem zd_L_214 : decode code 214 = .ok (.iaload, 1) := by decide +kernel
theorem zd_L_215 : decode code 215 = .ok (.aload_n 0, 1) := by decide +kernel
theorem zd_L_216 : decode code 216 = .ok (.iload_n 3, 1) := by decide +kernel
theorem zd_L_217 : decode code 217 = .ok (.iconst 2, 1) := by decide +kernel
theorem zd_L_218 : decode code 218 = .ok (.iadd, 1) := by decide +kernel
theorem zd_L_219 : decode code 219 = .ok (.iaload, 1) := by decide +kernel
theorem zd_L_220 : decode code 220 = .ok (.invokevirtual 18, 3) := by decide +kernel
theorem zd_L_223 : decode code 223 = .ok (.aload_n 2, 1) := by decide +kernel
theorem zd_L_224 : decode code 224 = .ok (.aload_n 0, 1) := by decide +kernel
theorem zd_L_225 : decode code 225 = .ok (.iload_n 3, 1) := by decide +kernel
theorem zd_L_226 : decode code 226 = .ok (.iconst 1, 1) := by decide +kernel
theorem zd_L_227 : decode code 227 = .ok (.iadd, 1) := by decide +kernel
theorem zd_L_228 : decode code 228 = .ok (.iaload, 1) := by decide +kernel
theorem zd_L_229 : decode code 229 = .ok (.aload_n 0, 1) := by decide +kernel
theorem zd_L_230 : decode code 230 = .ok (.iload_n 3, 1) := by decide +kernel
theorem zd_L_231 : decode code 231 = .ok (.iconst 2, 1) := by decide +kernel
theorem zd_L_232 : decode code 232 = .ok (.iadd, 1) := by decide +kernel
theorem zd_L_233 : decode code 233 = .ok (.iaload, 1) := by decide +kernel
theorem zd_L_234 : decode code 234 = .ok (.invokevirtual 22, 3) := by decide +kernel
theorem zd_L_237 : decode code 237 = .ok (.if_icmp .eq 732, 3) := by decide +kernel
theorem zd_L_240 : decode code 240 = .ok (.iconst 0, 1) := by decide +kernel
theorem zd_L_241 : decode code 241 = .ok (.ireturn, 1) := by decide +kernel
theorem zd_L_242 : decode code 242 = .ok (.aload_n 1, 1) := by decide +kernel
theorem zd_L_243 : decode code 243 = .ok (.aload_n 0, 1) := by decide +kernel
theorem zd_L_244 : decode code 244 = .ok (.iload_n 3, 1) := by decide +kernel
theorem zd_L_245 : decode code 245 = .ok (.iconst 1, 1) := by decide +kernel
theorem zd_L_246 : decode code 246 = .ok (.iadd, 1) := by decide +kernel
theorem zd_L_247 : decode code 247 = .ok (.iaload, 1) := by decide +kernel
theorem zd_L_248 : decode code 248 = .ok (.aload_n 0, 1) := by decide +kernel
theorem zd_L_249 : decode code 249 = .ok (.iload_n 3, 1) := by decide +kernel
theorem zd_L_250 : decode code 250 = .ok (.iconst 2, 1) := by decide +kernel
theorem zd_L_251 : decode code 251 = .ok (.iadd, 1) := by decide +kernel
theorem zd_L_252 : decode code 252 = .ok (.iaload, 1) := by decide +kernel
theorem zd_L_253 : decode code 253 = .ok (.invokevirtual 23, 3) := by decide +kernel
theorem zd_L_256 : decode code 256 = .ok (.aload_n 2, 1) := by decide +kernel
theorem zd_L_257 : decode code 257 = .ok (.aload_n 0, 1) := by decide +kernel
theorem zd_L_258 : decode code 258 = .ok (.iload_n 3, 1) := by decide +kernel
theorem zd_L_259 : decode code 259 = .ok (.iconst 1, 1) := by decide +kernel
theorem zd_L_260 : decode code 260 = .ok (.iadd, 1) := by decide +kernel
theorem zd_L_261 : decode code 261 = .ok (.iaload, 1) := by decide +kernel
theorem zd_L_262 : decode code 262 = .ok (.aload_n 0, 1) := by decide +kernel
theorem zd_L_263 : decode code 263 = .ok (.iload_n 3, 1) := by decide +kernel
theorem zd_L_264 : decode code 264 = .ok (.iconst 2, 1) := by decide +kernel
theorem zd_L_265 : decode code 265 = .ok (.iadd, 1) := by decide +kernel
theorem zd_L_266 : decode code 266 = .ok (.iaload, 1) := by decide +kernel
theorem zd_L_267 : decode code 267 = .ok (.invokevirtual 26, 3) := by decide +kernel
theorem zd_L_270 : decode code 270 = .ok (.if_icmp .eq 699, 3) := by decide +kernel
theorem zd_L_273 : decode code 273 = .ok (.iconst 0, 1) := by decide +kernel
theorem zd_L_274 : decode code 274 = .ok (.ireturn, 1) := by decide +kernel
theorem zd_L_275 : decode code 275 = .ok (.aload_n 1, 1) := by decide +kernel
theorem zd_L_276 : decode code 276 = .ok (.aload_n 0, 1) := by decide +kernel
theorem zd_L_277 : decode code 277 = .ok (.iload_n 3, 1) := by decide +kernel
theorem zd_L_278 : decode code 278 = .ok (.iconst 1, 1) := by decide +kernel
theorem zd_L_279 : decode code 279 = .ok (.iadd, 1) := by decide +kernel
theorem zd_L_280 : decode code 280 = .ok (.iaload, 1) := by decide +kernel
theorem zd_L_281 : decode code 281 = .ok (.invokevirtual 27, 3) := by decide +kernel
theorem zd_L_284 : decode code 284 = .ok (.aload_n 2, 1) := by decide +kernel
theorem zd_L_285 : decode code 285 = .ok (.aload_n 0, 1) := by decide +kernel
theorem zd_L_286 : decode code 286 = .ok (.iload_n 3, 1) := by decide +kernel
theorem zd_L_287 : decode code 287 = .ok (.iconst 1, 1) := by decide +kernel
theorem zd_L_288 : decode code 288 = .ok (.iadd, 1) := by decide +kernel
theorem zd_L_289 : decode code 289 = .ok (.iaload, 1) := by decide +kernel
theorem zd_L_290 : decode code 290 = .ok (.invokevirtual 31, 3) := by decide +kernel
theorem zd_L_293 : decode code 293 = .ok (.if_icmp .eq 676, 3) := by decide +kernel
theorem zd_L_296 : decode code 296 = .ok (.iconst 0, 1) := by decide +kernel
theorem zd_L_297 : decode code 297 = .ok (.ireturn, 1) := by decide +kernel
theorem zd_L_298 : decode code 298 = .ok (.aload_n 1, 1) := by decide +kernel
theorem zd_L_299 : decode code 299 = .ok (.aload_n 0, 1) := by decide +kernel
theorem zd_L_300 : decode code 300 = .ok (.iload_n 3, 1) := by decide +kernel
theorem zd_L_301 : decode code 301 = .ok (.iconst 1, 1) := by decide +kernel
theorem zd_L_302 : decode code 302 = .ok (.iadd, 1) := by decide +kernel
theorem zd_L_303 : decode code 303 = .ok (.iaload, 1) := by decide +kernel
theorem zd_L_304 : decode code 304 = .ok (.invokevirtual 32, 3) := by decide +kernel
theorem zd_L_307 : decode code 307 = .ok (.aload_n 2, 1) := by decide +kernel
theorem zd_L_308 : decode code 308 = .ok (.aload_n 0, 1) := by decide +kernel
theorem zd_L_309 : decode code 309 = .ok (.iload_n 3, 1) := by decide +kernel
theorem zd_L_310 : decode code 310 = .ok (.iconst 1, 1) := by decide +kernel
theorem zd_L_311 : decode code 311 = .ok (.iadd, 1) := by decide +kernel
theorem zd_L_312 : decode code 312 = .ok (.iaload, 1) := by decide +kernel
theorem zd_L_313 : decode code 313 = .ok (.invokevirtual 35, 3) := by decide +kernel
theorem zd_L_316 : decode code 316 = .ok (.if_icmp .eq 653, 3) := by decide +kernel
theorem zd_L_319 : decode code 319 = .ok (.iconst 0, 1) := by decide +kernel
theorem zd_L_320 : decode code 320 = .ok (.ireturn, 1) := by decide +kernel
theorem zd_L_321 : decode code 321 = .ok (.aload_n 1, 1) := by decide +kernel
theorem zd_L_322 : decode code 322 = .ok (.invokevirtual 36, 3) := by decide +kernel
theorem zd_L_325 : decode code 325 = .ok (.aload_n 2, 1) := by decide +kernel
theorem zd_L_326 : decode code 326 = .ok (.invokevirtual 40, 3) := by decide +kernel
theorem zd_L_329 : decode code 329 = .ok (.if_icmp .eq 640, 3) := by decide +kernel
theorem zd_L_332 : decode code 332 = .ok (.iconst 0, 1) := by decide +kernel
theorem zd_L_333 : decode code 333 = .ok (.ireturn, 1) := by decide +kernel
theorem zd_L_334 : decode code 334 = .ok (.aload_n 1, 1) := by decide +kernel
theorem zd_L_335 : decode code 335 = .ok (.invokevirtual 41, 3) := by decide +kernel
theorem zd_L_338 : decode code 338 = .ok (.aload_n 2, 1) := by decide +kernel
theorem zd_L_339 : decode code 339 = .ok (.invokevirtual 44, 3) := by decide +kernel
theorem zd_L_342 : decode code 342 = .ok (.if_icmp .eq 627, 3) := by decide +kernel
theorem zd_L_345 : decode code 345 = .ok (.iconst 0, 1) := by decide +kernel
theorem zd_L_346 : decode code 346 = .ok (.ireturn, 1) := by decide +kernel
theorem zd_L_347 : decode code 347 = .ok (.aload_n 1, 1) := by decide +kernel
theorem zd_L_348 : decode code 348 = .ok (.invokevirtual 45, 3) := by decide +kernel
theorem zd_L_351 : decode code 351 = .ok (.aload_n 2, 1) := by decide +kernel
theorem zd_L_352 : decode code 352 = .ok (.invokevirtual 48, 3) := by decide +kernel
theorem zd_L_355 : decode code 355 = .ok (.if_icmp .eq 614, 3) := by decide +kernel
theorem zd_L_358 : decode code 358 = .ok (.iconst 0, 1) := by decide +kernel
theorem zd_L_359 : decode code 359 = .ok (.ireturn, 1) := by decide +kernel
theorem zd_L_360 : decode code 360 = .ok (.aload_n 1, 1) := by decide +kernel
theorem zd_L_361 : decode code 361 = .ok (.aload_n 0, 1) := by decide +kernel
theorem zd_L_362 : decode code 362 = .ok (.iload_n 3, 1) := by decide +kernel
theorem zd_L_363 : decode code 363 = .ok (.iconst 1, 1) := by decide +kernel
theorem zd_L_364 : decode code 364 = .ok (.iadd, 1) := by decide +kernel
theorem zd_L_365 : decode code 365 = .ok (.iaload, 1) := by decide +kernel
theorem zd_L_366 : decode code 366 = .ok (.invokevirtual 49, 3) := by decide +kernel
theorem zd_L_369 : decode code 369 = .ok (.aload_n 2, 1) := by decide +kernel
theorem zd_L_370 : decode code 370 = .ok (.aload_n 0, 1) := by decide +kernel
theorem zd_L_371 : decode code 371 = .ok (.iload_n 3, 1) := by decide +kernel
theorem zd_L_372 : decode code 372 = .ok (.iconst 1, 1) := by decide +kernel
theorem zd_L_373 : decode code 373 = .ok (.iadd, 1) := by decide +kernel
theorem zd_L_374 : decode code 374 = .ok (.iaload, 1) := by decide +kernel
theorem zd_L_375 : decode code 375 = .ok (.invokevirtual 52, 3) := by decide +kernel
theorem zd_L_378 : decode code 378 = .ok (.if_icmp .eq 591, 3) := by decide +kernel
theorem zd_L_381 : decode code 381 = .ok (.iconst 0, 1) := by decide +kernel
theorem zd_L_382 : decode code 382 = .ok (.ireturn, 1) := by decide +kernel
theorem zd_L_383 : decode code 383 = .ok (.aload_n 1, 1) := by decide +kernel
theorem zd_L_384 : decode code 384 = .ok (.aload_n 0, 1) := by decide +kernel
theorem zd_L_385 : decode code 385 = .ok (.iload_n 3, 1) := by decide +kernel
theorem zd_L_386 : decode code 386 = .ok (.iconst 1, 1) := by decide +kernel
theorem zd_L_387 : decode code 387 = .ok (.iadd, 1) := by decide +kernel
theorem zd_L_388 : decode code 388 = .ok (.iaload, 1) := by decide +kernel
theorem zd_L_389 : decode code 389 = .ok (.invokevirtual 53, 3) := by decide +kernel
theorem zd_L_392 : decode code 392 = .ok (.aload_n 2, 1) := by decide +kernel
theorem zd_L_393 : decode code 393 = .ok (.aload_n 0, 1) := by decide +kernel
theorem zd_L_394 : decode code 394 = .ok (.iload_n 3, 1) := by decide +kernel
theorem zd_L_395 : decode code 395 = .ok (.iconst 1, 1) := by decide +kernel
theorem zd_L_396 : decode code 396 = .ok (.iadd, 1) := by decide +kernel
theorem zd_L_397 : decode code 397 = .ok (.iaload, 1) := by decide +kernel
theorem zd_L_398 : decode code 398 = .ok (.invokevirtual 56, 3) := by decide +kernel
theorem zd_L_401 : decode code 401 = .ok (.if_icmp .eq 568, 3) := by decide +kernel
theorem zd_L_404 : decode code 404 = .ok (.iconst 0, 1) := by decide +kernel
theorem zd_L_405 : decode code 405 = .ok (.ireturn, 1) := by decide +kernel
theorem zd_L_406 : decode code 406 = .ok (.aload_n 1, 1) := by decide +kernel
theorem zd_L_407 : decode code 407 = .ok (.aload_n 0, 1) := by decide +kernel
theorem zd_L_408 : decode code 408 = .ok (.iload_n 3, 1) := by decide +kernel
theorem zd_L_409 : decode code 409 = .ok (.iconst 1, 1) := by decide +kernel
theorem zd_L_410 : decode code 410 = .ok (.iadd, 1) := by decide +kernel
theorem zd_L_411 : decode code 411 = .ok (.iaload, 1) := by decide +kernel
theorem zd_L_412 : decode code 412 = .ok (.aload_n 0, 1) := by decide +kernel
theorem zd_L_413 : decode code 413 = .ok (.iload_n 3, 1) := by decide +kernel
theorem zd_L_414 : decode code 414 = .ok (.iconst 2, 1) := by decide +kernel
theorem zd_L_415 : decode code 415 = .ok (.iadd, 1) := by decide +kernel
theorem zd_L_416 : decode code 416 = .ok (.iaload, 1) := by decide +kernel
theorem zd_L_417 : decode code 417 = .ok (.aload_n 0, 1) := by decide +kernel
theorem zd_L_418 : decode code 418 = .ok (.iload_n 3, 1) := by decide +kernel
