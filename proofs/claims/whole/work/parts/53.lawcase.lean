/-! ===== 53: the law: its cases (written by program) ===== -/
set_option maxHeartbeats 4000000 in
set_option maxRecDepth 100000 in
theorem lo_0 {p : Program} {l : Launch} {e : Env} {s : State} {m : MethodId} {below : List Frame} {meth : Method} {c : Code} {b L : Nat} {xs : Nat → Int32} {G1 G2 : nk_V} {i : Nat} {μ ν : nk_M} (C : lo_C p s m meth c b L xs G1 G2) (hi : i + 6 ≤ L) (h : RR μ ν) (next : ∀ μ' ν' : nk_M, RR μ' ν' → lo_J p l e s m below meth c b G1 G2 i μ' ν' 969 []) : lo_J p l e s m below meth c b G1 G2 i μ ν 156 [] := by
  obtain ⟨r, μ', ν', e1, e2, hR⟩ := p_heap (xs (i + 1)) (xs (i + 2)) (xs (i + 3)) (xs (i + 4)) h
  refine lo_al1 C zd_L_156 ?_
  refine lo_arg C (k := 1) (by omega) (by decide) zd_L_157 zd_L_158 zd_L_159 zd_L_160 zd_L_161 ?_
  refine lo_arg C (k := 2) (by omega) (by decide) zd_L_162 zd_L_163 zd_L_164 zd_L_165 zd_L_166 ?_
  refine lo_arg C (k := 3) (by omega) (by decide) zd_L_167 zd_L_168 zd_L_169 zd_L_170 zd_L_171 ?_
  refine lo_arg C (k := 4) (by omega) (by decide) zd_L_172 zd_L_173 zd_L_174 zd_L_175 zd_L_176 ?_
  refine lo_callN C [.int (xs (i + 1)), .int (xs (i + 2)), .int (xs (i + 3)), .int (xs (i + 4))] zv_L_13 (zc_N_heap (xs (i + 1)) (xs (i + 2)) (xs (i + 3)) (xs (i + 4)) μ) e1 rfl (Nat.le_of_ble_eq_true rfl) rfl rfl (Nat.le_of_ble_eq_true rfl) zd_L_177 ?_
  refine lo_al2 C zd_L_180 ?_
  refine lo_arg C (k := 1) (by omega) (by decide) zd_L_181 zd_L_182 zd_L_183 zd_L_184 zd_L_185 ?_
  refine lo_arg C (k := 2) (by omega) (by decide) zd_L_186 zd_L_187 zd_L_188 zd_L_189 zd_L_190 ?_
  refine lo_arg C (k := 3) (by omega) (by decide) zd_L_191 zd_L_192 zd_L_193 zd_L_194 zd_L_195 ?_
  refine lo_arg C (k := 4) (by omega) (by decide) zd_L_196 zd_L_197 zd_L_198 zd_L_199 zd_L_200 ?_
  refine lo_callM C [.int (xs (i + 1)), .int (xs (i + 2)), .int (xs (i + 3)), .int (xs (i + 4))] zv_L_17 (zc_M_heap (xs (i + 1)) (xs (i + 2)) (xs (i + 3)) (xs (i + 4)) ν) e2 rfl (Nat.le_of_ble_eq_true rfl) rfl rfl (Nat.le_of_ble_eq_true rfl) zd_L_201 ?_
  exact lo_eq C zd_L_204 (by decide) (next μ' ν' hR)
set_option maxHeartbeats 4000000 in
set_option maxRecDepth 100000 in
theorem lo_1 {p : Program} {l : Launch} {e : Env} {s : State} {m : MethodId} {below : List Frame} {meth : Method} {c : Code} {b L : Nat} {xs : Nat → Int32} {G1 G2 : nk_V} {i : Nat} {μ ν : nk_M} (C : lo_C p s m meth c b L xs G1 G2) (hi : i + 6 ≤ L) (h : RR μ ν) (next : ∀ μ' ν' : nk_M, RR μ' ν' → lo_J p l e s m below meth c b G1 G2 i μ' ν' 969 []) : lo_J p l e s m below meth c b G1 G2 i μ ν 209 [] := by
  obtain ⟨r, μ', ν', e1, e2, hR⟩ := p_ofCell (xs (i + 1)) (xs (i + 2)) h
  refine lo_al1 C zd_L_209 ?_
  refine lo_arg C (k := 1) (by omega) (by decide) zd_L_210 zd_L_211 zd_L_212 zd_L_213 zd_L_214 ?_
  refine lo_arg C (k := 2) (by omega) (by decide) zd_L_215 zd_L_216 zd_L_217 zd_L_218 zd_L_219 ?_
  refine lo_callN C [.int (xs (i + 1)), .int (xs (i + 2))] zv_L_18 (zc_N_ofCell (xs (i + 1)) (xs (i + 2)) μ) e1 rfl (Nat.le_of_ble_eq_true rfl) rfl rfl (Nat.le_of_ble_eq_true rfl) zd_L_220 ?_
  refine lo_al2 C zd_L_223 ?_
  refine lo_arg C (k := 1) (by omega) (by decide) zd_L_224 zd_L_225 zd_L_226 zd_L_227 zd_L_228 ?_
  refine lo_arg C (k := 2) (by omega) (by decide) zd_L_229 zd_L_230 zd_L_231 zd_L_232 zd_L_233 ?_
  refine lo_callM C [.int (xs (i + 1)), .int (xs (i + 2))] zv_L_22 (zc_M_ofCell (xs (i + 1)) (xs (i + 2)) ν) e2 rfl (Nat.le_of_ble_eq_true rfl) rfl rfl (Nat.le_of_ble_eq_true rfl) zd_L_234 ?_
  exact lo_eq C zd_L_237 (by decide) (next μ' ν' hR)
set_option maxHeartbeats 4000000 in
set_option maxRecDepth 100000 in
theorem lo_2 {p : Program} {l : Launch} {e : Env} {s : State} {m : MethodId} {below : List Frame} {meth : Method} {c : Code} {b L : Nat} {xs : Nat → Int32} {G1 G2 : nk_V} {i : Nat} {μ ν : nk_M} (C : lo_C p s m meth c b L xs G1 G2) (hi : i + 6 ≤ L) (h : RR μ ν) (next : ∀ μ' ν' : nk_M, RR μ' ν' → lo_J p l e s m below meth c b G1 G2 i μ' ν' 969 []) : lo_J p l e s m below meth c b G1 G2 i μ ν 242 [] := by
  obtain ⟨r, μ', ν', e1, e2, hR⟩ := p_price (xs (i + 1)) (xs (i + 2)) h
  refine lo_al1 C zd_L_242 ?_
  refine lo_arg C (k := 1) (by omega) (by decide) zd_L_243 zd_L_244 zd_L_245 zd_L_246 zd_L_247 ?_
  refine lo_arg C (k := 2) (by omega) (by decide) zd_L_248 zd_L_249 zd_L_250 zd_L_251 zd_L_252 ?_
  refine lo_callN C [.int (xs (i + 1)), .int (xs (i + 2))] zv_L_23 (zc_N_price (xs (i + 1)) (xs (i + 2)) μ) e1 rfl (Nat.le_of_ble_eq_true rfl) rfl rfl (Nat.le_of_ble_eq_true rfl) zd_L_253 ?_
  refine lo_al2 C zd_L_256 ?_
  refine lo_arg C (k := 1) (by omega) (by decide) zd_L_257 zd_L_258 zd_L_259 zd_L_260 zd_L_261 ?_
  refine lo_arg C (k := 2) (by omega) (by decide) zd_L_262 zd_L_263 zd_L_264 zd_L_265 zd_L_266 ?_
  refine lo_callM C [.int (xs (i + 1)), .int (xs (i + 2))] zv_L_26 (zc_M_price (xs (i + 1)) (xs (i + 2)) ν) e2 rfl (Nat.le_of_ble_eq_true rfl) rfl rfl (Nat.le_of_ble_eq_true rfl) zd_L_267 ?_
  exact lo_eq C zd_L_270 (by decide) (next μ' ν' hR)
set_option maxHeartbeats 4000000 in
set_option maxRecDepth 100000 in
theorem lo_3 {p : Program} {l : Launch} {e : Env} {s : State} {m : MethodId} {below : List Frame} {meth : Method} {c : Code} {b L : Nat} {xs : Nat → Int32} {G1 G2 : nk_V} {i : Nat} {μ ν : nk_M} (C : lo_C p s m meth c b L xs G1 G2) (hi : i + 6 ≤ L) (h : RR μ ν) (next : ∀ μ' ν' : nk_M, RR μ' ν' → lo_J p l e s m below meth c b G1 G2 i μ' ν' 969 []) : lo_J p l e s m below meth c b G1 G2 i μ ν 275 [] := by
  obtain ⟨r, μ', ν', e1, e2, hR⟩ := p_need (xs (i + 1)) h
  refine lo_al1 C zd_L_275 ?_
  refine lo_arg C (k := 1) (by omega) (by decide) zd_L_276 zd_L_277 zd_L_278 zd_L_279 zd_L_280 ?_
  refine lo_callN C [.int (xs (i + 1))] zv_L_27 (zc_N_need (xs (i + 1)) μ) e1 rfl (Nat.le_of_ble_eq_true rfl) rfl rfl (Nat.le_of_ble_eq_true rfl) zd_L_281 ?_
  refine lo_al2 C zd_L_284 ?_
  refine lo_arg C (k := 1) (by omega) (by decide) zd_L_285 zd_L_286 zd_L_287 zd_L_288 zd_L_289 ?_
  refine lo_callM C [.int (xs (i + 1))] zv_L_31 (zc_M_need (xs (i + 1)) ν) e2 rfl (Nat.le_of_ble_eq_true rfl) rfl rfl (Nat.le_of_ble_eq_true rfl) zd_L_290 ?_
  exact lo_eq C zd_L_293 (by decide) (next μ' ν' hR)
set_option maxHeartbeats 4000000 in
set_option maxRecDepth 100000 in
theorem lo_4 {p : Program} {l : Launch} {e : Env} {s : State} {m : MethodId} {below : List Frame} {meth : Method} {c : Code} {b L : Nat} {xs : Nat → Int32} {G1 G2 : nk_V} {i : Nat} {μ ν : nk_M} (C : lo_C p s m meth c b L xs G1 G2) (hi : i + 6 ≤ L) (h : RR μ ν) (next : ∀ μ' ν' : nk_M, RR μ' ν' → lo_J p l e s m below meth c b G1 G2 i μ' ν' 969 []) : lo_J p l e s m below meth c b G1 G2 i μ ν 298 [] := by
  obtain ⟨r, μ', ν', e1, e2, hR⟩ := p_latest (xs (i + 1)) h
  refine lo_al1 C zd_L_298 ?_
  refine lo_arg C (k := 1) (by omega) (by decide) zd_L_299 zd_L_300 zd_L_301 zd_L_302 zd_L_303 ?_
  refine lo_callN C [.int (xs (i + 1))] zv_L_32 (zc_N_latest (xs (i + 1)) μ) e1 rfl (Nat.le_of_ble_eq_true rfl) rfl rfl (Nat.le_of_ble_eq_true rfl) zd_L_304 ?_
  refine lo_al2 C zd_L_307 ?_
  refine lo_arg C (k := 1) (by omega) (by decide) zd_L_308 zd_L_309 zd_L_310 zd_L_311 zd_L_312 ?_
  refine lo_callM C [.int (xs (i + 1))] zv_L_35 (zc_M_latest (xs (i + 1)) ν) e2 rfl (Nat.le_of_ble_eq_true rfl) rfl rfl (Nat.le_of_ble_eq_true rfl) zd_L_313 ?_
  exact lo_eq C zd_L_316 (by decide) (next μ' ν' hR)
set_option maxHeartbeats 4000000 in
set_option maxRecDepth 100000 in
theorem lo_5 {p : Program} {l : Launch} {e : Env} {s : State} {m : MethodId} {below : List Frame} {meth : Method} {c : Code} {b L : Nat} {xs : Nat → Int32} {G1 G2 : nk_V} {i : Nat} {μ ν : nk_M} (C : lo_C p s m meth c b L xs G1 G2) (hi : i + 6 ≤ L) (h : RR μ ν) (next : ∀ μ' ν' : nk_M, RR μ' ν' → lo_J p l e s m below meth c b G1 G2 i μ' ν' 969 []) : lo_J p l e s m below meth c b G1 G2 i μ ν 321 [] := by
  obtain ⟨r, μ', ν', e1, e2, hR⟩ := p_spent  h
  refine lo_al1 C zd_L_321 ?_
  refine lo_callN C [] zv_L_36 (zc_N_spent  μ) e1 rfl (Nat.le_of_ble_eq_true rfl) rfl rfl (Nat.le_of_ble_eq_true rfl) zd_L_322 ?_
  refine lo_al2 C zd_L_325 ?_
  refine lo_callM C [] zv_L_40 (zc_M_spent  ν) e2 rfl (Nat.le_of_ble_eq_true rfl) rfl rfl (Nat.le_of_ble_eq_true rfl) zd_L_326 ?_
  exact lo_eq C zd_L_329 (by decide) (next μ' ν' hR)
set_option maxHeartbeats 4000000 in
set_option maxRecDepth 100000 in
theorem lo_6 {p : Program} {l : Launch} {e : Env} {s : State} {m : MethodId} {below : List Frame} {meth : Method} {c : Code} {b L : Nat} {xs : Nat → Int32} {G1 G2 : nk_V} {i : Nat} {μ ν : nk_M} (C : lo_C p s m meth c b L xs G1 G2) (hi : i + 6 ≤ L) (h : RR μ ν) (next : ∀ μ' ν' : nk_M, RR μ' ν' → lo_J p l e s m below meth c b G1 G2 i μ' ν' 969 []) : lo_J p l e s m below meth c b G1 G2 i μ ν 334 [] := by
  obtain ⟨r, μ', ν', e1, e2, hR⟩ := p_sleep  h
  refine lo_al1 C zd_L_334 ?_
  refine lo_callN C [] zv_L_41 (zc_N_sleep  μ) e1 rfl (Nat.le_of_ble_eq_true rfl) rfl rfl (Nat.le_of_ble_eq_true rfl) zd_L_335 ?_
  refine lo_al2 C zd_L_338 ?_
  refine lo_callM C [] zv_L_44 (zc_M_sleep  ν) e2 rfl (Nat.le_of_ble_eq_true rfl) rfl rfl (Nat.le_of_ble_eq_true rfl) zd_L_339 ?_
  exact lo_eq C zd_L_342 (by decide) (next μ' ν' hR)
set_option maxHeartbeats 4000000 in
set_option maxRecDepth 100000 in
theorem lo_7 {p : Program} {l : Launch} {e : Env} {s : State} {m : MethodId} {below : List Frame} {meth : Method} {c : Code} {b L : Nat} {xs : Nat → Int32} {G1 G2 : nk_V} {i : Nat} {μ ν : nk_M} (C : lo_C p s m meth c b L xs G1 G2) (hi : i + 6 ≤ L) (h : RR μ ν) (next : ∀ μ' ν' : nk_M, RR μ' ν' → lo_J p l e s m below meth c b G1 G2 i μ' ν' 969 []) : lo_J p l e s m below meth c b G1 G2 i μ ν 347 [] := by
  obtain ⟨r, μ', ν', e1, e2, hR⟩ := p_shorten  h
  refine lo_al1 C zd_L_347 ?_
  refine lo_callN C [] zv_L_45 (zc_N_shorten  μ) e1 rfl (Nat.le_of_ble_eq_true rfl) rfl rfl (Nat.le_of_ble_eq_true rfl) zd_L_348 ?_
  refine lo_al2 C zd_L_351 ?_
  refine lo_callM C [] zv_L_48 (zc_M_shorten  ν) e2 rfl (Nat.le_of_ble_eq_true rfl) rfl rfl (Nat.le_of_ble_eq_true rfl) zd_L_352 ?_
  exact lo_eq C zd_L_355 (by decide) (next μ' ν' hR)
set_option maxHeartbeats 4000000 in
set_option maxRecDepth 100000 in
theorem lo_8 {p : Program} {l : Launch} {e : Env} {s : State} {m : MethodId} {below : List Frame} {meth : Method} {c : Code} {b L : Nat} {xs : Nat → Int32} {G1 G2 : nk_V} {i : Nat} {μ ν : nk_M} (C : lo_C p s m meth c b L xs G1 G2) (hi : i + 6 ≤ L) (h : RR μ ν) (next : ∀ μ' ν' : nk_M, RR μ' ν' → lo_J p l e s m below meth c b G1 G2 i μ' ν' 969 []) : lo_J p l e s m below meth c b G1 G2 i μ ν 360 [] := by
  obtain ⟨r, μ', ν', e1, e2, hR⟩ := p_held (xs (i + 1)) h
  refine lo_al1 C zd_L_360 ?_
  refine lo_arg C (k := 1) (by omega) (by decide) zd_L_361 zd_L_362 zd_L_363 zd_L_364 zd_L_365 ?_
  refine lo_callN C [.int (xs (i + 1))] zv_L_49 (zc_N_held (xs (i + 1)) μ) e1 rfl (Nat.le_of_ble_eq_true rfl) rfl rfl (Nat.le_of_ble_eq_true rfl) zd_L_366 ?_
  refine lo_al2 C zd_L_369 ?_
  refine lo_arg C (k := 1) (by omega) (by decide) zd_L_370 zd_L_371 zd_L_372 zd_L_373 zd_L_374 ?_
  refine lo_callM C [.int (xs (i + 1))] zv_L_52 (zc_M_held (xs (i + 1)) ν) e2 rfl (Nat.le_of_ble_eq_true rfl) rfl rfl (Nat.le_of_ble_eq_true rfl) zd_L_375 ?_
  exact lo_eq C zd_L_378 (by decide) (next μ' ν' hR)
set_option maxHeartbeats 4000000 in
set_option maxRecDepth 100000 in
theorem lo_9 {p : Program} {l : Launch} {e : Env} {s : State} {m : MethodId} {below : List Frame} {meth : Method} {c : Code} {b L : Nat} {xs : Nat → Int32} {G1 G2 : nk_V} {i : Nat} {μ ν : nk_M} (C : lo_C p s m meth c b L xs G1 G2) (hi : i + 6 ≤ L) (h : RR μ ν) (next : ∀ μ' ν' : nk_M, RR μ' ν' → lo_J p l e s m below meth c b G1 G2 i μ' ν' 969 []) : lo_J p l e s m below meth c b G1 G2 i μ ν 383 [] := by
  obtain ⟨r, μ', ν', e1, e2, hR⟩ := p_plainly (xs (i + 1)) h
  refine lo_al1 C zd_L_383 ?_
  refine lo_arg C (k := 1) (by omega) (by decide) zd_L_384 zd_L_385 zd_L_386 zd_L_387 zd_L_388 ?_
  refine lo_callN C [.int (xs (i + 1))] zv_L_53 (zc_N_plainly (xs (i + 1)) μ) e1 rfl (Nat.le_of_ble_eq_true rfl) rfl rfl (Nat.le_of_ble_eq_true rfl) zd_L_389 ?_
  refine lo_al2 C zd_L_392 ?_
  refine lo_arg C (k := 1) (by omega) (by decide) zd_L_393 zd_L_394 zd_L_395 zd_L_396 zd_L_397 ?_
  refine lo_callM C [.int (xs (i + 1))] zv_L_56 (zc_M_plainly (xs (i + 1)) ν) e2 rfl (Nat.le_of_ble_eq_true rfl) rfl rfl (Nat.le_of_ble_eq_true rfl) zd_L_398 ?_
  exact lo_eq C zd_L_401 (by decide) (next μ' ν' hR)
set_option maxHeartbeats 4000000 in
set_option maxRecDepth 100000 in
theorem lo_10 {p : Program} {l : Launch} {e : Env} {s : State} {m : MethodId} {below : List Frame} {meth : Method} {c : Code} {b L : Nat} {xs : Nat → Int32} {G1 G2 : nk_V} {i : Nat} {μ ν : nk_M} (C : lo_C p s m meth c b L xs G1 G2) (hi : i + 6 ≤ L) (h : RR μ ν) (next : ∀ μ' ν' : nk_M, RR μ' ν' → lo_J p l e s m below meth c b G1 G2 i μ' ν' 969 []) : lo_J p l e s m below meth c b G1 G2 i μ ν 406 [] := by
  obtain ⟨r, μ', ν', e1, e2, hR⟩ := p_day (xs (i + 1)) (xs (i + 2)) (xs (i + 3)) (xs (i + 4)) (xs (i + 5)) h
  refine lo_al1 C zd_L_406 ?_
  refine lo_arg C (k := 1) (by omega) (by decide) zd_L_407 zd_L_408 zd_L_409 zd_L_410 zd_L_411 ?_
  refine lo_arg C (k := 2) (by omega) (by decide) zd_L_412 zd_L_413 zd_L_414 zd_L_415 zd_L_416 ?_
  refine lo_arg C (k := 3) (by omega) (by decide) zd_L_417 zd_L_418 zd_L_419 zd_L_420 zd_L_421 ?_
  refine lo_arg C (k := 4) (by omega) (by decide) zd_L_422 zd_L_423 zd_L_424 zd_L_425 zd_L_426 ?_
  refine lo_arg C (k := 5) (by omega) (by decide) zd_L_427 zd_L_428 zd_L_429 zd_L_430 zd_L_431 ?_
  refine lo_callN C [.int (xs (i + 1)), .int (xs (i + 2)), .int (xs (i + 3)), .int (xs (i + 4)), .int (xs (i + 5))] zv_L_57 (zc_N_day (xs (i + 1)) (xs (i + 2)) (xs (i + 3)) (xs (i + 4)) (xs (i + 5)) μ) e1 rfl (Nat.le_of_ble_eq_true rfl) rfl rfl (Nat.le_of_ble_eq_true rfl) zd_L_432 ?_
  refine lo_al2 C zd_L_435 ?_
  refine lo_arg C (k := 1) (by omega) (by decide) zd_L_436 zd_L_437 zd_L_438 zd_L_439 zd_L_440 ?_
  refine lo_arg C (k := 2) (by omega) (by decide) zd_L_441 zd_L_442 zd_L_443 zd_L_444 zd_L_445 ?_
  refine lo_arg C (k := 3) (by omega) (by decide) zd_L_446 zd_L_447 zd_L_448 zd_L_449 zd_L_450 ?_
  refine lo_arg C (k := 4) (by omega) (by decide) zd_L_451 zd_L_452 zd_L_453 zd_L_454 zd_L_455 ?_
  refine lo_arg C (k := 5) (by omega) (by decide) zd_L_456 zd_L_457 zd_L_458 zd_L_459 zd_L_460 ?_
  refine lo_callM C [.int (xs (i + 1)), .int (xs (i + 2)), .int (xs (i + 3)), .int (xs (i + 4)), .int (xs (i + 5))] zv_L_61 (zc_M_day (xs (i + 1)) (xs (i + 2)) (xs (i + 3)) (xs (i + 4)) (xs (i + 5)) ν) e2 rfl (Nat.le_of_ble_eq_true rfl) rfl rfl (Nat.le_of_ble_eq_true rfl) zd_L_461 ?_
  exact lo_eq C zd_L_464 (by decide) (next μ' ν' hR)
set_option maxHeartbeats 4000000 in
set_option maxRecDepth 100000 in
theorem lo_11 {p : Program} {l : Launch} {e : Env} {s : State} {m : MethodId} {below : List Frame} {meth : Method} {c : Code} {b L : Nat} {xs : Nat → Int32} {G1 G2 : nk_V} {i : Nat} {μ ν : nk_M} (C : lo_C p s m meth c b L xs G1 G2) (hi : i + 6 ≤ L) (h : RR μ ν) (next : ∀ μ' ν' : nk_M, RR μ' ν' → lo_J p l e s m below meth c b G1 G2 i μ' ν' 969 []) : lo_J p l e s m below meth c b G1 G2 i μ ν 469 [] := by
  obtain ⟨r, μ', ν', e1, e2, hR⟩ := p_reading (xs (i + 1)) (xs (i + 2)) h
  refine lo_al1 C zd_L_469 ?_
  refine lo_arg C (k := 1) (by omega) (by decide) zd_L_470 zd_L_471 zd_L_472 zd_L_473 zd_L_474 ?_
  refine lo_arg C (k := 2) (by omega) (by decide) zd_L_475 zd_L_476 zd_L_477 zd_L_478 zd_L_479 ?_
  refine lo_callN C [.int (xs (i + 1)), .int (xs (i + 2))] zv_L_62 (zc_N_reading (xs (i + 1)) (xs (i + 2)) μ) e1 rfl (Nat.le_of_ble_eq_true rfl) rfl rfl (Nat.le_of_ble_eq_true rfl) zd_L_480 ?_
  refine lo_al2 C zd_L_483 ?_
  refine lo_arg C (k := 1) (by omega) (by decide) zd_L_484 zd_L_485 zd_L_486 zd_L_487 zd_L_488 ?_
  refine lo_arg C (k := 2) (by omega) (by decide) zd_L_489 zd_L_490 zd_L_491 zd_L_492 zd_L_493 ?_
  refine lo_callM C [.int (xs (i + 1)), .int (xs (i + 2))] zv_L_65 (zc_M_reading (xs (i + 1)) (xs (i + 2)) ν) e2 rfl (Nat.le_of_ble_eq_true rfl) rfl rfl (Nat.le_of_ble_eq_true rfl) zd_L_494 ?_
  exact lo_eq C zd_L_497 (by decide) (next μ' ν' hR)
set_option maxHeartbeats 4000000 in
set_option maxRecDepth 100000 in
theorem lo_12 {p : Program} {l : Launch} {e : Env} {s : State} {m : MethodId} {below : List Frame} {meth : Method} {c : Code} {b L : Nat} {xs : Nat → Int32} {G1 G2 : nk_V} {i : Nat} {μ ν : nk_M} (C : lo_C p s m meth c b L xs G1 G2) (hi : i + 6 ≤ L) (h : RR μ ν) (next : ∀ μ' ν' : nk_M, RR μ' ν' → lo_J p l e s m below meth c b G1 G2 i μ' ν' 969 []) : lo_J p l e s m below meth c b G1 G2 i μ ν 502 [] := by
  obtain ⟨r, μ', ν', e1, e2, hR⟩ := p_back (xs (i + 1)) h
  refine lo_al1 C zd_L_502 ?_
  refine lo_arg C (k := 1) (by omega) (by decide) zd_L_503 zd_L_504 zd_L_505 zd_L_506 zd_L_507 ?_
  refine lo_callN C [.int (xs (i + 1))] zv_L_66 (zc_N_back (xs (i + 1)) μ) e1 rfl (Nat.le_of_ble_eq_true rfl) rfl rfl (Nat.le_of_ble_eq_true rfl) zd_L_508 ?_
  refine lo_al2 C zd_L_511 ?_
  refine lo_arg C (k := 1) (by omega) (by decide) zd_L_512 zd_L_513 zd_L_514 zd_L_515 zd_L_516 ?_
  refine lo_callM C [.int (xs (i + 1))] zv_L_69 (zc_M_back (xs (i + 1)) ν) e2 rfl (Nat.le_of_ble_eq_true rfl) rfl rfl (Nat.le_of_ble_eq_true rfl) zd_L_517 ?_
  exact lo_eq C zd_L_520 (by decide) (next μ' ν' hR)
set_option maxHeartbeats 4000000 in
set_option maxRecDepth 100000 in
theorem lo_13 {p : Program} {l : Launch} {e : Env} {s : State} {m : MethodId} {below : List Frame} {meth : Method} {c : Code} {b L : Nat} {xs : Nat → Int32} {G1 G2 : nk_V} {i : Nat} {μ ν : nk_M} (C : lo_C p s m meth c b L xs G1 G2) (hi : i + 6 ≤ L) (h : RR μ ν) (next : ∀ μ' ν' : nk_M, RR μ' ν' → lo_J p l e s m below meth c b G1 G2 i μ' ν' 969 []) : lo_J p l e s m below meth c b G1 G2 i μ ν 525 [] := by
  obtain ⟨r, μ', ν', e1, e2, hR⟩ := p_kinds (xs (i + 1)) h
  refine lo_al1 C zd_L_525 ?_
  refine lo_arg C (k := 1) (by omega) (by decide) zd_L_526 zd_L_527 zd_L_528 zd_L_529 zd_L_530 ?_
  refine lo_callN C [.int (xs (i + 1))] zv_L_70 (zc_N_kinds (xs (i + 1)) μ) e1 rfl (Nat.le_of_ble_eq_true rfl) rfl rfl (Nat.le_of_ble_eq_true rfl) zd_L_531 ?_
  refine lo_al2 C zd_L_534 ?_
  refine lo_arg C (k := 1) (by omega) (by decide) zd_L_535 zd_L_536 zd_L_537 zd_L_538 zd_L_539 ?_
  refine lo_callM C [.int (xs (i + 1))] zv_L_73 (zc_M_kinds (xs (i + 1)) ν) e2 rfl (Nat.le_of_ble_eq_true rfl) rfl rfl (Nat.le_of_ble_eq_true rfl) zd_L_540 ?_
  exact lo_eq C zd_L_543 (by decide) (next μ' ν' hR)
set_option maxHeartbeats 4000000 in
set_option maxRecDepth 100000 in
theorem lo_14 {p : Program} {l : Launch} {e : Env} {s : State} {m : MethodId} {below : List Frame} {meth : Method} {c : Code} {b L : Nat} {xs : Nat → Int32} {G1 G2 : nk_V} {i : Nat} {μ ν : nk_M} (C : lo_C p s m meth c b L xs G1 G2) (hi : i + 6 ≤ L) (h : RR μ ν) (next : ∀ μ' ν' : nk_M, RR μ' ν' → lo_J p l e s m below meth c b G1 G2 i μ' ν' 969 []) : lo_J p l e s m below meth c b G1 G2 i μ ν 548 [] := by
  obtain ⟨r, μ', ν', e1, e2, hR⟩ := p_prices (xs (i + 1)) h
  refine lo_al1 C zd_L_548 ?_
  refine lo_arg C (k := 1) (by omega) (by decide) zd_L_549 zd_L_550 zd_L_551 zd_L_552 zd_L_553 ?_
  refine lo_callN C [.int (xs (i + 1))] zv_L_74 (zc_N_prices (xs (i + 1)) μ) e1 rfl (Nat.le_of_ble_eq_true rfl) rfl rfl (Nat.le_of_ble_eq_true rfl) zd_L_554 ?_
  refine lo_al2 C zd_L_557 ?_
  refine lo_arg C (k := 1) (by omega) (by decide) zd_L_558 zd_L_559 zd_L_560 zd_L_561 zd_L_562 ?_
  refine lo_callM C [.int (xs (i + 1))] zv_L_77 (zc_M_prices (xs (i + 1)) ν) e2 rfl (Nat.le_of_ble_eq_true rfl) rfl rfl (Nat.le_of_ble_eq_true rfl) zd_L_563 ?_
  exact lo_eq C zd_L_566 (by decide) (next μ' ν' hR)
set_option maxHeartbeats 4000000 in
set_option maxRecDepth 100000 in
theorem lo_15 {p : Program} {l : Launch} {e : Env} {s : State} {m : MethodId} {below : List Frame} {meth : Method} {c : Code} {b L : Nat} {xs : Nat → Int32} {G1 G2 : nk_V} {i : Nat} {μ ν : nk_M} (C : lo_C p s m meth c b L xs G1 G2) (hi : i + 6 ≤ L) (h : RR μ ν) (next : ∀ μ' ν' : nk_M, RR μ' ν' → lo_J p l e s m below meth c b G1 G2 i μ' ν' 969 []) : lo_J p l e s m below meth c b G1 G2 i μ ν 571 [] := by
  obtain ⟨r, μ', ν', e1, e2, hR⟩ := p_odds (xs (i + 1)) (xs (i + 2)) (xs (i + 3)) (xs (i + 4)) h
  refine lo_al1 C zd_L_571 ?_
  refine lo_arg C (k := 1) (by omega) (by decide) zd_L_572 zd_L_573 zd_L_574 zd_L_575 zd_L_576 ?_
  refine lo_arg C (k := 2) (by omega) (by decide) zd_L_577 zd_L_578 zd_L_579 zd_L_580 zd_L_581 ?_
  refine lo_arg C (k := 3) (by omega) (by decide) zd_L_582 zd_L_583 zd_L_584 zd_L_585 zd_L_586 ?_
  refine lo_arg C (k := 4) (by omega) (by decide) zd_L_587 zd_L_588 zd_L_589 zd_L_590 zd_L_591 ?_
  refine lo_callN C [.int (xs (i + 1)), .int (xs (i + 2)), .int (xs (i + 3)), .int (xs (i + 4))] zv_L_78 (zc_N_odds (xs (i + 1)) (xs (i + 2)) (xs (i + 3)) (xs (i + 4)) μ) e1 rfl (Nat.le_of_ble_eq_true rfl) rfl rfl (Nat.le_of_ble_eq_true rfl) zd_L_592 ?_
  refine lo_al2 C zd_L_595 ?_
  refine lo_arg C (k := 1) (by omega) (by decide) zd_L_596 zd_L_597 zd_L_598 zd_L_599 zd_L_600 ?_
  refine lo_arg C (k := 2) (by omega) (by decide) zd_L_601 zd_L_602 zd_L_603 zd_L_604 zd_L_605 ?_
  refine lo_arg C (k := 3) (by omega) (by decide) zd_L_606 zd_L_607 zd_L_608 zd_L_609 zd_L_610 ?_
  refine lo_arg C (k := 4) (by omega) (by decide) zd_L_611 zd_L_612 zd_L_613 zd_L_614 zd_L_615 ?_
  refine lo_callM C [.int (xs (i + 1)), .int (xs (i + 2)), .int (xs (i + 3)), .int (xs (i + 4))] zv_L_82 (zc_M_odds (xs (i + 1)) (xs (i + 2)) (xs (i + 3)) (xs (i + 4)) ν) e2 rfl (Nat.le_of_ble_eq_true rfl) rfl rfl (Nat.le_of_ble_eq_true rfl) zd_L_616 ?_
  exact lo_eql C zd_L_619 zd_L_620 (by decide) (next μ' ν' hR)
set_option maxHeartbeats 4000000 in
set_option maxRecDepth 100000 in
theorem lo_16 {p : Program} {l : Launch} {e : Env} {s : State} {m : MethodId} {below : List Frame} {meth : Method} {c : Code} {b L : Nat} {xs : Nat → Int32} {G1 G2 : nk_V} {i : Nat} {μ ν : nk_M} (C : lo_C p s m meth c b L xs G1 G2) (hi : i + 6 ≤ L) (h : RR μ ν) (next : ∀ μ' ν' : nk_M, RR μ' ν' → lo_J p l e s m below meth c b G1 G2 i μ' ν' 969 []) : lo_J p l e s m below meth c b G1 G2 i μ ν 625 [] := by
  obtain ⟨r, μ', ν', e1, e2, hR⟩ := p_sheet (xs (i + 1)) (xs (i + 2)) (xs (i + 3)) h
  refine lo_al1 C zd_L_625 ?_
  refine lo_arg C (k := 1) (by omega) (by decide) zd_L_626 zd_L_627 zd_L_628 zd_L_629 zd_L_630 ?_
  refine lo_arg C (k := 2) (by omega) (by decide) zd_L_631 zd_L_632 zd_L_633 zd_L_634 zd_L_635 ?_
  refine lo_arg C (k := 3) (by omega) (by decide) zd_L_636 zd_L_637 zd_L_638 zd_L_639 zd_L_640 ?_
  refine lo_callN C [.int (xs (i + 1)), .int (xs (i + 2)), .int (xs (i + 3))] zv_L_83 (zc_N_sheet (xs (i + 1)) (xs (i + 2)) (xs (i + 3)) μ) e1 rfl (Nat.le_of_ble_eq_true rfl) rfl rfl (Nat.le_of_ble_eq_true rfl) zd_L_641 ?_
  refine lo_al2 C zd_L_644 ?_
  refine lo_arg C (k := 1) (by omega) (by decide) zd_L_645 zd_L_646 zd_L_647 zd_L_648 zd_L_649 ?_
  refine lo_arg C (k := 2) (by omega) (by decide) zd_L_650 zd_L_651 zd_L_652 zd_L_653 zd_L_654 ?_
  refine lo_arg C (k := 3) (by omega) (by decide) zd_L_655 zd_L_656 zd_L_657 zd_L_658 zd_L_659 ?_
  refine lo_callM C [.int (xs (i + 1)), .int (xs (i + 2)), .int (xs (i + 3))] zv_L_87 (zc_M_sheet (xs (i + 1)) (xs (i + 2)) (xs (i + 3)) ν) e2 rfl (Nat.le_of_ble_eq_true rfl) rfl rfl (Nat.le_of_ble_eq_true rfl) zd_L_660 ?_
  exact lo_eq C zd_L_663 (by decide) (next μ' ν' hR)
set_option maxHeartbeats 4000000 in
set_option maxRecDepth 100000 in
theorem lo_17 {p : Program} {l : Launch} {e : Env} {s : State} {m : MethodId} {below : List Frame} {meth : Method} {c : Code} {b L : Nat} {xs : Nat → Int32} {G1 G2 : nk_V} {i : Nat} {μ ν : nk_M} (C : lo_C p s m meth c b L xs G1 G2) (hi : i + 6 ≤ L) (h : RR μ ν) (next : ∀ μ' ν' : nk_M, RR μ' ν' → lo_J p l e s m below meth c b G1 G2 i μ' ν' 969 []) : lo_J p l e s m below meth c b G1 G2 i μ ν 668 [] := by
  obtain ⟨r, μ', ν', e1, e2, hR⟩ := p_lose (xs (i + 1)) h
  refine lo_al1 C zd_L_668 ?_
  refine lo_arg C (k := 1) (by omega) (by decide) zd_L_669 zd_L_670 zd_L_671 zd_L_672 zd_L_673 ?_
  refine lo_callN C [.int (xs (i + 1))] zv_L_88 (zc_N_lose (xs (i + 1)) μ) e1 rfl (Nat.le_of_ble_eq_true rfl) rfl rfl (Nat.le_of_ble_eq_true rfl) zd_L_674 ?_
  refine lo_al2 C zd_L_677 ?_
  refine lo_arg C (k := 1) (by omega) (by decide) zd_L_678 zd_L_679 zd_L_680 zd_L_681 zd_L_682 ?_
  refine lo_callM C [.int (xs (i + 1))] zv_L_91 (zc_M_lose (xs (i + 1)) ν) e2 rfl (Nat.le_of_ble_eq_true rfl) rfl rfl (Nat.le_of_ble_eq_true rfl) zd_L_683 ?_
  exact lo_eq C zd_L_686 (by decide) (next μ' ν' hR)
set_option maxHeartbeats 4000000 in
set_option maxRecDepth 100000 in
theorem lo_18 {p : Program} {l : Launch} {e : Env} {s : State} {m : MethodId} {below : List Frame} {meth : Method} {c : Code} {b L : Nat} {xs : Nat → Int32} {G1 G2 : nk_V} {i : Nat} {μ ν : nk_M} (C : lo_C p s m meth c b L xs G1 G2) (hi : i + 6 ≤ L) (h : RR μ ν) (next : ∀ μ' ν' : nk_M, RR μ' ν' → lo_J p l e s m below meth c b G1 G2 i μ' ν' 969 []) : lo_J p l e s m below meth c b G1 G2 i μ ν 691 [] := by
  obtain ⟨r, μ', ν', e1, e2, hR⟩ := p_put (xs (i + 1)) (xs (i + 2)) (xs (i + 3)) h
  refine lo_al1 C zd_L_691 ?_
  refine lo_arg C (k := 1) (by omega) (by decide) zd_L_692 zd_L_693 zd_L_694 zd_L_695 zd_L_696 ?_
  refine lo_arg C (k := 2) (by omega) (by decide) zd_L_697 zd_L_698 zd_L_699 zd_L_700 zd_L_701 ?_
  refine lo_arg C (k := 3) (by omega) (by decide) zd_L_702 zd_L_703 zd_L_704 zd_L_705 zd_L_706 ?_
  refine lo_callN C [.int (xs (i + 1)), .int (xs (i + 2)), .int (xs (i + 3))] zv_L_92 (zc_N_put (xs (i + 1)) (xs (i + 2)) (xs (i + 3)) μ) e1 rfl (Nat.le_of_ble_eq_true rfl) rfl rfl (Nat.le_of_ble_eq_true rfl) zd_L_707 ?_
  refine lo_al2 C zd_L_710 ?_
  refine lo_arg C (k := 1) (by omega) (by decide) zd_L_711 zd_L_712 zd_L_713 zd_L_714 zd_L_715 ?_
  refine lo_arg C (k := 2) (by omega) (by decide) zd_L_716 zd_L_717 zd_L_718 zd_L_719 zd_L_720 ?_
  refine lo_arg C (k := 3) (by omega) (by decide) zd_L_721 zd_L_722 zd_L_723 zd_L_724 zd_L_725 ?_
  refine lo_callM C [.int (xs (i + 1)), .int (xs (i + 2)), .int (xs (i + 3))] zv_L_95 (zc_M_put (xs (i + 1)) (xs (i + 2)) (xs (i + 3)) ν) e2 rfl (Nat.le_of_ble_eq_true rfl) rfl rfl (Nat.le_of_ble_eq_true rfl) zd_L_726 ?_
  exact lo_eq C zd_L_729 (by decide) (next μ' ν' hR)
set_option maxHeartbeats 4000000 in
set_option maxRecDepth 100000 in
theorem lo_19 {p : Program} {l : Launch} {e : Env} {s : State} {m : MethodId} {below : List Frame} {meth : Method} {c : Code} {b L : Nat} {xs : Nat → Int32} {G1 G2 : nk_V} {i : Nat} {μ ν : nk_M} (C : lo_C p s m meth c b L xs G1 G2) (hi : i + 6 ≤ L) (h : RR μ ν) (next : ∀ μ' ν' : nk_M, RR μ' ν' → lo_J p l e s m below meth c b G1 G2 i μ' ν' 969 []) : lo_J p l e s m below meth c b G1 G2 i μ ν 734 [] := by
  obtain ⟨r, μ', ν', e1, e2, hR⟩ := p_cell (xs (i + 1)) (xs (i + 2)) (xs (i + 3)) h
  refine lo_al1 C zd_L_734 ?_
  refine lo_arg C (k := 1) (by omega) (by decide) zd_L_735 zd_L_736 zd_L_737 zd_L_738 zd_L_739 ?_
  refine lo_arg C (k := 2) (by omega) (by decide) zd_L_740 zd_L_741 zd_L_742 zd_L_743 zd_L_744 ?_
  refine lo_arg C (k := 3) (by omega) (by decide) zd_L_745 zd_L_746 zd_L_747 zd_L_748 zd_L_749 ?_
  refine lo_callN C [.int (xs (i + 1)), .int (xs (i + 2)), .int (xs (i + 3))] zv_L_96 (zc_N_cell (xs (i + 1)) (xs (i + 2)) (xs (i + 3)) μ) e1 rfl (Nat.le_of_ble_eq_true rfl) rfl rfl (Nat.le_of_ble_eq_true rfl) zd_L_750 ?_
  refine lo_al2 C zd_L_753 ?_
  refine lo_arg C (k := 1) (by omega) (by decide) zd_L_754 zd_L_755 zd_L_756 zd_L_757 zd_L_758 ?_
  refine lo_arg C (k := 2) (by omega) (by decide) zd_L_759 zd_L_760 zd_L_761 zd_L_762 zd_L_763 ?_
  refine lo_arg C (k := 3) (by omega) (by decide) zd_L_764 zd_L_765 zd_L_766 zd_L_767 zd_L_768 ?_
  refine lo_callM C [.int (xs (i + 1)), .int (xs (i + 2)), .int (xs (i + 3))] zv_L_100 (zc_M_cell (xs (i + 1)) (xs (i + 2)) (xs (i + 3)) ν) e2 rfl (Nat.le_of_ble_eq_true rfl) rfl rfl (Nat.le_of_ble_eq_true rfl) zd_L_769 ?_
  exact lo_eql C zd_L_772 zd_L_773 (by decide) (next μ' ν' hR)
set_option maxHeartbeats 4000000 in
set_option maxRecDepth 100000 in
theorem lo_20 {p : Program} {l : Launch} {e : Env} {s : State} {m : MethodId} {below : List Frame} {meth : Method} {c : Code} {b L : Nat} {xs : Nat → Int32} {G1 G2 : nk_V} {i : Nat} {μ ν : nk_M} (C : lo_C p s m meth c b L xs G1 G2) (hi : i + 6 ≤ L) (h : RR μ ν) (next : ∀ μ' ν' : nk_M, RR μ' ν' → lo_J p l e s m below meth c b G1 G2 i μ' ν' 969 []) : lo_J p l e s m below meth c b G1 G2 i μ ν 778 [] := by
  obtain ⟨r, μ', ν', e1, e2, hR⟩ := p_copy (xs (i + 1)) (xs (i + 2)) (xs (i + 3)) (xs (i + 4)) (xs (i + 5)) h
  refine lo_al1 C zd_L_778 ?_
  refine lo_arg C (k := 1) (by omega) (by decide) zd_L_779 zd_L_780 zd_L_781 zd_L_782 zd_L_783 ?_
  refine lo_arg C (k := 2) (by omega) (by decide) zd_L_784 zd_L_785 zd_L_786 zd_L_787 zd_L_788 ?_
  refine lo_arg C (k := 3) (by omega) (by decide) zd_L_789 zd_L_790 zd_L_791 zd_L_792 zd_L_793 ?_
  refine lo_arg C (k := 4) (by omega) (by decide) zd_L_794 zd_L_795 zd_L_796 zd_L_797 zd_L_798 ?_
  refine lo_arg C (k := 5) (by omega) (by decide) zd_L_799 zd_L_800 zd_L_801 zd_L_802 zd_L_803 ?_
  refine lo_callN C [.int (xs (i + 1)), .int (xs (i + 2)), .int (xs (i + 3)), .int (xs (i + 4)), .int (xs (i + 5))] zv_L_101 (zc_N_copy (xs (i + 1)) (xs (i + 2)) (xs (i + 3)) (xs (i + 4)) (xs (i + 5)) μ) e1 rfl (Nat.le_of_ble_eq_true rfl) rfl rfl (Nat.le_of_ble_eq_true rfl) zd_L_804 ?_
  refine lo_al2 C zd_L_807 ?_
  refine lo_arg C (k := 1) (by omega) (by decide) zd_L_808 zd_L_809 zd_L_810 zd_L_811 zd_L_812 ?_
  refine lo_arg C (k := 2) (by omega) (by decide) zd_L_813 zd_L_814 zd_L_815 zd_L_816 zd_L_817 ?_
  refine lo_arg C (k := 3) (by omega) (by decide) zd_L_818 zd_L_819 zd_L_820 zd_L_821 zd_L_822 ?_
  refine lo_arg C (k := 4) (by omega) (by decide) zd_L_823 zd_L_824 zd_L_825 zd_L_826 zd_L_827 ?_
  refine lo_arg C (k := 5) (by omega) (by decide) zd_L_828 zd_L_829 zd_L_830 zd_L_831 zd_L_832 ?_
  refine lo_callM C [.int (xs (i + 1)), .int (xs (i + 2)), .int (xs (i + 3)), .int (xs (i + 4)), .int (xs (i + 5))] zv_L_104 (zc_M_copy (xs (i + 1)) (xs (i + 2)) (xs (i + 3)) (xs (i + 4)) (xs (i + 5)) ν) e2 rfl (Nat.le_of_ble_eq_true rfl) rfl rfl (Nat.le_of_ble_eq_true rfl) zd_L_833 ?_
  exact lo_eq C zd_L_836 (by decide) (next μ' ν' hR)
set_option maxHeartbeats 4000000 in
set_option maxRecDepth 100000 in
theorem lo_21 {p : Program} {l : Launch} {e : Env} {s : State} {m : MethodId} {below : List Frame} {meth : Method} {c : Code} {b L : Nat} {xs : Nat → Int32} {G1 G2 : nk_V} {i : Nat} {μ ν : nk_M} (C : lo_C p s m meth c b L xs G1 G2) (hi : i + 6 ≤ L) (h : RR μ ν) (next : ∀ μ' ν' : nk_M, RR μ' ν' → lo_J p l e s m below meth c b G1 G2 i μ' ν' 969 []) : lo_J p l e s m below meth c b G1 G2 i μ ν 841 [] := by
  obtain ⟨r, μ', ν', e1, e2, hR⟩ := p_tell (xs (i + 1)) h
  refine lo_al1 C zd_L_841 ?_
  refine lo_arg C (k := 1) (by omega) (by decide) zd_L_842 zd_L_843 zd_L_844 zd_L_845 zd_L_846 ?_
  refine lo_callN C [.int (xs (i + 1))] zv_L_105 (zc_N_tell (xs (i + 1)) μ) e1 rfl (Nat.le_of_ble_eq_true rfl) rfl rfl (Nat.le_of_ble_eq_true rfl) zd_L_847 ?_
  refine lo_al2 C zd_L_850 ?_
  refine lo_arg C (k := 1) (by omega) (by decide) zd_L_851 zd_L_852 zd_L_853 zd_L_854 zd_L_855 ?_
  refine lo_callM C [.int (xs (i + 1))] zv_L_108 (zc_M_tell (xs (i + 1)) ν) e2 rfl (Nat.le_of_ble_eq_true rfl) rfl rfl (Nat.le_of_ble_eq_true rfl) zd_L_856 ?_
  exact lo_eq C zd_L_859 (by decide) (next μ' ν' hR)
set_option maxHeartbeats 4000000 in
set_option maxRecDepth 100000 in
theorem lo_22 {p : Program} {l : Launch} {e : Env} {s : State} {m : MethodId} {below : List Frame} {meth : Method} {c : Code} {b L : Nat} {xs : Nat → Int32} {G1 G2 : nk_V} {i : Nat} {μ ν : nk_M} (C : lo_C p s m meth c b L xs G1 G2) (hi : i + 6 ≤ L) (h : RR μ ν) (next : ∀ μ' ν' : nk_M, RR μ' ν' → lo_J p l e s m below meth c b G1 G2 i μ' ν' 969 []) : lo_J p l e s m below meth c b G1 G2 i μ ν 864 [] := by
  obtain ⟨r, μ', ν', e1, e2, hR⟩ := p_point (xs (i + 1)) h
  refine lo_al1 C zd_L_864 ?_
  refine lo_arg C (k := 1) (by omega) (by decide) zd_L_865 zd_L_866 zd_L_867 zd_L_868 zd_L_869 ?_
  refine lo_callN C [.int (xs (i + 1))] zv_L_109 (zc_N_point (xs (i + 1)) μ) e1 rfl (Nat.le_of_ble_eq_true rfl) rfl rfl (Nat.le_of_ble_eq_true rfl) zd_L_870 ?_
  refine lo_al2 C zd_L_873 ?_
  refine lo_arg C (k := 1) (by omega) (by decide) zd_L_874 zd_L_875 zd_L_876 zd_L_877 zd_L_878 ?_
  refine lo_callM C [.int (xs (i + 1))] zv_L_112 (zc_M_point (xs (i + 1)) ν) e2 rfl (Nat.le_of_ble_eq_true rfl) rfl rfl (Nat.le_of_ble_eq_true rfl) zd_L_879 ?_
  exact lo_eq C zd_L_882 (by decide) (next μ' ν' hR)
set_option maxHeartbeats 4000000 in
set_option maxRecDepth 100000 in
theorem lo_23 {p : Program} {l : Launch} {e : Env} {s : State} {m : MethodId} {below : List Frame} {meth : Method} {c : Code} {b L : Nat} {xs : Nat → Int32} {G1 G2 : nk_V} {i : Nat} {μ ν : nk_M} (C : lo_C p s m meth c b L xs G1 G2) (hi : i + 6 ≤ L) (h : RR μ ν) (next : ∀ μ' ν' : nk_M, RR μ' ν' → lo_J p l e s m below meth c b G1 G2 i μ' ν' 969 []) : lo_J p l e s m below meth c b G1 G2 i μ ν 887 [] := by
  obtain ⟨r, μ', ν', e1, e2, hR⟩ := p_as (xs (i + 1)) (xs (i + 2)) h
  refine lo_al1 C zd_L_887 ?_
  refine lo_arg C (k := 1) (by omega) (by decide) zd_L_888 zd_L_889 zd_L_890 zd_L_891 zd_L_892 ?_
  refine lo_arg C (k := 2) (by omega) (by decide) zd_L_893 zd_L_894 zd_L_895 zd_L_896 zd_L_897 ?_
  refine lo_callN C [.int (xs (i + 1)), .int (xs (i + 2))] zv_L_113 (zc_N_as (xs (i + 1)) (xs (i + 2)) μ) e1 rfl (Nat.le_of_ble_eq_true rfl) rfl rfl (Nat.le_of_ble_eq_true rfl) zd_L_898 ?_
  refine lo_al2 C zd_L_901 ?_
  refine lo_arg C (k := 1) (by omega) (by decide) zd_L_902 zd_L_903 zd_L_904 zd_L_905 zd_L_906 ?_
  refine lo_arg C (k := 2) (by omega) (by decide) zd_L_907 zd_L_908 zd_L_909 zd_L_910 zd_L_911 ?_
  refine lo_callM C [.int (xs (i + 1)), .int (xs (i + 2))] zv_L_116 (zc_M_as (xs (i + 1)) (xs (i + 2)) ν) e2 rfl (Nat.le_of_ble_eq_true rfl) rfl rfl (Nat.le_of_ble_eq_true rfl) zd_L_912 ?_
  exact lo_eq C zd_L_915 (by decide) (next μ' ν' hR)
set_option maxHeartbeats 4000000 in
set_option maxRecDepth 100000 in
theorem lo_24 {p : Program} {l : Launch} {e : Env} {s : State} {m : MethodId} {below : List Frame} {meth : Method} {c : Code} {b L : Nat} {xs : Nat → Int32} {G1 G2 : nk_V} {i : Nat} {μ ν : nk_M} (C : lo_C p s m meth c b L xs G1 G2) (hi : i + 6 ≤ L) (h : RR μ ν) (next : ∀ μ' ν' : nk_M, RR μ' ν' → lo_J p l e s m below meth c b G1 G2 i μ' ν' 969 []) : lo_J p l e s m below meth c b G1 G2 i μ ν 920 [] := by
  obtain ⟨r, μ', ν', e1, e2, hR⟩ := p_trace  h
  refine lo_al1 C zd_L_920 ?_
  refine lo_callN C [] zv_L_117 (zc_N_trace  μ) e1 rfl (Nat.le_of_ble_eq_true rfl) rfl rfl (Nat.le_of_ble_eq_true rfl) zd_L_921 ?_
  refine lo_al2 C zd_L_924 ?_
  refine lo_callM C [] zv_L_120 (zc_M_trace  ν) e2 rfl (Nat.le_of_ble_eq_true rfl) rfl rfl (Nat.le_of_ble_eq_true rfl) zd_L_925 ?_
  exact lo_eq C zd_L_928 (by decide) (next μ' ν' hR)
set_option maxHeartbeats 4000000 in
set_option maxRecDepth 100000 in
theorem lo_25 {p : Program} {l : Launch} {e : Env} {s : State} {m : MethodId} {below : List Frame} {meth : Method} {c : Code} {b L : Nat} {xs : Nat → Int32} {G1 G2 : nk_V} {i : Nat} {μ ν : nk_M} (C : lo_C p s m meth c b L xs G1 G2) (hi : i + 6 ≤ L) (h : RR μ ν) (next : ∀ μ' ν' : nk_M, RR μ' ν' → lo_J p l e s m below meth c b G1 G2 i μ' ν' 969 []) : lo_J p l e s m below meth c b G1 G2 i μ ν 933 [] := by
  obtain ⟨r, μ', ν', e1, e2, hR⟩ := p_fault  h
  refine lo_al1 C zd_L_933 ?_
  refine lo_callN C [] zv_L_121 (zc_N_fault  μ) e1 rfl (Nat.le_of_ble_eq_true rfl) rfl rfl (Nat.le_of_ble_eq_true rfl) zd_L_934 ?_
  refine lo_al2 C zd_L_937 ?_
  refine lo_callM C [] zv_L_124 (zc_M_fault  ν) e2 rfl (Nat.le_of_ble_eq_true rfl) rfl rfl (Nat.le_of_ble_eq_true rfl) zd_L_938 ?_
  exact lo_eq C zd_L_941 (by decide) (next μ' ν' hR)
set_option maxHeartbeats 4000000 in
set_option maxRecDepth 100000 in
theorem lo_26 {p : Program} {l : Launch} {e : Env} {s : State} {m : MethodId} {below : List Frame} {meth : Method} {c : Code} {b L : Nat} {xs : Nat → Int32} {G1 G2 : nk_V} {i : Nat} {μ ν : nk_M} (C : lo_C p s m meth c b L xs G1 G2) (hi : i + 6 ≤ L) (h : RR μ ν) (next : ∀ μ' ν' : nk_M, RR μ' ν' → lo_J p l e s m below meth c b G1 G2 i μ' ν' 969 []) : lo_J p l e s m below meth c b G1 G2 i μ ν 946 [] := by
  obtain ⟨r, μ', ν', e1, e2, hR⟩ := p_many (xs (i + 1)) h
  refine lo_al1 C zd_L_946 ?_
  refine lo_arg C (k := 1) (by omega) (by decide) zd_L_947 zd_L_948 zd_L_949 zd_L_950 zd_L_951 ?_
  refine lo_callN C [.int (xs (i + 1))] zv_L_125 (zc_N_many (xs (i + 1)) μ) e1 rfl (Nat.le_of_ble_eq_true rfl) rfl rfl (Nat.le_of_ble_eq_true rfl) zd_L_952 ?_
  refine lo_al2 C zd_L_955 ?_
  refine lo_arg C (k := 1) (by omega) (by decide) zd_L_956 zd_L_957 zd_L_958 zd_L_959 zd_L_960 ?_
  refine lo_callM C [.int (xs (i + 1))] zv_L_128 (zc_M_many (xs (i + 1)) ν) e2 rfl (Nat.le_of_ble_eq_true rfl) rfl rfl (Nat.le_of_ble_eq_true rfl) zd_L_961 ?_
  exact lo_eq C zd_L_964 (by decide) (next μ' ν' hR)
