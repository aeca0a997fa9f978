/-! the law, call by call -/
theorem qwl_13 : Cond.methodLink RL 13 yX8_addPoint ∈ qx_tb := qx_tbOf (List.mem_of_getElem? (i := 295) (by decide +kernel)) (by decide +kernel)
theorem qwl_17 : Cond.methodLink RL 17 yX9_addPoint ∈ qx_tb := qx_tbOf (List.mem_of_getElem? (i := 877) (by decide +kernel)) (by decide +kernel)
set_option maxHeartbeats 4000000 in
set_option maxRecDepth 100000 in
theorem qw_case0 {p : Program} {l : Launch} {e : Env} {s : State} {m : MethodId} {below : List Frame} {meth : Method} {c : Code} {b L : Nat} {xs : Nat → Int32} {D : va_G} {ci : Nat → ClassId} {a z a2 : Nat → Nat} {i : Nat} {σ τ : QS} (X : qw_X p s m meth c b L xs D ci a z a2) (hi : i + 7 ≤ L) (h : qR σ τ) (k : ∀ σ' τ', qR σ' τ' → qw_E p l e s m below meth c b D ci a a2 755 i [] σ' τ') : qw_E p l e s m below meth c b D ci a a2 136 i [] σ τ := by
  obtain ⟨r, σ', τ', e1, e2, hR⟩ := qO_addPoint h (xs (i + 1)) (xs (i + 2)) (xs (i + 3)) (xs (i + 4)) (xs (i + 5)) (xs (i + 6))
  refine qw_ax (pc := 136) X dL_136 ?_
  refine qw_arg (pc := 137) X 1 rfl (by omega) dL_137 dL_138 dL_139 dL_140 dL_141 ?_
  refine qw_arg (pc := 142) X 2 rfl (by omega) dL_142 dL_143 dL_144 dL_145 dL_146 ?_
  refine qw_arg (pc := 147) X 3 rfl (by omega) dL_147 dL_148 dL_149 dL_150 dL_151 ?_
  refine qw_arg (pc := 152) X 4 rfl (by omega) dL_152 dL_153 dL_154 dL_155 dL_156 ?_
  refine qw_arg (pc := 157) X 5 rfl (by omega) dL_157 dL_158 dL_159 dL_160 dL_161 ?_
  refine qw_arg6 (pc := 162) X (by omega) dL_162 dL_163 dL_164 dL_166 dL_167 ?_
  refine qw_callC (pc := 168) X (some (.int r), σ') [.int (xs (i + 1)), .int (xs (i + 2)), .int (xs (i + 3)), .int (xs (i + 4)), .int (xs (i + 5)), .int (xs (i + 6))] [] rfl rfl qcm_X8_addPoint qcv_X8_addPoint qwl_13 rfl (Nat.le_of_ble_eq_true rfl) (Nat.le_of_ble_eq_true rfl) (Nat.le_of_ble_eq_true rfl) dL_168 (qLP_addPoint_ok e1) ?_
  refine qw_am (pc := 171) X dL_171 ?_
  refine qw_arg (pc := 172) X 1 rfl (by omega) dL_172 dL_173 dL_174 dL_175 dL_176 ?_
  refine qw_arg (pc := 177) X 2 rfl (by omega) dL_177 dL_178 dL_179 dL_180 dL_181 ?_
  refine qw_arg (pc := 182) X 3 rfl (by omega) dL_182 dL_183 dL_184 dL_185 dL_186 ?_
  refine qw_arg (pc := 187) X 4 rfl (by omega) dL_187 dL_188 dL_189 dL_190 dL_191 ?_
  refine qw_arg (pc := 192) X 5 rfl (by omega) dL_192 dL_193 dL_194 dL_195 dL_196 ?_
  refine qw_arg6 (pc := 197) X (by omega) dL_197 dL_198 dL_199 dL_201 dL_202 ?_
  refine qw_callM (pc := 203) X (some (.int r), τ') [.int (xs (i + 1)), .int (xs (i + 2)), .int (xs (i + 3)), .int (xs (i + 4)), .int (xs (i + 5)), .int (xs (i + 6))] [.int r] rfl rfl qcm_X9_addPoint qcv_X9_addPoint qwl_17 rfl (Nat.le_of_ble_eq_true rfl) (Nat.le_of_ble_eq_true rfl) (Nat.le_of_ble_eq_true rfl) dL_203 (qM_addPoint_ok e2) ?_
  exact qw_eqi (pc := 206) X 755 dL_206 (by decide) (k σ' τ' hR)
theorem qwl_18 : Cond.methodLink RL 18 yX8_removePoint ∈ qx_tb := qx_tbOf (List.mem_of_getElem? (i := 390) (by decide +kernel)) (by decide +kernel)
theorem qwl_22 : Cond.methodLink RL 22 yX9_removePoint ∈ qx_tb := qx_tbOf (List.mem_of_getElem? (i := 924) (by decide +kernel)) (by decide +kernel)
set_option maxHeartbeats 4000000 in
set_option maxRecDepth 100000 in
theorem qw_case1 {p : Program} {l : Launch} {e : Env} {s : State} {m : MethodId} {below : List Frame} {meth : Method} {c : Code} {b L : Nat} {xs : Nat → Int32} {D : va_G} {ci : Nat → ClassId} {a z a2 : Nat → Nat} {i : Nat} {σ τ : QS} (X : qw_X p s m meth c b L xs D ci a z a2) (hi : i + 7 ≤ L) (h : qR σ τ) (k : ∀ σ' τ', qR σ' τ' → qw_E p l e s m below meth c b D ci a a2 755 i [] σ' τ') : qw_E p l e s m below meth c b D ci a a2 211 i [] σ τ := by
  obtain ⟨r, σ', τ', e1, e2, hR⟩ := qO_removePoint h (xs (i + 1))
  refine qw_ax (pc := 211) X dL_211 ?_
  refine qw_arg (pc := 212) X 1 rfl (by omega) dL_212 dL_213 dL_214 dL_215 dL_216 ?_
  refine qw_callC (pc := 217) X (some (.int r), σ') [.int (xs (i + 1))] [] rfl rfl qcm_X8_removePoint qcv_X8_removePoint qwl_18 rfl (Nat.le_of_ble_eq_true rfl) (Nat.le_of_ble_eq_true rfl) (Nat.le_of_ble_eq_true rfl) dL_217 (qLP_removePoint_ok e1) ?_
  refine qw_am (pc := 220) X dL_220 ?_
  refine qw_arg (pc := 221) X 1 rfl (by omega) dL_221 dL_222 dL_223 dL_224 dL_225 ?_
  refine qw_callM (pc := 226) X (some (.int r), τ') [.int (xs (i + 1))] [.int r] rfl rfl qcm_X9_removePoint qcv_X9_removePoint qwl_22 rfl (Nat.le_of_ble_eq_true rfl) (Nat.le_of_ble_eq_true rfl) (Nat.le_of_ble_eq_true rfl) dL_226 (qM_removePoint_ok e2) ?_
  exact qw_eqi (pc := 229) X 755 dL_229 (by decide) (k σ' τ' hR)
theorem qwl_23 : Cond.methodLink RL 23 yX8_setPoint ∈ qx_tb := qx_tbOf (List.mem_of_getElem? (i := 406) (by decide +kernel)) (by decide +kernel)
theorem qwl_27 : Cond.methodLink RL 27 yX9_setPoint ∈ qx_tb := qx_tbOf (List.mem_of_getElem? (i := 932) (by decide +kernel)) (by decide +kernel)
set_option maxHeartbeats 4000000 in
set_option maxRecDepth 100000 in
theorem qw_case2 {p : Program} {l : Launch} {e : Env} {s : State} {m : MethodId} {below : List Frame} {meth : Method} {c : Code} {b L : Nat} {xs : Nat → Int32} {D : va_G} {ci : Nat → ClassId} {a z a2 : Nat → Nat} {i : Nat} {σ τ : QS} (X : qw_X p s m meth c b L xs D ci a z a2) (hi : i + 7 ≤ L) (h : qR σ τ) (k : ∀ σ' τ', qR σ' τ' → qw_E p l e s m below meth c b D ci a a2 755 i [] σ' τ') : qw_E p l e s m below meth c b D ci a a2 234 i [] σ τ := by
  obtain ⟨r, σ', τ', e1, e2, hR⟩ := qO_setPoint h (xs (i + 1)) (xs (i + 2)) (xs (i + 3))
  refine qw_ax (pc := 234) X dL_234 ?_
  refine qw_arg (pc := 235) X 1 rfl (by omega) dL_235 dL_236 dL_237 dL_238 dL_239 ?_
  refine qw_arg (pc := 240) X 2 rfl (by omega) dL_240 dL_241 dL_242 dL_243 dL_244 ?_
  refine qw_arg (pc := 245) X 3 rfl (by omega) dL_245 dL_246 dL_247 dL_248 dL_249 ?_
  refine qw_callC (pc := 250) X (some (.int r), σ') [.int (xs (i + 1)), .int (xs (i + 2)), .int (xs (i + 3))] [] rfl rfl qcm_X8_setPoint qcv_X8_setPoint qwl_23 rfl (Nat.le_of_ble_eq_true rfl) (Nat.le_of_ble_eq_true rfl) (Nat.le_of_ble_eq_true rfl) dL_250 (qLP_setPoint_ok e1) ?_
  refine qw_am (pc := 253) X dL_253 ?_
  refine qw_arg (pc := 254) X 1 rfl (by omega) dL_254 dL_255 dL_256 dL_257 dL_258 ?_
  refine qw_arg (pc := 259) X 2 rfl (by omega) dL_259 dL_260 dL_261 dL_262 dL_263 ?_
  refine qw_arg (pc := 264) X 3 rfl (by omega) dL_264 dL_265 dL_266 dL_267 dL_268 ?_
  refine qw_callM (pc := 269) X (some (.int r), τ') [.int (xs (i + 1)), .int (xs (i + 2)), .int (xs (i + 3))] [.int r] rfl rfl qcm_X9_setPoint qcv_X9_setPoint qwl_27 rfl (Nat.le_of_ble_eq_true rfl) (Nat.le_of_ble_eq_true rfl) (Nat.le_of_ble_eq_true rfl) dL_269 (qM_setPoint_ok e2) ?_
  exact qw_eqi (pc := 272) X 755 dL_272 (by decide) (k σ' τ' hR)
theorem qwl_28 : Cond.methodLink RL 28 yX8_point ∈ qx_tb := qx_tbOf (List.mem_of_getElem? (i := 423) (by decide +kernel)) (by decide +kernel)
theorem qwl_32 : Cond.methodLink RL 32 yX9_point ∈ qx_tb := qx_tbOf (List.mem_of_getElem? (i := 944) (by decide +kernel)) (by decide +kernel)
set_option maxHeartbeats 4000000 in
set_option maxRecDepth 100000 in
theorem qw_case3 {p : Program} {l : Launch} {e : Env} {s : State} {m : MethodId} {below : List Frame} {meth : Method} {c : Code} {b L : Nat} {xs : Nat → Int32} {D : va_G} {ci : Nat → ClassId} {a z a2 : Nat → Nat} {i : Nat} {σ τ : QS} (X : qw_X p s m meth c b L xs D ci a z a2) (hi : i + 7 ≤ L) (h : qR σ τ) (k : ∀ σ' τ', qR σ' τ' → qw_E p l e s m below meth c b D ci a a2 755 i [] σ' τ') : qw_E p l e s m below meth c b D ci a a2 277 i [] σ τ := by
  obtain ⟨r, τ', e1, e2, hR⟩ := qO_point h (xs (i + 1)) (xs (i + 2))
  refine qw_ax (pc := 277) X dL_277 ?_
  refine qw_arg (pc := 278) X 1 rfl (by omega) dL_278 dL_279 dL_280 dL_281 dL_282 ?_
  refine qw_arg (pc := 283) X 2 rfl (by omega) dL_283 dL_284 dL_285 dL_286 dL_287 ?_
  refine qw_callC (pc := 288) X (some (.int r), σ) [.int (xs (i + 1)), .int (xs (i + 2))] [] rfl rfl qcm_X8_point qcv_X8_point qwl_28 rfl (Nat.le_of_ble_eq_true rfl) (Nat.le_of_ble_eq_true rfl) (Nat.le_of_ble_eq_true rfl) dL_288 (qLP_point_ok e1) ?_
  refine qw_am (pc := 291) X dL_291 ?_
  refine qw_arg (pc := 292) X 1 rfl (by omega) dL_292 dL_293 dL_294 dL_295 dL_296 ?_
  refine qw_arg (pc := 297) X 2 rfl (by omega) dL_297 dL_298 dL_299 dL_300 dL_301 ?_
  refine qw_callM (pc := 302) X (some (.int r), τ') [.int (xs (i + 1)), .int (xs (i + 2))] [.int r] rfl rfl qcm_X9_point qcv_X9_point qwl_32 rfl (Nat.le_of_ble_eq_true rfl) (Nat.le_of_ble_eq_true rfl) (Nat.le_of_ble_eq_true rfl) dL_302 (qM_point_ok e2) ?_
  exact qw_eqi (pc := 305) X 755 dL_305 (by decide) (k σ τ' hR)
theorem qwl_33 : Cond.methodLink RL 33 yX8_setWindow ∈ qx_tb := qx_tbOf (List.mem_of_getElem? (i := 437) (by decide +kernel)) (by decide +kernel)
theorem qwl_37 : Cond.methodLink RL 37 yX9_setWindow ∈ qx_tb := qx_tbOf (List.mem_of_getElem? (i := 957) (by decide +kernel)) (by decide +kernel)
set_option maxHeartbeats 4000000 in
set_option maxRecDepth 100000 in
theorem qw_case4 {p : Program} {l : Launch} {e : Env} {s : State} {m : MethodId} {below : List Frame} {meth : Method} {c : Code} {b L : Nat} {xs : Nat → Int32} {D : va_G} {ci : Nat → ClassId} {a z a2 : Nat → Nat} {i : Nat} {σ τ : QS} (X : qw_X p s m meth c b L xs D ci a z a2) (hi : i + 7 ≤ L) (h : qR σ τ) (k : ∀ σ' τ', qR σ' τ' → qw_E p l e s m below meth c b D ci a a2 755 i [] σ' τ') : qw_E p l e s m below meth c b D ci a a2 310 i [] σ τ := by
  obtain ⟨r, σ', τ', e1, e2, hR⟩ := qO_setWindow h (xs (i + 1)) (xs (i + 2)) (xs (i + 3)) (xs (i + 4))
  refine qw_ax (pc := 310) X dL_310 ?_
  refine qw_arg (pc := 311) X 1 rfl (by omega) dL_311 dL_312 dL_313 dL_314 dL_315 ?_
  refine qw_arg (pc := 316) X 2 rfl (by omega) dL_316 dL_317 dL_318 dL_319 dL_320 ?_
  refine qw_arg (pc := 321) X 3 rfl (by omega) dL_321 dL_322 dL_323 dL_324 dL_325 ?_
  refine qw_arg (pc := 326) X 4 rfl (by omega) dL_326 dL_327 dL_328 dL_329 dL_330 ?_
  refine qw_callC (pc := 331) X (some (.int r), σ') [.int (xs (i + 1)), .int (xs (i + 2)), .int (xs (i + 3)), .int (xs (i + 4))] [] rfl rfl qcm_X8_setWindow qcv_X8_setWindow qwl_33 rfl (Nat.le_of_ble_eq_true rfl) (Nat.le_of_ble_eq_true rfl) (Nat.le_of_ble_eq_true rfl) dL_331 (qLP_setWindow_ok e1) ?_
  refine qw_am (pc := 334) X dL_334 ?_
  refine qw_arg (pc := 335) X 1 rfl (by omega) dL_335 dL_336 dL_337 dL_338 dL_339 ?_
  refine qw_arg (pc := 340) X 2 rfl (by omega) dL_340 dL_341 dL_342 dL_343 dL_344 ?_
  refine qw_arg (pc := 345) X 3 rfl (by omega) dL_345 dL_346 dL_347 dL_348 dL_349 ?_
  refine qw_arg (pc := 350) X 4 rfl (by omega) dL_350 dL_351 dL_352 dL_353 dL_354 ?_
  refine qw_callM (pc := 355) X (some (.int r), τ') [.int (xs (i + 1)), .int (xs (i + 2)), .int (xs (i + 3)), .int (xs (i + 4))] [.int r] rfl rfl qcm_X9_setWindow qcv_X9_setWindow qwl_37 rfl (Nat.le_of_ble_eq_true rfl) (Nat.le_of_ble_eq_true rfl) (Nat.le_of_ble_eq_true rfl) dL_355 (qM_setWindow_ok e2) ?_
  exact qw_eqi (pc := 358) X 755 dL_358 (by decide) (k σ' τ' hR)
theorem qwl_38 : Cond.methodLink RL 38 yX8_pan ∈ qx_tb := qx_tbOf (List.mem_of_getElem? (i := 452) (by decide +kernel)) (by decide +kernel)
theorem qwl_41 : Cond.methodLink RL 41 yX9_pan ∈ qx_tb := qx_tbOf (List.mem_of_getElem? (i := 967) (by decide +kernel)) (by decide +kernel)
set_option maxHeartbeats 4000000 in
set_option maxRecDepth 100000 in
theorem qw_case5 {p : Program} {l : Launch} {e : Env} {s : State} {m : MethodId} {below : List Frame} {meth : Method} {c : Code} {b L : Nat} {xs : Nat → Int32} {D : va_G} {ci : Nat → ClassId} {a z a2 : Nat → Nat} {i : Nat} {σ τ : QS} (X : qw_X p s m meth c b L xs D ci a z a2) (hi : i + 7 ≤ L) (h : qR σ τ) (k : ∀ σ' τ', qR σ' τ' → qw_E p l e s m below meth c b D ci a a2 755 i [] σ' τ') : qw_E p l e s m below meth c b D ci a a2 363 i [] σ τ := by
  obtain ⟨r, σ', τ', e1, e2, hR⟩ := qO_pan h (xs (i + 1)) (xs (i + 2))
  refine qw_ax (pc := 363) X dL_363 ?_
  refine qw_arg (pc := 364) X 1 rfl (by omega) dL_364 dL_365 dL_366 dL_367 dL_368 ?_
  refine qw_arg (pc := 369) X 2 rfl (by omega) dL_369 dL_370 dL_371 dL_372 dL_373 ?_
  refine qw_callC (pc := 374) X (some (.int r), σ') [.int (xs (i + 1)), .int (xs (i + 2))] [] rfl rfl qcm_X8_pan qcv_X8_pan qwl_38 rfl (Nat.le_of_ble_eq_true rfl) (Nat.le_of_ble_eq_true rfl) (Nat.le_of_ble_eq_true rfl) dL_374 (qLP_pan_ok e1) ?_
  refine qw_am (pc := 377) X dL_377 ?_
  refine qw_arg (pc := 378) X 1 rfl (by omega) dL_378 dL_379 dL_380 dL_381 dL_382 ?_
  refine qw_arg (pc := 383) X 2 rfl (by omega) dL_383 dL_384 dL_385 dL_386 dL_387 ?_
  refine qw_callM (pc := 388) X (some (.int r), τ') [.int (xs (i + 1)), .int (xs (i + 2))] [.int r] rfl rfl qcm_X9_pan qcv_X9_pan qwl_41 rfl (Nat.le_of_ble_eq_true rfl) (Nat.le_of_ble_eq_true rfl) (Nat.le_of_ble_eq_true rfl) dL_388 (qM_pan_ok e2) ?_
  exact qw_eqi (pc := 391) X 755 dL_391 (by decide) (k σ' τ' hR)
theorem qwl_42 : Cond.methodLink RL 42 yX8_place ∈ qx_tb := qx_tbOf (List.mem_of_getElem? (i := 481) (by decide +kernel)) (by decide +kernel)
theorem qwl_45 : Cond.methodLink RL 45 yX9_place ∈ qx_tb := qx_tbOf (List.mem_of_getElem? (i := 987) (by decide +kernel)) (by decide +kernel)
set_option maxHeartbeats 4000000 in
set_option maxRecDepth 100000 in
theorem qw_case6 {p : Program} {l : Launch} {e : Env} {s : State} {m : MethodId} {below : List Frame} {meth : Method} {c : Code} {b L : Nat} {xs : Nat → Int32} {D : va_G} {ci : Nat → ClassId} {a z a2 : Nat → Nat} {i : Nat} {σ τ : QS} (X : qw_X p s m meth c b L xs D ci a z a2) (hi : i + 7 ≤ L) (h : qR σ τ) (k : ∀ σ' τ', qR σ' τ' → qw_E p l e s m below meth c b D ci a a2 755 i [] σ' τ') : qw_E p l e s m below meth c b D ci a a2 396 i [] σ τ := by
  obtain ⟨r, τ', e1, e2, hR⟩ := qO_place h (xs (i + 1)) (xs (i + 2)) (xs (i + 3))
  refine qw_ax (pc := 396) X dL_396 ?_
  refine qw_arg (pc := 397) X 1 rfl (by omega) dL_397 dL_398 dL_399 dL_400 dL_401 ?_
  refine qw_arg (pc := 402) X 2 rfl (by omega) dL_402 dL_403 dL_404 dL_405 dL_406 ?_
  refine qw_arg (pc := 407) X 3 rfl (by omega) dL_407 dL_408 dL_409 dL_410 dL_411 ?_
  refine qw_callC (pc := 412) X (some (.int r), σ) [.int (xs (i + 1)), .int (xs (i + 2)), .int (xs (i + 3))] [] rfl rfl qcm_X8_place qcv_X8_place qwl_42 rfl (Nat.le_of_ble_eq_true rfl) (Nat.le_of_ble_eq_true rfl) (Nat.le_of_ble_eq_true rfl) dL_412 (qLP_place_ok e1) ?_
  refine qw_am (pc := 415) X dL_415 ?_
  refine qw_arg (pc := 416) X 1 rfl (by omega) dL_416 dL_417 dL_418 dL_419 dL_420 ?_
  refine qw_arg (pc := 421) X 2 rfl (by omega) dL_421 dL_422 dL_423 dL_424 dL_425 ?_
  refine qw_arg (pc := 426) X 3 rfl (by omega) dL_426 dL_427 dL_428 dL_429 dL_430 ?_
  refine qw_callM (pc := 431) X (some (.int r), τ') [.int (xs (i + 1)), .int (xs (i + 2)), .int (xs (i + 3))] [.int r] rfl rfl qcm_X9_place qcv_X9_place qwl_45 rfl (Nat.le_of_ble_eq_true rfl) (Nat.le_of_ble_eq_true rfl) (Nat.le_of_ble_eq_true rfl) dL_431 (qM_place_ok e2) ?_
  exact qw_eqi (pc := 434) X 755 dL_434 (by decide) (k σ τ' hR)
theorem qwl_46 : Cond.methodLink RL 46 yX8_clash ∈ qx_tb := qx_tbOf (List.mem_of_getElem? (i := 501) (by decide +kernel)) (by decide +kernel)
theorem qwl_49 : Cond.methodLink RL 49 yX9_clash ∈ qx_tb := qx_tbOf (List.mem_of_getElem? (i := 1004) (by decide +kernel)) (by decide +kernel)
set_option maxHeartbeats 4000000 in
set_option maxRecDepth 100000 in
theorem qw_case7 {p : Program} {l : Launch} {e : Env} {s : State} {m : MethodId} {below : List Frame} {meth : Method} {c : Code} {b L : Nat} {xs : Nat → Int32} {D : va_G} {ci : Nat → ClassId} {a z a2 : Nat → Nat} {i : Nat} {σ τ : QS} (X : qw_X p s m meth c b L xs D ci a z a2) (hi : i + 7 ≤ L) (h : qR σ τ) (k : ∀ σ' τ', qR σ' τ' → qw_E p l e s m below meth c b D ci a a2 755 i [] σ' τ') : qw_E p l e s m below meth c b D ci a a2 439 i [] σ τ := by
  obtain ⟨r, τ', e1, e2, hR⟩ := qO_clash h (xs (i + 1)) (xs (i + 2)) (xs (i + 3)) (xs (i + 4))
  refine qw_ax (pc := 439) X dL_439 ?_
  refine qw_arg (pc := 440) X 1 rfl (by omega) dL_440 dL_441 dL_442 dL_443 dL_444 ?_
  refine qw_arg (pc := 445) X 2 rfl (by omega) dL_445 dL_446 dL_447 dL_448 dL_449 ?_
  refine qw_arg (pc := 450) X 3 rfl (by omega) dL_450 dL_451 dL_452 dL_453 dL_454 ?_
  refine qw_arg (pc := 455) X 4 rfl (by omega) dL_455 dL_456 dL_457 dL_458 dL_459 ?_
  refine qw_callC (pc := 460) X (some (.int r), σ) [.int (xs (i + 1)), .int (xs (i + 2)), .int (xs (i + 3)), .int (xs (i + 4))] [] rfl rfl qcm_X8_clash qcv_X8_clash qwl_46 rfl (Nat.le_of_ble_eq_true rfl) (Nat.le_of_ble_eq_true rfl) (Nat.le_of_ble_eq_true rfl) dL_460 (qLP_clash_ok e1) ?_
  refine qw_am (pc := 463) X dL_463 ?_
  refine qw_arg (pc := 464) X 1 rfl (by omega) dL_464 dL_465 dL_466 dL_467 dL_468 ?_
  refine qw_arg (pc := 469) X 2 rfl (by omega) dL_469 dL_470 dL_471 dL_472 dL_473 ?_
  refine qw_arg (pc := 474) X 3 rfl (by omega) dL_474 dL_475 dL_476 dL_477 dL_478 ?_
  refine qw_arg (pc := 479) X 4 rfl (by omega) dL_479 dL_480 dL_481 dL_482 dL_483 ?_
  refine qw_callM (pc := 484) X (some (.int r), τ') [.int (xs (i + 1)), .int (xs (i + 2)), .int (xs (i + 3)), .int (xs (i + 4))] [.int r] rfl rfl qcm_X9_clash qcv_X9_clash qwl_49 rfl (Nat.le_of_ble_eq_true rfl) (Nat.le_of_ble_eq_true rfl) (Nat.le_of_ble_eq_true rfl) dL_484 (qM_clash_ok e2) ?_
  exact qw_eqi (pc := 487) X 755 dL_487 (by decide) (k σ τ' hR)
theorem qwl_50 : Cond.methodLink RL 50 yX8_labelAt ∈ qx_tb := qx_tbOf (List.mem_of_getElem? (i := 506) (by decide +kernel)) (by decide +kernel)
theorem qwl_53 : Cond.methodLink RL 53 yX9_labelAt ∈ qx_tb := qx_tbOf (List.mem_of_getElem? (i := 1008) (by decide +kernel)) (by decide +kernel)
set_option maxHeartbeats 4000000 in
set_option maxRecDepth 100000 in
theorem qw_case8 {p : Program} {l : Launch} {e : Env} {s : State} {m : MethodId} {below : List Frame} {meth : Method} {c : Code} {b L : Nat} {xs : Nat → Int32} {D : va_G} {ci : Nat → ClassId} {a z a2 : Nat → Nat} {i : Nat} {σ τ : QS} (X : qw_X p s m meth c b L xs D ci a z a2) (hi : i + 7 ≤ L) (h : qR σ τ) (k : ∀ σ' τ', qR σ' τ' → qw_E p l e s m below meth c b D ci a a2 755 i [] σ' τ') : qw_E p l e s m below meth c b D ci a a2 492 i [] σ τ := by
  obtain ⟨r, e1, e2⟩ := qO_labelAt' h (xs (i + 1)) (xs (i + 2))
  refine qw_ax (pc := 492) X dL_492 ?_
  refine qw_arg (pc := 493) X 1 rfl (by omega) dL_493 dL_494 dL_495 dL_496 dL_497 ?_
  refine qw_arg (pc := 498) X 2 rfl (by omega) dL_498 dL_499 dL_500 dL_501 dL_502 ?_
  refine qw_callC (pc := 503) X (some (.int r), σ) [.int (xs (i + 1)), .int (xs (i + 2))] [] rfl rfl qcm_X8_labelAt qcv_X8_labelAt qwl_50 rfl (Nat.le_of_ble_eq_true rfl) (Nat.le_of_ble_eq_true rfl) (Nat.le_of_ble_eq_true rfl) dL_503 (qLP_labelAt_ok e1) ?_
  refine qw_am (pc := 506) X dL_506 ?_
  refine qw_arg (pc := 507) X 1 rfl (by omega) dL_507 dL_508 dL_509 dL_510 dL_511 ?_
  refine qw_arg (pc := 512) X 2 rfl (by omega) dL_512 dL_513 dL_514 dL_515 dL_516 ?_
  refine qw_callM (pc := 517) X (some (.int r), τ) [.int (xs (i + 1)), .int (xs (i + 2))] [.int r] rfl rfl qcm_X9_labelAt qcv_X9_labelAt qwl_53 rfl (Nat.le_of_ble_eq_true rfl) (Nat.le_of_ble_eq_true rfl) (Nat.le_of_ble_eq_true rfl) dL_517 (qM_labelAt_ok e2) ?_
  exact qw_eqi (pc := 520) X 755 dL_520 (by decide) (k σ τ h)
theorem qwl_54 : Cond.methodLink RL 54 yX8_fill ∈ qx_tb := qx_tbOf (List.mem_of_getElem? (i := 518) (by decide +kernel)) (by decide +kernel)
theorem qwl_58 : Cond.methodLink RL 58 yX9_fill ∈ qx_tb := qx_tbOf (List.mem_of_getElem? (i := 1012) (by decide +kernel)) (by decide +kernel)
set_option maxHeartbeats 4000000 in
set_option maxRecDepth 100000 in
theorem qw_case9 {p : Program} {l : Launch} {e : Env} {s : State} {m : MethodId} {below : List Frame} {meth : Method} {c : Code} {b L : Nat} {xs : Nat → Int32} {D : va_G} {ci : Nat → ClassId} {a z a2 : Nat → Nat} {i : Nat} {σ τ : QS} (X : qw_X p s m meth c b L xs D ci a z a2) (hi : i + 7 ≤ L) (h : qR σ τ) (k : ∀ σ' τ', qR σ' τ' → qw_E p l e s m below meth c b D ci a a2 755 i [] σ' τ') : qw_E p l e s m below meth c b D ci a a2 525 i [] σ τ := by
  obtain ⟨r, σ', τ', e1, e2, hR⟩ := qO_fill h
  refine qw_ax (pc := 525) X dL_525 ?_
  refine qw_callC (pc := 526) X (some (.int r), σ') [] [] rfl rfl qcm_X8_fill qcv_X8_fill qwl_54 rfl (Nat.le_of_ble_eq_true rfl) (Nat.le_of_ble_eq_true rfl) (Nat.le_of_ble_eq_true rfl) dL_526 (qLP_fill_ok e1) ?_
  refine qw_am (pc := 529) X dL_529 ?_
  refine qw_callM (pc := 530) X (some (.int r), τ') [] [.int r] rfl rfl qcm_X9_fill qcv_X9_fill qwl_58 rfl (Nat.le_of_ble_eq_true rfl) (Nat.le_of_ble_eq_true rfl) (Nat.le_of_ble_eq_true rfl) dL_530 (qM_fill_ok e2) ?_
  exact qw_eqi (pc := 533) X 755 dL_533 (by decide) (k σ' τ' hR)
theorem qwl_59 : Cond.methodLink RL 59 yX8_improve ∈ qx_tb := qx_tbOf (List.mem_of_getElem? (i := 522) (by decide +kernel)) (by decide +kernel)
theorem qwl_62 : Cond.methodLink RL 62 yX9_improve ∈ qx_tb := qx_tbOf (List.mem_of_getElem? (i := 1013) (by decide +kernel)) (by decide +kernel)
set_option maxHeartbeats 4000000 in
set_option maxRecDepth 100000 in
theorem qw_case10 {p : Program} {l : Launch} {e : Env} {s : State} {m : MethodId} {below : List Frame} {meth : Method} {c : Code} {b L : Nat} {xs : Nat → Int32} {D : va_G} {ci : Nat → ClassId} {a z a2 : Nat → Nat} {i : Nat} {σ τ : QS} (X : qw_X p s m meth c b L xs D ci a z a2) (hi : i + 7 ≤ L) (h : qR σ τ) (k : ∀ σ' τ', qR σ' τ' → qw_E p l e s m below meth c b D ci a a2 755 i [] σ' τ') : qw_E p l e s m below meth c b D ci a a2 538 i [] σ τ := by
  obtain ⟨r, σ', τ', e1, e2, hR⟩ := qO_improve h
  refine qw_ax (pc := 538) X dL_538 ?_
  refine qw_callC (pc := 539) X (some (.int r), σ') [] [] rfl rfl qcm_X8_improve qcv_X8_improve qwl_59 rfl (Nat.le_of_ble_eq_true rfl) (Nat.le_of_ble_eq_true rfl) (Nat.le_of_ble_eq_true rfl) dL_539 (qLP_improve_ok e1) ?_
  refine qw_am (pc := 542) X dL_542 ?_
  refine qw_callM (pc := 543) X (some (.int r), τ') [] [.int r] rfl rfl qcm_X9_improve qcv_X9_improve qwl_62 rfl (Nat.le_of_ble_eq_true rfl) (Nat.le_of_ble_eq_true rfl) (Nat.le_of_ble_eq_true rfl) dL_543 (qM_improve_ok e2) ?_
  exact qw_eqi (pc := 546) X 755 dL_546 (by decide) (k σ' τ' hR)
theorem qwl_63 : Cond.methodLink RL 63 yX8_push ∈ qx_tb := qx_tbOf (List.mem_of_getElem? (i := 542) (by decide +kernel)) (by decide +kernel)
theorem qwl_66 : Cond.methodLink RL 66 yX9_push ∈ qx_tb := qx_tbOf (List.mem_of_getElem? (i := 1029) (by decide +kernel)) (by decide +kernel)
set_option maxHeartbeats 4000000 in
set_option maxRecDepth 100000 in
theorem qw_case11 {p : Program} {l : Launch} {e : Env} {s : State} {m : MethodId} {below : List Frame} {meth : Method} {c : Code} {b L : Nat} {xs : Nat → Int32} {D : va_G} {ci : Nat → ClassId} {a z a2 : Nat → Nat} {i : Nat} {σ τ : QS} (X : qw_X p s m meth c b L xs D ci a z a2) (hi : i + 7 ≤ L) (h : qR σ τ) (k : ∀ σ' τ', qR σ' τ' → qw_E p l e s m below meth c b D ci a a2 755 i [] σ' τ') : qw_E p l e s m below meth c b D ci a a2 551 i [] σ τ := by
  obtain ⟨r, σ', τ', e1, e2, hR⟩ := qO_push h
  refine qw_ax (pc := 551) X dL_551 ?_
  refine qw_callC (pc := 552) X (some (.int r), σ') [] [] rfl rfl qcm_X8_push qcv_X8_push qwl_63 rfl (Nat.le_of_ble_eq_true rfl) (Nat.le_of_ble_eq_true rfl) (Nat.le_of_ble_eq_true rfl) dL_552 (qLP_push_ok e1) ?_
  refine qw_am (pc := 555) X dL_555 ?_
  refine qw_callM (pc := 556) X (some (.int r), τ') [] [.int r] rfl rfl qcm_X9_push qcv_X9_push qwl_66 rfl (Nat.le_of_ble_eq_true rfl) (Nat.le_of_ble_eq_true rfl) (Nat.le_of_ble_eq_true rfl) dL_556 (qM_push_ok e2) ?_
  exact qw_eqi (pc := 559) X 755 dL_559 (by decide) (k σ' τ' hR)
theorem qwl_67 : Cond.methodLink RL 67 yX8_show ∈ qx_tb := qx_tbOf (List.mem_of_getElem? (i := 567) (by decide +kernel)) (by decide +kernel)
theorem qwl_70 : Cond.methodLink RL 70 yX9_show ∈ qx_tb := qx_tbOf (List.mem_of_getElem? (i := 1045) (by decide +kernel)) (by decide +kernel)
set_option maxHeartbeats 4000000 in
set_option maxRecDepth 100000 in
theorem qw_case12 {p : Program} {l : Launch} {e : Env} {s : State} {m : MethodId} {below : List Frame} {meth : Method} {c : Code} {b L : Nat} {xs : Nat → Int32} {D : va_G} {ci : Nat → ClassId} {a z a2 : Nat → Nat} {i : Nat} {σ τ : QS} (X : qw_X p s m meth c b L xs D ci a z a2) (hi : i + 7 ≤ L) (h : qR σ τ) (k : ∀ σ' τ', qR σ' τ' → qw_E p l e s m below meth c b D ci a a2 755 i [] σ' τ') : qw_E p l e s m below meth c b D ci a a2 564 i [] σ τ := by
  obtain ⟨r, σ', τ', e1, e2, hR⟩ := qO_show h (xs (i + 1)) (xs (i + 2))
  refine qw_ax (pc := 564) X dL_564 ?_
  refine qw_arg (pc := 565) X 1 rfl (by omega) dL_565 dL_566 dL_567 dL_568 dL_569 ?_
  refine qw_arg (pc := 570) X 2 rfl (by omega) dL_570 dL_571 dL_572 dL_573 dL_574 ?_
  refine qw_callC (pc := 575) X (some (.int r), σ') [.int (xs (i + 1)), .int (xs (i + 2))] [] rfl rfl qcm_X8_show qcv_X8_show qwl_67 rfl (Nat.le_of_ble_eq_true rfl) (Nat.le_of_ble_eq_true rfl) (Nat.le_of_ble_eq_true rfl) dL_575 (qLP_show_ok e1) ?_
  refine qw_am (pc := 578) X dL_578 ?_
  refine qw_arg (pc := 579) X 1 rfl (by omega) dL_579 dL_580 dL_581 dL_582 dL_583 ?_
  refine qw_arg (pc := 584) X 2 rfl (by omega) dL_584 dL_585 dL_586 dL_587 dL_588 ?_
  refine qw_callM (pc := 589) X (some (.int r), τ') [.int (xs (i + 1)), .int (xs (i + 2))] [.int r] rfl rfl qcm_X9_show qcv_X9_show qwl_70 rfl (Nat.le_of_ble_eq_true rfl) (Nat.le_of_ble_eq_true rfl) (Nat.le_of_ble_eq_true rfl) dL_589 (qM_show_ok e2) ?_
  exact qw_eqi (pc := 592) X 755 dL_592 (by decide) (k σ' τ' hR)
theorem qwl_71 : Cond.methodLink RL 71 yX8_hideAll ∈ qx_tb := qx_tbOf (List.mem_of_getElem? (i := 573) (by decide +kernel)) (by decide +kernel)
theorem qwl_74 : Cond.methodLink RL 74 yX9_hideAll ∈ qx_tb := qx_tbOf (List.mem_of_getElem? (i := 1049) (by decide +kernel)) (by decide +kernel)
set_option maxHeartbeats 4000000 in
set_option maxRecDepth 100000 in
theorem qw_case13 {p : Program} {l : Launch} {e : Env} {s : State} {m : MethodId} {below : List Frame} {meth : Method} {c : Code} {b L : Nat} {xs : Nat → Int32} {D : va_G} {ci : Nat → ClassId} {a z a2 : Nat → Nat} {i : Nat} {σ τ : QS} (X : qw_X p s m meth c b L xs D ci a z a2) (hi : i + 7 ≤ L) (h : qR σ τ) (k : ∀ σ' τ', qR σ' τ' → qw_E p l e s m below meth c b D ci a a2 755 i [] σ' τ') : qw_E p l e s m below meth c b D ci a a2 597 i [] σ τ := by
  obtain ⟨r, σ', τ', e1, e2, hR⟩ := qO_hideAll h
  refine qw_ax (pc := 597) X dL_597 ?_
  refine qw_callC (pc := 598) X (some (.int r), σ') [] [] rfl rfl qcm_X8_hideAll qcv_X8_hideAll qwl_71 rfl (Nat.le_of_ble_eq_true rfl) (Nat.le_of_ble_eq_true rfl) (Nat.le_of_ble_eq_true rfl) dL_598 (qLP_hideAll_ok e1) ?_
  refine qw_am (pc := 601) X dL_601 ?_
  refine qw_callM (pc := 602) X (some (.int r), τ') [] [.int r] rfl rfl qcm_X9_hideAll qcv_X9_hideAll qwl_74 rfl (Nat.le_of_ble_eq_true rfl) (Nat.le_of_ble_eq_true rfl) (Nat.le_of_ble_eq_true rfl) dL_602 (qM_hideAll_ok e2) ?_
  exact qw_eqi (pc := 605) X 755 dL_605 (by decide) (k σ' τ' hR)
theorem qwl_75 : Cond.methodLink RL 75 yX8_greatest ∈ qx_tb := qx_tbOf (List.mem_of_getElem? (i := 581) (by decide +kernel)) (by decide +kernel)
theorem qwl_78 : Cond.methodLink RL 78 yX9_greatest ∈ qx_tb := qx_tbOf (List.mem_of_getElem? (i := 1053) (by decide +kernel)) (by decide +kernel)
set_option maxHeartbeats 4000000 in
set_option maxRecDepth 100000 in
theorem qw_case14 {p : Program} {l : Launch} {e : Env} {s : State} {m : MethodId} {below : List Frame} {meth : Method} {c : Code} {b L : Nat} {xs : Nat → Int32} {D : va_G} {ci : Nat → ClassId} {a z a2 : Nat → Nat} {i : Nat} {σ τ : QS} (X : qw_X p s m meth c b L xs D ci a z a2) (hi : i + 7 ≤ L) (h : qR σ τ) (k : ∀ σ' τ', qR σ' τ' → qw_E p l e s m below meth c b D ci a a2 755 i [] σ' τ') : qw_E p l e s m below meth c b D ci a a2 610 i [] σ τ := by
  obtain ⟨r, σ', τ', e1, e2, hR⟩ := qO_greatest h
  refine qw_ax (pc := 610) X dL_610 ?_
  refine qw_callC (pc := 611) X (some (.int r), σ') [] [] rfl rfl qcm_X8_greatest qcv_X8_greatest qwl_75 rfl (Nat.le_of_ble_eq_true rfl) (Nat.le_of_ble_eq_true rfl) (Nat.le_of_ble_eq_true rfl) dL_611 (qLP_greatest_ok e1) ?_
  refine qw_am (pc := 614) X dL_614 ?_
  refine qw_callM (pc := 615) X (some (.int r), τ') [] [.int r] rfl rfl qcm_X9_greatest qcv_X9_greatest qwl_78 rfl (Nat.le_of_ble_eq_true rfl) (Nat.le_of_ble_eq_true rfl) (Nat.le_of_ble_eq_true rfl) dL_615 (qM_greatest_ok e2) ?_
  exact qw_eqi (pc := 618) X 755 dL_618 (by decide) (k σ' τ' hR)
theorem qwl_79 : Cond.methodLink RL 79 yX8_leaders ∈ qx_tb := qx_tbOf (List.mem_of_getElem? (i := 618) (by decide +kernel)) (by decide +kernel)
theorem qwl_82 : Cond.methodLink RL 82 yX9_leaders ∈ qx_tb := qx_tbOf (List.mem_of_getElem? (i := 1065) (by decide +kernel)) (by decide +kernel)
set_option maxHeartbeats 4000000 in
set_option maxRecDepth 100000 in
theorem qw_case15 {p : Program} {l : Launch} {e : Env} {s : State} {m : MethodId} {below : List Frame} {meth : Method} {c : Code} {b L : Nat} {xs : Nat → Int32} {D : va_G} {ci : Nat → ClassId} {a z a2 : Nat → Nat} {i : Nat} {σ τ : QS} (X : qw_X p s m meth c b L xs D ci a z a2) (hi : i + 7 ≤ L) (h : qR σ τ) (k : ∀ σ' τ', qR σ' τ' → qw_E p l e s m below meth c b D ci a a2 755 i [] σ' τ') : qw_E p l e s m below meth c b D ci a a2 623 i [] σ τ := by
  obtain ⟨r, σ', τ', e1, e2, hR⟩ := qO_leaders h
  refine qw_ax (pc := 623) X dL_623 ?_
  refine qw_callC (pc := 624) X (some (.int r), σ') [] [] rfl rfl qcm_X8_leaders qcv_X8_leaders qwl_79 rfl (Nat.le_of_ble_eq_true rfl) (Nat.le_of_ble_eq_true rfl) (Nat.le_of_ble_eq_true rfl) dL_624 (qLP_leaders_ok e1) ?_
  refine qw_am (pc := 627) X dL_627 ?_
  refine qw_callM (pc := 628) X (some (.int r), τ') [] [.int r] rfl rfl qcm_X9_leaders qcv_X9_leaders qwl_82 rfl (Nat.le_of_ble_eq_true rfl) (Nat.le_of_ble_eq_true rfl) (Nat.le_of_ble_eq_true rfl) dL_628 (qM_leaders_ok e2) ?_
  exact qw_eqi (pc := 631) X 755 dL_631 (by decide) (k σ' τ' hR)
theorem qwl_83 : Cond.methodLink RL 83 yX8_leader ∈ qx_tb := qx_tbOf (List.mem_of_getElem? (i := 655) (by decide +kernel)) (by decide +kernel)
theorem qwl_86 : Cond.methodLink RL 86 yX9_leader ∈ qx_tb := qx_tbOf (List.mem_of_getElem? (i := 1073) (by decide +kernel)) (by decide +kernel)
set_option maxHeartbeats 4000000 in
set_option maxRecDepth 100000 in
theorem qw_case16 {p : Program} {l : Launch} {e : Env} {s : State} {m : MethodId} {below : List Frame} {meth : Method} {c : Code} {b L : Nat} {xs : Nat → Int32} {D : va_G} {ci : Nat → ClassId} {a z a2 : Nat → Nat} {i : Nat} {σ τ : QS} (X : qw_X p s m meth c b L xs D ci a z a2) (hi : i + 7 ≤ L) (h : qR σ τ) (k : ∀ σ' τ', qR σ' τ' → qw_E p l e s m below meth c b D ci a a2 755 i [] σ' τ') : qw_E p l e s m below meth c b D ci a a2 636 i [] σ τ := by
  obtain ⟨r, e1, e2⟩ := qO_leader (by obtain ⟨n, f, w, sh, -, -, -, -, hx⟩ := h; exact hx.1) (xs (i + 1)) (xs (i + 2))
  refine qw_ax (pc := 636) X dL_636 ?_
  refine qw_arg (pc := 637) X 1 rfl (by omega) dL_637 dL_638 dL_639 dL_640 dL_641 ?_
  refine qw_arg (pc := 642) X 2 rfl (by omega) dL_642 dL_643 dL_644 dL_645 dL_646 ?_
  refine qw_callC (pc := 647) X (some (.int r), σ) [.int (xs (i + 1)), .int (xs (i + 2))] [] rfl rfl qcm_X8_leader qcv_X8_leader qwl_83 rfl (Nat.le_of_ble_eq_true rfl) (Nat.le_of_ble_eq_true rfl) (Nat.le_of_ble_eq_true rfl) dL_647 (qLP_leader_ok e1) ?_
  refine qw_am (pc := 650) X dL_650 ?_
  refine qw_arg (pc := 651) X 1 rfl (by omega) dL_651 dL_652 dL_653 dL_654 dL_655 ?_
  refine qw_arg (pc := 656) X 2 rfl (by omega) dL_656 dL_657 dL_658 dL_659 dL_660 ?_
  refine qw_callM (pc := 661) X (some (.int r), τ) [.int (xs (i + 1)), .int (xs (i + 2))] [.int r] rfl rfl qcm_X9_leader qcv_X9_leader qwl_86 rfl (Nat.le_of_ble_eq_true rfl) (Nat.le_of_ble_eq_true rfl) (Nat.le_of_ble_eq_true rfl) dL_661 (qM_leader_ok e2) ?_
  exact qw_eqi (pc := 664) X 755 dL_664 (by decide) (k σ τ h)
theorem qwl_87 : Cond.methodLink RL 87 yX8_type ∈ qx_tb := qx_tbOf (List.mem_of_getElem? (i := 663) (by decide +kernel)) (by decide +kernel)
theorem qwl_90 : Cond.methodLink RL 90 yX9_type ∈ qx_tb := qx_tbOf (List.mem_of_getElem? (i := 1078) (by decide +kernel)) (by decide +kernel)
set_option maxHeartbeats 4000000 in
set_option maxRecDepth 100000 in
theorem qw_case17 {p : Program} {l : Launch} {e : Env} {s : State} {m : MethodId} {below : List Frame} {meth : Method} {c : Code} {b L : Nat} {xs : Nat → Int32} {D : va_G} {ci : Nat → ClassId} {a z a2 : Nat → Nat} {i : Nat} {σ τ : QS} (X : qw_X p s m meth c b L xs D ci a z a2) (hi : i + 7 ≤ L) (h : qR σ τ) (k : ∀ σ' τ', qR σ' τ' → qw_E p l e s m below meth c b D ci a a2 755 i [] σ' τ') : qw_E p l e s m below meth c b D ci a a2 669 i [] σ τ := by
  obtain ⟨r, σ', τ', e1, e2, hR⟩ := qO_type h (xs (i + 1))
  refine qw_ax (pc := 669) X dL_669 ?_
  refine qw_arg (pc := 670) X 1 rfl (by omega) dL_670 dL_671 dL_672 dL_673 dL_674 ?_
  refine qw_callC (pc := 675) X (some (.int r), σ') [.int (xs (i + 1))] [] rfl rfl qcm_X8_type qcv_X8_type qwl_87 rfl (Nat.le_of_ble_eq_true rfl) (Nat.le_of_ble_eq_true rfl) (Nat.le_of_ble_eq_true rfl) dL_675 (qLP_type_ok e1) ?_
  refine qw_am (pc := 678) X dL_678 ?_
  refine qw_arg (pc := 679) X 1 rfl (by omega) dL_679 dL_680 dL_681 dL_682 dL_683 ?_
  refine qw_callM (pc := 684) X (some (.int r), τ') [.int (xs (i + 1))] [.int r] rfl rfl qcm_X9_type qcv_X9_type qwl_90 rfl (Nat.le_of_ble_eq_true rfl) (Nat.le_of_ble_eq_true rfl) (Nat.le_of_ble_eq_true rfl) dL_684 (qM_type_ok e2) ?_
  exact qw_eqi (pc := 687) X 755 dL_687 (by decide) (k σ' τ' hR)
theorem qwl_91 : Cond.methodLink RL 91 yX8_clear ∈ qx_tb := qx_tbOf (List.mem_of_getElem? (i := 671) (by decide +kernel)) (by decide +kernel)
theorem qwl_94 : Cond.methodLink RL 94 yX9_clear ∈ qx_tb := qx_tbOf (List.mem_of_getElem? (i := 1083) (by decide +kernel)) (by decide +kernel)
set_option maxHeartbeats 4000000 in
set_option maxRecDepth 100000 in
theorem qw_case18 {p : Program} {l : Launch} {e : Env} {s : State} {m : MethodId} {below : List Frame} {meth : Method} {c : Code} {b L : Nat} {xs : Nat → Int32} {D : va_G} {ci : Nat → ClassId} {a z a2 : Nat → Nat} {i : Nat} {σ τ : QS} (X : qw_X p s m meth c b L xs D ci a z a2) (hi : i + 7 ≤ L) (h : qR σ τ) (k : ∀ σ' τ', qR σ' τ' → qw_E p l e s m below meth c b D ci a a2 755 i [] σ' τ') : qw_E p l e s m below meth c b D ci a a2 692 i [] σ τ := by
  obtain ⟨r, σ', τ', e1, e2, hR⟩ := qO_clear h
  refine qw_ax (pc := 692) X dL_692 ?_
  refine qw_callC (pc := 693) X (some (.int r), σ') [] [] rfl rfl qcm_X8_clear qcv_X8_clear qwl_91 rfl (Nat.le_of_ble_eq_true rfl) (Nat.le_of_ble_eq_true rfl) (Nat.le_of_ble_eq_true rfl) dL_693 (qLP_clear_ok e1) ?_
  refine qw_am (pc := 696) X dL_696 ?_
  refine qw_callM (pc := 697) X (some (.int r), τ') [] [.int r] rfl rfl qcm_X9_clear qcv_X9_clear qwl_94 rfl (Nat.le_of_ble_eq_true rfl) (Nat.le_of_ble_eq_true rfl) (Nat.le_of_ble_eq_true rfl) dL_697 (qM_clear_ok e2) ?_
  exact qw_eqi (pc := 700) X 755 dL_700 (by decide) (k σ' τ' hR)
theorem qwl_95 : Cond.methodLink RL 95 yX8_run ∈ qx_tb := qx_tbOf (List.mem_of_getElem? (i := 675) (by decide +kernel)) (by decide +kernel)
theorem qwl_98 : Cond.methodLink RL 98 yX9_run ∈ qx_tb := qx_tbOf (List.mem_of_getElem? (i := 1087) (by decide +kernel)) (by decide +kernel)
set_option maxHeartbeats 4000000 in
set_option maxRecDepth 100000 in
theorem qw_case19 {p : Program} {l : Launch} {e : Env} {s : State} {m : MethodId} {below : List Frame} {meth : Method} {c : Code} {b L : Nat} {xs : Nat → Int32} {D : va_G} {ci : Nat → ClassId} {a z a2 : Nat → Nat} {i : Nat} {σ τ : QS} (X : qw_X p s m meth c b L xs D ci a z a2) (hi : i + 7 ≤ L) (h : qR σ τ) (k : ∀ σ' τ', qR σ' τ' → qw_E p l e s m below meth c b D ci a a2 755 i [] σ' τ') : qw_E p l e s m below meth c b D ci a a2 705 i [] σ τ := by
  obtain ⟨r, σ', τ', e1, e2, hR⟩ := qO_run h
  refine qw_ax (pc := 705) X dL_705 ?_
  refine qw_callC (pc := 706) X (some (.int r), σ') [] [] rfl rfl qcm_X8_run qcv_X8_run qwl_95 rfl (Nat.le_of_ble_eq_true rfl) (Nat.le_of_ble_eq_true rfl) (Nat.le_of_ble_eq_true rfl) dL_706 (qLP_run_ok e1) ?_
  refine qw_am (pc := 709) X dL_709 ?_
  refine qw_callM (pc := 710) X (some (.int r), τ') [] [.int r] rfl rfl qcm_X9_run qcv_X9_run qwl_98 rfl (Nat.le_of_ble_eq_true rfl) (Nat.le_of_ble_eq_true rfl) (Nat.le_of_ble_eq_true rfl) dL_710 (qM_run_ok e2) ?_
  exact qw_eqi (pc := 713) X 755 dL_713 (by decide) (k σ' τ' hR)
theorem qwl_99 : Cond.methodLink RL 99 yX8_count ∈ qx_tb := qx_tbOf (List.mem_of_getElem? (i := 770) (by decide +kernel)) (by decide +kernel)
theorem qwl_102 : Cond.methodLink RL 102 yX9_count ∈ qx_tb := qx_tbOf (List.mem_of_getElem? (i := 1136) (by decide +kernel)) (by decide +kernel)
set_option maxHeartbeats 4000000 in
set_option maxRecDepth 100000 in
theorem qw_case20 {p : Program} {l : Launch} {e : Env} {s : State} {m : MethodId} {below : List Frame} {meth : Method} {c : Code} {b L : Nat} {xs : Nat → Int32} {D : va_G} {ci : Nat → ClassId} {a z a2 : Nat → Nat} {i : Nat} {σ τ : QS} (X : qw_X p s m meth c b L xs D ci a z a2) (hi : i + 7 ≤ L) (h : qR σ τ) (k : ∀ σ' τ', qR σ' τ' → qw_E p l e s m below meth c b D ci a a2 755 i [] σ' τ') : qw_E p l e s m below meth c b D ci a a2 718 i [] σ τ := by
  obtain ⟨r, τ', e1, e2, hR⟩ := qO_count h (xs (i + 1))
  refine qw_ax (pc := 718) X dL_718 ?_
  refine qw_arg (pc := 719) X 1 rfl (by omega) dL_719 dL_720 dL_721 dL_722 dL_723 ?_
  refine qw_callC (pc := 724) X (some (.int r), σ) [.int (xs (i + 1))] [] rfl rfl qcm_X8_count qcv_X8_count qwl_99 rfl (Nat.le_of_ble_eq_true rfl) (Nat.le_of_ble_eq_true rfl) (Nat.le_of_ble_eq_true rfl) dL_724 (qLP_count_ok e1) ?_
  refine qw_am (pc := 727) X dL_727 ?_
  refine qw_arg (pc := 728) X 1 rfl (by omega) dL_728 dL_729 dL_730 dL_731 dL_732 ?_
  refine qw_callM (pc := 733) X (some (.int r), τ') [.int (xs (i + 1))] [.int r] rfl rfl qcm_X9_count qcv_X9_count qwl_102 rfl (Nat.le_of_ble_eq_true rfl) (Nat.le_of_ble_eq_true rfl) (Nat.le_of_ble_eq_true rfl) dL_733 (qM_count_ok e2) ?_
  exact qw_eqi (pc := 736) X 755 dL_736 (by decide) (k σ τ' hR)
theorem qwl_103 : Cond.methodLink RL 103 yX8_digest ∈ qx_tb := qx_tbOf (List.mem_of_getElem? (i := 792) (by decide +kernel)) (by decide +kernel)
theorem qwl_107 : Cond.methodLink RL 107 yX9_digest ∈ qx_tb := qx_tbOf (List.mem_of_getElem? (i := 1161) (by decide +kernel)) (by decide +kernel)
set_option maxHeartbeats 4000000 in
set_option maxRecDepth 100000 in
theorem qw_case21 {p : Program} {l : Launch} {e : Env} {s : State} {m : MethodId} {below : List Frame} {meth : Method} {c : Code} {b L : Nat} {xs : Nat → Int32} {D : va_G} {ci : Nat → ClassId} {a z a2 : Nat → Nat} {i : Nat} {σ τ : QS} (X : qw_X p s m meth c b L xs D ci a z a2) (hi : i + 7 ≤ L) (h : qR σ τ) (k : ∀ σ' τ', qR σ' τ' → qw_E p l e s m below meth c b D ci a a2 755 i [] σ' τ') : qw_E p l e s m below meth c b D ci a a2 741 i [] σ τ := by
  obtain ⟨r, τ', e1, e2, hR⟩ := qO_digest h
  refine qw_ax (pc := 741) X dL_741 ?_
  refine qw_callC (pc := 742) X (some (.long r), σ) [] [] rfl rfl qcm_X8_digest qcv_X8_digest qwl_103 rfl (Nat.le_of_ble_eq_true rfl) (Nat.le_of_ble_eq_true rfl) (Nat.le_of_ble_eq_true rfl) dL_742 (qLP_digest_ok e1) ?_
  refine qw_am (pc := 745) X dL_745 ?_
  refine qw_callM (pc := 746) X (some (.long r), τ') [] [.long r] rfl rfl qcm_X9_digest qcv_X9_digest qwl_107 rfl (Nat.le_of_ble_eq_true rfl) (Nat.le_of_ble_eq_true rfl) (Nat.le_of_ble_eq_true rfl) dL_746 (qM_digest_ok e2) ?_
  exact qw_eql (pc := 749) X 755 dL_749 dL_750 (by decide) (k σ τ' hR)
