theorem lw_in01 (x : Int) : sc_in (if x = 0 then 0 else 1) := by
  split
  · exact sc_zero
  · exact ⟨by decide, by decide⟩
set_option maxRecDepth 100000 in
theorem lw_c0 {p : Program} {l : Launch} {e : Env} {s : State} {m : MethodId} {below : List Frame} {meth : Method} {c : Code} {b L : Nat} {xs : Nat → Int32} {G : sc_G} {i : Nat} {μ : sc_M} {N : Nat} (C : lw_At p s m meth c b L xs) (hG : lw_G G s) (hL : L ≤ 3072) (hi : i + 6 ≤ L) (hiv : iv_ok μ N) (k : ∀ μ2 N2, iv_ok μ2 N2 → lw_W p l e s m below meth c b G i μ2 1208 []) : lw_W p l e s m below meth c b G i μ 188 [] := by
  obtain ⟨P1, hs1, hp1⟩ := pi_node l G 4 6 (xs (i + 1)).toInt (xs (i + 2)).toInt (sc_in_toInt (xs (i + 1))) (sc_in_toInt (xs (i + 2))) μ N hiv
  refine lw_aload1 C d_law_188 ?_
  refine lw_arg C hL 1 (by omega) d_law_189 d_law_190 d_law_191 d_law_192 d_law_193 ?_
  refine lw_arg C hL 2 (by omega) d_law_194 d_law_195 d_law_196 d_law_197 d_law_198 ?_
  refine lw_call C hG (cN := 4) (b9 := 0) (q := mq_Sc_node) (st := []) [.inl (xs (i + 1)).toInt, .inl (xs (i + 2)).toInt] d_law_199 (sc_mem_ok (by decide +kernel)) (sc_mem_ok (by decide +kernel)) (sc_mem_ok (by decide +kernel)) (sc_mem_ok (by decide +kernel)) (show mq_Sc_node.1.cls ≠ "java/lang/invoke/MethodHandle" ∧ mq_Sc_node.1.cls ≠ "java/lang/invoke/VarHandle" ∧ (parseMethodDescriptor mq_Sc_node.1.desc).map (fun d => d.parameters.length) = some 2 from by decide +kernel) (by decide) rfl rfl rfl rfl (by decide) hs1 (fun r1 μ1 h1 => ?_)
  obtain ⟨P2, hs2, hp2⟩ := hp1 r1 μ1 h1
  refine lw_aload2 C d_law_202 ?_
  refine lw_arg C hL 1 (by omega) d_law_203 d_law_204 d_law_205 d_law_206 d_law_207 ?_
  refine lw_arg C hL 2 (by omega) d_law_208 d_law_209 d_law_210 d_law_211 d_law_212 ?_
  refine lw_call C hG (cN := 5) (b9 := 18) (q := mq_Mo_node) (st := (sc_rr G r1).toList ++ []) [.inl (xs (i + 1)).toInt, .inl (xs (i + 2)).toInt] d_law_213 (sc_mem_ok (by decide +kernel)) (sc_mem_ok (by decide +kernel)) (sc_mem_ok (by decide +kernel)) (sc_mem_ok (by decide +kernel)) (show mq_Mo_node.1.cls ≠ "java/lang/invoke/MethodHandle" ∧ mq_Mo_node.1.cls ≠ "java/lang/invoke/VarHandle" ∧ (parseMethodDescriptor mq_Mo_node.1.desc).map (fun d => d.parameters.length) = some 2 from by decide +kernel) (by decide) rfl rfl rfl rfl (lw_rr G r1) hs2 (fun r2 μ2 h2 => ?_)
  obtain ⟨rfl, ⟨x, rfl⟩, N2, hiv2⟩ := hp2 r2 μ2 h2
  exact lw_cmpI (v := Int32.ofInt x) C d_law_216 (by decide) (k μ2 N2 hiv2)
set_option maxRecDepth 100000 in
theorem lw_c1 {p : Program} {l : Launch} {e : Env} {s : State} {m : MethodId} {below : List Frame} {meth : Method} {c : Code} {b L : Nat} {xs : Nat → Int32} {G : sc_G} {i : Nat} {μ : sc_M} {N : Nat} (C : lw_At p s m meth c b L xs) (hG : lw_G G s) (hL : L ≤ 3072) (hi : i + 6 ≤ L) (hiv : iv_ok μ N) (k : ∀ μ2 N2, iv_ok μ2 N2 → lw_W p l e s m below meth c b G i μ2 1208 []) : lw_W p l e s m below meth c b G i μ 221 [] := by
  obtain ⟨P1, hs1, hp1⟩ := pi_parent l G 5 6 (xs (i + 1)).toInt (xs (i + 2)).toInt (sc_in_toInt (xs (i + 1))) (sc_in_toInt (xs (i + 2))) μ N hiv
  refine lw_aload1 C d_law_221 ?_
  refine lw_arg C hL 1 (by omega) d_law_222 d_law_223 d_law_224 d_law_225 d_law_226 ?_
  refine lw_arg C hL 2 (by omega) d_law_227 d_law_228 d_law_229 d_law_230 d_law_231 ?_
  refine lw_call C hG (cN := 4) (b9 := 0) (q := mq_Sc_parent) (st := []) [.inl (xs (i + 1)).toInt, .inl (xs (i + 2)).toInt] d_law_232 (sc_mem_ok (by decide +kernel)) (sc_mem_ok (by decide +kernel)) (sc_mem_ok (by decide +kernel)) (sc_mem_ok (by decide +kernel)) (show mq_Sc_parent.1.cls ≠ "java/lang/invoke/MethodHandle" ∧ mq_Sc_parent.1.cls ≠ "java/lang/invoke/VarHandle" ∧ (parseMethodDescriptor mq_Sc_parent.1.desc).map (fun d => d.parameters.length) = some 2 from by decide +kernel) (by decide) rfl rfl rfl rfl (by decide) hs1 (fun r1 μ1 h1 => ?_)
  obtain ⟨P2, hs2, hp2⟩ := hp1 r1 μ1 h1
  refine lw_aload2 C d_law_235 ?_
  refine lw_arg C hL 1 (by omega) d_law_236 d_law_237 d_law_238 d_law_239 d_law_240 ?_
  refine lw_arg C hL 2 (by omega) d_law_241 d_law_242 d_law_243 d_law_244 d_law_245 ?_
  refine lw_call C hG (cN := 5) (b9 := 18) (q := mq_Mo_parent) (st := (sc_rr G r1).toList ++ []) [.inl (xs (i + 1)).toInt, .inl (xs (i + 2)).toInt] d_law_246 (sc_mem_ok (by decide +kernel)) (sc_mem_ok (by decide +kernel)) (sc_mem_ok (by decide +kernel)) (sc_mem_ok (by decide +kernel)) (show mq_Mo_parent.1.cls ≠ "java/lang/invoke/MethodHandle" ∧ mq_Mo_parent.1.cls ≠ "java/lang/invoke/VarHandle" ∧ (parseMethodDescriptor mq_Mo_parent.1.desc).map (fun d => d.parameters.length) = some 2 from by decide +kernel) (by decide) rfl rfl rfl rfl (lw_rr G r1) hs2 (fun r2 μ2 h2 => ?_)
  obtain ⟨rfl, ⟨x, rfl⟩, N2, hiv2⟩ := hp2 r2 μ2 h2
  exact lw_cmpI (v := Int32.ofInt x) C d_law_249 (by decide) (k μ2 N2 hiv2)
set_option maxRecDepth 100000 in
theorem lw_c2 {p : Program} {l : Launch} {e : Env} {s : State} {m : MethodId} {below : List Frame} {meth : Method} {c : Code} {b L : Nat} {xs : Nat → Int32} {G : sc_G} {i : Nat} {μ : sc_M} {N : Nat} (C : lw_At p s m meth c b L xs) (hG : lw_G G s) (hL : L ≤ 3072) (hi : i + 6 ≤ L) (hiv : iv_ok μ N) (k : ∀ μ2 N2, iv_ok μ2 N2 → lw_W p l e s m below meth c b G i μ2 1208 []) : lw_W p l e s m below meth c b G i μ 254 [] := by
  obtain ⟨P1, hs1, hp1⟩ := pi_sight l G 6 5 (xs (i + 1)).toInt (xs (i + 2)).toInt (sc_in_toInt (xs (i + 1))) (sc_in_toInt (xs (i + 2))) μ N hiv
  refine lw_aload1 C d_law_254 ?_
  refine lw_arg C hL 1 (by omega) d_law_255 d_law_256 d_law_257 d_law_258 d_law_259 ?_
  refine lw_arg C hL 2 (by omega) d_law_260 d_law_261 d_law_262 d_law_263 d_law_264 ?_
  refine lw_call C hG (cN := 4) (b9 := 0) (q := mq_Sc_sight) (st := []) [.inl (xs (i + 1)).toInt, .inl (xs (i + 2)).toInt] d_law_265 (sc_mem_ok (by decide +kernel)) (sc_mem_ok (by decide +kernel)) (sc_mem_ok (by decide +kernel)) (sc_mem_ok (by decide +kernel)) (show mq_Sc_sight.1.cls ≠ "java/lang/invoke/MethodHandle" ∧ mq_Sc_sight.1.cls ≠ "java/lang/invoke/VarHandle" ∧ (parseMethodDescriptor mq_Sc_sight.1.desc).map (fun d => d.parameters.length) = some 2 from by decide +kernel) (by decide) rfl rfl rfl rfl (by decide) hs1 (fun r1 μ1 h1 => ?_)
  obtain ⟨P2, hs2, hp2⟩ := hp1 r1 μ1 h1
  refine lw_aload2 C d_law_268 ?_
  refine lw_arg C hL 1 (by omega) d_law_269 d_law_270 d_law_271 d_law_272 d_law_273 ?_
  refine lw_arg C hL 2 (by omega) d_law_274 d_law_275 d_law_276 d_law_277 d_law_278 ?_
  refine lw_call C hG (cN := 5) (b9 := 18) (q := mq_Mo_sight) (st := (sc_rr G r1).toList ++ []) [.inl (xs (i + 1)).toInt, .inl (xs (i + 2)).toInt] d_law_279 (sc_mem_ok (by decide +kernel)) (sc_mem_ok (by decide +kernel)) (sc_mem_ok (by decide +kernel)) (sc_mem_ok (by decide +kernel)) (show mq_Mo_sight.1.cls ≠ "java/lang/invoke/MethodHandle" ∧ mq_Mo_sight.1.cls ≠ "java/lang/invoke/VarHandle" ∧ (parseMethodDescriptor mq_Mo_sight.1.desc).map (fun d => d.parameters.length) = some 2 from by decide +kernel) (by decide) rfl rfl rfl rfl (lw_rr G r1) hs2 (fun r2 μ2 h2 => ?_)
  obtain ⟨rfl, ⟨x, rfl⟩, N2, hiv2⟩ := hp2 r2 μ2 h2
  exact lw_cmpI (v := Int32.ofInt x) C d_law_282 (by decide) (k μ2 N2 hiv2)
set_option maxRecDepth 100000 in
theorem lw_c3 {p : Program} {l : Launch} {e : Env} {s : State} {m : MethodId} {below : List Frame} {meth : Method} {c : Code} {b L : Nat} {xs : Nat → Int32} {G : sc_G} {i : Nat} {μ : sc_M} {N : Nat} (C : lw_At p s m meth c b L xs) (hG : lw_G G s) (hL : L ≤ 3072) (hi : i + 6 ≤ L) (hiv : iv_ok μ N) (k : ∀ μ2 N2, iv_ok μ2 N2 → lw_W p l e s m below meth c b G i μ2 1208 []) : lw_W p l e s m below meth c b G i μ 287 [] := by
  obtain ⟨P1, hs1, hp1⟩ := pi_blind l G 6 5 (xs (i + 1)).toInt (xs (i + 2)).toInt (sc_in_toInt (xs (i + 1))) (sc_in_toInt (xs (i + 2))) μ N hiv
  refine lw_aload1 C d_law_287 ?_
  refine lw_arg C hL 1 (by omega) d_law_288 d_law_289 d_law_290 d_law_291 d_law_292 ?_
  refine lw_arg C hL 2 (by omega) d_law_293 d_law_294 d_law_295 d_law_296 d_law_297 ?_
  refine lw_call C hG (cN := 4) (b9 := 0) (q := mq_Sc_blind) (st := []) [.inl (xs (i + 1)).toInt, .inl (xs (i + 2)).toInt] d_law_298 (sc_mem_ok (by decide +kernel)) (sc_mem_ok (by decide +kernel)) (sc_mem_ok (by decide +kernel)) (sc_mem_ok (by decide +kernel)) (show mq_Sc_blind.1.cls ≠ "java/lang/invoke/MethodHandle" ∧ mq_Sc_blind.1.cls ≠ "java/lang/invoke/VarHandle" ∧ (parseMethodDescriptor mq_Sc_blind.1.desc).map (fun d => d.parameters.length) = some 2 from by decide +kernel) (by decide) rfl rfl rfl rfl (by decide) hs1 (fun r1 μ1 h1 => ?_)
  obtain ⟨P2, hs2, hp2⟩ := hp1 r1 μ1 h1
  refine lw_aload2 C d_law_301 ?_
  refine lw_arg C hL 1 (by omega) d_law_302 d_law_303 d_law_304 d_law_305 d_law_306 ?_
  refine lw_arg C hL 2 (by omega) d_law_307 d_law_308 d_law_309 d_law_310 d_law_311 ?_
  refine lw_call C hG (cN := 5) (b9 := 18) (q := mq_Mo_blind) (st := (sc_rr G r1).toList ++ []) [.inl (xs (i + 1)).toInt, .inl (xs (i + 2)).toInt] d_law_312 (sc_mem_ok (by decide +kernel)) (sc_mem_ok (by decide +kernel)) (sc_mem_ok (by decide +kernel)) (sc_mem_ok (by decide +kernel)) (show mq_Mo_blind.1.cls ≠ "java/lang/invoke/MethodHandle" ∧ mq_Mo_blind.1.cls ≠ "java/lang/invoke/VarHandle" ∧ (parseMethodDescriptor mq_Mo_blind.1.desc).map (fun d => d.parameters.length) = some 2 from by decide +kernel) (by decide) rfl rfl rfl rfl (lw_rr G r1) hs2 (fun r2 μ2 h2 => ?_)
  obtain ⟨rfl, ⟨x, rfl⟩, N2, hiv2⟩ := hp2 r2 μ2 h2
  exact lw_cmpI (v := Int32.ofInt x) C d_law_315 (by decide) (k μ2 N2 hiv2)
set_option maxRecDepth 100000 in
theorem lw_c4 {p : Program} {l : Launch} {e : Env} {s : State} {m : MethodId} {below : List Frame} {meth : Method} {c : Code} {b L : Nat} {xs : Nat → Int32} {G : sc_G} {i : Nat} {μ : sc_M} {N : Nat} (C : lw_At p s m meth c b L xs) (hG : lw_G G s) (hL : L ≤ 3072) (hi : i + 6 ≤ L) (hiv : iv_ok μ N) (k : ∀ μ2 N2, iv_ok μ2 N2 → lw_W p l e s m below meth c b G i μ2 1208 []) : lw_W p l e s m below meth c b G i μ 320 [] := by
  obtain ⟨P1, hs1, hp1⟩ := pi_weigh l G 7 6 (xs (i + 1)).toInt (xs (i + 2)).toInt (xs (i + 3)).toInt (xs (i + 4)).toInt (sc_in_toInt (xs (i + 1))) (sc_in_toInt (xs (i + 2))) (sc_in_toInt (xs (i + 3))) (sc_in_toInt (xs (i + 4))) μ N hiv
  refine lw_aload1 C d_law_320 ?_
  refine lw_arg C hL 1 (by omega) d_law_321 d_law_322 d_law_323 d_law_324 d_law_325 ?_
  refine lw_arg C hL 2 (by omega) d_law_326 d_law_327 d_law_328 d_law_329 d_law_330 ?_
  refine lw_arg C hL 3 (by omega) d_law_331 d_law_332 d_law_333 d_law_334 d_law_335 ?_
  refine lw_arg C hL 4 (by omega) d_law_336 d_law_337 d_law_338 d_law_339 d_law_340 ?_
  refine lw_call C hG (cN := 4) (b9 := 0) (q := mq_Sc_weigh) (st := []) [.inl (xs (i + 1)).toInt, .inl (xs (i + 2)).toInt, .inl (xs (i + 3)).toInt, .inl (xs (i + 4)).toInt] d_law_341 (sc_mem_ok (by decide +kernel)) (sc_mem_ok (by decide +kernel)) (sc_mem_ok (by decide +kernel)) (sc_mem_ok (by decide +kernel)) (show mq_Sc_weigh.1.cls ≠ "java/lang/invoke/MethodHandle" ∧ mq_Sc_weigh.1.cls ≠ "java/lang/invoke/VarHandle" ∧ (parseMethodDescriptor mq_Sc_weigh.1.desc).map (fun d => d.parameters.length) = some 4 from by decide +kernel) (by decide) rfl rfl rfl rfl (by decide) hs1 (fun r1 μ1 h1 => ?_)
  obtain ⟨P2, hs2, hp2⟩ := hp1 r1 μ1 h1
  refine lw_aload2 C d_law_344 ?_
  refine lw_arg C hL 1 (by omega) d_law_345 d_law_346 d_law_347 d_law_348 d_law_349 ?_
  refine lw_arg C hL 2 (by omega) d_law_350 d_law_351 d_law_352 d_law_353 d_law_354 ?_
  refine lw_arg C hL 3 (by omega) d_law_355 d_law_356 d_law_357 d_law_358 d_law_359 ?_
  refine lw_arg C hL 4 (by omega) d_law_360 d_law_361 d_law_362 d_law_363 d_law_364 ?_
  refine lw_call C hG (cN := 5) (b9 := 18) (q := mq_Mo_weigh) (st := (sc_rr G r1).toList ++ []) [.inl (xs (i + 1)).toInt, .inl (xs (i + 2)).toInt, .inl (xs (i + 3)).toInt, .inl (xs (i + 4)).toInt] d_law_365 (sc_mem_ok (by decide +kernel)) (sc_mem_ok (by decide +kernel)) (sc_mem_ok (by decide +kernel)) (sc_mem_ok (by decide +kernel)) (show mq_Mo_weigh.1.cls ≠ "java/lang/invoke/MethodHandle" ∧ mq_Mo_weigh.1.cls ≠ "java/lang/invoke/VarHandle" ∧ (parseMethodDescriptor mq_Mo_weigh.1.desc).map (fun d => d.parameters.length) = some 4 from by decide +kernel) (by decide) rfl rfl rfl rfl (lw_rr G r1) hs2 (fun r2 μ2 h2 => ?_)
  obtain ⟨rfl, ⟨x, rfl⟩, N2, hiv2⟩ := hp2 r2 μ2 h2
  exact lw_cmpI (v := Int32.ofInt x) C d_law_368 (by decide) (k μ2 N2 hiv2)
set_option maxRecDepth 100000 in
theorem lw_c5 {p : Program} {l : Launch} {e : Env} {s : State} {m : MethodId} {below : List Frame} {meth : Method} {c : Code} {b L : Nat} {xs : Nat → Int32} {G : sc_G} {i : Nat} {μ : sc_M} {N : Nat} (C : lw_At p s m meth c b L xs) (hG : lw_G G s) (hL : L ≤ 3072) (hi : i + 6 ≤ L) (hiv : iv_ok μ N) (k : ∀ μ2 N2, iv_ok μ2 N2 → lw_W p l e s m below meth c b G i μ2 1208 []) : lw_W p l e s m below meth c b G i μ 373 [] := by
  obtain ⟨P1, hs1, hp1⟩ := pi_weight l G 7 6 (xs (i + 1)).toInt (xs (i + 2)).toInt (xs (i + 3)).toInt (sc_in_toInt (xs (i + 1))) (sc_in_toInt (xs (i + 2))) (sc_in_toInt (xs (i + 3))) μ N hiv
  refine lw_aload1 C d_law_373 ?_
  refine lw_arg C hL 1 (by omega) d_law_374 d_law_375 d_law_376 d_law_377 d_law_378 ?_
  refine lw_arg C hL 2 (by omega) d_law_379 d_law_380 d_law_381 d_law_382 d_law_383 ?_
  refine lw_arg C hL 3 (by omega) d_law_384 d_law_385 d_law_386 d_law_387 d_law_388 ?_
  refine lw_call C hG (cN := 4) (b9 := 0) (q := mq_Sc_weight) (st := []) [.inl (xs (i + 1)).toInt, .inl (xs (i + 2)).toInt, .inl (xs (i + 3)).toInt] d_law_389 (sc_mem_ok (by decide +kernel)) (sc_mem_ok (by decide +kernel)) (sc_mem_ok (by decide +kernel)) (sc_mem_ok (by decide +kernel)) (show mq_Sc_weight.1.cls ≠ "java/lang/invoke/MethodHandle" ∧ mq_Sc_weight.1.cls ≠ "java/lang/invoke/VarHandle" ∧ (parseMethodDescriptor mq_Sc_weight.1.desc).map (fun d => d.parameters.length) = some 3 from by decide +kernel) (by decide) rfl rfl rfl rfl (by decide) hs1 (fun r1 μ1 h1 => ?_)
  obtain ⟨P2, hs2, hp2⟩ := hp1 r1 μ1 h1
  refine lw_aload2 C d_law_392 ?_
  refine lw_arg C hL 1 (by omega) d_law_393 d_law_394 d_law_395 d_law_396 d_law_397 ?_
  refine lw_arg C hL 2 (by omega) d_law_398 d_law_399 d_law_400 d_law_401 d_law_402 ?_
  refine lw_arg C hL 3 (by omega) d_law_403 d_law_404 d_law_405 d_law_406 d_law_407 ?_
  refine lw_call C hG (cN := 5) (b9 := 18) (q := mq_Mo_weight) (st := (sc_rr G r1).toList ++ []) [.inl (xs (i + 1)).toInt, .inl (xs (i + 2)).toInt, .inl (xs (i + 3)).toInt] d_law_408 (sc_mem_ok (by decide +kernel)) (sc_mem_ok (by decide +kernel)) (sc_mem_ok (by decide +kernel)) (sc_mem_ok (by decide +kernel)) (show mq_Mo_weight.1.cls ≠ "java/lang/invoke/MethodHandle" ∧ mq_Mo_weight.1.cls ≠ "java/lang/invoke/VarHandle" ∧ (parseMethodDescriptor mq_Mo_weight.1.desc).map (fun d => d.parameters.length) = some 3 from by decide +kernel) (by decide) rfl rfl rfl rfl (lw_rr G r1) hs2 (fun r2 μ2 h2 => ?_)
  obtain ⟨rfl, ⟨x, rfl⟩, N2, hiv2⟩ := hp2 r2 μ2 h2
  exact lw_cmpI (v := Int32.ofInt x) C d_law_411 (by decide) (k μ2 N2 hiv2)
set_option maxRecDepth 100000 in
theorem lw_c6 {p : Program} {l : Launch} {e : Env} {s : State} {m : MethodId} {below : List Frame} {meth : Method} {c : Code} {b L : Nat} {xs : Nat → Int32} {G : sc_G} {i : Nat} {μ : sc_M} {N : Nat} (C : lw_At p s m meth c b L xs) (hG : lw_G G s) (hL : L ≤ 3072) (hi : i + 6 ≤ L) (hiv : iv_ok μ N) (k : ∀ μ2 N2, iv_ok μ2 N2 → lw_W p l e s m below meth c b G i μ2 1208 []) : lw_W p l e s m below meth c b G i μ 416 [] := by
  obtain ⟨P1, hs1, hp1⟩ := pi_worth l G 7 6 (xs (i + 1)).toInt (xs (i + 2)).toInt (xs (i + 3)).toInt (sc_in_toInt (xs (i + 1))) (sc_in_toInt (xs (i + 2))) (sc_in_toInt (xs (i + 3))) μ N hiv
  refine lw_aload1 C d_law_416 ?_
  refine lw_arg C hL 1 (by omega) d_law_417 d_law_418 d_law_419 d_law_420 d_law_421 ?_
  refine lw_arg C hL 2 (by omega) d_law_422 d_law_423 d_law_424 d_law_425 d_law_426 ?_
  refine lw_arg C hL 3 (by omega) d_law_427 d_law_428 d_law_429 d_law_430 d_law_431 ?_
  refine lw_call C hG (cN := 4) (b9 := 0) (q := mq_Sc_worth) (st := []) [.inl (xs (i + 1)).toInt, .inl (xs (i + 2)).toInt, .inl (xs (i + 3)).toInt] d_law_432 (sc_mem_ok (by decide +kernel)) (sc_mem_ok (by decide +kernel)) (sc_mem_ok (by decide +kernel)) (sc_mem_ok (by decide +kernel)) (show mq_Sc_worth.1.cls ≠ "java/lang/invoke/MethodHandle" ∧ mq_Sc_worth.1.cls ≠ "java/lang/invoke/VarHandle" ∧ (parseMethodDescriptor mq_Sc_worth.1.desc).map (fun d => d.parameters.length) = some 3 from by decide +kernel) (by decide) rfl rfl rfl rfl (by decide) hs1 (fun r1 μ1 h1 => ?_)
  obtain ⟨P2, hs2, hp2⟩ := hp1 r1 μ1 h1
  refine lw_aload2 C d_law_435 ?_
  refine lw_arg C hL 1 (by omega) d_law_436 d_law_437 d_law_438 d_law_439 d_law_440 ?_
  refine lw_arg C hL 2 (by omega) d_law_441 d_law_442 d_law_443 d_law_444 d_law_445 ?_
  refine lw_arg C hL 3 (by omega) d_law_446 d_law_447 d_law_448 d_law_449 d_law_450 ?_
  refine lw_call C hG (cN := 5) (b9 := 18) (q := mq_Mo_worth) (st := (sc_rr G r1).toList ++ []) [.inl (xs (i + 1)).toInt, .inl (xs (i + 2)).toInt, .inl (xs (i + 3)).toInt] d_law_451 (sc_mem_ok (by decide +kernel)) (sc_mem_ok (by decide +kernel)) (sc_mem_ok (by decide +kernel)) (sc_mem_ok (by decide +kernel)) (show mq_Mo_worth.1.cls ≠ "java/lang/invoke/MethodHandle" ∧ mq_Mo_worth.1.cls ≠ "java/lang/invoke/VarHandle" ∧ (parseMethodDescriptor mq_Mo_worth.1.desc).map (fun d => d.parameters.length) = some 3 from by decide +kernel) (by decide) rfl rfl rfl rfl (lw_rr G r1) hs2 (fun r2 μ2 h2 => ?_)
  obtain ⟨rfl, ⟨x, rfl⟩, N2, hiv2⟩ := hp2 r2 μ2 h2
  exact lw_cmpI (v := Int32.ofInt x) C d_law_454 (by decide) (k μ2 N2 hiv2)
set_option maxRecDepth 100000 in
theorem lw_c7 {p : Program} {l : Launch} {e : Env} {s : State} {m : MethodId} {below : List Frame} {meth : Method} {c : Code} {b L : Nat} {xs : Nat → Int32} {G : sc_G} {i : Nat} {μ : sc_M} {N : Nat} (C : lw_At p s m meth c b L xs) (hG : lw_G G s) (hL : L ≤ 3072) (hi : i + 6 ≤ L) (hiv : iv_ok μ N) (k : ∀ μ2 N2, iv_ok μ2 N2 → lw_W p l e s m below meth c b G i μ2 1208 []) : lw_W p l e s m below meth c b G i μ 459 [] := by
  obtain ⟨P1, hs1, hp1⟩ := pi_firm l G 7 6 (xs (i + 1)).toInt (xs (i + 2)).toInt (sc_in_toInt (xs (i + 1))) (sc_in_toInt (xs (i + 2))) μ N hiv
  refine lw_aload1 C d_law_459 ?_
  refine lw_arg C hL 1 (by omega) d_law_460 d_law_461 d_law_462 d_law_463 d_law_464 ?_
  refine lw_arg C hL 2 (by omega) d_law_465 d_law_466 d_law_467 d_law_468 d_law_469 ?_
  refine lw_call C hG (cN := 4) (b9 := 0) (q := mq_Sc_firm) (st := []) [.inl (xs (i + 1)).toInt, .inl (xs (i + 2)).toInt] d_law_470 (sc_mem_ok (by decide +kernel)) (sc_mem_ok (by decide +kernel)) (sc_mem_ok (by decide +kernel)) (sc_mem_ok (by decide +kernel)) (show mq_Sc_firm.1.cls ≠ "java/lang/invoke/MethodHandle" ∧ mq_Sc_firm.1.cls ≠ "java/lang/invoke/VarHandle" ∧ (parseMethodDescriptor mq_Sc_firm.1.desc).map (fun d => d.parameters.length) = some 2 from by decide +kernel) (by decide) rfl rfl rfl rfl (by decide) hs1 (fun r1 μ1 h1 => ?_)
  obtain ⟨P2, hs2, hp2⟩ := hp1 r1 μ1 h1
  refine lw_aload2 C d_law_473 ?_
  refine lw_arg C hL 1 (by omega) d_law_474 d_law_475 d_law_476 d_law_477 d_law_478 ?_
  refine lw_arg C hL 2 (by omega) d_law_479 d_law_480 d_law_481 d_law_482 d_law_483 ?_
  refine lw_call C hG (cN := 5) (b9 := 18) (q := mq_Mo_firm) (st := (sc_rr G r1).toList ++ []) [.inl (xs (i + 1)).toInt, .inl (xs (i + 2)).toInt] d_law_484 (sc_mem_ok (by decide +kernel)) (sc_mem_ok (by decide +kernel)) (sc_mem_ok (by decide +kernel)) (sc_mem_ok (by decide +kernel)) (show mq_Mo_firm.1.cls ≠ "java/lang/invoke/MethodHandle" ∧ mq_Mo_firm.1.cls ≠ "java/lang/invoke/VarHandle" ∧ (parseMethodDescriptor mq_Mo_firm.1.desc).map (fun d => d.parameters.length) = some 2 from by decide +kernel) (by decide) rfl rfl rfl rfl (lw_rr G r1) hs2 (fun r2 μ2 h2 => ?_)
  obtain ⟨rfl, ⟨x, rfl⟩, N2, hiv2⟩ := hp2 r2 μ2 h2
  exact lw_cmpI (v := Int32.ofInt x) C d_law_487 (by decide) (k μ2 N2 hiv2)
set_option maxRecDepth 100000 in
theorem lw_c8 {p : Program} {l : Launch} {e : Env} {s : State} {m : MethodId} {below : List Frame} {meth : Method} {c : Code} {b L : Nat} {xs : Nat → Int32} {G : sc_G} {i : Nat} {μ : sc_M} {N : Nat} (C : lw_At p s m meth c b L xs) (hG : lw_G G s) (hL : L ≤ 3072) (hi : i + 6 ≤ L) (hiv : iv_ok μ N) (k : ∀ μ2 N2, iv_ok μ2 N2 → lw_W p l e s m below meth c b G i μ2 1208 []) : lw_W p l e s m below meth c b G i μ 492 [] := by
  obtain ⟨P1, hs1, hp1⟩ := pi_told l G 6 5 (xs (i + 1)).toInt (xs (i + 2)).toInt (sc_in_toInt (xs (i + 1))) (sc_in_toInt (xs (i + 2))) μ N hiv
  refine lw_aload1 C d_law_492 ?_
  refine lw_arg C hL 1 (by omega) d_law_493 d_law_494 d_law_495 d_law_496 d_law_497 ?_
  refine lw_arg C hL 2 (by omega) d_law_498 d_law_499 d_law_500 d_law_501 d_law_502 ?_
  refine lw_call C hG (cN := 4) (b9 := 0) (q := mq_Sc_told) (st := []) [.inl (xs (i + 1)).toInt, .inl (xs (i + 2)).toInt] d_law_503 (sc_mem_ok (by decide +kernel)) (sc_mem_ok (by decide +kernel)) (sc_mem_ok (by decide +kernel)) (sc_mem_ok (by decide +kernel)) (show mq_Sc_told.1.cls ≠ "java/lang/invoke/MethodHandle" ∧ mq_Sc_told.1.cls ≠ "java/lang/invoke/VarHandle" ∧ (parseMethodDescriptor mq_Sc_told.1.desc).map (fun d => d.parameters.length) = some 2 from by decide +kernel) (by decide) rfl rfl rfl rfl (by decide) hs1 (fun r1 μ1 h1 => ?_)
  obtain ⟨P2, hs2, hp2⟩ := hp1 r1 μ1 h1
  refine lw_aload2 C d_law_506 ?_
  refine lw_arg C hL 1 (by omega) d_law_507 d_law_508 d_law_509 d_law_510 d_law_511 ?_
  refine lw_arg C hL 2 (by omega) d_law_512 d_law_513 d_law_514 d_law_515 d_law_516 ?_
  refine lw_call C hG (cN := 5) (b9 := 18) (q := mq_Mo_told) (st := (sc_rr G r1).toList ++ []) [.inl (xs (i + 1)).toInt, .inl (xs (i + 2)).toInt] d_law_517 (sc_mem_ok (by decide +kernel)) (sc_mem_ok (by decide +kernel)) (sc_mem_ok (by decide +kernel)) (sc_mem_ok (by decide +kernel)) (show mq_Mo_told.1.cls ≠ "java/lang/invoke/MethodHandle" ∧ mq_Mo_told.1.cls ≠ "java/lang/invoke/VarHandle" ∧ (parseMethodDescriptor mq_Mo_told.1.desc).map (fun d => d.parameters.length) = some 2 from by decide +kernel) (by decide) rfl rfl rfl rfl (lw_rr G r1) hs2 (fun r2 μ2 h2 => ?_)
  obtain ⟨rfl, ⟨x, rfl⟩, N2, hiv2⟩ := hp2 r2 μ2 h2
  exact lw_cmpI (v := Int32.ofInt x) C d_law_520 (by decide) (k μ2 N2 hiv2)
set_option maxRecDepth 100000 in
theorem lw_c9 {p : Program} {l : Launch} {e : Env} {s : State} {m : MethodId} {below : List Frame} {meth : Method} {c : Code} {b L : Nat} {xs : Nat → Int32} {G : sc_G} {i : Nat} {μ : sc_M} {N : Nat} (C : lw_At p s m meth c b L xs) (hG : lw_G G s) (hL : L ≤ 3072) (hi : i + 6 ≤ L) (hiv : iv_ok μ N) (k : ∀ μ2 N2, iv_ok μ2 N2 → lw_W p l e s m below meth c b G i μ2 1208 []) : lw_W p l e s m below meth c b G i μ 525 [] := by
  obtain ⟨P1, hs1, hp1⟩ := pi_mark l G 6 6 (xs (i + 1)).toInt (xs (i + 2)).toInt (sc_in_toInt (xs (i + 1))) (sc_in_toInt (xs (i + 2))) μ N hiv
  refine lw_aload1 C d_law_525 ?_
  refine lw_arg C hL 1 (by omega) d_law_526 d_law_527 d_law_528 d_law_529 d_law_530 ?_
  refine lw_arg C hL 2 (by omega) d_law_531 d_law_532 d_law_533 d_law_534 d_law_535 ?_
  refine lw_call C hG (cN := 4) (b9 := 0) (q := mq_Sc_mark) (st := []) [.inl (xs (i + 1)).toInt, .inl (xs (i + 2)).toInt] d_law_536 (sc_mem_ok (by decide +kernel)) (sc_mem_ok (by decide +kernel)) (sc_mem_ok (by decide +kernel)) (sc_mem_ok (by decide +kernel)) (show mq_Sc_mark.1.cls ≠ "java/lang/invoke/MethodHandle" ∧ mq_Sc_mark.1.cls ≠ "java/lang/invoke/VarHandle" ∧ (parseMethodDescriptor mq_Sc_mark.1.desc).map (fun d => d.parameters.length) = some 2 from by decide +kernel) (by decide) rfl rfl rfl rfl (by decide) hs1 (fun r1 μ1 h1 => ?_)
  obtain ⟨P2, hs2, hp2⟩ := hp1 r1 μ1 h1
  refine lw_aload2 C d_law_539 ?_
  refine lw_arg C hL 1 (by omega) d_law_540 d_law_541 d_law_542 d_law_543 d_law_544 ?_
  refine lw_arg C hL 2 (by omega) d_law_545 d_law_546 d_law_547 d_law_548 d_law_549 ?_
  refine lw_call C hG (cN := 5) (b9 := 18) (q := mq_Mo_mark) (st := (sc_rr G r1).toList ++ []) [.inl (xs (i + 1)).toInt, .inl (xs (i + 2)).toInt] d_law_550 (sc_mem_ok (by decide +kernel)) (sc_mem_ok (by decide +kernel)) (sc_mem_ok (by decide +kernel)) (sc_mem_ok (by decide +kernel)) (show mq_Mo_mark.1.cls ≠ "java/lang/invoke/MethodHandle" ∧ mq_Mo_mark.1.cls ≠ "java/lang/invoke/VarHandle" ∧ (parseMethodDescriptor mq_Mo_mark.1.desc).map (fun d => d.parameters.length) = some 2 from by decide +kernel) (by decide) rfl rfl rfl rfl (lw_rr G r1) hs2 (fun r2 μ2 h2 => ?_)
  obtain ⟨rfl, ⟨x, rfl⟩, N2, hiv2⟩ := hp2 r2 μ2 h2
  exact lw_cmpI (v := Int32.ofInt x) C d_law_553 (by decide) (k μ2 N2 hiv2)
set_option maxRecDepth 100000 in
theorem lw_c10 {p : Program} {l : Launch} {e : Env} {s : State} {m : MethodId} {below : List Frame} {meth : Method} {c : Code} {b L : Nat} {xs : Nat → Int32} {G : sc_G} {i : Nat} {μ : sc_M} {N : Nat} (C : lw_At p s m meth c b L xs) (hG : lw_G G s) (hL : L ≤ 3072) (hi : i + 6 ≤ L) (hiv : iv_ok μ N) (k : ∀ μ2 N2, iv_ok μ2 N2 → lw_W p l e s m below meth c b G i μ2 1208 []) : lw_W p l e s m below meth c b G i μ 558 [] := by
  obtain ⟨P1, hs1, hp1⟩ := pi_mean l G 7 6 (xs (i + 1)).toInt (sc_in_toInt (xs (i + 1))) μ N hiv
  refine lw_aload1 C d_law_558 ?_
  refine lw_arg C hL 1 (by omega) d_law_559 d_law_560 d_law_561 d_law_562 d_law_563 ?_
  refine lw_call C hG (cN := 4) (b9 := 0) (q := mq_Sc_mean) (st := []) [.inl (xs (i + 1)).toInt] d_law_564 (sc_mem_ok (by decide +kernel)) (sc_mem_ok (by decide +kernel)) (sc_mem_ok (by decide +kernel)) (sc_mem_ok (by decide +kernel)) (show mq_Sc_mean.1.cls ≠ "java/lang/invoke/MethodHandle" ∧ mq_Sc_mean.1.cls ≠ "java/lang/invoke/VarHandle" ∧ (parseMethodDescriptor mq_Sc_mean.1.desc).map (fun d => d.parameters.length) = some 1 from by decide +kernel) (by decide) rfl rfl rfl rfl (by decide) hs1 (fun r1 μ1 h1 => ?_)
  obtain ⟨P2, hs2, hp2⟩ := hp1 r1 μ1 h1
  refine lw_aload2 C d_law_567 ?_
  refine lw_arg C hL 1 (by omega) d_law_568 d_law_569 d_law_570 d_law_571 d_law_572 ?_
  refine lw_call C hG (cN := 5) (b9 := 18) (q := mq_Mo_mean) (st := (sc_rr G r1).toList ++ []) [.inl (xs (i + 1)).toInt] d_law_573 (sc_mem_ok (by decide +kernel)) (sc_mem_ok (by decide +kernel)) (sc_mem_ok (by decide +kernel)) (sc_mem_ok (by decide +kernel)) (show mq_Mo_mean.1.cls ≠ "java/lang/invoke/MethodHandle" ∧ mq_Mo_mean.1.cls ≠ "java/lang/invoke/VarHandle" ∧ (parseMethodDescriptor mq_Mo_mean.1.desc).map (fun d => d.parameters.length) = some 1 from by decide +kernel) (by decide) rfl rfl rfl rfl (lw_rr G r1) hs2 (fun r2 μ2 h2 => ?_)
  obtain ⟨rfl, ⟨x, rfl⟩, N2, hiv2⟩ := hp2 r2 μ2 h2
  exact lw_cmpI (v := Int32.ofInt x) C d_law_576 (by decide) (k μ2 N2 hiv2)
set_option maxRecDepth 100000 in
theorem lw_c11 {p : Program} {l : Launch} {e : Env} {s : State} {m : MethodId} {below : List Frame} {meth : Method} {c : Code} {b L : Nat} {xs : Nat → Int32} {G : sc_G} {i : Nat} {μ : sc_M} {N : Nat} (C : lw_At p s m meth c b L xs) (hG : lw_G G s) (hL : L ≤ 3072) (hi : i + 6 ≤ L) (hiv : iv_ok μ N) (k : ∀ μ2 N2, iv_ok μ2 N2 → lw_W p l e s m below meth c b G i μ2 1208 []) : lw_W p l e s m below meth c b G i μ 581 [] := by
  obtain ⟨P1, hs1, hp1⟩ := pi_meanSights l G 7 7  μ N hiv
  refine lw_aload1 C d_law_581 ?_
  refine lw_call C hG (cN := 4) (b9 := 0) (q := mq_Sc_meanSights) (st := []) [] d_law_582 (sc_mem_ok (by decide +kernel)) (sc_mem_ok (by decide +kernel)) (sc_mem_ok (by decide +kernel)) (sc_mem_ok (by decide +kernel)) (show mq_Sc_meanSights.1.cls ≠ "java/lang/invoke/MethodHandle" ∧ mq_Sc_meanSights.1.cls ≠ "java/lang/invoke/VarHandle" ∧ (parseMethodDescriptor mq_Sc_meanSights.1.desc).map (fun d => d.parameters.length) = some 0 from by decide +kernel) (by decide) rfl rfl rfl rfl (by decide) hs1 (fun r1 μ1 h1 => ?_)
  obtain ⟨P2, hs2, hp2⟩ := hp1 r1 μ1 h1
  refine lw_aload2 C d_law_585 ?_
  refine lw_call C hG (cN := 5) (b9 := 18) (q := mq_Mo_meanSights) (st := (sc_rr G r1).toList ++ []) [] d_law_586 (sc_mem_ok (by decide +kernel)) (sc_mem_ok (by decide +kernel)) (sc_mem_ok (by decide +kernel)) (sc_mem_ok (by decide +kernel)) (show mq_Mo_meanSights.1.cls ≠ "java/lang/invoke/MethodHandle" ∧ mq_Mo_meanSights.1.cls ≠ "java/lang/invoke/VarHandle" ∧ (parseMethodDescriptor mq_Mo_meanSights.1.desc).map (fun d => d.parameters.length) = some 0 from by decide +kernel) (by decide) rfl rfl rfl rfl (lw_rr G r1) hs2 (fun r2 μ2 h2 => ?_)
  obtain ⟨rfl, ⟨x, rfl⟩, N2, hiv2⟩ := hp2 r2 μ2 h2
  exact lw_cmpI (v := Int32.ofInt x) C d_law_589 (by decide) (k μ2 N2 hiv2)
set_option maxRecDepth 100000 in
theorem lw_c12 {p : Program} {l : Launch} {e : Env} {s : State} {m : MethodId} {below : List Frame} {meth : Method} {c : Code} {b L : Nat} {xs : Nat → Int32} {G : sc_G} {i : Nat} {μ : sc_M} {N : Nat} (C : lw_At p s m meth c b L xs) (hG : lw_G G s) (hL : L ≤ 3072) (hi : i + 6 ≤ L) (hiv : iv_ok μ N) (k : ∀ μ2 N2, iv_ok μ2 N2 → lw_W p l e s m below meth c b G i μ2 1208 []) : lw_W p l e s m below meth c b G i μ 594 [] := by
  obtain ⟨P1, hs1, hp1⟩ := pi_best l G 0 3  μ N hiv
  refine lw_aload1 C d_law_594 ?_
  refine lw_call C hG (cN := 4) (b9 := 0) (q := mq_Sc_best) (st := []) [] d_law_595 (sc_mem_ok (by decide +kernel)) (sc_mem_ok (by decide +kernel)) (sc_mem_ok (by decide +kernel)) (sc_mem_ok (by decide +kernel)) (show mq_Sc_best.1.cls ≠ "java/lang/invoke/MethodHandle" ∧ mq_Sc_best.1.cls ≠ "java/lang/invoke/VarHandle" ∧ (parseMethodDescriptor mq_Sc_best.1.desc).map (fun d => d.parameters.length) = some 0 from by decide +kernel) (by decide) rfl rfl rfl rfl (by decide) hs1 (fun r1 μ1 h1 => ?_)
  obtain ⟨P2, hs2, hp2⟩ := hp1 r1 μ1 h1
  refine lw_aload2 C d_law_598 ?_
  refine lw_call C hG (cN := 5) (b9 := 18) (q := mq_Mo_best) (st := (sc_rr G r1).toList ++ []) [] d_law_599 (sc_mem_ok (by decide +kernel)) (sc_mem_ok (by decide +kernel)) (sc_mem_ok (by decide +kernel)) (sc_mem_ok (by decide +kernel)) (show mq_Mo_best.1.cls ≠ "java/lang/invoke/MethodHandle" ∧ mq_Mo_best.1.cls ≠ "java/lang/invoke/VarHandle" ∧ (parseMethodDescriptor mq_Mo_best.1.desc).map (fun d => d.parameters.length) = some 0 from by decide +kernel) (by decide) rfl rfl rfl rfl (lw_rr G r1) hs2 (fun r2 μ2 h2 => ?_)
  obtain ⟨rfl, ⟨x, rfl⟩, N2, hiv2⟩ := hp2 r2 μ2 h2
  exact lw_cmpI (v := Int32.ofInt x) C d_law_602 (by decide) (k μ2 N2 hiv2)
set_option maxRecDepth 100000 in
theorem lw_c13 {p : Program} {l : Launch} {e : Env} {s : State} {m : MethodId} {below : List Frame} {meth : Method} {c : Code} {b L : Nat} {xs : Nat → Int32} {G : sc_G} {i : Nat} {μ : sc_M} {N : Nat} (C : lw_At p s m meth c b L xs) (hG : lw_G G s) (hL : L ≤ 3072) (hi : i + 6 ≤ L) (hiv : iv_ok μ N) (k : ∀ μ2 N2, iv_ok μ2 N2 → lw_W p l e s m below meth c b G i μ2 1208 []) : lw_W p l e s m below meth c b G i μ 607 [] := by
  obtain ⟨P1, hs1, hp1⟩ := pi_does l G 3 4 (xs (i + 1)).toInt (xs (i + 2)).toInt (sc_in_toInt (xs (i + 1))) (sc_in_toInt (xs (i + 2))) μ N hiv
  refine lw_aload1 C d_law_607 ?_
  refine lw_arg C hL 1 (by omega) d_law_608 d_law_609 d_law_610 d_law_611 d_law_612 ?_
  refine lw_arg C hL 2 (by omega) d_law_613 d_law_614 d_law_615 d_law_616 d_law_617 ?_
  refine lw_call C hG (cN := 4) (b9 := 0) (q := mq_Sc_does) (st := []) [.inl (xs (i + 1)).toInt, .inl (xs (i + 2)).toInt] d_law_618 (sc_mem_ok (by decide +kernel)) (sc_mem_ok (by decide +kernel)) (sc_mem_ok (by decide +kernel)) (sc_mem_ok (by decide +kernel)) (show mq_Sc_does.1.cls ≠ "java/lang/invoke/MethodHandle" ∧ mq_Sc_does.1.cls ≠ "java/lang/invoke/VarHandle" ∧ (parseMethodDescriptor mq_Sc_does.1.desc).map (fun d => d.parameters.length) = some 2 from by decide +kernel) (by decide) rfl rfl rfl rfl (by decide) hs1 (fun r1 μ1 h1 => ?_)
  obtain ⟨P2, hs2, hp2⟩ := hp1 r1 μ1 h1
  refine lw_aload2 C d_law_621 ?_
  refine lw_arg C hL 1 (by omega) d_law_622 d_law_623 d_law_624 d_law_625 d_law_626 ?_
  refine lw_arg C hL 2 (by omega) d_law_627 d_law_628 d_law_629 d_law_630 d_law_631 ?_
  refine lw_call C hG (cN := 5) (b9 := 18) (q := mq_Mo_does) (st := (sc_rr G r1).toList ++ []) [.inl (xs (i + 1)).toInt, .inl (xs (i + 2)).toInt] d_law_632 (sc_mem_ok (by decide +kernel)) (sc_mem_ok (by decide +kernel)) (sc_mem_ok (by decide +kernel)) (sc_mem_ok (by decide +kernel)) (show mq_Mo_does.1.cls ≠ "java/lang/invoke/MethodHandle" ∧ mq_Mo_does.1.cls ≠ "java/lang/invoke/VarHandle" ∧ (parseMethodDescriptor mq_Mo_does.1.desc).map (fun d => d.parameters.length) = some 2 from by decide +kernel) (by decide) rfl rfl rfl rfl (lw_rr G r1) hs2 (fun r2 μ2 h2 => ?_)
  obtain ⟨rfl, ⟨x, rfl⟩, N2, hiv2⟩ := hp2 r2 μ2 h2
  exact lw_cmpI (v := Int32.ofInt x) C d_law_635 (by decide) (k μ2 N2 hiv2)
set_option maxRecDepth 100000 in
theorem lw_c14 {p : Program} {l : Launch} {e : Env} {s : State} {m : MethodId} {below : List Frame} {meth : Method} {c : Code} {b L : Nat} {xs : Nat → Int32} {G : sc_G} {i : Nat} {μ : sc_M} {N : Nat} (C : lw_At p s m meth c b L xs) (hG : lw_G G s) (hL : L ≤ 3072) (hi : i + 6 ≤ L) (hiv : iv_ok μ N) (k : ∀ μ2 N2, iv_ok μ2 N2 → lw_W p l e s m below meth c b G i μ2 1208 []) : lw_W p l e s m below meth c b G i μ 640 [] := by
  obtain ⟨P1, hs1, hp1⟩ := pi_bestForgetting l G 2 3  μ N hiv
  refine lw_aload1 C d_law_640 ?_
  refine lw_call C hG (cN := 4) (b9 := 0) (q := mq_Sc_bestForgetting) (st := []) [] d_law_641 (sc_mem_ok (by decide +kernel)) (sc_mem_ok (by decide +kernel)) (sc_mem_ok (by decide +kernel)) (sc_mem_ok (by decide +kernel)) (show mq_Sc_bestForgetting.1.cls ≠ "java/lang/invoke/MethodHandle" ∧ mq_Sc_bestForgetting.1.cls ≠ "java/lang/invoke/VarHandle" ∧ (parseMethodDescriptor mq_Sc_bestForgetting.1.desc).map (fun d => d.parameters.length) = some 0 from by decide +kernel) (by decide) rfl rfl rfl rfl (by decide) hs1 (fun r1 μ1 h1 => ?_)
  obtain ⟨P2, hs2, hp2⟩ := hp1 r1 μ1 h1
  refine lw_aload2 C d_law_644 ?_
  refine lw_call C hG (cN := 5) (b9 := 18) (q := mq_Mo_bestForgetting) (st := (sc_rr G r1).toList ++ []) [] d_law_645 (sc_mem_ok (by decide +kernel)) (sc_mem_ok (by decide +kernel)) (sc_mem_ok (by decide +kernel)) (sc_mem_ok (by decide +kernel)) (show mq_Mo_bestForgetting.1.cls ≠ "java/lang/invoke/MethodHandle" ∧ mq_Mo_bestForgetting.1.cls ≠ "java/lang/invoke/VarHandle" ∧ (parseMethodDescriptor mq_Mo_bestForgetting.1.desc).map (fun d => d.parameters.length) = some 0 from by decide +kernel) (by decide) rfl rfl rfl rfl (lw_rr G r1) hs2 (fun r2 μ2 h2 => ?_)
  obtain ⟨rfl, ⟨x, rfl⟩, N2, hiv2⟩ := hp2 r2 μ2 h2
  exact lw_cmpI (v := Int32.ofInt x) C d_law_648 (by decide) (k μ2 N2 hiv2)
set_option maxRecDepth 100000 in
theorem lw_c15 {p : Program} {l : Launch} {e : Env} {s : State} {m : MethodId} {below : List Frame} {meth : Method} {c : Code} {b L : Nat} {xs : Nat → Int32} {G : sc_G} {i : Nat} {μ : sc_M} {N : Nat} (C : lw_At p s m meth c b L xs) (hG : lw_G G s) (hL : L ≤ 3072) (hi : i + 6 ≤ L) (hiv : iv_ok μ N) (k : ∀ μ2 N2, iv_ok μ2 N2 → lw_W p l e s m below meth c b G i μ2 1208 []) : lw_W p l e s m below meth c b G i μ 653 [] := by
  obtain ⟨P1, hs1, hp1⟩ := pi_lost l G 0 3  μ N hiv
  refine lw_aload1 C d_law_653 ?_
  refine lw_call C hG (cN := 4) (b9 := 0) (q := mq_Sc_lost) (st := []) [] d_law_654 (sc_mem_ok (by decide +kernel)) (sc_mem_ok (by decide +kernel)) (sc_mem_ok (by decide +kernel)) (sc_mem_ok (by decide +kernel)) (show mq_Sc_lost.1.cls ≠ "java/lang/invoke/MethodHandle" ∧ mq_Sc_lost.1.cls ≠ "java/lang/invoke/VarHandle" ∧ (parseMethodDescriptor mq_Sc_lost.1.desc).map (fun d => d.parameters.length) = some 0 from by decide +kernel) (by decide) rfl rfl rfl rfl (by decide) hs1 (fun r1 μ1 h1 => ?_)
  obtain ⟨P2, hs2, hp2⟩ := hp1 r1 μ1 h1
  refine lw_aload2 C d_law_657 ?_
  refine lw_call C hG (cN := 5) (b9 := 18) (q := mq_Mo_lost) (st := (sc_rr G r1).toList ++ []) [] d_law_658 (sc_mem_ok (by decide +kernel)) (sc_mem_ok (by decide +kernel)) (sc_mem_ok (by decide +kernel)) (sc_mem_ok (by decide +kernel)) (show mq_Mo_lost.1.cls ≠ "java/lang/invoke/MethodHandle" ∧ mq_Mo_lost.1.cls ≠ "java/lang/invoke/VarHandle" ∧ (parseMethodDescriptor mq_Mo_lost.1.desc).map (fun d => d.parameters.length) = some 0 from by decide +kernel) (by decide) rfl rfl rfl rfl (lw_rr G r1) hs2 (fun r2 μ2 h2 => ?_)
  obtain ⟨rfl, ⟨x, rfl⟩, N2, hiv2⟩ := hp2 r2 μ2 h2
  exact lw_cmpI (v := Int32.ofInt x) C d_law_661 (by decide) (k μ2 N2 hiv2)
set_option maxRecDepth 100000 in
theorem lw_c16 {p : Program} {l : Launch} {e : Env} {s : State} {m : MethodId} {below : List Frame} {meth : Method} {c : Code} {b L : Nat} {xs : Nat → Int32} {G : sc_G} {i : Nat} {μ : sc_M} {N : Nat} (C : lw_At p s m meth c b L xs) (hG : lw_G G s) (hL : L ≤ 3072) (hi : i + 6 ≤ L) (hiv : iv_ok μ N) (k : ∀ μ2 N2, iv_ok μ2 N2 → lw_W p l e s m below meth c b G i μ2 1208 []) : lw_W p l e s m below meth c b G i μ 666 [] := by
  obtain ⟨P1, hs1, hp1⟩ := pi_worthOf l G 0 3 (xs (i + 1)).toInt (xs (i + 2)).toInt (sc_in_toInt (xs (i + 1))) (sc_in_toInt (xs (i + 2))) μ N hiv
  refine lw_aload1 C d_law_666 ?_
  refine lw_arg C hL 1 (by omega) d_law_667 d_law_668 d_law_669 d_law_670 d_law_671 ?_
  refine lw_arg C hL 2 (by omega) d_law_672 d_law_673 d_law_674 d_law_675 d_law_676 ?_
  refine lw_call C hG (cN := 4) (b9 := 0) (q := mq_Sc_worthOf) (st := []) [.inl (xs (i + 1)).toInt, .inl (xs (i + 2)).toInt] d_law_677 (sc_mem_ok (by decide +kernel)) (sc_mem_ok (by decide +kernel)) (sc_mem_ok (by decide +kernel)) (sc_mem_ok (by decide +kernel)) (show mq_Sc_worthOf.1.cls ≠ "java/lang/invoke/MethodHandle" ∧ mq_Sc_worthOf.1.cls ≠ "java/lang/invoke/VarHandle" ∧ (parseMethodDescriptor mq_Sc_worthOf.1.desc).map (fun d => d.parameters.length) = some 2 from by decide +kernel) (by decide) rfl rfl rfl rfl (by decide) hs1 (fun r1 μ1 h1 => ?_)
  obtain ⟨P2, hs2, hp2⟩ := hp1 r1 μ1 h1
  refine lw_aload2 C d_law_680 ?_
  refine lw_arg C hL 1 (by omega) d_law_681 d_law_682 d_law_683 d_law_684 d_law_685 ?_
  refine lw_arg C hL 2 (by omega) d_law_686 d_law_687 d_law_688 d_law_689 d_law_690 ?_
  refine lw_call C hG (cN := 5) (b9 := 18) (q := mq_Mo_worthOf) (st := (sc_rr G r1).toList ++ []) [.inl (xs (i + 1)).toInt, .inl (xs (i + 2)).toInt] d_law_691 (sc_mem_ok (by decide +kernel)) (sc_mem_ok (by decide +kernel)) (sc_mem_ok (by decide +kernel)) (sc_mem_ok (by decide +kernel)) (show mq_Mo_worthOf.1.cls ≠ "java/lang/invoke/MethodHandle" ∧ mq_Mo_worthOf.1.cls ≠ "java/lang/invoke/VarHandle" ∧ (parseMethodDescriptor mq_Mo_worthOf.1.desc).map (fun d => d.parameters.length) = some 2 from by decide +kernel) (by decide) rfl rfl rfl rfl (lw_rr G r1) hs2 (fun r2 μ2 h2 => ?_)
  obtain ⟨rfl, ⟨x, rfl⟩, N2, hiv2⟩ := hp2 r2 μ2 h2
  exact lw_cmpI (v := Int32.ofInt x) C d_law_694 (by decide) (k μ2 N2 hiv2)
set_option maxRecDepth 100000 in
theorem lw_c17 {p : Program} {l : Launch} {e : Env} {s : State} {m : MethodId} {below : List Frame} {meth : Method} {c : Code} {b L : Nat} {xs : Nat → Int32} {G : sc_G} {i : Nat} {μ : sc_M} {N : Nat} (C : lw_At p s m meth c b L xs) (hG : lw_G G s) (hL : L ≤ 3072) (hi : i + 6 ≤ L) (hiv : iv_ok μ N) (k : ∀ μ2 N2, iv_ok μ2 N2 → lw_W p l e s m below meth c b G i μ2 1208 []) : lw_W p l e s m below meth c b G i μ 699 [] := by
  obtain ⟨P1, hs1, hp1⟩ := pi_knowing l G 0 3  μ N hiv
  refine lw_aload1 C d_law_699 ?_
  refine lw_call C hG (cN := 4) (b9 := 0) (q := mq_Sc_knowing) (st := []) [] d_law_700 (sc_mem_ok (by decide +kernel)) (sc_mem_ok (by decide +kernel)) (sc_mem_ok (by decide +kernel)) (sc_mem_ok (by decide +kernel)) (show mq_Sc_knowing.1.cls ≠ "java/lang/invoke/MethodHandle" ∧ mq_Sc_knowing.1.cls ≠ "java/lang/invoke/VarHandle" ∧ (parseMethodDescriptor mq_Sc_knowing.1.desc).map (fun d => d.parameters.length) = some 0 from by decide +kernel) (by decide) rfl rfl rfl rfl (by decide) hs1 (fun r1 μ1 h1 => ?_)
  obtain ⟨P2, hs2, hp2⟩ := hp1 r1 μ1 h1
  refine lw_aload2 C d_law_703 ?_
  refine lw_call C hG (cN := 5) (b9 := 18) (q := mq_Mo_knowing) (st := (sc_rr G r1).toList ++ []) [] d_law_704 (sc_mem_ok (by decide +kernel)) (sc_mem_ok (by decide +kernel)) (sc_mem_ok (by decide +kernel)) (sc_mem_ok (by decide +kernel)) (show mq_Mo_knowing.1.cls ≠ "java/lang/invoke/MethodHandle" ∧ mq_Mo_knowing.1.cls ≠ "java/lang/invoke/VarHandle" ∧ (parseMethodDescriptor mq_Mo_knowing.1.desc).map (fun d => d.parameters.length) = some 0 from by decide +kernel) (by decide) rfl rfl rfl rfl (lw_rr G r1) hs2 (fun r2 μ2 h2 => ?_)
  obtain ⟨rfl, ⟨x, rfl⟩, N2, hiv2⟩ := hp2 r2 μ2 h2
  exact lw_cmpI (v := Int32.ofInt x) C d_law_707 (by decide) (k μ2 N2 hiv2)
set_option maxRecDepth 100000 in
theorem lw_c18 {p : Program} {l : Launch} {e : Env} {s : State} {m : MethodId} {below : List Frame} {meth : Method} {c : Code} {b L : Nat} {xs : Nat → Int32} {G : sc_G} {i : Nat} {μ : sc_M} {N : Nat} (C : lw_At p s m meth c b L xs) (hG : lw_G G s) (hL : L ≤ 3072) (hi : i + 6 ≤ L) (hiv : iv_ok μ N) (k : ∀ μ2 N2, iv_ok μ2 N2 → lw_W p l e s m below meth c b G i μ2 1208 []) : lw_W p l e s m below meth c b G i μ 712 [] := by
  obtain ⟨P1, hs1, hp1⟩ := pi_inHand l G 0 3 (xs (i + 1)).toInt (sc_in_toInt (xs (i + 1))) μ N hiv
  refine lw_aload1 C d_law_712 ?_
  refine lw_arg C hL 1 (by omega) d_law_713 d_law_714 d_law_715 d_law_716 d_law_717 ?_
  refine lw_call C hG (cN := 4) (b9 := 0) (q := mq_Sc_inHand) (st := []) [.inl (xs (i + 1)).toInt] d_law_718 (sc_mem_ok (by decide +kernel)) (sc_mem_ok (by decide +kernel)) (sc_mem_ok (by decide +kernel)) (sc_mem_ok (by decide +kernel)) (show mq_Sc_inHand.1.cls ≠ "java/lang/invoke/MethodHandle" ∧ mq_Sc_inHand.1.cls ≠ "java/lang/invoke/VarHandle" ∧ (parseMethodDescriptor mq_Sc_inHand.1.desc).map (fun d => d.parameters.length) = some 1 from by decide +kernel) (by decide) rfl rfl rfl rfl (by decide) hs1 (fun r1 μ1 h1 => ?_)
  obtain ⟨P2, hs2, hp2⟩ := hp1 r1 μ1 h1
  refine lw_aload2 C d_law_721 ?_
  refine lw_arg C hL 1 (by omega) d_law_722 d_law_723 d_law_724 d_law_725 d_law_726 ?_
  refine lw_call C hG (cN := 5) (b9 := 18) (q := mq_Mo_inHand) (st := (sc_rr G r1).toList ++ []) [.inl (xs (i + 1)).toInt] d_law_727 (sc_mem_ok (by decide +kernel)) (sc_mem_ok (by decide +kernel)) (sc_mem_ok (by decide +kernel)) (sc_mem_ok (by decide +kernel)) (show mq_Mo_inHand.1.cls ≠ "java/lang/invoke/MethodHandle" ∧ mq_Mo_inHand.1.cls ≠ "java/lang/invoke/VarHandle" ∧ (parseMethodDescriptor mq_Mo_inHand.1.desc).map (fun d => d.parameters.length) = some 1 from by decide +kernel) (by decide) rfl rfl rfl rfl (lw_rr G r1) hs2 (fun r2 μ2 h2 => ?_)
  obtain ⟨rfl, ⟨x, rfl⟩, N2, hiv2⟩ := hp2 r2 μ2 h2
  exact lw_cmpI (v := Int32.ofInt x) C d_law_730 (by decide) (k μ2 N2 hiv2)
set_option maxRecDepth 100000 in
theorem lw_c19 {p : Program} {l : Launch} {e : Env} {s : State} {m : MethodId} {below : List Frame} {meth : Method} {c : Code} {b L : Nat} {xs : Nat → Int32} {G : sc_G} {i : Nat} {μ : sc_M} {N : Nat} (C : lw_At p s m meth c b L xs) (hG : lw_G G s) (hL : L ≤ 3072) (hi : i + 6 ≤ L) (hiv : iv_ok μ N) (k : ∀ μ2 N2, iv_ok μ2 N2 → lw_W p l e s m below meth c b G i μ2 1208 []) : lw_W p l e s m below meth c b G i μ 735 [] := by
  obtain ⟨P1, hs1, hp1⟩ := pi_needless l G 0 3 (xs (i + 1)).toInt (xs (i + 2)).toInt (sc_in_toInt (xs (i + 1))) (sc_in_toInt (xs (i + 2))) μ N hiv
  refine lw_aload1 C d_law_735 ?_
  refine lw_arg C hL 1 (by omega) d_law_736 d_law_737 d_law_738 d_law_739 d_law_740 ?_
  refine lw_arg C hL 2 (by omega) d_law_741 d_law_742 d_law_743 d_law_744 d_law_745 ?_
  refine lw_call C hG (cN := 4) (b9 := 0) (q := mq_Sc_needless) (st := []) [.inl (xs (i + 1)).toInt, .inl (xs (i + 2)).toInt] d_law_746 (sc_mem_ok (by decide +kernel)) (sc_mem_ok (by decide +kernel)) (sc_mem_ok (by decide +kernel)) (sc_mem_ok (by decide +kernel)) (show mq_Sc_needless.1.cls ≠ "java/lang/invoke/MethodHandle" ∧ mq_Sc_needless.1.cls ≠ "java/lang/invoke/VarHandle" ∧ (parseMethodDescriptor mq_Sc_needless.1.desc).map (fun d => d.parameters.length) = some 2 from by decide +kernel) (by decide) rfl rfl rfl rfl (by decide) hs1 (fun r1 μ1 h1 => ?_)
  obtain ⟨P2, hs2, hp2⟩ := hp1 r1 μ1 h1
  refine lw_aload2 C d_law_749 ?_
  refine lw_arg C hL 1 (by omega) d_law_750 d_law_751 d_law_752 d_law_753 d_law_754 ?_
  refine lw_arg C hL 2 (by omega) d_law_755 d_law_756 d_law_757 d_law_758 d_law_759 ?_
  refine lw_call C hG (cN := 5) (b9 := 18) (q := mq_Mo_needless) (st := (sc_rr G r1).toList ++ []) [.inl (xs (i + 1)).toInt, .inl (xs (i + 2)).toInt] d_law_760 (sc_mem_ok (by decide +kernel)) (sc_mem_ok (by decide +kernel)) (sc_mem_ok (by decide +kernel)) (sc_mem_ok (by decide +kernel)) (show mq_Mo_needless.1.cls ≠ "java/lang/invoke/MethodHandle" ∧ mq_Mo_needless.1.cls ≠ "java/lang/invoke/VarHandle" ∧ (parseMethodDescriptor mq_Mo_needless.1.desc).map (fun d => d.parameters.length) = some 2 from by decide +kernel) (by decide) rfl rfl rfl rfl (lw_rr G r1) hs2 (fun r2 μ2 h2 => ?_)
  obtain ⟨rfl, ⟨x, rfl⟩, N2, hiv2⟩ := hp2 r2 μ2 h2
  exact lw_cmpI (v := Int32.ofInt x) C d_law_763 (by decide) (k μ2 N2 hiv2)
set_option maxRecDepth 100000 in
theorem lw_c20 {p : Program} {l : Launch} {e : Env} {s : State} {m : MethodId} {below : List Frame} {meth : Method} {c : Code} {b L : Nat} {xs : Nat → Int32} {G : sc_G} {i : Nat} {μ : sc_M} {N : Nat} (C : lw_At p s m meth c b L xs) (hG : lw_G G s) (hL : L ≤ 3072) (hi : i + 6 ≤ L) (hiv : iv_ok μ N) (k : ∀ μ2 N2, iv_ok μ2 N2 → lw_W p l e s m below meth c b G i μ2 1208 []) : lw_W p l e s m below meth c b G i μ 768 [] := by
  obtain ⟨P1, hs1, hp1⟩ := pi_span l G 2 3 (xs (i + 1)).toInt (xs (i + 2)).toInt (if (xs (i + 3)).toInt = 0 then 0 else 1) (sc_in_toInt (xs (i + 1))) (sc_in_toInt (xs (i + 2))) (lw_in01 (xs (i + 3)).toInt) μ N hiv
  refine lw_aload1 C d_law_768 ?_
  refine lw_arg C hL 1 (by omega) d_law_769 d_law_770 d_law_771 d_law_772 d_law_773 ?_
  refine lw_arg C hL 2 (by omega) d_law_774 d_law_775 d_law_776 d_law_777 d_law_778 ?_
  refine lw_arg C hL 3 (by omega) d_law_779 d_law_780 d_law_781 d_law_782 d_law_783 ?_
  refine lw_bool C (sc_in_toInt _) d_law_784 d_law_787 d_law_788 d_law_791 ?_
  refine lw_call C hG (cN := 4) (b9 := 0) (q := mq_Sc_span) (st := []) [.inl (xs (i + 1)).toInt, .inl (xs (i + 2)).toInt, .inl (if (xs (i + 3)).toInt = 0 then 0 else 1)] d_law_792 (sc_mem_ok (by decide +kernel)) (sc_mem_ok (by decide +kernel)) (sc_mem_ok (by decide +kernel)) (sc_mem_ok (by decide +kernel)) (show mq_Sc_span.1.cls ≠ "java/lang/invoke/MethodHandle" ∧ mq_Sc_span.1.cls ≠ "java/lang/invoke/VarHandle" ∧ (parseMethodDescriptor mq_Sc_span.1.desc).map (fun d => d.parameters.length) = some 3 from by decide +kernel) (by decide) rfl rfl rfl rfl (by decide) hs1 (fun r1 μ1 h1 => ?_)
  obtain ⟨P2, hs2, hp2⟩ := hp1 r1 μ1 h1
  refine lw_aload2 C d_law_795 ?_
  refine lw_arg C hL 1 (by omega) d_law_796 d_law_797 d_law_798 d_law_799 d_law_800 ?_
  refine lw_arg C hL 2 (by omega) d_law_801 d_law_802 d_law_803 d_law_804 d_law_805 ?_
  refine lw_arg C hL 3 (by omega) d_law_806 d_law_807 d_law_808 d_law_809 d_law_810 ?_
  refine lw_bool C (sc_in_toInt _) d_law_811 d_law_814 d_law_815 d_law_818 ?_
  refine lw_call C hG (cN := 5) (b9 := 18) (q := mq_Mo_span) (st := (sc_rr G r1).toList ++ []) [.inl (xs (i + 1)).toInt, .inl (xs (i + 2)).toInt, .inl (if (xs (i + 3)).toInt = 0 then 0 else 1)] d_law_819 (sc_mem_ok (by decide +kernel)) (sc_mem_ok (by decide +kernel)) (sc_mem_ok (by decide +kernel)) (sc_mem_ok (by decide +kernel)) (show mq_Mo_span.1.cls ≠ "java/lang/invoke/MethodHandle" ∧ mq_Mo_span.1.cls ≠ "java/lang/invoke/VarHandle" ∧ (parseMethodDescriptor mq_Mo_span.1.desc).map (fun d => d.parameters.length) = some 3 from by decide +kernel) (by decide) rfl rfl rfl rfl (lw_rr G r1) hs2 (fun r2 μ2 h2 => ?_)
  obtain ⟨rfl, ⟨x, rfl⟩, N2, hiv2⟩ := hp2 r2 μ2 h2
  exact lw_cmpI (v := Int32.ofInt x) C d_law_822 (by decide) (k μ2 N2 hiv2)
set_option maxRecDepth 100000 in
theorem lw_c21 {p : Program} {l : Launch} {e : Env} {s : State} {m : MethodId} {below : List Frame} {meth : Method} {c : Code} {b L : Nat} {xs : Nat → Int32} {G : sc_G} {i : Nat} {μ : sc_M} {N : Nat} (C : lw_At p s m meth c b L xs) (hG : lw_G G s) (hL : L ≤ 3072) (hi : i + 6 ≤ L) (hiv : iv_ok μ N) (k : ∀ μ2 N2, iv_ok μ2 N2 → lw_W p l e s m below meth c b G i μ2 1208 []) : lw_W p l e s m below meth c b G i μ 827 [] := by
  obtain ⟨P1, hs1, hp1⟩ := pi_chance l G 2 4 (xs (i + 1)).toInt (xs (i + 2)).toInt (sc_in_toInt (xs (i + 1))) (sc_in_toInt (xs (i + 2))) μ N hiv
  refine lw_aload1 C d_law_827 ?_
  refine lw_arg C hL 1 (by omega) d_law_828 d_law_829 d_law_830 d_law_831 d_law_832 ?_
  refine lw_arg C hL 2 (by omega) d_law_833 d_law_834 d_law_835 d_law_836 d_law_837 ?_
  refine lw_call C hG (cN := 4) (b9 := 0) (q := mq_Sc_chance) (st := []) [.inl (xs (i + 1)).toInt, .inl (xs (i + 2)).toInt] d_law_838 (sc_mem_ok (by decide +kernel)) (sc_mem_ok (by decide +kernel)) (sc_mem_ok (by decide +kernel)) (sc_mem_ok (by decide +kernel)) (show mq_Sc_chance.1.cls ≠ "java/lang/invoke/MethodHandle" ∧ mq_Sc_chance.1.cls ≠ "java/lang/invoke/VarHandle" ∧ (parseMethodDescriptor mq_Sc_chance.1.desc).map (fun d => d.parameters.length) = some 2 from by decide +kernel) (by decide) rfl rfl rfl rfl (by decide) hs1 (fun r1 μ1 h1 => ?_)
  obtain ⟨P2, hs2, hp2⟩ := hp1 r1 μ1 h1
  refine lw_aload2 C d_law_841 ?_
  refine lw_arg C hL 1 (by omega) d_law_842 d_law_843 d_law_844 d_law_845 d_law_846 ?_
  refine lw_arg C hL 2 (by omega) d_law_847 d_law_848 d_law_849 d_law_850 d_law_851 ?_
  refine lw_call C hG (cN := 5) (b9 := 18) (q := mq_Mo_chance) (st := (sc_rr G r1).toList ++ []) [.inl (xs (i + 1)).toInt, .inl (xs (i + 2)).toInt] d_law_852 (sc_mem_ok (by decide +kernel)) (sc_mem_ok (by decide +kernel)) (sc_mem_ok (by decide +kernel)) (sc_mem_ok (by decide +kernel)) (show mq_Mo_chance.1.cls ≠ "java/lang/invoke/MethodHandle" ∧ mq_Mo_chance.1.cls ≠ "java/lang/invoke/VarHandle" ∧ (parseMethodDescriptor mq_Mo_chance.1.desc).map (fun d => d.parameters.length) = some 2 from by decide +kernel) (by decide) rfl rfl rfl rfl (lw_rr G r1) hs2 (fun r2 μ2 h2 => ?_)
  obtain ⟨rfl, ⟨x, rfl⟩, N2, hiv2⟩ := hp2 r2 μ2 h2
  exact lw_cmpI (v := Int32.ofInt x) C d_law_855 (by decide) (k μ2 N2 hiv2)
set_option maxRecDepth 100000 in
theorem lw_c22 {p : Program} {l : Launch} {e : Env} {s : State} {m : MethodId} {below : List Frame} {meth : Method} {c : Code} {b L : Nat} {xs : Nat → Int32} {G : sc_G} {i : Nat} {μ : sc_M} {N : Nat} (C : lw_At p s m meth c b L xs) (hG : lw_G G s) (hL : L ≤ 3072) (hi : i + 6 ≤ L) (hiv : iv_ok μ N) (k : ∀ μ2 N2, iv_ok μ2 N2 → lw_W p l e s m below meth c b G i μ2 1208 []) : lw_W p l e s m below meth c b G i μ 860 [] := by
  obtain ⟨P1, hs1, hp1⟩ := pi_end l G 2 4 (if (xs (i + 1)).toInt = 0 then 0 else 1) (lw_in01 (xs (i + 1)).toInt) μ N hiv
  refine lw_aload1 C d_law_860 ?_
  refine lw_arg C hL 1 (by omega) d_law_861 d_law_862 d_law_863 d_law_864 d_law_865 ?_
  refine lw_bool C (sc_in_toInt _) d_law_866 d_law_869 d_law_870 d_law_873 ?_
  refine lw_call C hG (cN := 4) (b9 := 0) (q := mq_Sc_end) (st := []) [.inl (if (xs (i + 1)).toInt = 0 then 0 else 1)] d_law_874 (sc_mem_ok (by decide +kernel)) (sc_mem_ok (by decide +kernel)) (sc_mem_ok (by decide +kernel)) (sc_mem_ok (by decide +kernel)) (show mq_Sc_end.1.cls ≠ "java/lang/invoke/MethodHandle" ∧ mq_Sc_end.1.cls ≠ "java/lang/invoke/VarHandle" ∧ (parseMethodDescriptor mq_Sc_end.1.desc).map (fun d => d.parameters.length) = some 1 from by decide +kernel) (by decide) rfl rfl rfl rfl (by decide) hs1 (fun r1 μ1 h1 => ?_)
  obtain ⟨P2, hs2, hp2⟩ := hp1 r1 μ1 h1
  refine lw_aload2 C d_law_877 ?_
  refine lw_arg C hL 1 (by omega) d_law_878 d_law_879 d_law_880 d_law_881 d_law_882 ?_
  refine lw_bool C (sc_in_toInt _) d_law_883 d_law_886 d_law_887 d_law_890 ?_
  refine lw_call C hG (cN := 5) (b9 := 18) (q := mq_Mo_end) (st := (sc_rr G r1).toList ++ []) [.inl (if (xs (i + 1)).toInt = 0 then 0 else 1)] d_law_891 (sc_mem_ok (by decide +kernel)) (sc_mem_ok (by decide +kernel)) (sc_mem_ok (by decide +kernel)) (sc_mem_ok (by decide +kernel)) (show mq_Mo_end.1.cls ≠ "java/lang/invoke/MethodHandle" ∧ mq_Mo_end.1.cls ≠ "java/lang/invoke/VarHandle" ∧ (parseMethodDescriptor mq_Mo_end.1.desc).map (fun d => d.parameters.length) = some 1 from by decide +kernel) (by decide) rfl rfl rfl rfl (lw_rr G r1) hs2 (fun r2 μ2 h2 => ?_)
  obtain ⟨rfl, ⟨x, rfl⟩, N2, hiv2⟩ := hp2 r2 μ2 h2
  exact lw_cmpI (v := Int32.ofInt x) C d_law_894 (by decide) (k μ2 N2 hiv2)
set_option maxRecDepth 100000 in
theorem lw_c23 {p : Program} {l : Launch} {e : Env} {s : State} {m : MethodId} {below : List Frame} {meth : Method} {c : Code} {b L : Nat} {xs : Nat → Int32} {G : sc_G} {i : Nat} {μ : sc_M} {N : Nat} (C : lw_At p s m meth c b L xs) (hG : lw_G G s) (hL : L ≤ 3072) (hi : i + 6 ≤ L) (hiv : iv_ok μ N) (k : ∀ μ2 N2, iv_ok μ2 N2 → lw_W p l e s m below meth c b G i μ2 1208 []) : lw_W p l e s m below meth c b G i μ 899 [] := by
  obtain ⟨P1, hs1, hp1⟩ := pi_row l G 7 6 (xs (i + 1)).toInt (xs (i + 2)).toInt (sc_in_toInt (xs (i + 1))) (sc_in_toInt (xs (i + 2))) μ N hiv
  refine lw_aload1 C d_law_899 ?_
  refine lw_arg C hL 1 (by omega) d_law_900 d_law_901 d_law_902 d_law_903 d_law_904 ?_
  refine lw_arg C hL 2 (by omega) d_law_905 d_law_906 d_law_907 d_law_908 d_law_909 ?_
  refine lw_call C hG (cN := 4) (b9 := 0) (q := mq_Sc_row) (st := []) [.inl (xs (i + 1)).toInt, .inl (xs (i + 2)).toInt] d_law_910 (sc_mem_ok (by decide +kernel)) (sc_mem_ok (by decide +kernel)) (sc_mem_ok (by decide +kernel)) (sc_mem_ok (by decide +kernel)) (show mq_Sc_row.1.cls ≠ "java/lang/invoke/MethodHandle" ∧ mq_Sc_row.1.cls ≠ "java/lang/invoke/VarHandle" ∧ (parseMethodDescriptor mq_Sc_row.1.desc).map (fun d => d.parameters.length) = some 2 from by decide +kernel) (by decide) rfl rfl rfl rfl (by decide) hs1 (fun r1 μ1 h1 => ?_)
  obtain ⟨P2, hs2, hp2⟩ := hp1 r1 μ1 h1
  refine lw_aload2 C d_law_913 ?_
  refine lw_arg C hL 1 (by omega) d_law_914 d_law_915 d_law_916 d_law_917 d_law_918 ?_
  refine lw_arg C hL 2 (by omega) d_law_919 d_law_920 d_law_921 d_law_922 d_law_923 ?_
  refine lw_call C hG (cN := 5) (b9 := 18) (q := mq_Mo_row) (st := (sc_rr G r1).toList ++ []) [.inl (xs (i + 1)).toInt, .inl (xs (i + 2)).toInt] d_law_924 (sc_mem_ok (by decide +kernel)) (sc_mem_ok (by decide +kernel)) (sc_mem_ok (by decide +kernel)) (sc_mem_ok (by decide +kernel)) (show mq_Mo_row.1.cls ≠ "java/lang/invoke/MethodHandle" ∧ mq_Mo_row.1.cls ≠ "java/lang/invoke/VarHandle" ∧ (parseMethodDescriptor mq_Mo_row.1.desc).map (fun d => d.parameters.length) = some 2 from by decide +kernel) (by decide) rfl rfl rfl rfl (lw_rr G r1) hs2 (fun r2 μ2 h2 => ?_)
  obtain ⟨rfl, ⟨x, rfl⟩, N2, hiv2⟩ := hp2 r2 μ2 h2
  exact lw_cmpI (v := Int32.ofInt x) C d_law_927 (by decide) (k μ2 N2 hiv2)
set_option maxRecDepth 100000 in
theorem lw_c24 {p : Program} {l : Launch} {e : Env} {s : State} {m : MethodId} {below : List Frame} {meth : Method} {c : Code} {b L : Nat} {xs : Nat → Int32} {G : sc_G} {i : Nat} {μ : sc_M} {N : Nat} (C : lw_At p s m meth c b L xs) (hG : lw_G G s) (hL : L ≤ 3072) (hi : i + 6 ≤ L) (hiv : iv_ok μ N) (k : ∀ μ2 N2, iv_ok μ2 N2 → lw_W p l e s m below meth c b G i μ2 1208 []) : lw_W p l e s m below meth c b G i μ 932 [] := by
  obtain ⟨P1, hs1, hp1⟩ := pi_lay l G 7 5 (xs (i + 1)).toInt (xs (i + 2)).toInt (xs (i + 3)).toInt (sc_in_toInt (xs (i + 1))) (sc_in_toInt (xs (i + 2))) (sc_in_toInt (xs (i + 3))) μ N hiv
  refine lw_aload1 C d_law_932 ?_
  refine lw_arg C hL 1 (by omega) d_law_933 d_law_934 d_law_935 d_law_936 d_law_937 ?_
  refine lw_arg C hL 2 (by omega) d_law_938 d_law_939 d_law_940 d_law_941 d_law_942 ?_
  refine lw_arg C hL 3 (by omega) d_law_943 d_law_944 d_law_945 d_law_946 d_law_947 ?_
  refine lw_call C hG (cN := 4) (b9 := 0) (q := mq_Sc_lay) (st := []) [.inl (xs (i + 1)).toInt, .inl (xs (i + 2)).toInt, .inl (xs (i + 3)).toInt] d_law_948 (sc_mem_ok (by decide +kernel)) (sc_mem_ok (by decide +kernel)) (sc_mem_ok (by decide +kernel)) (sc_mem_ok (by decide +kernel)) (show mq_Sc_lay.1.cls ≠ "java/lang/invoke/MethodHandle" ∧ mq_Sc_lay.1.cls ≠ "java/lang/invoke/VarHandle" ∧ (parseMethodDescriptor mq_Sc_lay.1.desc).map (fun d => d.parameters.length) = some 3 from by decide +kernel) (by decide) rfl rfl rfl rfl (by decide) hs1 (fun r1 μ1 h1 => ?_)
  obtain ⟨P2, hs2, hp2⟩ := hp1 r1 μ1 h1
  refine lw_aload2 C d_law_951 ?_
  refine lw_arg C hL 1 (by omega) d_law_952 d_law_953 d_law_954 d_law_955 d_law_956 ?_
  refine lw_arg C hL 2 (by omega) d_law_957 d_law_958 d_law_959 d_law_960 d_law_961 ?_
  refine lw_arg C hL 3 (by omega) d_law_962 d_law_963 d_law_964 d_law_965 d_law_966 ?_
  refine lw_call C hG (cN := 5) (b9 := 18) (q := mq_Mo_lay) (st := (sc_rr G r1).toList ++ []) [.inl (xs (i + 1)).toInt, .inl (xs (i + 2)).toInt, .inl (xs (i + 3)).toInt] d_law_967 (sc_mem_ok (by decide +kernel)) (sc_mem_ok (by decide +kernel)) (sc_mem_ok (by decide +kernel)) (sc_mem_ok (by decide +kernel)) (show mq_Mo_lay.1.cls ≠ "java/lang/invoke/MethodHandle" ∧ mq_Mo_lay.1.cls ≠ "java/lang/invoke/VarHandle" ∧ (parseMethodDescriptor mq_Mo_lay.1.desc).map (fun d => d.parameters.length) = some 3 from by decide +kernel) (by decide) rfl rfl rfl rfl (lw_rr G r1) hs2 (fun r2 μ2 h2 => ?_)
  obtain ⟨rfl, ⟨x, rfl⟩, N2, hiv2⟩ := hp2 r2 μ2 h2
  exact lw_cmpI (v := Int32.ofInt x) C d_law_970 (by decide) (k μ2 N2 hiv2)
set_option maxRecDepth 100000 in
theorem lw_c25 {p : Program} {l : Launch} {e : Env} {s : State} {m : MethodId} {below : List Frame} {meth : Method} {c : Code} {b L : Nat} {xs : Nat → Int32} {G : sc_G} {i : Nat} {μ : sc_M} {N : Nat} (C : lw_At p s m meth c b L xs) (hG : lw_G G s) (hL : L ≤ 3072) (hi : i + 6 ≤ L) (hiv : iv_ok μ N) (k : ∀ μ2 N2, iv_ok μ2 N2 → lw_W p l e s m below meth c b G i μ2 1208 []) : lw_W p l e s m below meth c b G i μ 975 [] := by
  obtain ⟨P1, hs1, hp1⟩ := pi_tear l G 7 5 (xs (i + 1)).toInt (sc_in_toInt (xs (i + 1))) μ N hiv
  refine lw_aload1 C d_law_975 ?_
  refine lw_arg C hL 1 (by omega) d_law_976 d_law_977 d_law_978 d_law_979 d_law_980 ?_
  refine lw_call C hG (cN := 4) (b9 := 0) (q := mq_Sc_tear) (st := []) [.inl (xs (i + 1)).toInt] d_law_981 (sc_mem_ok (by decide +kernel)) (sc_mem_ok (by decide +kernel)) (sc_mem_ok (by decide +kernel)) (sc_mem_ok (by decide +kernel)) (show mq_Sc_tear.1.cls ≠ "java/lang/invoke/MethodHandle" ∧ mq_Sc_tear.1.cls ≠ "java/lang/invoke/VarHandle" ∧ (parseMethodDescriptor mq_Sc_tear.1.desc).map (fun d => d.parameters.length) = some 1 from by decide +kernel) (by decide) rfl rfl rfl rfl (by decide) hs1 (fun r1 μ1 h1 => ?_)
  obtain ⟨P2, hs2, hp2⟩ := hp1 r1 μ1 h1
  refine lw_aload2 C d_law_984 ?_
  refine lw_arg C hL 1 (by omega) d_law_985 d_law_986 d_law_987 d_law_988 d_law_989 ?_
  refine lw_call C hG (cN := 5) (b9 := 18) (q := mq_Mo_tear) (st := (sc_rr G r1).toList ++ []) [.inl (xs (i + 1)).toInt] d_law_990 (sc_mem_ok (by decide +kernel)) (sc_mem_ok (by decide +kernel)) (sc_mem_ok (by decide +kernel)) (sc_mem_ok (by decide +kernel)) (show mq_Mo_tear.1.cls ≠ "java/lang/invoke/MethodHandle" ∧ mq_Mo_tear.1.cls ≠ "java/lang/invoke/VarHandle" ∧ (parseMethodDescriptor mq_Mo_tear.1.desc).map (fun d => d.parameters.length) = some 1 from by decide +kernel) (by decide) rfl rfl rfl rfl (lw_rr G r1) hs2 (fun r2 μ2 h2 => ?_)
  obtain ⟨rfl, ⟨x, rfl⟩, N2, hiv2⟩ := hp2 r2 μ2 h2
  exact lw_cmpI (v := Int32.ofInt x) C d_law_993 (by decide) (k μ2 N2 hiv2)
set_option maxRecDepth 100000 in
theorem lw_c26 {p : Program} {l : Launch} {e : Env} {s : State} {m : MethodId} {below : List Frame} {meth : Method} {c : Code} {b L : Nat} {xs : Nat → Int32} {G : sc_G} {i : Nat} {μ : sc_M} {N : Nat} (C : lw_At p s m meth c b L xs) (hG : lw_G G s) (hL : L ≤ 3072) (hi : i + 6 ≤ L) (hiv : iv_ok μ N) (k : ∀ μ2 N2, iv_ok μ2 N2 → lw_W p l e s m below meth c b G i μ2 1208 []) : lw_W p l e s m below meth c b G i μ 998 [] := by
  obtain ⟨P1, hs1, hp1⟩ := pi_copy l G 7 6 (xs (i + 1)).toInt (xs (i + 2)).toInt (xs (i + 3)).toInt (xs (i + 4)).toInt (xs (i + 5)).toInt (sc_in_toInt (xs (i + 1))) (sc_in_toInt (xs (i + 2))) (sc_in_toInt (xs (i + 3))) (sc_in_toInt (xs (i + 4))) (sc_in_toInt (xs (i + 5))) μ N hiv
  refine lw_aload1 C d_law_998 ?_
  refine lw_arg C hL 1 (by omega) d_law_999 d_law_1000 d_law_1001 d_law_1002 d_law_1003 ?_
  refine lw_arg C hL 2 (by omega) d_law_1004 d_law_1005 d_law_1006 d_law_1007 d_law_1008 ?_
  refine lw_arg C hL 3 (by omega) d_law_1009 d_law_1010 d_law_1011 d_law_1012 d_law_1013 ?_
  refine lw_arg C hL 4 (by omega) d_law_1014 d_law_1015 d_law_1016 d_law_1017 d_law_1018 ?_
  refine lw_arg C hL 5 (by omega) d_law_1019 d_law_1020 d_law_1021 d_law_1022 d_law_1023 ?_
  refine lw_call C hG (cN := 4) (b9 := 0) (q := mq_Sc_copy) (st := []) [.inl (xs (i + 1)).toInt, .inl (xs (i + 2)).toInt, .inl (xs (i + 3)).toInt, .inl (xs (i + 4)).toInt, .inl (xs (i + 5)).toInt] d_law_1024 (sc_mem_ok (by decide +kernel)) (sc_mem_ok (by decide +kernel)) (sc_mem_ok (by decide +kernel)) (sc_mem_ok (by decide +kernel)) (show mq_Sc_copy.1.cls ≠ "java/lang/invoke/MethodHandle" ∧ mq_Sc_copy.1.cls ≠ "java/lang/invoke/VarHandle" ∧ (parseMethodDescriptor mq_Sc_copy.1.desc).map (fun d => d.parameters.length) = some 5 from by decide +kernel) (by decide) rfl rfl rfl rfl (by decide) hs1 (fun r1 μ1 h1 => ?_)
  obtain ⟨P2, hs2, hp2⟩ := hp1 r1 μ1 h1
  refine lw_aload2 C d_law_1027 ?_
  refine lw_arg C hL 1 (by omega) d_law_1028 d_law_1029 d_law_1030 d_law_1031 d_law_1032 ?_
  refine lw_arg C hL 2 (by omega) d_law_1033 d_law_1034 d_law_1035 d_law_1036 d_law_1037 ?_
  refine lw_arg C hL 3 (by omega) d_law_1038 d_law_1039 d_law_1040 d_law_1041 d_law_1042 ?_
  refine lw_arg C hL 4 (by omega) d_law_1043 d_law_1044 d_law_1045 d_law_1046 d_law_1047 ?_
  refine lw_arg C hL 5 (by omega) d_law_1048 d_law_1049 d_law_1050 d_law_1051 d_law_1052 ?_
  refine lw_call C hG (cN := 5) (b9 := 18) (q := mq_Mo_copy) (st := (sc_rr G r1).toList ++ []) [.inl (xs (i + 1)).toInt, .inl (xs (i + 2)).toInt, .inl (xs (i + 3)).toInt, .inl (xs (i + 4)).toInt, .inl (xs (i + 5)).toInt] d_law_1053 (sc_mem_ok (by decide +kernel)) (sc_mem_ok (by decide +kernel)) (sc_mem_ok (by decide +kernel)) (sc_mem_ok (by decide +kernel)) (show mq_Mo_copy.1.cls ≠ "java/lang/invoke/MethodHandle" ∧ mq_Mo_copy.1.cls ≠ "java/lang/invoke/VarHandle" ∧ (parseMethodDescriptor mq_Mo_copy.1.desc).map (fun d => d.parameters.length) = some 5 from by decide +kernel) (by decide) rfl rfl rfl rfl (lw_rr G r1) hs2 (fun r2 μ2 h2 => ?_)
  obtain ⟨rfl, ⟨x, rfl⟩, N2, hiv2⟩ := hp2 r2 μ2 h2
  exact lw_cmpI (v := Int32.ofInt x) C d_law_1056 (by decide) (k μ2 N2 hiv2)
set_option maxRecDepth 100000 in
theorem lw_c27 {p : Program} {l : Launch} {e : Env} {s : State} {m : MethodId} {below : List Frame} {meth : Method} {c : Code} {b L : Nat} {xs : Nat → Int32} {G : sc_G} {i : Nat} {μ : sc_M} {N : Nat} (C : lw_At p s m meth c b L xs) (hG : lw_G G s) (hL : L ≤ 3072) (hi : i + 6 ≤ L) (hiv : iv_ok μ N) (k : ∀ μ2 N2, iv_ok μ2 N2 → lw_W p l e s m below meth c b G i μ2 1208 []) : lw_W p l e s m below meth c b G i μ 1061 [] := by
  obtain ⟨P1, hs1, hp1⟩ := pi_fill l G 7 6 (xs (i + 1)).toInt (xs (i + 2)).toInt (sc_in_toInt (xs (i + 1))) (sc_in_toInt (xs (i + 2))) μ N hiv
  refine lw_aload1 C d_law_1061 ?_
  refine lw_arg C hL 1 (by omega) d_law_1062 d_law_1063 d_law_1064 d_law_1065 d_law_1066 ?_
  refine lw_arg C hL 2 (by omega) d_law_1067 d_law_1068 d_law_1069 d_law_1070 d_law_1071 ?_
  refine lw_call C hG (cN := 4) (b9 := 0) (q := mq_Sc_fill) (st := []) [.inl (xs (i + 1)).toInt, .inl (xs (i + 2)).toInt] d_law_1072 (sc_mem_ok (by decide +kernel)) (sc_mem_ok (by decide +kernel)) (sc_mem_ok (by decide +kernel)) (sc_mem_ok (by decide +kernel)) (show mq_Sc_fill.1.cls ≠ "java/lang/invoke/MethodHandle" ∧ mq_Sc_fill.1.cls ≠ "java/lang/invoke/VarHandle" ∧ (parseMethodDescriptor mq_Sc_fill.1.desc).map (fun d => d.parameters.length) = some 2 from by decide +kernel) (by decide) rfl rfl rfl rfl (by decide) hs1 (fun r1 μ1 h1 => ?_)
  obtain ⟨P2, hs2, hp2⟩ := hp1 r1 μ1 h1
  refine lw_aload2 C d_law_1075 ?_
  refine lw_arg C hL 1 (by omega) d_law_1076 d_law_1077 d_law_1078 d_law_1079 d_law_1080 ?_
  refine lw_arg C hL 2 (by omega) d_law_1081 d_law_1082 d_law_1083 d_law_1084 d_law_1085 ?_
  refine lw_call C hG (cN := 5) (b9 := 18) (q := mq_Mo_fill) (st := (sc_rr G r1).toList ++ []) [.inl (xs (i + 1)).toInt, .inl (xs (i + 2)).toInt] d_law_1086 (sc_mem_ok (by decide +kernel)) (sc_mem_ok (by decide +kernel)) (sc_mem_ok (by decide +kernel)) (sc_mem_ok (by decide +kernel)) (show mq_Mo_fill.1.cls ≠ "java/lang/invoke/MethodHandle" ∧ mq_Mo_fill.1.cls ≠ "java/lang/invoke/VarHandle" ∧ (parseMethodDescriptor mq_Mo_fill.1.desc).map (fun d => d.parameters.length) = some 2 from by decide +kernel) (by decide) rfl rfl rfl rfl (lw_rr G r1) hs2 (fun r2 μ2 h2 => ?_)
  obtain ⟨rfl, ⟨x, rfl⟩, N2, hiv2⟩ := hp2 r2 μ2 h2
  exact lw_cmpI (v := Int32.ofInt x) C d_law_1089 (by decide) (k μ2 N2 hiv2)
set_option maxRecDepth 100000 in
theorem lw_c28 {p : Program} {l : Launch} {e : Env} {s : State} {m : MethodId} {below : List Frame} {meth : Method} {c : Code} {b L : Nat} {xs : Nat → Int32} {G : sc_G} {i : Nat} {μ : sc_M} {N : Nat} (C : lw_At p s m meth c b L xs) (hG : lw_G G s) (hL : L ≤ 3072) (hi : i + 6 ≤ L) (hiv : iv_ok μ N) (k : ∀ μ2 N2, iv_ok μ2 N2 → lw_W p l e s m below meth c b G i μ2 1208 []) : lw_W p l e s m below meth c b G i μ 1094 [] := by
  obtain ⟨P1, hs1, hp1⟩ := pi_asked l G 8 8  μ N hiv
  refine lw_aload1 C d_law_1094 ?_
  refine lw_call C hG (cN := 4) (b9 := 0) (q := mq_Sc_asked) (st := []) [] d_law_1095 (sc_mem_ok (by decide +kernel)) (sc_mem_ok (by decide +kernel)) (sc_mem_ok (by decide +kernel)) (sc_mem_ok (by decide +kernel)) (show mq_Sc_asked.1.cls ≠ "java/lang/invoke/MethodHandle" ∧ mq_Sc_asked.1.cls ≠ "java/lang/invoke/VarHandle" ∧ (parseMethodDescriptor mq_Sc_asked.1.desc).map (fun d => d.parameters.length) = some 0 from by decide +kernel) (by decide) rfl rfl rfl rfl (by decide) hs1 (fun r1 μ1 h1 => ?_)
  obtain ⟨P2, hs2, hp2⟩ := hp1 r1 μ1 h1
  refine lw_aload2 C d_law_1098 ?_
  refine lw_call C hG (cN := 5) (b9 := 18) (q := mq_Mo_asked) (st := (sc_rr G r1).toList ++ []) [] d_law_1099 (sc_mem_ok (by decide +kernel)) (sc_mem_ok (by decide +kernel)) (sc_mem_ok (by decide +kernel)) (sc_mem_ok (by decide +kernel)) (show mq_Mo_asked.1.cls ≠ "java/lang/invoke/MethodHandle" ∧ mq_Mo_asked.1.cls ≠ "java/lang/invoke/VarHandle" ∧ (parseMethodDescriptor mq_Mo_asked.1.desc).map (fun d => d.parameters.length) = some 0 from by decide +kernel) (by decide) rfl rfl rfl rfl (lw_rr G r1) hs2 (fun r2 μ2 h2 => ?_)
  obtain ⟨rfl, ⟨x, rfl⟩, N2, hiv2⟩ := hp2 r2 μ2 h2
  exact lw_cmpI (v := Int32.ofInt x) C d_law_1102 (by decide) (k μ2 N2 hiv2)
set_option maxRecDepth 100000 in
theorem lw_c29 {p : Program} {l : Launch} {e : Env} {s : State} {m : MethodId} {below : List Frame} {meth : Method} {c : Code} {b L : Nat} {xs : Nat → Int32} {G : sc_G} {i : Nat} {μ : sc_M} {N : Nat} (C : lw_At p s m meth c b L xs) (hG : lw_G G s) (hL : L ≤ 3072) (hi : i + 6 ≤ L) (hiv : iv_ok μ N) (k : ∀ μ2 N2, iv_ok μ2 N2 → lw_W p l e s m below meth c b G i μ2 1208 []) : lw_W p l e s m below meth c b G i μ 1107 [] := by
  obtain ⟨P1, hs1, hp1⟩ := pi_upper l G 8 8  μ N hiv
  refine lw_aload1 C d_law_1107 ?_
  refine lw_call C hG (cN := 4) (b9 := 0) (q := mq_Sc_upper) (st := []) [] d_law_1108 (sc_mem_ok (by decide +kernel)) (sc_mem_ok (by decide +kernel)) (sc_mem_ok (by decide +kernel)) (sc_mem_ok (by decide +kernel)) (show mq_Sc_upper.1.cls ≠ "java/lang/invoke/MethodHandle" ∧ mq_Sc_upper.1.cls ≠ "java/lang/invoke/VarHandle" ∧ (parseMethodDescriptor mq_Sc_upper.1.desc).map (fun d => d.parameters.length) = some 0 from by decide +kernel) (by decide) rfl rfl rfl rfl (by decide) hs1 (fun r1 μ1 h1 => ?_)
  obtain ⟨P2, hs2, hp2⟩ := hp1 r1 μ1 h1
  refine lw_aload2 C d_law_1111 ?_
  refine lw_call C hG (cN := 5) (b9 := 18) (q := mq_Mo_upper) (st := (sc_rr G r1).toList ++ []) [] d_law_1112 (sc_mem_ok (by decide +kernel)) (sc_mem_ok (by decide +kernel)) (sc_mem_ok (by decide +kernel)) (sc_mem_ok (by decide +kernel)) (show mq_Mo_upper.1.cls ≠ "java/lang/invoke/MethodHandle" ∧ mq_Mo_upper.1.cls ≠ "java/lang/invoke/VarHandle" ∧ (parseMethodDescriptor mq_Mo_upper.1.desc).map (fun d => d.parameters.length) = some 0 from by decide +kernel) (by decide) rfl rfl rfl rfl (lw_rr G r1) hs2 (fun r2 μ2 h2 => ?_)
  obtain ⟨rfl, ⟨x, rfl⟩, N2, hiv2⟩ := hp2 r2 μ2 h2
  exact lw_cmpJ (v := Int64.ofInt x) C d_law_1115 d_law_1116 (by decide) (k μ2 N2 hiv2)
set_option maxRecDepth 100000 in
theorem lw_c30 {p : Program} {l : Launch} {e : Env} {s : State} {m : MethodId} {below : List Frame} {meth : Method} {c : Code} {b L : Nat} {xs : Nat → Int32} {G : sc_G} {i : Nat} {μ : sc_M} {N : Nat} (C : lw_At p s m meth c b L xs) (hG : lw_G G s) (hL : L ≤ 3072) (hi : i + 6 ≤ L) (hiv : iv_ok μ N) (k : ∀ μ2 N2, iv_ok μ2 N2 → lw_W p l e s m below meth c b G i μ2 1208 []) : lw_W p l e s m below meth c b G i μ 1121 [] := by
  obtain ⟨P1, hs1, hp1⟩ := pi_lower l G 8 8  μ N hiv
  refine lw_aload1 C d_law_1121 ?_
  refine lw_call C hG (cN := 4) (b9 := 0) (q := mq_Sc_lower) (st := []) [] d_law_1122 (sc_mem_ok (by decide +kernel)) (sc_mem_ok (by decide +kernel)) (sc_mem_ok (by decide +kernel)) (sc_mem_ok (by decide +kernel)) (show mq_Sc_lower.1.cls ≠ "java/lang/invoke/MethodHandle" ∧ mq_Sc_lower.1.cls ≠ "java/lang/invoke/VarHandle" ∧ (parseMethodDescriptor mq_Sc_lower.1.desc).map (fun d => d.parameters.length) = some 0 from by decide +kernel) (by decide) rfl rfl rfl rfl (by decide) hs1 (fun r1 μ1 h1 => ?_)
  obtain ⟨P2, hs2, hp2⟩ := hp1 r1 μ1 h1
  refine lw_aload2 C d_law_1125 ?_
  refine lw_call C hG (cN := 5) (b9 := 18) (q := mq_Mo_lower) (st := (sc_rr G r1).toList ++ []) [] d_law_1126 (sc_mem_ok (by decide +kernel)) (sc_mem_ok (by decide +kernel)) (sc_mem_ok (by decide +kernel)) (sc_mem_ok (by decide +kernel)) (show mq_Mo_lower.1.cls ≠ "java/lang/invoke/MethodHandle" ∧ mq_Mo_lower.1.cls ≠ "java/lang/invoke/VarHandle" ∧ (parseMethodDescriptor mq_Mo_lower.1.desc).map (fun d => d.parameters.length) = some 0 from by decide +kernel) (by decide) rfl rfl rfl rfl (lw_rr G r1) hs2 (fun r2 μ2 h2 => ?_)
  obtain ⟨rfl, ⟨x, rfl⟩, N2, hiv2⟩ := hp2 r2 μ2 h2
  exact lw_cmpJ (v := Int64.ofInt x) C d_law_1129 d_law_1130 (by decide) (k μ2 N2 hiv2)
set_option maxRecDepth 100000 in
theorem lw_c31 {p : Program} {l : Launch} {e : Env} {s : State} {m : MethodId} {below : List Frame} {meth : Method} {c : Code} {b L : Nat} {xs : Nat → Int32} {G : sc_G} {i : Nat} {μ : sc_M} {N : Nat} (C : lw_At p s m meth c b L xs) (hG : lw_G G s) (hL : L ≤ 3072) (hi : i + 6 ≤ L) (hiv : iv_ok μ N) (k : ∀ μ2 N2, iv_ok μ2 N2 → lw_W p l e s m below meth c b G i μ2 1208 []) : lw_W p l e s m below meth c b G i μ 1135 [] := by
  obtain ⟨P1, hs1, hp1⟩ := pi_count l G 7 7 (xs (i + 1)).toInt (sc_in_toInt (xs (i + 1))) μ N hiv
  refine lw_aload1 C d_law_1135 ?_
  refine lw_arg C hL 1 (by omega) d_law_1136 d_law_1137 d_law_1138 d_law_1139 d_law_1140 ?_
  refine lw_call C hG (cN := 4) (b9 := 0) (q := mq_Sc_count) (st := []) [.inl (xs (i + 1)).toInt] d_law_1141 (sc_mem_ok (by decide +kernel)) (sc_mem_ok (by decide +kernel)) (sc_mem_ok (by decide +kernel)) (sc_mem_ok (by decide +kernel)) (show mq_Sc_count.1.cls ≠ "java/lang/invoke/MethodHandle" ∧ mq_Sc_count.1.cls ≠ "java/lang/invoke/VarHandle" ∧ (parseMethodDescriptor mq_Sc_count.1.desc).map (fun d => d.parameters.length) = some 1 from by decide +kernel) (by decide) rfl rfl rfl rfl (by decide) hs1 (fun r1 μ1 h1 => ?_)
  obtain ⟨P2, hs2, hp2⟩ := hp1 r1 μ1 h1
  refine lw_aload2 C d_law_1144 ?_
  refine lw_arg C hL 1 (by omega) d_law_1145 d_law_1146 d_law_1147 d_law_1148 d_law_1149 ?_
  refine lw_call C hG (cN := 5) (b9 := 18) (q := mq_Mo_count) (st := (sc_rr G r1).toList ++ []) [.inl (xs (i + 1)).toInt] d_law_1150 (sc_mem_ok (by decide +kernel)) (sc_mem_ok (by decide +kernel)) (sc_mem_ok (by decide +kernel)) (sc_mem_ok (by decide +kernel)) (show mq_Mo_count.1.cls ≠ "java/lang/invoke/MethodHandle" ∧ mq_Mo_count.1.cls ≠ "java/lang/invoke/VarHandle" ∧ (parseMethodDescriptor mq_Mo_count.1.desc).map (fun d => d.parameters.length) = some 1 from by decide +kernel) (by decide) rfl rfl rfl rfl (lw_rr G r1) hs2 (fun r2 μ2 h2 => ?_)
  obtain ⟨rfl, ⟨x, rfl⟩, N2, hiv2⟩ := hp2 r2 μ2 h2
  exact lw_cmpI (v := Int32.ofInt x) C d_law_1153 (by decide) (k μ2 N2 hiv2)
set_option maxRecDepth 100000 in
theorem lw_c32 {p : Program} {l : Launch} {e : Env} {s : State} {m : MethodId} {below : List Frame} {meth : Method} {c : Code} {b L : Nat} {xs : Nat → Int32} {G : sc_G} {i : Nat} {μ : sc_M} {N : Nat} (C : lw_At p s m meth c b L xs) (hG : lw_G G s) (hL : L ≤ 3072) (hi : i + 6 ≤ L) (hiv : iv_ok μ N) (k : ∀ μ2 N2, iv_ok μ2 N2 → lw_W p l e s m below meth c b G i μ2 1208 []) : lw_W p l e s m below meth c b G i μ 1158 [] := by
  obtain ⟨P1, hs1, hp1⟩ := pi_finding l G 8 8  μ N hiv
  refine lw_aload1 C d_law_1158 ?_
  refine lw_call C hG (cN := 4) (b9 := 0) (q := mq_Sc_finding) (st := []) [] d_law_1159 (sc_mem_ok (by decide +kernel)) (sc_mem_ok (by decide +kernel)) (sc_mem_ok (by decide +kernel)) (sc_mem_ok (by decide +kernel)) (show mq_Sc_finding.1.cls ≠ "java/lang/invoke/MethodHandle" ∧ mq_Sc_finding.1.cls ≠ "java/lang/invoke/VarHandle" ∧ (parseMethodDescriptor mq_Sc_finding.1.desc).map (fun d => d.parameters.length) = some 0 from by decide +kernel) (by decide) rfl rfl rfl rfl (by decide) hs1 (fun r1 μ1 h1 => ?_)
  obtain ⟨P2, hs2, hp2⟩ := hp1 r1 μ1 h1
  refine lw_aload2 C d_law_1162 ?_
  refine lw_call C hG (cN := 5) (b9 := 18) (q := mq_Mo_finding) (st := (sc_rr G r1).toList ++ []) [] d_law_1163 (sc_mem_ok (by decide +kernel)) (sc_mem_ok (by decide +kernel)) (sc_mem_ok (by decide +kernel)) (sc_mem_ok (by decide +kernel)) (show mq_Mo_finding.1.cls ≠ "java/lang/invoke/MethodHandle" ∧ mq_Mo_finding.1.cls ≠ "java/lang/invoke/VarHandle" ∧ (parseMethodDescriptor mq_Mo_finding.1.desc).map (fun d => d.parameters.length) = some 0 from by decide +kernel) (by decide) rfl rfl rfl rfl (lw_rr G r1) hs2 (fun r2 μ2 h2 => ?_)
  obtain ⟨rfl, ⟨x, rfl⟩, N2, hiv2⟩ := hp2 r2 μ2 h2
  exact lw_cmpI (v := Int32.ofInt x) C d_law_1166 (by decide) (k μ2 N2 hiv2)
set_option maxRecDepth 100000 in
theorem lw_c33 {p : Program} {l : Launch} {e : Env} {s : State} {m : MethodId} {below : List Frame} {meth : Method} {c : Code} {b L : Nat} {xs : Nat → Int32} {G : sc_G} {i : Nat} {μ : sc_M} {N : Nat} (C : lw_At p s m meth c b L xs) (hG : lw_G G s) (hL : L ≤ 3072) (hi : i + 6 ≤ L) (hiv : iv_ok μ N) (k : ∀ μ2 N2, iv_ok μ2 N2 → lw_W p l e s m below meth c b G i μ2 1208 []) : lw_W p l e s m below meth c b G i μ 1171 [] := by
  obtain ⟨P1, hs1, hp1⟩ := pi_findings l G 8 7 (xs (i + 1)).toInt (sc_in_toInt (xs (i + 1))) μ N hiv
  refine lw_aload1 C d_law_1171 ?_
  refine lw_arg C hL 1 (by omega) d_law_1172 d_law_1173 d_law_1174 d_law_1175 d_law_1176 ?_
  refine lw_call C hG (cN := 4) (b9 := 0) (q := mq_Sc_findings) (st := []) [.inl (xs (i + 1)).toInt] d_law_1177 (sc_mem_ok (by decide +kernel)) (sc_mem_ok (by decide +kernel)) (sc_mem_ok (by decide +kernel)) (sc_mem_ok (by decide +kernel)) (show mq_Sc_findings.1.cls ≠ "java/lang/invoke/MethodHandle" ∧ mq_Sc_findings.1.cls ≠ "java/lang/invoke/VarHandle" ∧ (parseMethodDescriptor mq_Sc_findings.1.desc).map (fun d => d.parameters.length) = some 1 from by decide +kernel) (by decide) rfl rfl rfl rfl (by decide) hs1 (fun r1 μ1 h1 => ?_)
  obtain ⟨P2, hs2, hp2⟩ := hp1 r1 μ1 h1
  refine lw_aload2 C d_law_1180 ?_
  refine lw_arg C hL 1 (by omega) d_law_1181 d_law_1182 d_law_1183 d_law_1184 d_law_1185 ?_
  refine lw_call C hG (cN := 5) (b9 := 18) (q := mq_Mo_findings) (st := (sc_rr G r1).toList ++ []) [.inl (xs (i + 1)).toInt] d_law_1186 (sc_mem_ok (by decide +kernel)) (sc_mem_ok (by decide +kernel)) (sc_mem_ok (by decide +kernel)) (sc_mem_ok (by decide +kernel)) (show mq_Mo_findings.1.cls ≠ "java/lang/invoke/MethodHandle" ∧ mq_Mo_findings.1.cls ≠ "java/lang/invoke/VarHandle" ∧ (parseMethodDescriptor mq_Mo_findings.1.desc).map (fun d => d.parameters.length) = some 1 from by decide +kernel) (by decide) rfl rfl rfl rfl (lw_rr G r1) hs2 (fun r2 μ2 h2 => ?_)
  obtain ⟨rfl, ⟨x, rfl⟩, N2, hiv2⟩ := hp2 r2 μ2 h2
  exact lw_cmpI (v := Int32.ofInt x) C d_law_1189 (by decide) (k μ2 N2 hiv2)
set_option maxRecDepth 100000 in
theorem lw_c34 {p : Program} {l : Launch} {e : Env} {s : State} {m : MethodId} {below : List Frame} {meth : Method} {c : Code} {b L : Nat} {xs : Nat → Int32} {G : sc_G} {i : Nat} {μ : sc_M} {N : Nat} (C : lw_At p s m meth c b L xs) (hG : lw_G G s) (hL : L ≤ 3072) (hi : i + 6 ≤ L) (hiv : iv_ok μ N) (k : ∀ μ2 N2, iv_ok μ2 N2 → lw_W p l e s m below meth c b G i μ2 1208 []) : lw_W p l e s m below meth c b G i μ 1194 [] := by
  obtain ⟨P1, hs1, hp1⟩ := pi_digest l G 5 5  μ N hiv
  refine lw_aload1 C d_law_1194 ?_
  refine lw_call C hG (cN := 4) (b9 := 0) (q := mq_Sc_digest) (st := []) [] d_law_1195 (sc_mem_ok (by decide +kernel)) (sc_mem_ok (by decide +kernel)) (sc_mem_ok (by decide +kernel)) (sc_mem_ok (by decide +kernel)) (show mq_Sc_digest.1.cls ≠ "java/lang/invoke/MethodHandle" ∧ mq_Sc_digest.1.cls ≠ "java/lang/invoke/VarHandle" ∧ (parseMethodDescriptor mq_Sc_digest.1.desc).map (fun d => d.parameters.length) = some 0 from by decide +kernel) (by decide) rfl rfl rfl rfl (by decide) hs1 (fun r1 μ1 h1 => ?_)
  obtain ⟨P2, hs2, hp2⟩ := hp1 r1 μ1 h1
  refine lw_aload2 C d_law_1198 ?_
  refine lw_call C hG (cN := 5) (b9 := 18) (q := mq_Mo_digest) (st := (sc_rr G r1).toList ++ []) [] d_law_1199 (sc_mem_ok (by decide +kernel)) (sc_mem_ok (by decide +kernel)) (sc_mem_ok (by decide +kernel)) (sc_mem_ok (by decide +kernel)) (show mq_Mo_digest.1.cls ≠ "java/lang/invoke/MethodHandle" ∧ mq_Mo_digest.1.cls ≠ "java/lang/invoke/VarHandle" ∧ (parseMethodDescriptor mq_Mo_digest.1.desc).map (fun d => d.parameters.length) = some 0 from by decide +kernel) (by decide) rfl rfl rfl rfl (lw_rr G r1) hs2 (fun r2 μ2 h2 => ?_)
  obtain ⟨rfl, ⟨x, rfl⟩, N2, hiv2⟩ := hp2 r2 μ2 h2
  exact lw_cmpJ (v := Int64.ofInt x) C d_law_1202 d_law_1203 (by decide) (k μ2 N2 hiv2)
