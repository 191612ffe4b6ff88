-- ===== the law: one call after another =====
/-- where the law goes on behind a call -/
abbrev LG (d : Nat) (k : Int) (m : XM) (Q : Option XV → XH → Prop) : Prop := ∀ (z' : Nat) (m' : XM), Cpl m' → m' 1 = m 1 → RZ (d + 1) k_La_law 1386 [vR 1, vR 32, vR 121, vI k] [] (zH z' m') Q
theorem lCmp_self {x y : Int} (h : x = y) : lCmp x y = 0 := by
  subst h; unfold lCmp; rw [if_neg (Int.lt_irrefl x), if_pos rfl]
theorem G_feed (d z : Nat) (m : XM) (k : Int) (Q : Option XV → XH → Prop) (hd : 30 ≤ d) (hC : Cpl m) (hk : 0 ≤ k ∧ k + 5 ≤ m 1 (-1) ∧ m 1 (-1) ≤ 2560) (hs : ∀ i, -2147483648 ≤ m 1 i ∧ m 1 i < 2147483648) (go : LG d k m Q) : RZ (d + 1) k_La_law 204 [vR 1, vR 32, vR 121, vI k] [] (zH z m) Q := by
  refine r_loadA a221_204 rfl (by decide) ?_
  refine r_loadA a221_205 rfl (by decide) ?_
  refine r_loadI a221_206 rfl ?_
  refine r_pushI a221_207 ?_
  refine r_add a221_208 (by omega) ?_
  refine r_ialdS a221_209 (by omega) ?_
  refine r_callI_2 a221_210 (Nat.le_of_ble_eq_true rfl) (le_mx mx64 (Nat.le_of_ble_eq_true rfl)) (Or.inr (recv_ok ty32 ow64 (by decide))) (CI.kh (J_feed d z m (m 1 (k + 1)) (by omega) hC)) (fun x_210 m_210 h_210 => ?_)
  obtain ⟨h_210, e_210⟩ := h_210
  have e2 : m_210 1 (-1) = m 1 (-1) := by rw [e_210]
  refine r_loadA a221_213 rfl (by decide) ?_
  refine r_loadA a221_214 rfl (by decide) ?_
  refine r_loadI a221_215 rfl ?_
  refine r_pushI a221_216 ?_
  refine r_add a221_217 (by omega) ?_
  refine r_ialdS a221_218 (by omega) ?_
  rw [e_210]
  refine r_callI_2 a221_219 (Nat.le_of_ble_eq_true rfl) (le_mx mx123 (Nat.le_of_ble_eq_true rfl)) (Or.inr (recv_ok ty121 ow123 (by decide))) (h_210) (fun x_219 m_219 h_219 => ?_)
  refine r_iceq a221_222 (fun h_222 => ?_) (fun h_222 => ?_)
  · exact go z m_219 h_219.2.1 h_219.2.2
  · exact absurd h_219.1 h_222
theorem G_slope (d z : Nat) (m : XM) (k : Int) (Q : Option XV → XH → Prop) (hd : 30 ≤ d) (hC : Cpl m) (hk : 0 ≤ k ∧ k + 5 ≤ m 1 (-1) ∧ m 1 (-1) ≤ 2560) (hs : ∀ i, -2147483648 ≤ m 1 i ∧ m 1 i < 2147483648) (go : LG d k m Q) : RZ (d + 1) k_La_law 227 [vR 1, vR 32, vR 121, vI k] [] (zH z m) Q := by
  refine r_loadA a221_227 rfl (by decide) ?_
  refine r_callH a221_228 (as := [vR 32]) (rest := []) rfl rfl (Nat.le_of_ble_eq_true rfl) (le_mx mx65 (Nat.le_of_ble_eq_true rfl)) (Or.inr (recv_ok ty32 ow65 (by decide))) (J_slope d z m hd hC) (fun r H' hq => ?_)
  obtain ⟨z', m1, x, rfl, rfl, hm⟩ := hq
  refine r_loadA a221_231 rfl (by decide) ?_
  refine r_callI_1 a221_232 (Nat.le_of_ble_eq_true rfl) (le_mx mx136 (Nat.le_of_ble_eq_true rfl)) (Or.inr (recv_ok ty121 ow136 (by decide))) hm (fun y m2 h => ?_)
  refine r_iceq a221_235 (fun _ => go z' m2 h.2.1 h.2.2) (fun hn => absurd h.1 hn)
theorem G_gate (d z : Nat) (m : XM) (k : Int) (Q : Option XV → XH → Prop) (hd : 30 ≤ d) (hC : Cpl m) (hk : 0 ≤ k ∧ k + 5 ≤ m 1 (-1) ∧ m 1 (-1) ≤ 2560) (hs : ∀ i, -2147483648 ≤ m 1 i ∧ m 1 i < 2147483648) (go : LG d k m Q) : RZ (d + 1) k_La_law 240 [vR 1, vR 32, vR 121, vI k] [] (zH z m) Q := by
  refine r_loadA a221_240 rfl (by decide) ?_
  refine r_loadA a221_241 rfl (by decide) ?_
  refine r_loadI a221_242 rfl ?_
  refine r_pushI a221_243 ?_
  refine r_add a221_244 (by omega) ?_
  refine r_ialdS a221_245 (by omega) ?_
  refine r_loadA a221_246 rfl (by decide) ?_
  refine r_loadI a221_247 rfl ?_
  refine r_pushI a221_248 ?_
  refine r_add a221_249 (by omega) ?_
  refine r_ialdS a221_250 (by omega) ?_
  refine r_loadA a221_251 rfl (by decide) ?_
  refine r_loadI a221_252 rfl ?_
  refine r_pushI a221_253 ?_
  refine r_add a221_254 (by omega) ?_
  refine r_ialdS a221_255 (by omega) ?_
  refine r_callI_4 a221_256 (Nat.le_of_ble_eq_true rfl) (le_mx mx66 (Nat.le_of_ble_eq_true rfl)) (Or.inr (recv_ok ty32 ow66 (by decide))) (CI.kh (J_gate d z m (m 1 (k + 1)) (m 1 (k + 2)) (m 1 (k + 3)) (by omega) hC)) (fun x_256 m_256 h_256 => ?_)
  obtain ⟨h_256, e_256⟩ := h_256
  have e2 : m_256 1 (-1) = m 1 (-1) := by rw [e_256]
  refine r_loadA a221_259 rfl (by decide) ?_
  refine r_loadA a221_260 rfl (by decide) ?_
  refine r_loadI a221_261 rfl ?_
  refine r_pushI a221_262 ?_
  refine r_add a221_263 (by omega) ?_
  refine r_ialdS a221_264 (by omega) ?_
  refine r_loadA a221_265 rfl (by decide) ?_
  refine r_loadI a221_266 rfl ?_
  refine r_pushI a221_267 ?_
  refine r_add a221_268 (by omega) ?_
  refine r_ialdS a221_269 (by omega) ?_
  refine r_loadA a221_270 rfl (by decide) ?_
  refine r_loadI a221_271 rfl ?_
  refine r_pushI a221_272 ?_
  refine r_add a221_273 (by omega) ?_
  refine r_ialdS a221_274 (by omega) ?_
  rw [e_256]
  refine r_callI_4 a221_275 (Nat.le_of_ble_eq_true rfl) (le_mx mx139 (Nat.le_of_ble_eq_true rfl)) (Or.inr (recv_ok ty121 ow139 (by decide))) (h_256) (fun x_275 m_275 h_275 => ?_)
  refine r_iceq a221_278 (fun h_278 => ?_) (fun h_278 => ?_)
  · exact go z m_275 h_275.2.1 h_275.2.2
  · exact absurd h_275.1 h_278
theorem G_of (d z : Nat) (m : XM) (k : Int) (Q : Option XV → XH → Prop) (hd : 30 ≤ d) (hC : Cpl m) (hk : 0 ≤ k ∧ k + 5 ≤ m 1 (-1) ∧ m 1 (-1) ≤ 2560) (hs : ∀ i, -2147483648 ≤ m 1 i ∧ m 1 i < 2147483648) (go : LG d k m Q) : RZ (d + 1) k_La_law 283 [vR 1, vR 32, vR 121, vI k] [] (zH z m) Q := by
  refine r_loadA a221_283 rfl (by decide) ?_
  refine r_loadA a221_284 rfl (by decide) ?_
  refine r_loadI a221_285 rfl ?_
  refine r_pushI a221_286 ?_
  refine r_add a221_287 (by omega) ?_
  refine r_ialdS a221_288 (by omega) ?_
  refine r_loadA a221_289 rfl (by decide) ?_
  refine r_loadI a221_290 rfl ?_
  refine r_pushI a221_291 ?_
  refine r_add a221_292 (by omega) ?_
  refine r_ialdS a221_293 (by omega) ?_
  refine r_callI_3 a221_294 (Nat.le_of_ble_eq_true rfl) (le_mx mx67 (Nat.le_of_ble_eq_true rfl)) (Or.inr (recv_ok ty32 ow67 (by decide))) (CI.kh (J_of d z m (m 1 (k + 1)) (m 1 (k + 2)) (by omega) hC)) (fun x_294 m_294 h_294 => ?_)
  obtain ⟨h_294, e_294⟩ := h_294
  have e2 : m_294 1 (-1) = m 1 (-1) := by rw [e_294]
  refine r_loadA a221_297 rfl (by decide) ?_
  refine r_loadA a221_298 rfl (by decide) ?_
  refine r_loadI a221_299 rfl ?_
  refine r_pushI a221_300 ?_
  refine r_add a221_301 (by omega) ?_
  refine r_ialdS a221_302 (by omega) ?_
  refine r_loadA a221_303 rfl (by decide) ?_
  refine r_loadI a221_304 rfl ?_
  refine r_pushI a221_305 ?_
  refine r_add a221_306 (by omega) ?_
  refine r_ialdS a221_307 (by omega) ?_
  rw [e_294]
  refine r_callI_3 a221_308 (Nat.le_of_ble_eq_true rfl) (le_mx mx140 (Nat.le_of_ble_eq_true rfl)) (Or.inr (recv_ok ty121 ow140 (by decide))) (h_294) (fun x_308 m_308 h_308 => ?_)
  refine r_iceq a221_311 (fun h_311 => ?_) (fun h_311 => ?_)
  · exact go z m_308 h_308.2.1 h_308.2.2
  · exact absurd h_308.1 h_311
theorem G_turn (d z : Nat) (m : XM) (k : Int) (Q : Option XV → XH → Prop) (hd : 30 ≤ d) (hC : Cpl m) (hk : 0 ≤ k ∧ k + 5 ≤ m 1 (-1) ∧ m 1 (-1) ≤ 2560) (hs : ∀ i, -2147483648 ≤ m 1 i ∧ m 1 i < 2147483648) (go : LG d k m Q) : RZ (d + 1) k_La_law 316 [vR 1, vR 32, vR 121, vI k] [] (zH z m) Q := by
  refine r_loadA a221_316 rfl (by decide) ?_
  refine r_loadA a221_317 rfl (by decide) ?_
  refine r_loadI a221_318 rfl ?_
  refine r_pushI a221_319 ?_
  refine r_add a221_320 (by omega) ?_
  refine r_ialdS a221_321 (by omega) ?_
  refine r_loadA a221_322 rfl (by decide) ?_
  refine r_loadI a221_323 rfl ?_
  refine r_pushI a221_324 ?_
  refine r_add a221_325 (by omega) ?_
  refine r_ialdS a221_326 (by omega) ?_
  refine r_callI_3 a221_327 (Nat.le_of_ble_eq_true rfl) (le_mx mx68 (Nat.le_of_ble_eq_true rfl)) (Or.inr (recv_ok ty32 ow68 (by decide))) (CI.kh (J_turn d z m (m 1 (k + 1)) (m 1 (k + 2)) (by omega) hC)) (fun x_327 m_327 h_327 => ?_)
  obtain ⟨h_327, e_327⟩ := h_327
  have e2 : m_327 1 (-1) = m 1 (-1) := by rw [e_327]
  refine r_loadA a221_330 rfl (by decide) ?_
  refine r_loadA a221_331 rfl (by decide) ?_
  refine r_loadI a221_332 rfl ?_
  refine r_pushI a221_333 ?_
  refine r_add a221_334 (by omega) ?_
  refine r_ialdS a221_335 (by omega) ?_
  refine r_loadA a221_336 rfl (by decide) ?_
  refine r_loadI a221_337 rfl ?_
  refine r_pushI a221_338 ?_
  refine r_add a221_339 (by omega) ?_
  refine r_ialdS a221_340 (by omega) ?_
  rw [e_327]
  refine r_callI_3 a221_341 (Nat.le_of_ble_eq_true rfl) (le_mx mx141 (Nat.le_of_ble_eq_true rfl)) (Or.inr (recv_ok ty121 ow141 (by decide))) (h_327) (fun x_341 m_341 h_341 => ?_)
  refine r_iceq a221_344 (fun h_344 => ?_) (fun h_344 => ?_)
  · exact go z m_341 h_341.2.1 h_341.2.2
  · exact absurd h_341.1 h_344
theorem G_plan (d z : Nat) (m : XM) (k : Int) (Q : Option XV → XH → Prop) (hd : 30 ≤ d) (hC : Cpl m) (hk : 0 ≤ k ∧ k + 5 ≤ m 1 (-1) ∧ m 1 (-1) ≤ 2560) (hs : ∀ i, -2147483648 ≤ m 1 i ∧ m 1 i < 2147483648) (go : LG d k m Q) : RZ (d + 1) k_La_law 349 [vR 1, vR 32, vR 121, vI k] [] (zH z m) Q := by
  refine r_loadA a221_349 rfl (by decide) ?_
  refine r_loadA a221_350 rfl (by decide) ?_
  refine r_loadI a221_351 rfl ?_
  refine r_pushI a221_352 ?_
  refine r_add a221_353 (by omega) ?_
  refine r_ialdS a221_354 (by omega) ?_
  refine r_loadA a221_355 rfl (by decide) ?_
  refine r_loadI a221_356 rfl ?_
  refine r_pushI a221_357 ?_
  refine r_add a221_358 (by omega) ?_
  refine r_ialdS a221_359 (by omega) ?_
  refine r_callI_3 a221_360 (Nat.le_of_ble_eq_true rfl) (le_mx mx69 (Nat.le_of_ble_eq_true rfl)) (Or.inr (recv_ok ty32 ow69 (by decide))) (CI.kh (J_plan d z m (m 1 (k + 1)) (m 1 (k + 2)) (by omega) hC)) (fun x_360 m_360 h_360 => ?_)
  obtain ⟨h_360, e_360⟩ := h_360
  have e2 : m_360 1 (-1) = m 1 (-1) := by rw [e_360]
  refine r_loadA a221_363 rfl (by decide) ?_
  refine r_loadA a221_364 rfl (by decide) ?_
  refine r_loadI a221_365 rfl ?_
  refine r_pushI a221_366 ?_
  refine r_add a221_367 (by omega) ?_
  refine r_ialdS a221_368 (by omega) ?_
  refine r_loadA a221_369 rfl (by decide) ?_
  refine r_loadI a221_370 rfl ?_
  refine r_pushI a221_371 ?_
  refine r_add a221_372 (by omega) ?_
  refine r_ialdS a221_373 (by omega) ?_
  rw [e_360]
  refine r_callI_3 a221_374 (Nat.le_of_ble_eq_true rfl) (le_mx mx142 (Nat.le_of_ble_eq_true rfl)) (Or.inr (recv_ok ty121 ow142 (by decide))) (h_360) (fun x_374 m_374 h_374 => ?_)
  refine r_iceq a221_377 (fun h_377 => ?_) (fun h_377 => ?_)
  · exact go z m_374 h_374.2.1 h_374.2.2
  · exact absurd h_374.1 h_377
theorem G_row (d z : Nat) (m : XM) (k : Int) (Q : Option XV → XH → Prop) (hd : 30 ≤ d) (hC : Cpl m) (hk : 0 ≤ k ∧ k + 5 ≤ m 1 (-1) ∧ m 1 (-1) ≤ 2560) (hs : ∀ i, -2147483648 ≤ m 1 i ∧ m 1 i < 2147483648) (go : LG d k m Q) : RZ (d + 1) k_La_law 382 [vR 1, vR 32, vR 121, vI k] [] (zH z m) Q := by
  refine r_loadA a221_382 rfl (by decide) ?_
  refine r_loadA a221_383 rfl (by decide) ?_
  refine r_loadI a221_384 rfl ?_
  refine r_pushI a221_385 ?_
  refine r_add a221_386 (by omega) ?_
  refine r_ialdS a221_387 (by omega) ?_
  refine r_loadA a221_388 rfl (by decide) ?_
  refine r_loadI a221_389 rfl ?_
  refine r_pushI a221_390 ?_
  refine r_add a221_391 (by omega) ?_
  refine r_ialdS a221_392 (by omega) ?_
  refine r_loadA a221_393 rfl (by decide) ?_
  refine r_loadI a221_394 rfl ?_
  refine r_pushI a221_395 ?_
  refine r_add a221_396 (by omega) ?_
  refine r_ialdS a221_397 (by omega) ?_
  refine r_callI_4 a221_398 (Nat.le_of_ble_eq_true rfl) (le_mx mx70 (Nat.le_of_ble_eq_true rfl)) (Or.inr (recv_ok ty32 ow70 (by decide))) (CI.kh (J_row d z m (m 1 (k + 1)) (m 1 (k + 2)) (m 1 (k + 3)) (by omega) hC)) (fun x_398 m_398 h_398 => ?_)
  obtain ⟨h_398, e_398⟩ := h_398
  have e2 : m_398 1 (-1) = m 1 (-1) := by rw [e_398]
  refine r_loadA a221_401 rfl (by decide) ?_
  refine r_loadA a221_402 rfl (by decide) ?_
  refine r_loadI a221_403 rfl ?_
  refine r_pushI a221_404 ?_
  refine r_add a221_405 (by omega) ?_
  refine r_ialdS a221_406 (by omega) ?_
  refine r_loadA a221_407 rfl (by decide) ?_
  refine r_loadI a221_408 rfl ?_
  refine r_pushI a221_409 ?_
  refine r_add a221_410 (by omega) ?_
  refine r_ialdS a221_411 (by omega) ?_
  refine r_loadA a221_412 rfl (by decide) ?_
  refine r_loadI a221_413 rfl ?_
  refine r_pushI a221_414 ?_
  refine r_add a221_415 (by omega) ?_
  refine r_ialdS a221_416 (by omega) ?_
  rw [e_398]
  refine r_callI_4 a221_417 (Nat.le_of_ble_eq_true rfl) (le_mx mx143 (Nat.le_of_ble_eq_true rfl)) (Or.inr (recv_ok ty121 ow143 (by decide))) (h_398) (fun x_417 m_417 h_417 => ?_)
  refine r_iceq a221_420 (fun h_420 => ?_) (fun h_420 => ?_)
  · exact go z m_417 h_417.2.1 h_417.2.2
  · exact absurd h_417.1 h_420
theorem G_skier (d z : Nat) (m : XM) (k : Int) (Q : Option XV → XH → Prop) (hd : 30 ≤ d) (hC : Cpl m) (hk : 0 ≤ k ∧ k + 5 ≤ m 1 (-1) ∧ m 1 (-1) ≤ 2560) (hs : ∀ i, -2147483648 ≤ m 1 i ∧ m 1 i < 2147483648) (go : LG d k m Q) : RZ (d + 1) k_La_law 425 [vR 1, vR 32, vR 121, vI k] [] (zH z m) Q := by
  refine r_loadA a221_425 rfl (by decide) ?_
  refine r_loadA a221_426 rfl (by decide) ?_
  refine r_loadI a221_427 rfl ?_
  refine r_pushI a221_428 ?_
  refine r_add a221_429 (by omega) ?_
  refine r_ialdS a221_430 (by omega) ?_
  refine r_callI_2 a221_431 (Nat.le_of_ble_eq_true rfl) (le_mx mx71 (Nat.le_of_ble_eq_true rfl)) (Or.inr (recv_ok ty32 ow71 (by decide))) (CI.kh (J_skier d z m (m 1 (k + 1)) (by omega) hC)) (fun x_431 m_431 h_431 => ?_)
  obtain ⟨h_431, e_431⟩ := h_431
  have e2 : m_431 1 (-1) = m 1 (-1) := by rw [e_431]
  refine r_loadA a221_434 rfl (by decide) ?_
  refine r_loadA a221_435 rfl (by decide) ?_
  refine r_loadI a221_436 rfl ?_
  refine r_pushI a221_437 ?_
  refine r_add a221_438 (by omega) ?_
  refine r_ialdS a221_439 (by omega) ?_
  rw [e_431]
  refine r_callI_2 a221_440 (Nat.le_of_ble_eq_true rfl) (le_mx mx144 (Nat.le_of_ble_eq_true rfl)) (Or.inr (recv_ok ty121 ow144 (by decide))) (h_431) (fun x_440 m_440 h_440 => ?_)
  refine r_iceq a221_443 (fun h_443 => ?_) (fun h_443 => ?_)
  · exact go z m_440 h_440.2.1 h_440.2.2
  · exact absurd h_440.1 h_443
theorem G_skill (d z : Nat) (m : XM) (k : Int) (Q : Option XV → XH → Prop) (hd : 30 ≤ d) (hC : Cpl m) (hk : 0 ≤ k ∧ k + 5 ≤ m 1 (-1) ∧ m 1 (-1) ≤ 2560) (hs : ∀ i, -2147483648 ≤ m 1 i ∧ m 1 i < 2147483648) (go : LG d k m Q) : RZ (d + 1) k_La_law 448 [vR 1, vR 32, vR 121, vI k] [] (zH z m) Q := by
  refine r_loadA a221_448 rfl (by decide) ?_
  refine r_loadA a221_449 rfl (by decide) ?_
  refine r_loadI a221_450 rfl ?_
  refine r_pushI a221_451 ?_
  refine r_add a221_452 (by omega) ?_
  refine r_ialdS a221_453 (by omega) ?_
  refine r_loadA a221_454 rfl (by decide) ?_
  refine r_loadI a221_455 rfl ?_
  refine r_pushI a221_456 ?_
  refine r_add a221_457 (by omega) ?_
  refine r_ialdS a221_458 (by omega) ?_
  refine r_callI_3 a221_459 (Nat.le_of_ble_eq_true rfl) (le_mx mx72 (Nat.le_of_ble_eq_true rfl)) (Or.inr (recv_ok ty32 ow72 (by decide))) (CI.kh (J_skill d z m (m 1 (k + 1)) (m 1 (k + 2)) (by omega) hC)) (fun x_459 m_459 h_459 => ?_)
  obtain ⟨h_459, e_459⟩ := h_459
  have e2 : m_459 1 (-1) = m 1 (-1) := by rw [e_459]
  refine r_loadA a221_462 rfl (by decide) ?_
  refine r_loadA a221_463 rfl (by decide) ?_
  refine r_loadI a221_464 rfl ?_
  refine r_pushI a221_465 ?_
  refine r_add a221_466 (by omega) ?_
  refine r_ialdS a221_467 (by omega) ?_
  refine r_loadA a221_468 rfl (by decide) ?_
  refine r_loadI a221_469 rfl ?_
  refine r_pushI a221_470 ?_
  refine r_add a221_471 (by omega) ?_
  refine r_ialdS a221_472 (by omega) ?_
  rw [e_459]
  refine r_callI_3 a221_473 (Nat.le_of_ble_eq_true rfl) (le_mx mx145 (Nat.le_of_ble_eq_true rfl)) (Or.inr (recv_ok ty121 ow145 (by decide))) (h_459) (fun x_473 m_473 h_473 => ?_)
  refine r_iceq a221_476 (fun h_476 => ?_) (fun h_476 => ?_)
  · exact go z m_473 h_473.2.1 h_473.2.2
  · exact absurd h_473.1 h_476
theorem G_told (d z : Nat) (m : XM) (k : Int) (Q : Option XV → XH → Prop) (hd : 30 ≤ d) (hC : Cpl m) (hk : 0 ≤ k ∧ k + 5 ≤ m 1 (-1) ∧ m 1 (-1) ≤ 2560) (hs : ∀ i, -2147483648 ≤ m 1 i ∧ m 1 i < 2147483648) (go : LG d k m Q) : RZ (d + 1) k_La_law 481 [vR 1, vR 32, vR 121, vI k] [] (zH z m) Q := by
  refine r_loadA a221_481 rfl (by decide) ?_
  refine r_loadA a221_482 rfl (by decide) ?_
  refine r_loadI a221_483 rfl ?_
  refine r_pushI a221_484 ?_
  refine r_add a221_485 (by omega) ?_
  refine r_ialdS a221_486 (by omega) ?_
  refine r_callI_2 a221_487 (Nat.le_of_ble_eq_true rfl) (le_mx mx73 (Nat.le_of_ble_eq_true rfl)) (Or.inr (recv_ok ty32 ow73 (by decide))) (CI.kh (J_told d z m (m 1 (k + 1)) (by omega) hC)) (fun x_487 m_487 h_487 => ?_)
  obtain ⟨h_487, e_487⟩ := h_487
  have e2 : m_487 1 (-1) = m 1 (-1) := by rw [e_487]
  refine r_loadA a221_490 rfl (by decide) ?_
  refine r_loadA a221_491 rfl (by decide) ?_
  refine r_loadI a221_492 rfl ?_
  refine r_pushI a221_493 ?_
  refine r_add a221_494 (by omega) ?_
  refine r_ialdS a221_495 (by omega) ?_
  rw [e_487]
  refine r_callI_2 a221_496 (Nat.le_of_ble_eq_true rfl) (le_mx mx146 (Nat.le_of_ble_eq_true rfl)) (Or.inr (recv_ok ty121 ow146 (by decide))) (h_487) (fun x_496 m_496 h_496 => ?_)
  refine r_iceq a221_499 (fun h_499 => ?_) (fun h_499 => ?_)
  · exact go z m_496 h_496.2.1 h_496.2.2
  · exact absurd h_496.1 h_499
theorem G_run (d z : Nat) (m : XM) (k : Int) (Q : Option XV → XH → Prop) (hd : 30 ≤ d) (hC : Cpl m) (hk : 0 ≤ k ∧ k + 5 ≤ m 1 (-1) ∧ m 1 (-1) ≤ 2560) (hs : ∀ i, -2147483648 ≤ m 1 i ∧ m 1 i < 2147483648) (go : LG d k m Q) : RZ (d + 1) k_La_law 504 [vR 1, vR 32, vR 121, vI k] [] (zH z m) Q := by
  refine r_loadA a221_504 rfl (by decide) ?_
  refine r_loadA a221_505 rfl (by decide) ?_
  refine r_loadI a221_506 rfl ?_
  refine r_pushI a221_507 ?_
  refine r_add a221_508 (by omega) ?_
  refine r_ialdS a221_509 (by omega) ?_
  refine r_callI_2 a221_510 (Nat.le_of_ble_eq_true rfl) (le_mx mx74 (Nat.le_of_ble_eq_true rfl)) (Or.inr (recv_ok ty32 ow74 (by decide))) (CI.kh (J_run d z m (m 1 (k + 1)) (by omega) hC)) (fun x_510 m_510 h_510 => ?_)
  obtain ⟨h_510, e_510⟩ := h_510
  have e2 : m_510 1 (-1) = m 1 (-1) := by rw [e_510]
  refine r_loadA a221_513 rfl (by decide) ?_
  refine r_loadA a221_514 rfl (by decide) ?_
  refine r_loadI a221_515 rfl ?_
  refine r_pushI a221_516 ?_
  refine r_add a221_517 (by omega) ?_
  refine r_ialdS a221_518 (by omega) ?_
  rw [e_510]
  refine r_callI_2 a221_519 (Nat.le_of_ble_eq_true rfl) (le_mx mx155 (Nat.le_of_ble_eq_true rfl)) (Or.inr (recv_ok ty121 ow155 (by decide))) (h_510) (fun x_519 m_519 h_519 => ?_)
  refine r_iceq a221_522 (fun h_522 => ?_) (fun h_522 => ?_)
  · exact go z m_519 h_519.2.1 h_519.2.2
  · exact absurd h_519.1 h_522
theorem G_would (d z : Nat) (m : XM) (k : Int) (Q : Option XV → XH → Prop) (hd : 30 ≤ d) (hC : Cpl m) (hk : 0 ≤ k ∧ k + 5 ≤ m 1 (-1) ∧ m 1 (-1) ≤ 2560) (hs : ∀ i, -2147483648 ≤ m 1 i ∧ m 1 i < 2147483648) (go : LG d k m Q) : RZ (d + 1) k_La_law 527 [vR 1, vR 32, vR 121, vI k] [] (zH z m) Q := by
  refine r_loadA a221_527 rfl (by decide) ?_
  refine r_loadA a221_528 rfl (by decide) ?_
  refine r_loadI a221_529 rfl ?_
  refine r_pushI a221_530 ?_
  refine r_add a221_531 (by omega) ?_
  refine r_ialdS a221_532 (by omega) ?_
  refine r_loadA a221_533 rfl (by decide) ?_
  refine r_loadI a221_534 rfl ?_
  refine r_pushI a221_535 ?_
  refine r_add a221_536 (by omega) ?_
  refine r_ialdS a221_537 (by omega) ?_
  refine r_callI_3 a221_538 (Nat.le_of_ble_eq_true rfl) (le_mx mx75 (Nat.le_of_ble_eq_true rfl)) (Or.inr (recv_ok ty32 ow75 (by decide))) (CI.kh (J_would d z m (m 1 (k + 1)) (m 1 (k + 2)) (by omega) (hs _) hC)) (fun x_538 m_538 h_538 => ?_)
  obtain ⟨h_538, e_538⟩ := h_538
  have e2 : m_538 1 (-1) = m 1 (-1) := by rw [e_538]
  refine r_loadA a221_541 rfl (by decide) ?_
  refine r_loadA a221_542 rfl (by decide) ?_
  refine r_loadI a221_543 rfl ?_
  refine r_pushI a221_544 ?_
  refine r_add a221_545 (by omega) ?_
  refine r_ialdS a221_546 (by omega) ?_
  refine r_loadA a221_547 rfl (by decide) ?_
  refine r_loadI a221_548 rfl ?_
  refine r_pushI a221_549 ?_
  refine r_add a221_550 (by omega) ?_
  refine r_ialdS a221_551 (by omega) ?_
  rw [e_538]
  refine r_callI_3 a221_552 (Nat.le_of_ble_eq_true rfl) (le_mx mx156 (Nat.le_of_ble_eq_true rfl)) (Or.inr (recv_ok ty121 ow156 (by decide))) (h_538) (fun x_552 m_552 h_552 => ?_)
  refine r_iceq a221_555 (fun h_555 => ?_) (fun h_555 => ?_)
  · exact go z m_552 h_552.2.1 h_552.2.2
  · exact absurd h_552.1 h_555
theorem G_quickest (d z : Nat) (m : XM) (k : Int) (Q : Option XV → XH → Prop) (hd : 30 ≤ d) (hC : Cpl m) (hk : 0 ≤ k ∧ k + 5 ≤ m 1 (-1) ∧ m 1 (-1) ≤ 2560) (hs : ∀ i, -2147483648 ≤ m 1 i ∧ m 1 i < 2147483648) (go : LG d k m Q) : RZ (d + 1) k_La_law 560 [vR 1, vR 32, vR 121, vI k] [] (zH z m) Q := by
  refine r_loadA a221_560 rfl (by decide) ?_
  refine r_loadA a221_561 rfl (by decide) ?_
  refine r_loadI a221_562 rfl ?_
  refine r_pushI a221_563 ?_
  refine r_add a221_564 (by omega) ?_
  refine r_ialdS a221_565 (by omega) ?_
  refine r_loadA a221_566 rfl (by decide) ?_
  refine r_loadI a221_567 rfl ?_
  refine r_pushI a221_568 ?_
  refine r_add a221_569 (by omega) ?_
  refine r_ialdS a221_570 (by omega) ?_
  refine r_callI_3 a221_571 (Nat.le_of_ble_eq_true rfl) (le_mx mx76 (Nat.le_of_ble_eq_true rfl)) (Or.inr (recv_ok ty32 ow76 (by decide))) (CI.kh (J_quickest d z m (m 1 (k + 1)) (m 1 (k + 2)) (by omega) hC)) (fun x_571 m_571 h_571 => ?_)
  obtain ⟨h_571, e_571⟩ := h_571
  have e2 : m_571 1 (-1) = m 1 (-1) := by rw [e_571]
  refine r_loadA a221_574 rfl (by decide) ?_
  refine r_loadA a221_575 rfl (by decide) ?_
  refine r_loadI a221_576 rfl ?_
  refine r_pushI a221_577 ?_
  refine r_add a221_578 (by omega) ?_
  refine r_ialdS a221_579 (by omega) ?_
  refine r_loadA a221_580 rfl (by decide) ?_
  refine r_loadI a221_581 rfl ?_
  refine r_pushI a221_582 ?_
  refine r_add a221_583 (by omega) ?_
  refine r_ialdS a221_584 (by omega) ?_
  rw [e_571]
  refine r_callI_3 a221_585 (Nat.le_of_ble_eq_true rfl) (le_mx mx167 (Nat.le_of_ble_eq_true rfl)) (Or.inr (recv_ok ty121 ow167 (by decide))) (h_571) (fun x_585 m_585 h_585 => ?_)
  refine r_iceq a221_588 (fun h_588 => ?_) (fun h_588 => ?_)
  · exact go z m_585 h_585.2.1 h_585.2.2
  · exact absurd h_585.1 h_588
theorem G_clean (d z : Nat) (m : XM) (k : Int) (Q : Option XV → XH → Prop) (hd : 30 ≤ d) (hC : Cpl m) (hk : 0 ≤ k ∧ k + 5 ≤ m 1 (-1) ∧ m 1 (-1) ≤ 2560) (hs : ∀ i, -2147483648 ≤ m 1 i ∧ m 1 i < 2147483648) (go : LG d k m Q) : RZ (d + 1) k_La_law 593 [vR 1, vR 32, vR 121, vI k] [] (zH z m) Q := by
  refine r_loadA a221_593 rfl (by decide) ?_
  refine r_loadA a221_594 rfl (by decide) ?_
  refine r_loadI a221_595 rfl ?_
  refine r_pushI a221_596 ?_
  refine r_add a221_597 (by omega) ?_
  refine r_ialdS a221_598 (by omega) ?_
  refine r_loadA a221_599 rfl (by decide) ?_
  refine r_loadI a221_600 rfl ?_
  refine r_pushI a221_601 ?_
  refine r_add a221_602 (by omega) ?_
  refine r_ialdS a221_603 (by omega) ?_
  refine r_callI_3 a221_604 (Nat.le_of_ble_eq_true rfl) (le_mx mx77 (Nat.le_of_ble_eq_true rfl)) (Or.inr (recv_ok ty32 ow77 (by decide))) (CI.kh (J_clean d z m (m 1 (k + 1)) (m 1 (k + 2)) (by omega) hC)) (fun x_604 m_604 h_604 => ?_)
  obtain ⟨h_604, e_604⟩ := h_604
  have e2 : m_604 1 (-1) = m 1 (-1) := by rw [e_604]
  refine r_loadA a221_607 rfl (by decide) ?_
  refine r_loadA a221_608 rfl (by decide) ?_
  refine r_loadI a221_609 rfl ?_
  refine r_pushI a221_610 ?_
  refine r_add a221_611 (by omega) ?_
  refine r_ialdS a221_612 (by omega) ?_
  refine r_loadA a221_613 rfl (by decide) ?_
  refine r_loadI a221_614 rfl ?_
  refine r_pushI a221_615 ?_
  refine r_add a221_616 (by omega) ?_
  refine r_ialdS a221_617 (by omega) ?_
  rw [e_604]
  refine r_callI_3 a221_618 (Nat.le_of_ble_eq_true rfl) (le_mx mx168 (Nat.le_of_ble_eq_true rfl)) (Or.inr (recv_ok ty121 ow168 (by decide))) (h_604) (fun x_618 m_618 h_618 => ?_)
  refine r_iceq a221_621 (fun h_621 => ?_) (fun h_621 => ?_)
  · exact go z m_618 h_618.2.1 h_618.2.2
  · exact absurd h_618.1 h_621
theorem G_up (d z : Nat) (m : XM) (k : Int) (Q : Option XV → XH → Prop) (hd : 30 ≤ d) (hC : Cpl m) (hk : 0 ≤ k ∧ k + 5 ≤ m 1 (-1) ∧ m 1 (-1) ≤ 2560) (hs : ∀ i, -2147483648 ≤ m 1 i ∧ m 1 i < 2147483648) (go : LG d k m Q) : RZ (d + 1) k_La_law 626 [vR 1, vR 32, vR 121, vI k] [] (zH z m) Q := by
  refine r_loadA a221_626 rfl (by decide) ?_
  refine r_loadA a221_627 rfl (by decide) ?_
  refine r_loadI a221_628 rfl ?_
  refine r_pushI a221_629 ?_
  refine r_add a221_630 (by omega) ?_
  refine r_ialdS a221_631 (by omega) ?_
  refine r_loadA a221_632 rfl (by decide) ?_
  refine r_loadI a221_633 rfl ?_
  refine r_pushI a221_634 ?_
  refine r_add a221_635 (by omega) ?_
  refine r_ialdS a221_636 (by omega) ?_
  refine r_callL_3 a221_637 (Nat.le_of_ble_eq_true rfl) (le_mx mx78 (Nat.le_of_ble_eq_true rfl)) (Or.inr (recv_ok ty32 ow78 (by decide))) (CL.kh (J_up d z m (m 1 (k + 1)) (m 1 (k + 2)) (by omega) hC)) (fun x_637 m_637 h_637 => ?_)
  obtain ⟨h_637, e_637⟩ := h_637
  have e2 : m_637 1 (-1) = m 1 (-1) := by rw [e_637]
  refine r_loadA a221_640 rfl (by decide) ?_
  refine r_loadA a221_641 rfl (by decide) ?_
  refine r_loadI a221_642 rfl ?_
  refine r_pushI a221_643 ?_
  refine r_add a221_644 (by omega) ?_
  refine r_ialdS a221_645 (by omega) ?_
  refine r_loadA a221_646 rfl (by decide) ?_
  refine r_loadI a221_647 rfl ?_
  refine r_pushI a221_648 ?_
  refine r_add a221_649 (by omega) ?_
  refine r_ialdS a221_650 (by omega) ?_
  rw [e_637]
  refine r_callL_3 a221_651 (Nat.le_of_ble_eq_true rfl) (le_mx mx159 (Nat.le_of_ble_eq_true rfl)) (Or.inr (recv_ok ty121 ow159 (by decide))) (h_637) (fun x_651 m_651 h_651 => ?_)
  refine r_lcmp a221_654 ?_
  refine r_ifeq a221_655 (fun h_655 => ?_) (fun h_655 => ?_)
  · exact go z m_651 h_651.2.1 h_651.2.2
  · exact absurd (lCmp_self h_651.1) h_655
theorem G_surest (d z : Nat) (m : XM) (k : Int) (Q : Option XV → XH → Prop) (hd : 30 ≤ d) (hC : Cpl m) (hk : 0 ≤ k ∧ k + 5 ≤ m 1 (-1) ∧ m 1 (-1) ≤ 2560) (hs : ∀ i, -2147483648 ≤ m 1 i ∧ m 1 i < 2147483648) (go : LG d k m Q) : RZ (d + 1) k_La_law 660 [vR 1, vR 32, vR 121, vI k] [] (zH z m) Q := by
  refine r_loadA a221_660 rfl (by decide) ?_
  refine r_loadA a221_661 rfl (by decide) ?_
  refine r_loadI a221_662 rfl ?_
  refine r_pushI a221_663 ?_
  refine r_add a221_664 (by omega) ?_
  refine r_ialdS a221_665 (by omega) ?_
  refine r_loadA a221_666 rfl (by decide) ?_
  refine r_loadI a221_667 rfl ?_
  refine r_pushI a221_668 ?_
  refine r_add a221_669 (by omega) ?_
  refine r_ialdS a221_670 (by omega) ?_
  refine r_loadA a221_671 rfl (by decide) ?_
  refine r_loadI a221_672 rfl ?_
  refine r_pushI a221_673 ?_
  refine r_add a221_674 (by omega) ?_
  refine r_ialdS a221_675 (by omega) ?_
  refine r_callL_4 a221_676 (Nat.le_of_ble_eq_true rfl) (le_mx mx79 (Nat.le_of_ble_eq_true rfl)) (Or.inr (recv_ok ty32 ow79 (by decide))) (CL.kh (J_surest d z m (m 1 (k + 1)) (m 1 (k + 2)) (m 1 (k + 3)) (by omega) hC)) (fun x_676 m_676 h_676 => ?_)
  obtain ⟨h_676, e_676⟩ := h_676
  have e2 : m_676 1 (-1) = m 1 (-1) := by rw [e_676]
  refine r_loadA a221_679 rfl (by decide) ?_
  refine r_loadA a221_680 rfl (by decide) ?_
  refine r_loadI a221_681 rfl ?_
  refine r_pushI a221_682 ?_
  refine r_add a221_683 (by omega) ?_
  refine r_ialdS a221_684 (by omega) ?_
  refine r_loadA a221_685 rfl (by decide) ?_
  refine r_loadI a221_686 rfl ?_
  refine r_pushI a221_687 ?_
  refine r_add a221_688 (by omega) ?_
  refine r_ialdS a221_689 (by omega) ?_
  refine r_loadA a221_690 rfl (by decide) ?_
  refine r_loadI a221_691 rfl ?_
  refine r_pushI a221_692 ?_
  refine r_add a221_693 (by omega) ?_
  refine r_ialdS a221_694 (by omega) ?_
  rw [e_676]
  refine r_callL_4 a221_695 (Nat.le_of_ble_eq_true rfl) (le_mx mx171 (Nat.le_of_ble_eq_true rfl)) (Or.inr (recv_ok ty121 ow171 (by decide))) (h_676) (fun x_695 m_695 h_695 => ?_)
  refine r_lcmp a221_698 ?_
  refine r_ifeq a221_699 (fun h_699 => ?_) (fun h_699 => ?_)
  · exact go z m_695 h_695.2.1 h_695.2.2
  · exact absurd (lCmp_self h_695.1) h_699
theorem G_sure (d z : Nat) (m : XM) (k : Int) (Q : Option XV → XH → Prop) (hd : 30 ≤ d) (hC : Cpl m) (hk : 0 ≤ k ∧ k + 5 ≤ m 1 (-1) ∧ m 1 (-1) ≤ 2560) (hs : ∀ i, -2147483648 ≤ m 1 i ∧ m 1 i < 2147483648) (go : LG d k m Q) : RZ (d + 1) k_La_law 704 [vR 1, vR 32, vR 121, vI k] [] (zH z m) Q := by
  refine r_loadA a221_704 rfl (by decide) ?_
  refine r_loadA a221_705 rfl (by decide) ?_
  refine r_loadI a221_706 rfl ?_
  refine r_pushI a221_707 ?_
  refine r_add a221_708 (by omega) ?_
  refine r_ialdS a221_709 (by omega) ?_
  refine r_loadA a221_710 rfl (by decide) ?_
  refine r_loadI a221_711 rfl ?_
  refine r_pushI a221_712 ?_
  refine r_add a221_713 (by omega) ?_
  refine r_ialdS a221_714 (by omega) ?_
  refine r_loadA a221_715 rfl (by decide) ?_
  refine r_loadI a221_716 rfl ?_
  refine r_pushI a221_717 ?_
  refine r_add a221_718 (by omega) ?_
  refine r_ialdS a221_719 (by omega) ?_
  refine r_callI_4 a221_720 (Nat.le_of_ble_eq_true rfl) (le_mx mx80 (Nat.le_of_ble_eq_true rfl)) (Or.inr (recv_ok ty32 ow80 (by decide))) (CI.kh (J_sure d z m (m 1 (k + 1)) (m 1 (k + 2)) (m 1 (k + 3)) (by omega) hC)) (fun x_720 m_720 h_720 => ?_)
  obtain ⟨h_720, e_720⟩ := h_720
  have e2 : m_720 1 (-1) = m 1 (-1) := by rw [e_720]
  refine r_loadA a221_723 rfl (by decide) ?_
  refine r_loadA a221_724 rfl (by decide) ?_
  refine r_loadI a221_725 rfl ?_
  refine r_pushI a221_726 ?_
  refine r_add a221_727 (by omega) ?_
  refine r_ialdS a221_728 (by omega) ?_
  refine r_loadA a221_729 rfl (by decide) ?_
  refine r_loadI a221_730 rfl ?_
  refine r_pushI a221_731 ?_
  refine r_add a221_732 (by omega) ?_
  refine r_ialdS a221_733 (by omega) ?_
  refine r_loadA a221_734 rfl (by decide) ?_
  refine r_loadI a221_735 rfl ?_
  refine r_pushI a221_736 ?_
  refine r_add a221_737 (by omega) ?_
  refine r_ialdS a221_738 (by omega) ?_
  rw [e_720]
  refine r_callI_4 a221_739 (Nat.le_of_ble_eq_true rfl) (le_mx mx172 (Nat.le_of_ble_eq_true rfl)) (Or.inr (recv_ok ty121 ow172 (by decide))) (h_720) (fun x_739 m_739 h_739 => ?_)
  refine r_iceq a221_742 (fun h_742 => ?_) (fun h_742 => ?_)
  · exact go z m_739 h_739.2.1 h_739.2.2
  · exact absurd h_739.1 h_742
theorem G_carry (d z : Nat) (m : XM) (k : Int) (Q : Option XV → XH → Prop) (hd : 30 ≤ d) (hC : Cpl m) (hk : 0 ≤ k ∧ k + 5 ≤ m 1 (-1) ∧ m 1 (-1) ≤ 2560) (hs : ∀ i, -2147483648 ≤ m 1 i ∧ m 1 i < 2147483648) (go : LG d k m Q) : RZ (d + 1) k_La_law 747 [vR 1, vR 32, vR 121, vI k] [] (zH z m) Q := by
  refine r_loadA a221_747 rfl (by decide) ?_
  refine r_loadA a221_748 rfl (by decide) ?_
  refine r_loadI a221_749 rfl ?_
  refine r_pushI a221_750 ?_
  refine r_add a221_751 (by omega) ?_
  refine r_ialdS a221_752 (by omega) ?_
  refine r_loadA a221_753 rfl (by decide) ?_
  refine r_loadI a221_754 rfl ?_
  refine r_pushI a221_755 ?_
  refine r_add a221_756 (by omega) ?_
  refine r_ialdS a221_757 (by omega) ?_
  refine r_callI_3 a221_758 (Nat.le_of_ble_eq_true rfl) (le_mx mx81 (Nat.le_of_ble_eq_true rfl)) (Or.inr (recv_ok ty32 ow81 (by decide))) (CI.kh (J_carry d z m (m 1 (k + 1)) (m 1 (k + 2)) (by omega) hC)) (fun x_758 m_758 h_758 => ?_)
  obtain ⟨h_758, e_758⟩ := h_758
  have e2 : m_758 1 (-1) = m 1 (-1) := by rw [e_758]
  refine r_loadA a221_761 rfl (by decide) ?_
  refine r_loadA a221_762 rfl (by decide) ?_
  refine r_loadI a221_763 rfl ?_
  refine r_pushI a221_764 ?_
  refine r_add a221_765 (by omega) ?_
  refine r_ialdS a221_766 (by omega) ?_
  refine r_loadA a221_767 rfl (by decide) ?_
  refine r_loadI a221_768 rfl ?_
  refine r_pushI a221_769 ?_
  refine r_add a221_770 (by omega) ?_
  refine r_ialdS a221_771 (by omega) ?_
  rw [e_758]
  refine r_callI_3 a221_772 (Nat.le_of_ble_eq_true rfl) (le_mx mx173 (Nat.le_of_ble_eq_true rfl)) (Or.inr (recv_ok ty121 ow173 (by decide))) (h_758) (fun x_772 m_772 h_772 => ?_)
  refine r_iceq a221_775 (fun h_775 => ?_) (fun h_775 => ?_)
  · exact go z m_772 h_772.2.1 h_772.2.2
  · exact absurd h_772.1 h_775
theorem G_start (d z : Nat) (m : XM) (k : Int) (Q : Option XV → XH → Prop) (hd : 30 ≤ d) (hC : Cpl m) (hk : 0 ≤ k ∧ k + 5 ≤ m 1 (-1) ∧ m 1 (-1) ≤ 2560) (hs : ∀ i, -2147483648 ≤ m 1 i ∧ m 1 i < 2147483648) (go : LG d k m Q) : RZ (d + 1) k_La_law 780 [vR 1, vR 32, vR 121, vI k] [] (zH z m) Q := by
  refine r_loadA a221_780 rfl (by decide) ?_
  refine r_loadA a221_781 rfl (by decide) ?_
  refine r_loadI a221_782 rfl ?_
  refine r_pushI a221_783 ?_
  refine r_add a221_784 (by omega) ?_
  refine r_ialdS a221_785 (by omega) ?_
  refine r_loadA a221_786 rfl (by decide) ?_
  refine r_loadI a221_787 rfl ?_
  refine r_pushI a221_788 ?_
  refine r_add a221_789 (by omega) ?_
  refine r_ialdS a221_790 (by omega) ?_
  refine r_callI_3 a221_791 (Nat.le_of_ble_eq_true rfl) (le_mx mx82 (Nat.le_of_ble_eq_true rfl)) (Or.inr (recv_ok ty32 ow82 (by decide))) (CI.kh (J_start d z m (m 1 (k + 1)) (m 1 (k + 2)) (by omega) hC)) (fun x_791 m_791 h_791 => ?_)
  obtain ⟨h_791, e_791⟩ := h_791
  have e2 : m_791 1 (-1) = m 1 (-1) := by rw [e_791]
  refine r_loadA a221_794 rfl (by decide) ?_
  refine r_loadA a221_795 rfl (by decide) ?_
  refine r_loadI a221_796 rfl ?_
  refine r_pushI a221_797 ?_
  refine r_add a221_798 (by omega) ?_
  refine r_ialdS a221_799 (by omega) ?_
  refine r_loadA a221_800 rfl (by decide) ?_
  refine r_loadI a221_801 rfl ?_
  refine r_pushI a221_802 ?_
  refine r_add a221_803 (by omega) ?_
  refine r_ialdS a221_804 (by omega) ?_
  rw [e_791]
  refine r_callI_3 a221_805 (Nat.le_of_ble_eq_true rfl) (le_mx mx174 (Nat.le_of_ble_eq_true rfl)) (Or.inr (recv_ok ty121 ow174 (by decide))) (h_791) (fun x_805 m_805 h_805 => ?_)
  refine r_iceq a221_808 (fun h_808 => ?_) (fun h_808 => ?_)
  · exact go z m_805 h_805.2.1 h_805.2.2
  · exact absurd h_805.1 h_808
theorem G_rutted (d z : Nat) (m : XM) (k : Int) (Q : Option XV → XH → Prop) (hd : 30 ≤ d) (hC : Cpl m) (hk : 0 ≤ k ∧ k + 5 ≤ m 1 (-1) ∧ m 1 (-1) ≤ 2560) (hs : ∀ i, -2147483648 ≤ m 1 i ∧ m 1 i < 2147483648) (go : LG d k m Q) : RZ (d + 1) k_La_law 813 [vR 1, vR 32, vR 121, vI k] [] (zH z m) Q := by
  refine r_loadA a221_813 rfl (by decide) ?_
  refine r_loadA a221_814 rfl (by decide) ?_
  refine r_loadI a221_815 rfl ?_
  refine r_pushI a221_816 ?_
  refine r_add a221_817 (by omega) ?_
  refine r_ialdS a221_818 (by omega) ?_
  refine r_callI_2 a221_819 (Nat.le_of_ble_eq_true rfl) (le_mx mx83 (Nat.le_of_ble_eq_true rfl)) (Or.inr (recv_ok ty32 ow83 (by decide))) (CI.kh (J_rutted d z m (m 1 (k + 1)) (by omega) hC)) (fun x_819 m_819 h_819 => ?_)
  obtain ⟨h_819, e_819⟩ := h_819
  have e2 : m_819 1 (-1) = m 1 (-1) := by rw [e_819]
  refine r_loadA a221_822 rfl (by decide) ?_
  refine r_loadA a221_823 rfl (by decide) ?_
  refine r_loadI a221_824 rfl ?_
  refine r_pushI a221_825 ?_
  refine r_add a221_826 (by omega) ?_
  refine r_ialdS a221_827 (by omega) ?_
  rw [e_819]
  refine r_callI_2 a221_828 (Nat.le_of_ble_eq_true rfl) (le_mx mx177 (Nat.le_of_ble_eq_true rfl)) (Or.inr (recv_ok ty121 ow177 (by decide))) (h_819) (fun x_828 m_828 h_828 => ?_)
  refine r_iceq a221_831 (fun h_831 => ?_) (fun h_831 => ?_)
  · exact go z m_828 h_828.2.1 h_828.2.2
  · exact absurd h_828.1 h_831
theorem G_wax (d z : Nat) (m : XM) (k : Int) (Q : Option XV → XH → Prop) (hd : 30 ≤ d) (hC : Cpl m) (hk : 0 ≤ k ∧ k + 5 ≤ m 1 (-1) ∧ m 1 (-1) ≤ 2560) (hs : ∀ i, -2147483648 ≤ m 1 i ∧ m 1 i < 2147483648) (go : LG d k m Q) : RZ (d + 1) k_La_law 836 [vR 1, vR 32, vR 121, vI k] [] (zH z m) Q := by
  refine r_loadA a221_836 rfl (by decide) ?_
  refine r_loadA a221_837 rfl (by decide) ?_
  refine r_loadI a221_838 rfl ?_
  refine r_pushI a221_839 ?_
  refine r_add a221_840 (by omega) ?_
  refine r_ialdS a221_841 (by omega) ?_
  refine r_callI_2 a221_842 (Nat.le_of_ble_eq_true rfl) (le_mx mx84 (Nat.le_of_ble_eq_true rfl)) (Or.inr (recv_ok ty32 ow84 (by decide))) (CI.kh (J_wax d z m (m 1 (k + 1)) (by omega) hC)) (fun x_842 m_842 h_842 => ?_)
  obtain ⟨h_842, e_842⟩ := h_842
  have e2 : m_842 1 (-1) = m 1 (-1) := by rw [e_842]
  refine r_loadA a221_845 rfl (by decide) ?_
  refine r_loadA a221_846 rfl (by decide) ?_
  refine r_loadI a221_847 rfl ?_
  refine r_pushI a221_848 ?_
  refine r_add a221_849 (by omega) ?_
  refine r_ialdS a221_850 (by omega) ?_
  rw [e_842]
  refine r_callI_2 a221_851 (Nat.le_of_ble_eq_true rfl) (le_mx mx178 (Nat.le_of_ble_eq_true rfl)) (Or.inr (recv_ok ty121 ow178 (by decide))) (h_842) (fun x_851 m_851 h_851 => ?_)
  refine r_iceq a221_854 (fun h_854 => ?_) (fun h_854 => ?_)
  · exact go z m_851 h_851.2.1 h_851.2.2
  · exact absurd h_851.1 h_854
theorem G_loses (d z : Nat) (m : XM) (k : Int) (Q : Option XV → XH → Prop) (hd : 30 ≤ d) (hC : Cpl m) (hk : 0 ≤ k ∧ k + 5 ≤ m 1 (-1) ∧ m 1 (-1) ≤ 2560) (hs : ∀ i, -2147483648 ≤ m 1 i ∧ m 1 i < 2147483648) (go : LG d k m Q) : RZ (d + 1) k_La_law 859 [vR 1, vR 32, vR 121, vI k] [] (zH z m) Q := by
  refine r_loadA a221_859 rfl (by decide) ?_
  refine r_loadA a221_860 rfl (by decide) ?_
  refine r_loadI a221_861 rfl ?_
  refine r_pushI a221_862 ?_
  refine r_add a221_863 (by omega) ?_
  refine r_ialdS a221_864 (by omega) ?_
  refine r_loadA a221_865 rfl (by decide) ?_
  refine r_loadI a221_866 rfl ?_
  refine r_pushI a221_867 ?_
  refine r_add a221_868 (by omega) ?_
  refine r_ialdS a221_869 (by omega) ?_
  refine r_loadA a221_870 rfl (by decide) ?_
  refine r_loadI a221_871 rfl ?_
  refine r_pushI a221_872 ?_
  refine r_add a221_873 (by omega) ?_
  refine r_ialdS a221_874 (by omega) ?_
  refine r_callI_4 a221_875 (Nat.le_of_ble_eq_true rfl) (le_mx mx85 (Nat.le_of_ble_eq_true rfl)) (Or.inr (recv_ok ty32 ow85 (by decide))) (CI.kh (J_loses d z m (m 1 (k + 1)) (m 1 (k + 2)) (m 1 (k + 3)) (by omega) hC)) (fun x_875 m_875 h_875 => ?_)
  obtain ⟨h_875, e_875⟩ := h_875
  have e2 : m_875 1 (-1) = m 1 (-1) := by rw [e_875]
  refine r_loadA a221_878 rfl (by decide) ?_
  refine r_loadA a221_879 rfl (by decide) ?_
  refine r_loadI a221_880 rfl ?_
  refine r_pushI a221_881 ?_
  refine r_add a221_882 (by omega) ?_
  refine r_ialdS a221_883 (by omega) ?_
  refine r_loadA a221_884 rfl (by decide) ?_
  refine r_loadI a221_885 rfl ?_
  refine r_pushI a221_886 ?_
  refine r_add a221_887 (by omega) ?_
  refine r_ialdS a221_888 (by omega) ?_
  refine r_loadA a221_889 rfl (by decide) ?_
  refine r_loadI a221_890 rfl ?_
  refine r_pushI a221_891 ?_
  refine r_add a221_892 (by omega) ?_
  refine r_ialdS a221_893 (by omega) ?_
  rw [e_875]
  refine r_callI_4 a221_894 (Nat.le_of_ble_eq_true rfl) (le_mx mx180 (Nat.le_of_ble_eq_true rfl)) (Or.inr (recv_ok ty121 ow180 (by decide))) (h_875) (fun x_894 m_894 h_894 => ?_)
  refine r_iceq a221_897 (fun h_897 => ?_) (fun h_897 => ?_)
  · exact go z m_894 h_894.2.1 h_894.2.2
  · exact absurd h_894.1 h_897
theorem G_wins (d z : Nat) (m : XM) (k : Int) (Q : Option XV → XH → Prop) (hd : 30 ≤ d) (hC : Cpl m) (hk : 0 ≤ k ∧ k + 5 ≤ m 1 (-1) ∧ m 1 (-1) ≤ 2560) (hs : ∀ i, -2147483648 ≤ m 1 i ∧ m 1 i < 2147483648) (go : LG d k m Q) : RZ (d + 1) k_La_law 902 [vR 1, vR 32, vR 121, vI k] [] (zH z m) Q := by
  refine r_loadA a221_902 rfl (by decide) ?_
  refine r_loadA a221_903 rfl (by decide) ?_
  refine r_loadI a221_904 rfl ?_
  refine r_pushI a221_905 ?_
  refine r_add a221_906 (by omega) ?_
  refine r_ialdS a221_907 (by omega) ?_
  refine r_loadA a221_908 rfl (by decide) ?_
  refine r_loadI a221_909 rfl ?_
  refine r_pushI a221_910 ?_
  refine r_add a221_911 (by omega) ?_
  refine r_ialdS a221_912 (by omega) ?_
  refine r_loadA a221_913 rfl (by decide) ?_
  refine r_loadI a221_914 rfl ?_
  refine r_pushI a221_915 ?_
  refine r_add a221_916 (by omega) ?_
  refine r_ialdS a221_917 (by omega) ?_
  refine r_loadA a221_918 rfl (by decide) ?_
  refine r_loadI a221_919 rfl ?_
  refine r_pushI a221_920 ?_
  refine r_add a221_921 (by omega) ?_
  refine r_ialdS a221_922 (by omega) ?_
  refine r_callL_5 a221_923 (Nat.le_of_ble_eq_true rfl) (le_mx mx86 (Nat.le_of_ble_eq_true rfl)) (Or.inr (recv_ok ty32 ow86 (by decide))) (CL.kh (J_wins d z m (m 1 (k + 1)) (m 1 (k + 2)) (m 1 (k + 3)) (m 1 (k + 4)) (by omega) hC)) (fun x_923 m_923 h_923 => ?_)
  obtain ⟨h_923, e_923⟩ := h_923
  have e2 : m_923 1 (-1) = m 1 (-1) := by rw [e_923]
  refine r_loadA a221_926 rfl (by decide) ?_
  refine r_loadA a221_927 rfl (by decide) ?_
  refine r_loadI a221_928 rfl ?_
  refine r_pushI a221_929 ?_
  refine r_add a221_930 (by omega) ?_
  refine r_ialdS a221_931 (by omega) ?_
  refine r_loadA a221_932 rfl (by decide) ?_
  refine r_loadI a221_933 rfl ?_
  refine r_pushI a221_934 ?_
  refine r_add a221_935 (by omega) ?_
  refine r_ialdS a221_936 (by omega) ?_
  refine r_loadA a221_937 rfl (by decide) ?_
  refine r_loadI a221_938 rfl ?_
  refine r_pushI a221_939 ?_
  refine r_add a221_940 (by omega) ?_
  refine r_ialdS a221_941 (by omega) ?_
  refine r_loadA a221_942 rfl (by decide) ?_
  refine r_loadI a221_943 rfl ?_
  refine r_pushI a221_944 ?_
  refine r_add a221_945 (by omega) ?_
  refine r_ialdS a221_946 (by omega) ?_
  rw [e_923]
  refine r_callL_5 a221_947 (Nat.le_of_ble_eq_true rfl) (le_mx mx181 (Nat.le_of_ble_eq_true rfl)) (Or.inr (recv_ok ty121 ow181 (by decide))) (h_923) (fun x_947 m_947 h_947 => ?_)
  refine r_lcmp a221_950 ?_
  refine r_ifeq a221_951 (fun h_951 => ?_) (fun h_951 => ?_)
  · exact go z m_947 h_947.2.1 h_947.2.2
  · exact absurd (lCmp_self h_947.1) h_951
theorem G_risk (d z : Nat) (m : XM) (k : Int) (Q : Option XV → XH → Prop) (hd : 30 ≤ d) (hC : Cpl m) (hk : 0 ≤ k ∧ k + 5 ≤ m 1 (-1) ∧ m 1 (-1) ≤ 2560) (hs : ∀ i, -2147483648 ≤ m 1 i ∧ m 1 i < 2147483648) (go : LG d k m Q) : RZ (d + 1) k_La_law 956 [vR 1, vR 32, vR 121, vI k] [] (zH z m) Q := by
  refine r_loadA a221_956 rfl (by decide) ?_
  refine r_loadA a221_957 rfl (by decide) ?_
  refine r_loadI a221_958 rfl ?_
  refine r_pushI a221_959 ?_
  refine r_add a221_960 (by omega) ?_
  refine r_ialdS a221_961 (by omega) ?_
  refine r_loadA a221_962 rfl (by decide) ?_
  refine r_loadI a221_963 rfl ?_
  refine r_pushI a221_964 ?_
  refine r_add a221_965 (by omega) ?_
  refine r_ialdS a221_966 (by omega) ?_
  refine r_loadA a221_967 rfl (by decide) ?_
  refine r_loadI a221_968 rfl ?_
  refine r_pushI a221_969 ?_
  refine r_add a221_970 (by omega) ?_
  refine r_ialdS a221_971 (by omega) ?_
  refine r_loadA a221_972 rfl (by decide) ?_
  refine r_loadI a221_973 rfl ?_
  refine r_pushI a221_974 ?_
  refine r_add a221_975 (by omega) ?_
  refine r_ialdS a221_976 (by omega) ?_
  refine r_callL_5 a221_977 (Nat.le_of_ble_eq_true rfl) (le_mx mx87 (Nat.le_of_ble_eq_true rfl)) (Or.inr (recv_ok ty32 ow87 (by decide))) (CL.kh (J_risk d z m (m 1 (k + 1)) (m 1 (k + 2)) (m 1 (k + 3)) (m 1 (k + 4)) (by omega) hC)) (fun x_977 m_977 h_977 => ?_)
  obtain ⟨h_977, e_977⟩ := h_977
  have e2 : m_977 1 (-1) = m 1 (-1) := by rw [e_977]
  refine r_loadA a221_980 rfl (by decide) ?_
  refine r_loadA a221_981 rfl (by decide) ?_
  refine r_loadI a221_982 rfl ?_
  refine r_pushI a221_983 ?_
  refine r_add a221_984 (by omega) ?_
  refine r_ialdS a221_985 (by omega) ?_
  refine r_loadA a221_986 rfl (by decide) ?_
  refine r_loadI a221_987 rfl ?_
  refine r_pushI a221_988 ?_
  refine r_add a221_989 (by omega) ?_
  refine r_ialdS a221_990 (by omega) ?_
  refine r_loadA a221_991 rfl (by decide) ?_
  refine r_loadI a221_992 rfl ?_
  refine r_pushI a221_993 ?_
  refine r_add a221_994 (by omega) ?_
  refine r_ialdS a221_995 (by omega) ?_
  refine r_loadA a221_996 rfl (by decide) ?_
  refine r_loadI a221_997 rfl ?_
  refine r_pushI a221_998 ?_
  refine r_add a221_999 (by omega) ?_
  refine r_ialdS a221_1000 (by omega) ?_
  rw [e_977]
  refine r_callL_5 a221_1001 (Nat.le_of_ble_eq_true rfl) (le_mx mx182 (Nat.le_of_ble_eq_true rfl)) (Or.inr (recv_ok ty121 ow182 (by decide))) (h_977) (fun x_1001 m_1001 h_1001 => ?_)
  refine r_lcmp a221_1004 ?_
  refine r_ifeq a221_1005 (fun h_1005 => ?_) (fun h_1005 => ?_)
  · exact go z m_1001 h_1001.2.1 h_1001.2.2
  · exact absurd (lCmp_self h_1001.1) h_1005
theorem G_set (d z : Nat) (m : XM) (k : Int) (Q : Option XV → XH → Prop) (hd : 30 ≤ d) (hC : Cpl m) (hk : 0 ≤ k ∧ k + 5 ≤ m 1 (-1) ∧ m 1 (-1) ≤ 2560) (hs : ∀ i, -2147483648 ≤ m 1 i ∧ m 1 i < 2147483648) (go : LG d k m Q) : RZ (d + 1) k_La_law 1010 [vR 1, vR 32, vR 121, vI k] [] (zH z m) Q := by
  refine r_loadA a221_1010 rfl (by decide) ?_
  refine r_loadA a221_1011 rfl (by decide) ?_
  refine r_loadI a221_1012 rfl ?_
  refine r_pushI a221_1013 ?_
  refine r_add a221_1014 (by omega) ?_
  refine r_ialdS a221_1015 (by omega) ?_
  refine r_loadA a221_1016 rfl (by decide) ?_
  refine r_loadI a221_1017 rfl ?_
  refine r_pushI a221_1018 ?_
  refine r_add a221_1019 (by omega) ?_
  refine r_ialdS a221_1020 (by omega) ?_
  refine r_callI_3 a221_1021 (Nat.le_of_ble_eq_true rfl) (le_mx mx88 (Nat.le_of_ble_eq_true rfl)) (Or.inr (recv_ok ty32 ow88 (by decide))) (CI.kh (J_set d z m (m 1 (k + 1)) (m 1 (k + 2)) (by omega) hC)) (fun x_1021 m_1021 h_1021 => ?_)
  obtain ⟨h_1021, e_1021⟩ := h_1021
  have e2 : m_1021 1 (-1) = m 1 (-1) := by rw [e_1021]
  refine r_loadA a221_1024 rfl (by decide) ?_
  refine r_loadA a221_1025 rfl (by decide) ?_
  refine r_loadI a221_1026 rfl ?_
  refine r_pushI a221_1027 ?_
  refine r_add a221_1028 (by omega) ?_
  refine r_ialdS a221_1029 (by omega) ?_
  refine r_loadA a221_1030 rfl (by decide) ?_
  refine r_loadI a221_1031 rfl ?_
  refine r_pushI a221_1032 ?_
  refine r_add a221_1033 (by omega) ?_
  refine r_ialdS a221_1034 (by omega) ?_
  rw [e_1021]
  refine r_callI_3 a221_1035 (Nat.le_of_ble_eq_true rfl) (le_mx mx184 (Nat.le_of_ble_eq_true rfl)) (Or.inr (recv_ok ty121 ow184 (by decide))) (h_1021) (fun x_1035 m_1035 h_1035 => ?_)
  refine r_iceq a221_1038 (fun h_1038 => ?_) (fun h_1038 => ?_)
  · exact go z m_1035 h_1035.2.1 h_1035.2.2
  · exact absurd h_1035.1 h_1038
theorem G_rank (d z : Nat) (m : XM) (k : Int) (Q : Option XV → XH → Prop) (hd : 30 ≤ d) (hC : Cpl m) (hk : 0 ≤ k ∧ k + 5 ≤ m 1 (-1) ∧ m 1 (-1) ≤ 2560) (hs : ∀ i, -2147483648 ≤ m 1 i ∧ m 1 i < 2147483648) (go : LG d k m Q) : RZ (d + 1) k_La_law 1043 [vR 1, vR 32, vR 121, vI k] [] (zH z m) Q := by
  refine r_loadA a221_1043 rfl (by decide) ?_
  refine r_loadA a221_1044 rfl (by decide) ?_
  refine r_loadI a221_1045 rfl ?_
  refine r_pushI a221_1046 ?_
  refine r_add a221_1047 (by omega) ?_
  refine r_ialdS a221_1048 (by omega) ?_
  refine r_callI_2 a221_1049 (Nat.le_of_ble_eq_true rfl) (le_mx mx89 (Nat.le_of_ble_eq_true rfl)) (Or.inr (recv_ok ty32 ow89 (by decide))) (CI.kh (J_rank d z m (m 1 (k + 1)) (by omega) hC)) (fun x_1049 m_1049 h_1049 => ?_)
  obtain ⟨h_1049, e_1049⟩ := h_1049
  have e2 : m_1049 1 (-1) = m 1 (-1) := by rw [e_1049]
  refine r_loadA a221_1052 rfl (by decide) ?_
  refine r_loadA a221_1053 rfl (by decide) ?_
  refine r_loadI a221_1054 rfl ?_
  refine r_pushI a221_1055 ?_
  refine r_add a221_1056 (by omega) ?_
  refine r_ialdS a221_1057 (by omega) ?_
  rw [e_1049]
  refine r_callI_2 a221_1058 (Nat.le_of_ble_eq_true rfl) (le_mx mx186 (Nat.le_of_ble_eq_true rfl)) (Or.inr (recv_ok ty121 ow186 (by decide))) (h_1049) (fun x_1058 m_1058 h_1058 => ?_)
  refine r_iceq a221_1061 (fun h_1061 => ?_) (fun h_1061 => ?_)
  · exact go z m_1058 h_1058.2.1 h_1058.2.2
  · exact absurd h_1058.1 h_1061
theorem G_mean (d z : Nat) (m : XM) (k : Int) (Q : Option XV → XH → Prop) (hd : 30 ≤ d) (hC : Cpl m) (hk : 0 ≤ k ∧ k + 5 ≤ m 1 (-1) ∧ m 1 (-1) ≤ 2560) (hs : ∀ i, -2147483648 ≤ m 1 i ∧ m 1 i < 2147483648) (go : LG d k m Q) : RZ (d + 1) k_La_law 1066 [vR 1, vR 32, vR 121, vI k] [] (zH z m) Q := by
  refine r_loadA a221_1066 rfl (by decide) ?_
  refine r_loadA a221_1067 rfl (by decide) ?_
  refine r_loadI a221_1068 rfl ?_
  refine r_pushI a221_1069 ?_
  refine r_add a221_1070 (by omega) ?_
  refine r_ialdS a221_1071 (by omega) ?_
  refine r_callL_2 a221_1072 (Nat.le_of_ble_eq_true rfl) (le_mx mx90 (Nat.le_of_ble_eq_true rfl)) (Or.inr (recv_ok ty32 ow90 (by decide))) (CL.kh (J_mean d z m (m 1 (k + 1)) (by omega) hC)) (fun x_1072 m_1072 h_1072 => ?_)
  obtain ⟨h_1072, e_1072⟩ := h_1072
  have e2 : m_1072 1 (-1) = m 1 (-1) := by rw [e_1072]
  refine r_loadA a221_1075 rfl (by decide) ?_
  refine r_loadA a221_1076 rfl (by decide) ?_
  refine r_loadI a221_1077 rfl ?_
  refine r_pushI a221_1078 ?_
  refine r_add a221_1079 (by omega) ?_
  refine r_ialdS a221_1080 (by omega) ?_
  rw [e_1072]
  refine r_callL_2 a221_1081 (Nat.le_of_ble_eq_true rfl) (le_mx mx187 (Nat.le_of_ble_eq_true rfl)) (Or.inr (recv_ok ty121 ow187 (by decide))) (h_1072) (fun x_1081 m_1081 h_1081 => ?_)
  refine r_lcmp a221_1084 ?_
  refine r_ifeq a221_1085 (fun h_1085 => ?_) (fun h_1085 => ?_)
  · exact go z m_1081 h_1081.2.1 h_1081.2.2
  · exact absurd (lCmp_self h_1081.1) h_1085
theorem G_slowest (d z : Nat) (m : XM) (k : Int) (Q : Option XV → XH → Prop) (hd : 30 ≤ d) (hC : Cpl m) (hk : 0 ≤ k ∧ k + 5 ≤ m 1 (-1) ∧ m 1 (-1) ≤ 2560) (hs : ∀ i, -2147483648 ≤ m 1 i ∧ m 1 i < 2147483648) (go : LG d k m Q) : RZ (d + 1) k_La_law 1090 [vR 1, vR 32, vR 121, vI k] [] (zH z m) Q := by
  refine r_loadA a221_1090 rfl (by decide) ?_
  refine r_loadA a221_1091 rfl (by decide) ?_
  refine r_loadI a221_1092 rfl ?_
  refine r_pushI a221_1093 ?_
  refine r_add a221_1094 (by omega) ?_
  refine r_ialdS a221_1095 (by omega) ?_
  refine r_callI_2 a221_1096 (Nat.le_of_ble_eq_true rfl) (le_mx mx91 (Nat.le_of_ble_eq_true rfl)) (Or.inr (recv_ok ty32 ow91 (by decide))) (CI.kh (J_slowest d z m (m 1 (k + 1)) (by omega) hC)) (fun x_1096 m_1096 h_1096 => ?_)
  obtain ⟨h_1096, e_1096⟩ := h_1096
  have e2 : m_1096 1 (-1) = m 1 (-1) := by rw [e_1096]
  refine r_loadA a221_1099 rfl (by decide) ?_
  refine r_loadA a221_1100 rfl (by decide) ?_
  refine r_loadI a221_1101 rfl ?_
  refine r_pushI a221_1102 ?_
  refine r_add a221_1103 (by omega) ?_
  refine r_ialdS a221_1104 (by omega) ?_
  rw [e_1096]
  refine r_callI_2 a221_1105 (Nat.le_of_ble_eq_true rfl) (le_mx mx188 (Nat.le_of_ble_eq_true rfl)) (Or.inr (recv_ok ty121 ow188 (by decide))) (h_1096) (fun x_1105 m_1105 h_1105 => ?_)
  refine r_iceq a221_1108 (fun h_1108 => ?_) (fun h_1108 => ?_)
  · exact go z m_1105 h_1105.2.1 h_1105.2.2
  · exact absurd h_1105.1 h_1108
theorem G_see (d z : Nat) (m : XM) (k : Int) (Q : Option XV → XH → Prop) (hd : 30 ≤ d) (hC : Cpl m) (hk : 0 ≤ k ∧ k + 5 ≤ m 1 (-1) ∧ m 1 (-1) ≤ 2560) (hs : ∀ i, -2147483648 ≤ m 1 i ∧ m 1 i < 2147483648) (go : LG d k m Q) : RZ (d + 1) k_La_law 1113 [vR 1, vR 32, vR 121, vI k] [] (zH z m) Q := by
  refine r_loadA a221_1113 rfl (by decide) ?_
  refine r_loadA a221_1114 rfl (by decide) ?_
  refine r_loadI a221_1115 rfl ?_
  refine r_pushI a221_1116 ?_
  refine r_add a221_1117 (by omega) ?_
  refine r_ialdS a221_1118 (by omega) ?_
  refine r_loadA a221_1119 rfl (by decide) ?_
  refine r_loadI a221_1120 rfl ?_
  refine r_pushI a221_1121 ?_
  refine r_add a221_1122 (by omega) ?_
  refine r_ialdS a221_1123 (by omega) ?_
  refine r_callI_3 a221_1124 (Nat.le_of_ble_eq_true rfl) (le_mx mx92 (Nat.le_of_ble_eq_true rfl)) (Or.inr (recv_ok ty32 ow92 (by decide))) (CI.kh (J_see d z m (m 1 (k + 1)) (m 1 (k + 2)) (by omega) hC)) (fun x_1124 m_1124 h_1124 => ?_)
  obtain ⟨h_1124, e_1124⟩ := h_1124
  have e2 : m_1124 1 (-1) = m 1 (-1) := by rw [e_1124]
  refine r_loadA a221_1127 rfl (by decide) ?_
  refine r_loadA a221_1128 rfl (by decide) ?_
  refine r_loadI a221_1129 rfl ?_
  refine r_pushI a221_1130 ?_
  refine r_add a221_1131 (by omega) ?_
  refine r_ialdS a221_1132 (by omega) ?_
  refine r_loadA a221_1133 rfl (by decide) ?_
  refine r_loadI a221_1134 rfl ?_
  refine r_pushI a221_1135 ?_
  refine r_add a221_1136 (by omega) ?_
  refine r_ialdS a221_1137 (by omega) ?_
  rw [e_1124]
  refine r_callI_3 a221_1138 (Nat.le_of_ble_eq_true rfl) (le_mx mx189 (Nat.le_of_ble_eq_true rfl)) (Or.inr (recv_ok ty121 ow189 (by decide))) (h_1124) (fun x_1138 m_1138 h_1138 => ?_)
  refine r_iceq a221_1141 (fun h_1141 => ?_) (fun h_1141 => ?_)
  · exact go z m_1138 h_1138.2.1 h_1138.2.2
  · exact absurd h_1138.1 h_1141
theorem G_fits (d z : Nat) (m : XM) (k : Int) (Q : Option XV → XH → Prop) (hd : 30 ≤ d) (hC : Cpl m) (hk : 0 ≤ k ∧ k + 5 ≤ m 1 (-1) ∧ m 1 (-1) ≤ 2560) (hs : ∀ i, -2147483648 ≤ m 1 i ∧ m 1 i < 2147483648) (go : LG d k m Q) : RZ (d + 1) k_La_law 1146 [vR 1, vR 32, vR 121, vI k] [] (zH z m) Q := by
  refine r_loadA a221_1146 rfl (by decide) ?_
  refine r_loadA a221_1147 rfl (by decide) ?_
  refine r_loadI a221_1148 rfl ?_
  refine r_pushI a221_1149 ?_
  refine r_add a221_1150 (by omega) ?_
  refine r_ialdS a221_1151 (by omega) ?_
  refine r_loadA a221_1152 rfl (by decide) ?_
  refine r_loadI a221_1153 rfl ?_
  refine r_pushI a221_1154 ?_
  refine r_add a221_1155 (by omega) ?_
  refine r_ialdS a221_1156 (by omega) ?_
  refine r_callI_3 a221_1157 (Nat.le_of_ble_eq_true rfl) (le_mx mx93 (Nat.le_of_ble_eq_true rfl)) (Or.inr (recv_ok ty32 ow93 (by decide))) (CI.kh (J_fits d z m (m 1 (k + 1)) (m 1 (k + 2)) (by omega) hC)) (fun x_1157 m_1157 h_1157 => ?_)
  obtain ⟨h_1157, e_1157⟩ := h_1157
  have e2 : m_1157 1 (-1) = m 1 (-1) := by rw [e_1157]
  refine r_loadA a221_1160 rfl (by decide) ?_
  refine r_loadA a221_1161 rfl (by decide) ?_
  refine r_loadI a221_1162 rfl ?_
  refine r_pushI a221_1163 ?_
  refine r_add a221_1164 (by omega) ?_
  refine r_ialdS a221_1165 (by omega) ?_
  refine r_loadA a221_1166 rfl (by decide) ?_
  refine r_loadI a221_1167 rfl ?_
  refine r_pushI a221_1168 ?_
  refine r_add a221_1169 (by omega) ?_
  refine r_ialdS a221_1170 (by omega) ?_
  rw [e_1157]
  refine r_callI_3 a221_1171 (Nat.le_of_ble_eq_true rfl) (le_mx mx191 (Nat.le_of_ble_eq_true rfl)) (Or.inr (recv_ok ty121 ow191 (by decide))) (h_1157) (fun x_1171 m_1171 h_1171 => ?_)
  refine r_iceq a221_1174 (fun h_1174 => ?_) (fun h_1174 => ?_)
  · exact go z m_1171 h_1171.2.1 h_1171.2.2
  · exact absurd h_1171.1 h_1174
theorem G_who (d z : Nat) (m : XM) (k : Int) (Q : Option XV → XH → Prop) (hd : 30 ≤ d) (hC : Cpl m) (hk : 0 ≤ k ∧ k + 5 ≤ m 1 (-1) ∧ m 1 (-1) ≤ 2560) (hs : ∀ i, -2147483648 ≤ m 1 i ∧ m 1 i < 2147483648) (go : LG d k m Q) : RZ (d + 1) k_La_law 1179 [vR 1, vR 32, vR 121, vI k] [] (zH z m) Q := by
  refine r_loadA a221_1179 rfl (by decide) ?_
  refine r_callI_1 a221_1180 (Nat.le_of_ble_eq_true rfl) (le_mx mx94 (Nat.le_of_ble_eq_true rfl)) (Or.inr (recv_ok ty32 ow94 (by decide))) (CI.kh (J_who d z m (by omega) hC)) (fun x_1180 m_1180 h_1180 => ?_)
  obtain ⟨h_1180, e_1180⟩ := h_1180
  have e2 : m_1180 1 (-1) = m 1 (-1) := by rw [e_1180]
  refine r_loadA a221_1183 rfl (by decide) ?_
  refine r_callI_1 a221_1184 (Nat.le_of_ble_eq_true rfl) (le_mx mx192 (Nat.le_of_ble_eq_true rfl)) (Or.inr (recv_ok ty121 ow192 (by decide))) (h_1180) (fun x_1184 m_1184 h_1184 => ?_)
  refine r_iceq a221_1187 (fun h_1187 => ?_) (fun h_1187 => ?_)
  · exact go z m_1184 h_1184.2.1 h_1184.2.2
  · exact absurd h_1184.1 h_1187
theorem G_book (d z : Nat) (m : XM) (k : Int) (Q : Option XV → XH → Prop) (hd : 30 ≤ d) (hC : Cpl m) (hk : 0 ≤ k ∧ k + 5 ≤ m 1 (-1) ∧ m 1 (-1) ≤ 2560) (hs : ∀ i, -2147483648 ≤ m 1 i ∧ m 1 i < 2147483648) (go : LG d k m Q) : RZ (d + 1) k_La_law 1192 [vR 1, vR 32, vR 121, vI k] [] (zH z m) Q := by
  refine r_loadA a221_1192 rfl (by decide) ?_
  refine r_loadA a221_1193 rfl (by decide) ?_
  refine r_loadI a221_1194 rfl ?_
  refine r_pushI a221_1195 ?_
  refine r_add a221_1196 (by omega) ?_
  refine r_ialdS a221_1197 (by omega) ?_
  refine r_loadA a221_1198 rfl (by decide) ?_
  refine r_loadI a221_1199 rfl ?_
  refine r_pushI a221_1200 ?_
  refine r_add a221_1201 (by omega) ?_
  refine r_ialdS a221_1202 (by omega) ?_
  refine r_callI_3 a221_1203 (Nat.le_of_ble_eq_true rfl) (le_mx mx95 (Nat.le_of_ble_eq_true rfl)) (Or.inr (recv_ok ty32 ow95 (by decide))) (CI.kh (J_book d z m (m 1 (k + 1)) (m 1 (k + 2)) (by omega) hC)) (fun x_1203 m_1203 h_1203 => ?_)
  obtain ⟨h_1203, e_1203⟩ := h_1203
  have e2 : m_1203 1 (-1) = m 1 (-1) := by rw [e_1203]
  refine r_loadA a221_1206 rfl (by decide) ?_
  refine r_loadA a221_1207 rfl (by decide) ?_
  refine r_loadI a221_1208 rfl ?_
  refine r_pushI a221_1209 ?_
  refine r_add a221_1210 (by omega) ?_
  refine r_ialdS a221_1211 (by omega) ?_
  refine r_loadA a221_1212 rfl (by decide) ?_
  refine r_loadI a221_1213 rfl ?_
  refine r_pushI a221_1214 ?_
  refine r_add a221_1215 (by omega) ?_
  refine r_ialdS a221_1216 (by omega) ?_
  rw [e_1203]
  refine r_callI_3 a221_1217 (Nat.le_of_ble_eq_true rfl) (le_mx mx193 (Nat.le_of_ble_eq_true rfl)) (Or.inr (recv_ok ty121 ow193 (by decide))) (h_1203) (fun x_1217 m_1217 h_1217 => ?_)
  refine r_iceq a221_1220 (fun h_1220 => ?_) (fun h_1220 => ?_)
  · exact go z m_1217 h_1217.2.1 h_1217.2.2
  · exact absurd h_1217.1 h_1220
theorem G_looked (d z : Nat) (m : XM) (k : Int) (Q : Option XV → XH → Prop) (hd : 30 ≤ d) (hC : Cpl m) (hk : 0 ≤ k ∧ k + 5 ≤ m 1 (-1) ∧ m 1 (-1) ≤ 2560) (hs : ∀ i, -2147483648 ≤ m 1 i ∧ m 1 i < 2147483648) (go : LG d k m Q) : RZ (d + 1) k_La_law 1225 [vR 1, vR 32, vR 121, vI k] [] (zH z m) Q := by
  refine r_loadA a221_1225 rfl (by decide) ?_
  refine r_callI_1 a221_1226 (Nat.le_of_ble_eq_true rfl) (le_mx mx96 (Nat.le_of_ble_eq_true rfl)) (Or.inr (recv_ok ty32 ow96 (by decide))) (CI.kh (J_looked d z m (by omega) hC)) (fun x_1226 m_1226 h_1226 => ?_)
  obtain ⟨h_1226, e_1226⟩ := h_1226
  have e2 : m_1226 1 (-1) = m 1 (-1) := by rw [e_1226]
  refine r_loadA a221_1229 rfl (by decide) ?_
  refine r_callI_1 a221_1230 (Nat.le_of_ble_eq_true rfl) (le_mx mx194 (Nat.le_of_ble_eq_true rfl)) (Or.inr (recv_ok ty121 ow194 (by decide))) (h_1226) (fun x_1230 m_1230 h_1230 => ?_)
  refine r_iceq a221_1233 (fun h_1233 => ?_) (fun h_1233 => ?_)
  · exact go z m_1230 h_1230.2.1 h_1230.2.2
  · exact absurd h_1230.1 h_1233
theorem G_act (d z : Nat) (m : XM) (k : Int) (Q : Option XV → XH → Prop) (hd : 30 ≤ d) (hC : Cpl m) (hk : 0 ≤ k ∧ k + 5 ≤ m 1 (-1) ∧ m 1 (-1) ≤ 2560) (hs : ∀ i, -2147483648 ≤ m 1 i ∧ m 1 i < 2147483648) (go : LG d k m Q) : RZ (d + 1) k_La_law 1238 [vR 1, vR 32, vR 121, vI k] [] (zH z m) Q := by
  refine r_loadA a221_1238 rfl (by decide) ?_
  refine r_loadA a221_1239 rfl (by decide) ?_
  refine r_loadI a221_1240 rfl ?_
  refine r_pushI a221_1241 ?_
  refine r_add a221_1242 (by omega) ?_
  refine r_ialdS a221_1243 (by omega) ?_
  refine r_loadA a221_1244 rfl (by decide) ?_
  refine r_loadI a221_1245 rfl ?_
  refine r_pushI a221_1246 ?_
  refine r_add a221_1247 (by omega) ?_
  refine r_ialdS a221_1248 (by omega) ?_
  refine r_loadA a221_1249 rfl (by decide) ?_
  refine r_loadI a221_1250 rfl ?_
  refine r_pushI a221_1251 ?_
  refine r_add a221_1252 (by omega) ?_
  refine r_ialdS a221_1253 (by omega) ?_
  refine r_callI_4 a221_1254 (Nat.le_of_ble_eq_true rfl) (le_mx mx97 (Nat.le_of_ble_eq_true rfl)) (Or.inr (recv_ok ty32 ow97 (by decide))) (CI.kh (J_act d z m (m 1 (k + 1)) (m 1 (k + 2)) (m 1 (k + 3)) (by omega) hC)) (fun x_1254 m_1254 h_1254 => ?_)
  obtain ⟨h_1254, e_1254⟩ := h_1254
  have e2 : m_1254 1 (-1) = m 1 (-1) := by rw [e_1254]
  refine r_loadA a221_1257 rfl (by decide) ?_
  refine r_loadA a221_1258 rfl (by decide) ?_
  refine r_loadI a221_1259 rfl ?_
  refine r_pushI a221_1260 ?_
  refine r_add a221_1261 (by omega) ?_
  refine r_ialdS a221_1262 (by omega) ?_
  refine r_loadA a221_1263 rfl (by decide) ?_
  refine r_loadI a221_1264 rfl ?_
  refine r_pushI a221_1265 ?_
  refine r_add a221_1266 (by omega) ?_
  refine r_ialdS a221_1267 (by omega) ?_
  refine r_loadA a221_1268 rfl (by decide) ?_
  refine r_loadI a221_1269 rfl ?_
  refine r_pushI a221_1270 ?_
  refine r_add a221_1271 (by omega) ?_
  refine r_ialdS a221_1272 (by omega) ?_
  rw [e_1254]
  refine r_callI_4 a221_1273 (Nat.le_of_ble_eq_true rfl) (le_mx mx203 (Nat.le_of_ble_eq_true rfl)) (Or.inr (recv_ok ty121 ow203 (by decide))) (h_1254) (fun x_1273 m_1273 h_1273 => ?_)
  refine r_iceq a221_1276 (fun h_1276 => ?_) (fun h_1276 => ?_)
  · exact go z m_1273 h_1273.2.1 h_1273.2.2
  · exact absurd h_1273.1 h_1276
theorem G_trace (d z : Nat) (m : XM) (k : Int) (Q : Option XV → XH → Prop) (hd : 30 ≤ d) (hC : Cpl m) (hk : 0 ≤ k ∧ k + 5 ≤ m 1 (-1) ∧ m 1 (-1) ≤ 2560) (hs : ∀ i, -2147483648 ≤ m 1 i ∧ m 1 i < 2147483648) (go : LG d k m Q) : RZ (d + 1) k_La_law 1281 [vR 1, vR 32, vR 121, vI k] [] (zH z m) Q := by
  refine r_loadA a221_1281 rfl (by decide) ?_
  refine r_loadA a221_1282 rfl (by decide) ?_
  refine r_loadI a221_1283 rfl ?_
  refine r_pushI a221_1284 ?_
  refine r_add a221_1285 (by omega) ?_
  refine r_ialdS a221_1286 (by omega) ?_
  refine r_callI_2 a221_1287 (Nat.le_of_ble_eq_true rfl) (le_mx mx98 (Nat.le_of_ble_eq_true rfl)) (Or.inr (recv_ok ty32 ow98 (by decide))) (CI.kh (J_trace d z m (m 1 (k + 1)) (by omega) hC)) (fun x_1287 m_1287 h_1287 => ?_)
  obtain ⟨h_1287, e_1287⟩ := h_1287
  have e2 : m_1287 1 (-1) = m 1 (-1) := by rw [e_1287]
  refine r_loadA a221_1290 rfl (by decide) ?_
  refine r_loadA a221_1291 rfl (by decide) ?_
  refine r_loadI a221_1292 rfl ?_
  refine r_pushI a221_1293 ?_
  refine r_add a221_1294 (by omega) ?_
  refine r_ialdS a221_1295 (by omega) ?_
  rw [e_1287]
  refine r_callI_2 a221_1296 (Nat.le_of_ble_eq_true rfl) (le_mx mx204 (Nat.le_of_ble_eq_true rfl)) (Or.inr (recv_ok ty121 ow204 (by decide))) (h_1287) (fun x_1296 m_1296 h_1296 => ?_)
  refine r_iceq a221_1299 (fun h_1299 => ?_) (fun h_1299 => ?_)
  · exact go z m_1296 h_1296.2.1 h_1296.2.2
  · exact absurd h_1296.1 h_1299
theorem G_as (d z : Nat) (m : XM) (k : Int) (Q : Option XV → XH → Prop) (hd : 30 ≤ d) (hC : Cpl m) (hk : 0 ≤ k ∧ k + 5 ≤ m 1 (-1) ∧ m 1 (-1) ≤ 2560) (hs : ∀ i, -2147483648 ≤ m 1 i ∧ m 1 i < 2147483648) (go : LG d k m Q) : RZ (d + 1) k_La_law 1304 [vR 1, vR 32, vR 121, vI k] [] (zH z m) Q := by
  refine r_loadA a221_1304 rfl (by decide) ?_
  refine r_loadA a221_1305 rfl (by decide) ?_
  refine r_loadI a221_1306 rfl ?_
  refine r_pushI a221_1307 ?_
  refine r_add a221_1308 (by omega) ?_
  refine r_ialdS a221_1309 (by omega) ?_
  refine r_loadA a221_1310 rfl (by decide) ?_
  refine r_loadI a221_1311 rfl ?_
  refine r_pushI a221_1312 ?_
  refine r_add a221_1313 (by omega) ?_
  refine r_ialdS a221_1314 (by omega) ?_
  refine r_callI_3 a221_1315 (Nat.le_of_ble_eq_true rfl) (le_mx mx99 (Nat.le_of_ble_eq_true rfl)) (Or.inr (recv_ok ty32 ow99 (by decide))) (CI.kh (J_as d z m (m 1 (k + 1)) (m 1 (k + 2)) (by omega) hC)) (fun x_1315 m_1315 h_1315 => ?_)
  obtain ⟨h_1315, e_1315⟩ := h_1315
  have e2 : m_1315 1 (-1) = m 1 (-1) := by rw [e_1315]
  refine r_loadA a221_1318 rfl (by decide) ?_
  refine r_loadA a221_1319 rfl (by decide) ?_
  refine r_loadI a221_1320 rfl ?_
  refine r_pushI a221_1321 ?_
  refine r_add a221_1322 (by omega) ?_
  refine r_ialdS a221_1323 (by omega) ?_
  refine r_loadA a221_1324 rfl (by decide) ?_
  refine r_loadI a221_1325 rfl ?_
  refine r_pushI a221_1326 ?_
  refine r_add a221_1327 (by omega) ?_
  refine r_ialdS a221_1328 (by omega) ?_
  rw [e_1315]
  refine r_callI_3 a221_1329 (Nat.le_of_ble_eq_true rfl) (le_mx mx205 (Nat.le_of_ble_eq_true rfl)) (Or.inr (recv_ok ty121 ow205 (by decide))) (h_1315) (fun x_1329 m_1329 h_1329 => ?_)
  refine r_iceq a221_1332 (fun h_1332 => ?_) (fun h_1332 => ?_)
  · exact go z m_1329 h_1329.2.1 h_1329.2.2
  · exact absurd h_1329.1 h_1332
theorem G_image (d z : Nat) (m : XM) (k : Int) (Q : Option XV → XH → Prop) (hd : 30 ≤ d) (hC : Cpl m) (hk : 0 ≤ k ∧ k + 5 ≤ m 1 (-1) ∧ m 1 (-1) ≤ 2560) (hs : ∀ i, -2147483648 ≤ m 1 i ∧ m 1 i < 2147483648) (go : LG d k m Q) : RZ (d + 1) k_La_law 1337 [vR 1, vR 32, vR 121, vI k] [] (zH z m) Q := by
  refine r_loadA a221_1337 rfl (by decide) ?_
  refine r_callI_1 a221_1338 (Nat.le_of_ble_eq_true rfl) (le_mx mx100 (Nat.le_of_ble_eq_true rfl)) (Or.inr (recv_ok ty32 ow100 (by decide))) (CI.kh (J_image d z m (by omega) hC)) (fun x_1338 m_1338 h_1338 => ?_)
  obtain ⟨h_1338, e_1338⟩ := h_1338
  have e2 : m_1338 1 (-1) = m 1 (-1) := by rw [e_1338]
  refine r_loadA a221_1341 rfl (by decide) ?_
  refine r_callI_1 a221_1342 (Nat.le_of_ble_eq_true rfl) (le_mx mx206 (Nat.le_of_ble_eq_true rfl)) (Or.inr (recv_ok ty121 ow206 (by decide))) (h_1338) (fun x_1342 m_1342 h_1342 => ?_)
  refine r_iceq a221_1345 (fun h_1345 => ?_) (fun h_1345 => ?_)
  · exact go z m_1342 h_1342.2.1 h_1342.2.2
  · exact absurd h_1342.1 h_1345
theorem G_undo (d z : Nat) (m : XM) (k : Int) (Q : Option XV → XH → Prop) (hd : 30 ≤ d) (hC : Cpl m) (hk : 0 ≤ k ∧ k + 5 ≤ m 1 (-1) ∧ m 1 (-1) ≤ 2560) (hs : ∀ i, -2147483648 ≤ m 1 i ∧ m 1 i < 2147483648) (go : LG d k m Q) : RZ (d + 1) k_La_law 1350 [vR 1, vR 32, vR 121, vI k] [] (zH z m) Q := by
  refine r_loadA a221_1350 rfl (by decide) ?_
  refine r_callI_1 a221_1351 (Nat.le_of_ble_eq_true rfl) (le_mx mx101 (Nat.le_of_ble_eq_true rfl)) (Or.inr (recv_ok ty32 ow101 (by decide))) (CI.kh (J_undo d z m (by omega) hC)) (fun x_1351 m_1351 h_1351 => ?_)
  obtain ⟨h_1351, e_1351⟩ := h_1351
  have e2 : m_1351 1 (-1) = m 1 (-1) := by rw [e_1351]
  refine r_loadA a221_1354 rfl (by decide) ?_
  refine r_callI_1 a221_1355 (Nat.le_of_ble_eq_true rfl) (le_mx mx207 (Nat.le_of_ble_eq_true rfl)) (Or.inr (recv_ok ty121 ow207 (by decide))) (h_1351) (fun x_1355 m_1355 h_1355 => ?_)
  refine r_iceq a221_1358 (fun h_1358 => ?_) (fun h_1358 => ?_)
  · exact go z m_1355 h_1355.2.1 h_1355.2.2
  · exact absurd h_1355.1 h_1358
theorem G_count (d z : Nat) (m : XM) (k : Int) (Q : Option XV → XH → Prop) (hd : 30 ≤ d) (hC : Cpl m) (hk : 0 ≤ k ∧ k + 5 ≤ m 1 (-1) ∧ m 1 (-1) ≤ 2560) (hs : ∀ i, -2147483648 ≤ m 1 i ∧ m 1 i < 2147483648) (go : LG d k m Q) : RZ (d + 1) k_La_law 1363 [vR 1, vR 32, vR 121, vI k] [] (zH z m) Q := by
  refine r_loadA a221_1363 rfl (by decide) ?_
  refine r_loadA a221_1364 rfl (by decide) ?_
  refine r_loadI a221_1365 rfl ?_
  refine r_pushI a221_1366 ?_
  refine r_add a221_1367 (by omega) ?_
  refine r_ialdS a221_1368 (by omega) ?_
  refine r_callI_2 a221_1369 (Nat.le_of_ble_eq_true rfl) (le_mx mx102 (Nat.le_of_ble_eq_true rfl)) (Or.inr (recv_ok ty32 ow102 (by decide))) (CI.kh (J_count d z m (m 1 (k + 1)) (by omega) hC)) (fun x_1369 m_1369 h_1369 => ?_)
  obtain ⟨h_1369, e_1369⟩ := h_1369
  have e2 : m_1369 1 (-1) = m 1 (-1) := by rw [e_1369]
  refine r_loadA a221_1372 rfl (by decide) ?_
  refine r_loadA a221_1373 rfl (by decide) ?_
  refine r_loadI a221_1374 rfl ?_
  refine r_pushI a221_1375 ?_
  refine r_add a221_1376 (by omega) ?_
  refine r_ialdS a221_1377 (by omega) ?_
  rw [e_1369]
  refine r_callI_2 a221_1378 (Nat.le_of_ble_eq_true rfl) (le_mx mx208 (Nat.le_of_ble_eq_true rfl)) (Or.inr (recv_ok ty121 ow208 (by decide))) (h_1369) (fun x_1378 m_1378 h_1378 => ?_)
  refine r_iceq a221_1381 (fun h_1381 => ?_) (fun h_1381 => ?_)
  · exact go z m_1378 h_1378.2.1 h_1378.2.2
  · exact absurd h_1378.1 h_1381
def LQ : Option XV → XH → Prop := fun r H' => r = some (vI 1) ∧ H'.1 ≤ 600000 ∧ H'.2.1 ≤ 7302250
theorem law_loop (d : Nat) (hd : 30 ≤ d) : ∀ (n : Nat) (k : Int) (z : Nat) (m : XM), m 1 (-1) < k + 5 * n → 0 ≤ k → k ≤ m 1 (-1) + 5 → 0 ≤ m 1 (-1) → m 1 (-1) ≤ 2560 → (∀ i, -2147483648 ≤ m 1 i ∧ m 1 i < 2147483648) → Cpl m → RZ (d + 1) k_La_law 18 [vR 1, vR 32, vR 121, vI k] [] (zH z m) LQ := by
  intro n
  induction n with
  | zero =>
    intro k z m h1 h2 h3 h4 h5 hs hC
    have h0 : m 1 (-1) < k := by simpa using h1
    refine r_loadI a221_18 rfl ?_
    refine r_loadA a221_19 rfl (by decide) ?_
    refine r_alenS a221_20 ?_
    refine r_pushI a221_21 ?_
    refine r_sub a221_22 (by omega) ?_
    refine r_icgt a221_23 (fun h_23 => ?_) (fun h_23 => ?_)
    · exact r_pushI a221_1392 (r_retZ a221_1393 (Or.inr rfl) ⟨rfl, by show (109 : Nat) ≤ 600000; decide, by show (6738 : Nat) ≤ 7302250; decide⟩)
    · exact absurd h_23 (by omega)
  | succ n ih =>
    intro k z m h1 h2 h3 h4 h5 hs hC
    have hgo : k + 5 ≤ m 1 (-1) → LG d k m LQ := fun hk z' m' g1 g2 => by
      have e2 : m' 1 (-1) = m 1 (-1) := by rw [g2]
      refine r_iinc_3 a221_1386 rfl (by omega) ?_
      refine r_goto a221_1389 ?_
      exact ih (k + 5) z' m' (by rw [e2]; omega) (by omega) (by rw [e2]; omega) (by rw [e2]; exact h4) (by rw [e2]; exact h5) (by rw [g2]; exact hs) g1
    refine r_loadI a221_18 rfl ?_
    refine r_loadA a221_19 rfl (by decide) ?_
    refine r_alenS a221_20 ?_
    refine r_pushI a221_21 ?_
    refine r_sub a221_22 (by omega) ?_
    refine r_icgt a221_23 (fun h_23 => ?_) (fun h_23 => ?_)
    · exact r_pushI a221_1392 (r_retZ a221_1393 (Or.inr rfl) ⟨rfl, by show (109 : Nat) ≤ 600000; decide, by show (6738 : Nat) ≤ 7302250; decide⟩)
    · have hk : 0 ≤ k ∧ k + 5 ≤ m 1 (-1) ∧ m 1 (-1) ≤ 2560 := ⟨h2, by omega, h5⟩
      have hg := hgo hk.2.1
      refine r_loadA a221_26 rfl (by decide) ?_
      refine r_loadI a221_27 rfl ?_
      refine r_ialdS a221_28 (by omega) ?_
      refine r_pushI a221_29 ?_
      refine r_and a221_31 ?_
      refine r_switch a221_32 ?_
      refine r_sw_cons (fun h_32 => ?_) (fun n_32_0 => ?_)
      · exact G_feed d z m k LQ hd hC hk hs hg
      refine r_sw_cons (fun h_32 => ?_) (fun n_32_1 => ?_)
      · exact G_slope d z m k LQ hd hC hk hs hg
      refine r_sw_cons (fun h_32 => ?_) (fun n_32_2 => ?_)
      · exact G_gate d z m k LQ hd hC hk hs hg
      refine r_sw_cons (fun h_32 => ?_) (fun n_32_3 => ?_)
      · exact G_of d z m k LQ hd hC hk hs hg
      refine r_sw_cons (fun h_32 => ?_) (fun n_32_4 => ?_)
      · exact G_turn d z m k LQ hd hC hk hs hg
      refine r_sw_cons (fun h_32 => ?_) (fun n_32_5 => ?_)
      · exact G_plan d z m k LQ hd hC hk hs hg
      refine r_sw_cons (fun h_32 => ?_) (fun n_32_6 => ?_)
      · exact G_row d z m k LQ hd hC hk hs hg
      refine r_sw_cons (fun h_32 => ?_) (fun n_32_7 => ?_)
      · exact G_skier d z m k LQ hd hC hk hs hg
      refine r_sw_cons (fun h_32 => ?_) (fun n_32_8 => ?_)
      · exact G_skill d z m k LQ hd hC hk hs hg
      refine r_sw_cons (fun h_32 => ?_) (fun n_32_9 => ?_)
      · exact G_told d z m k LQ hd hC hk hs hg
      refine r_sw_cons (fun h_32 => ?_) (fun n_32_10 => ?_)
      · exact G_run d z m k LQ hd hC hk hs hg
      refine r_sw_cons (fun h_32 => ?_) (fun n_32_11 => ?_)
      · exact G_would d z m k LQ hd hC hk hs hg
      refine r_sw_cons (fun h_32 => ?_) (fun n_32_12 => ?_)
      · exact G_quickest d z m k LQ hd hC hk hs hg
      refine r_sw_cons (fun h_32 => ?_) (fun n_32_13 => ?_)
      · exact G_clean d z m k LQ hd hC hk hs hg
      refine r_sw_cons (fun h_32 => ?_) (fun n_32_14 => ?_)
      · exact G_up d z m k LQ hd hC hk hs hg
      refine r_sw_cons (fun h_32 => ?_) (fun n_32_15 => ?_)
      · exact G_surest d z m k LQ hd hC hk hs hg
      refine r_sw_cons (fun h_32 => ?_) (fun n_32_16 => ?_)
      · exact G_sure d z m k LQ hd hC hk hs hg
      refine r_sw_cons (fun h_32 => ?_) (fun n_32_17 => ?_)
      · exact G_carry d z m k LQ hd hC hk hs hg
      refine r_sw_cons (fun h_32 => ?_) (fun n_32_18 => ?_)
      · exact G_start d z m k LQ hd hC hk hs hg
      refine r_sw_cons (fun h_32 => ?_) (fun n_32_19 => ?_)
      · exact G_rutted d z m k LQ hd hC hk hs hg
      refine r_sw_cons (fun h_32 => ?_) (fun n_32_20 => ?_)
      · exact G_wax d z m k LQ hd hC hk hs hg
      refine r_sw_cons (fun h_32 => ?_) (fun n_32_21 => ?_)
      · exact G_loses d z m k LQ hd hC hk hs hg
      refine r_sw_cons (fun h_32 => ?_) (fun n_32_22 => ?_)
      · exact G_wins d z m k LQ hd hC hk hs hg
      refine r_sw_cons (fun h_32 => ?_) (fun n_32_23 => ?_)
      · exact G_risk d z m k LQ hd hC hk hs hg
      refine r_sw_cons (fun h_32 => ?_) (fun n_32_24 => ?_)
      · exact G_set d z m k LQ hd hC hk hs hg
      refine r_sw_cons (fun h_32 => ?_) (fun n_32_25 => ?_)
      · exact G_rank d z m k LQ hd hC hk hs hg
      refine r_sw_cons (fun h_32 => ?_) (fun n_32_26 => ?_)
      · exact G_mean d z m k LQ hd hC hk hs hg
      refine r_sw_cons (fun h_32 => ?_) (fun n_32_27 => ?_)
      · exact G_slowest d z m k LQ hd hC hk hs hg
      refine r_sw_cons (fun h_32 => ?_) (fun n_32_28 => ?_)
      · exact G_see d z m k LQ hd hC hk hs hg
      refine r_sw_cons (fun h_32 => ?_) (fun n_32_29 => ?_)
      · exact G_fits d z m k LQ hd hC hk hs hg
      refine r_sw_cons (fun h_32 => ?_) (fun n_32_30 => ?_)
      · exact G_who d z m k LQ hd hC hk hs hg
      refine r_sw_cons (fun h_32 => ?_) (fun n_32_31 => ?_)
      · exact G_book d z m k LQ hd hC hk hs hg
      refine r_sw_cons (fun h_32 => ?_) (fun n_32_32 => ?_)
      · exact G_looked d z m k LQ hd hC hk hs hg
      refine r_sw_cons (fun h_32 => ?_) (fun n_32_33 => ?_)
      · exact G_act d z m k LQ hd hC hk hs hg
      refine r_sw_cons (fun h_32 => ?_) (fun n_32_34 => ?_)
      · exact G_trace d z m k LQ hd hC hk hs hg
      refine r_sw_cons (fun h_32 => ?_) (fun n_32_35 => ?_)
      · exact G_as d z m k LQ hd hC hk hs hg
      refine r_sw_cons (fun h_32 => ?_) (fun n_32_36 => ?_)
      · exact G_image d z m k LQ hd hC hk hs hg
      refine r_sw_cons (fun h_32 => ?_) (fun n_32_37 => ?_)
      · exact G_undo d z m k LQ hd hC hk hs hg
      refine r_sw_cons (fun h_32 => ?_) (fun n_32_38 => ?_)
      · exact G_count d z m k LQ hd hC hk hs hg
      refine r_sw_nil ?_
      exact hg z m hC rfl
