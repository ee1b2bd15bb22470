/-! THE LAW'S 34 CASES -/
section YC
variable {p : Program} {l : Launch} {e : Env} {s : State} {m : MethodId} {args : Array Value} {below : List Frame} {meth : Method} {c : Code} {Q : State → Prop} {G : XG} {cells slots : Nat} {S1 S2 : HSt}
/-- what comes behind a case -/
def Tl (p : Program) (l : Launch) (e : Env) (s : State) (m : MethodId) (args : Array Value) (below : List Frame) (meth : Method) (c : Code) (Q : State → Prop) (G : XG) (cells slots b a1 a2 i : Nat) : Prop := ∀ (S1' S2' : HSt) (c' s' : Nat), Sim a1 a2 S1' S2' → c' ≤ cells + 3 → s' ≤ slots + 2100 → Wy p l e room_1 s m args below meth c Q G 4 c' s' S1' S2' 1521 (lvL b a1 a2 i) []
theorem ldc_law : Cond.constantLong RL 105 4294967295 ∈ TBL := tb7 78 rfl rfl
theorem l_port {b L a1 a2 i : Nat} {xs : Nat → Int32} (C : Cx p s m c cL_law 4 args RL G) (X : Xs G s b L xs) (hi : i + 7 < L) (hs : Sim a1 a2 S1 S2) (hc : cells ≤ 100000) (hsl : slots ≤ 7000000) (tl : Tl p l e s m args below meth c Q G cells slots b a1 a2 i) : Wy p l e room_1 s m args below meth c Q G 4 cells slots S1 S2 184 (lvL b a1 a2 i) [] := by
  obtain ⟨PC, PR, hC, hR, hJ⟩ := b_port l hs (xs (i + 1)) (xs (i + 2))
  refine y_aload_n (pc := 184) C 2 rfl dL_law_184 rfl ?_
  refine y_arg (pc := 185) C X 1 (by omega) dL_law_185 dL_law_186 dL_law_187 dL_law_188 dL_law_189 (by decide) ?_
  refine y_arg (pc := 190) C X 2 (by omega) dL_law_190 dL_law_191 dL_law_192 dL_law_193 dL_law_194 (by decide) ?_
  refine y_cVi (pc := 195) C [.int (xs (i + 1)), .int (xs (i + 2))] me_X11_port mv_X11_port ml_L_13 hC hs.k1 rfl rfl (Nat.le_of_ble_eq_true rfl) dL_law_195 (by decide) (by show cells + 2 ≤ 600000; omega) (by show slots + 12 ≤ 7302250; omega) (fun r1 S1' p1 => ?_)
  refine y_swap ?_
  refine y_aload_n (pc := 198) C 1 rfl dL_law_198 rfl ?_
  refine y_arg (pc := 199) C X 1 (by omega) dL_law_199 dL_law_200 dL_law_201 dL_law_202 dL_law_203 (by decide) ?_
  refine y_arg (pc := 204) C X 2 (by omega) dL_law_204 dL_law_205 dL_law_206 dL_law_207 dL_law_208 (by decide) ?_
  refine y_cVi (pc := 209) C [.int (xs (i + 1)), .int (xs (i + 2))] me_X12_port mv_X12_port ml_L_17 hR hs.k2 rfl rfl (Nat.le_of_ble_eq_true rfl) dL_law_209 (by decide) (by show cells + 2 + 0 ≤ 600000; omega) (by show slots + 12 + 0 ≤ 7302250; omega) (fun r2 S2' p2 => ?_)
  refine y_swap ?_
  obtain ⟨eq, sim⟩ := hJ _ _ _ _ p1 p2
  exact y_ic_eq (pc := 212) C 1521 dL_law_212 rfl (fun _ => tl _ _ _ _ sim (by omega) (by omega)) (fun h => absurd eq h)
theorem l_way {b L a1 a2 i : Nat} {xs : Nat → Int32} (C : Cx p s m c cL_law 4 args RL G) (X : Xs G s b L xs) (hi : i + 7 < L) (hs : Sim a1 a2 S1 S2) (hc : cells ≤ 100000) (hsl : slots ≤ 7000000) (tl : Tl p l e s m args below meth c Q G cells slots b a1 a2 i) : Wy p l e room_1 s m args below meth c Q G 4 cells slots S1 S2 217 (lvL b a1 a2 i) [] := by
  obtain ⟨PC, PR, hC, hR, hJ⟩ := b_way l hs (xs (i + 1)) (xs (i + 2)) (xs (i + 3))
  refine y_aload_n (pc := 217) C 2 rfl dL_law_217 rfl ?_
  refine y_arg (pc := 218) C X 1 (by omega) dL_law_218 dL_law_219 dL_law_220 dL_law_221 dL_law_222 (by decide) ?_
  refine y_arg (pc := 223) C X 2 (by omega) dL_law_223 dL_law_224 dL_law_225 dL_law_226 dL_law_227 (by decide) ?_
  refine y_arg (pc := 228) C X 3 (by omega) dL_law_228 dL_law_229 dL_law_230 dL_law_231 dL_law_232 (by decide) ?_
  refine y_cVi (pc := 233) C [.int (xs (i + 1)), .int (xs (i + 2)), .int (xs (i + 3))] me_X11_way mv_X11_way ml_L_18 hC hs.k1 rfl rfl (Nat.le_of_ble_eq_true rfl) dL_law_233 (by decide) (by show cells + 0 ≤ 600000; omega) (by show slots + 0 ≤ 7302250; omega) (fun r1 S1' p1 => ?_)
  refine y_swap ?_
  refine y_aload_n (pc := 236) C 1 rfl dL_law_236 rfl ?_
  refine y_arg (pc := 237) C X 1 (by omega) dL_law_237 dL_law_238 dL_law_239 dL_law_240 dL_law_241 (by decide) ?_
  refine y_arg (pc := 242) C X 2 (by omega) dL_law_242 dL_law_243 dL_law_244 dL_law_245 dL_law_246 (by decide) ?_
  refine y_arg (pc := 247) C X 3 (by omega) dL_law_247 dL_law_248 dL_law_249 dL_law_250 dL_law_251 (by decide) ?_
  refine y_cVi (pc := 252) C [.int (xs (i + 1)), .int (xs (i + 2)), .int (xs (i + 3))] me_X12_way mv_X12_way ml_L_22 hR hs.k2 rfl rfl (Nat.le_of_ble_eq_true rfl) dL_law_252 (by decide) (by show cells + 0 + 0 ≤ 600000; omega) (by show slots + 0 + 0 ≤ 7302250; omega) (fun r2 S2' p2 => ?_)
  refine y_swap ?_
  obtain ⟨eq, sim⟩ := hJ _ _ _ _ p1 p2
  exact y_ic_eq (pc := 255) C 1521 dL_law_255 rfl (fun _ => tl _ _ _ _ sim (by omega) (by omega)) (fun h => absurd eq h)
theorem l_price {b L a1 a2 i : Nat} {xs : Nat → Int32} (C : Cx p s m c cL_law 4 args RL G) (X : Xs G s b L xs) (hi : i + 7 < L) (hs : Sim a1 a2 S1 S2) (hc : cells ≤ 100000) (hsl : slots ≤ 7000000) (tl : Tl p l e s m args below meth c Q G cells slots b a1 a2 i) : Wy p l e room_1 s m args below meth c Q G 4 cells slots S1 S2 260 (lvL b a1 a2 i) [] := by
  obtain ⟨PC, PR, hC, hR, hJ⟩ := b_price l hs (xs (i + 1)) (xs (i + 2))
  refine y_aload_n (pc := 260) C 2 rfl dL_law_260 rfl ?_
  refine y_arg (pc := 261) C X 1 (by omega) dL_law_261 dL_law_262 dL_law_263 dL_law_264 dL_law_265 (by decide) ?_
  refine y_arg (pc := 266) C X 2 (by omega) dL_law_266 dL_law_267 dL_law_268 dL_law_269 dL_law_270 (by decide) ?_
  refine y_cVi (pc := 271) C [.int (xs (i + 1)), .int (xs (i + 2))] me_X11_price mv_X11_price ml_L_23 hC hs.k1 rfl rfl (Nat.le_of_ble_eq_true rfl) dL_law_271 (by decide) (by show cells + 0 ≤ 600000; omega) (by show slots + 0 ≤ 7302250; omega) (fun r1 S1' p1 => ?_)
  refine y_swap ?_
  refine y_aload_n (pc := 274) C 1 rfl dL_law_274 rfl ?_
  refine y_arg (pc := 275) C X 1 (by omega) dL_law_275 dL_law_276 dL_law_277 dL_law_278 dL_law_279 (by decide) ?_
  refine y_arg (pc := 280) C X 2 (by omega) dL_law_280 dL_law_281 dL_law_282 dL_law_283 dL_law_284 (by decide) ?_
  refine y_cVi (pc := 285) C [.int (xs (i + 1)), .int (xs (i + 2))] me_X12_price mv_X12_price ml_L_26 hR hs.k2 rfl rfl (Nat.le_of_ble_eq_true rfl) dL_law_285 (by decide) (by show cells + 0 + 0 ≤ 600000; omega) (by show slots + 0 + 0 ≤ 7302250; omega) (fun r2 S2' p2 => ?_)
  refine y_swap ?_
  obtain ⟨eq, sim⟩ := hJ _ _ _ _ p1 p2
  exact y_ic_eq (pc := 288) C 1521 dL_law_288 rfl (fun _ => tl _ _ _ _ sim (by omega) (by omega)) (fun h => absurd eq h)
theorem l_ship {b L a1 a2 i : Nat} {xs : Nat → Int32} (C : Cx p s m c cL_law 4 args RL G) (X : Xs G s b L xs) (hi : i + 7 < L) (hs : Sim a1 a2 S1 S2) (hc : cells ≤ 100000) (hsl : slots ≤ 7000000) (tl : Tl p l e s m args below meth c Q G cells slots b a1 a2 i) : Wy p l e room_1 s m args below meth c Q G 4 cells slots S1 S2 293 (lvL b a1 a2 i) [] := by
  obtain ⟨PC, PR, hC, hR, hJ⟩ := b_ship l hs (xs (i + 1)) (xs (i + 2)) (xs (i + 3)) (xs (i + 4))
  refine y_aload_n (pc := 293) C 2 rfl dL_law_293 rfl ?_
  refine y_arg (pc := 294) C X 1 (by omega) dL_law_294 dL_law_295 dL_law_296 dL_law_297 dL_law_298 (by decide) ?_
  refine y_arg (pc := 299) C X 2 (by omega) dL_law_299 dL_law_300 dL_law_301 dL_law_302 dL_law_303 (by decide) ?_
  refine y_arg (pc := 304) C X 3 (by omega) dL_law_304 dL_law_305 dL_law_306 dL_law_307 dL_law_308 (by decide) ?_
  refine y_arg (pc := 309) C X 4 (by omega) dL_law_309 dL_law_310 dL_law_311 dL_law_312 dL_law_313 (by decide) ?_
  refine y_cVi (pc := 314) C [.int (xs (i + 1)), .int (xs (i + 2)), .int (xs (i + 3)), .int (xs (i + 4))] me_X11_ship mv_X11_ship ml_L_27 hC hs.k1 rfl rfl (Nat.le_of_ble_eq_true rfl) dL_law_314 (by decide) (by show cells + 2 ≤ 600000; omega) (by show slots + 2009 ≤ 7302250; omega) (fun r1 S1' p1 => ?_)
  refine y_swap ?_
  refine y_aload_n (pc := 317) C 1 rfl dL_law_317 rfl ?_
  refine y_arg (pc := 318) C X 1 (by omega) dL_law_318 dL_law_319 dL_law_320 dL_law_321 dL_law_322 (by decide) ?_
  refine y_arg (pc := 323) C X 2 (by omega) dL_law_323 dL_law_324 dL_law_325 dL_law_326 dL_law_327 (by decide) ?_
  refine y_arg (pc := 328) C X 3 (by omega) dL_law_328 dL_law_329 dL_law_330 dL_law_331 dL_law_332 (by decide) ?_
  refine y_arg (pc := 333) C X 4 (by omega) dL_law_333 dL_law_334 dL_law_335 dL_law_336 dL_law_337 (by decide) ?_
  refine y_cVi (pc := 338) C [.int (xs (i + 1)), .int (xs (i + 2)), .int (xs (i + 3)), .int (xs (i + 4))] me_X12_ship mv_X12_ship ml_L_31 hR hs.k2 rfl rfl (Nat.le_of_ble_eq_true rfl) dL_law_338 (by decide) (by show cells + 2 + 0 ≤ 600000; omega) (by show slots + 2009 + 0 ≤ 7302250; omega) (fun r2 S2' p2 => ?_)
  refine y_swap ?_
  obtain ⟨eq, sim⟩ := hJ _ _ _ _ p1 p2
  exact y_ic_eq (pc := 341) C 1521 dL_law_341 rfl (fun _ => tl _ _ _ _ sim (by omega) (by omega)) (fun h => absurd eq h)
theorem l_speed {b L a1 a2 i : Nat} {xs : Nat → Int32} (C : Cx p s m c cL_law 4 args RL G) (X : Xs G s b L xs) (hi : i + 7 < L) (hs : Sim a1 a2 S1 S2) (hc : cells ≤ 100000) (hsl : slots ≤ 7000000) (tl : Tl p l e s m args below meth c Q G cells slots b a1 a2 i) : Wy p l e room_1 s m args below meth c Q G 4 cells slots S1 S2 346 (lvL b a1 a2 i) [] := by
  obtain ⟨PC, PR, hC, hR, hJ⟩ := b_speed l hs (xs (i + 1)) (xs (i + 2))
  refine y_aload_n (pc := 346) C 2 rfl dL_law_346 rfl ?_
  refine y_arg (pc := 347) C X 1 (by omega) dL_law_347 dL_law_348 dL_law_349 dL_law_350 dL_law_351 (by decide) ?_
  refine y_arg (pc := 352) C X 2 (by omega) dL_law_352 dL_law_353 dL_law_354 dL_law_355 dL_law_356 (by decide) ?_
  refine y_cVi (pc := 357) C [.int (xs (i + 1)), .int (xs (i + 2))] me_X11_speed mv_X11_speed ml_L_32 hC hs.k1 rfl rfl (Nat.le_of_ble_eq_true rfl) dL_law_357 (by decide) (by show cells + 0 ≤ 600000; omega) (by show slots + 0 ≤ 7302250; omega) (fun r1 S1' p1 => ?_)
  refine y_swap ?_
  refine y_aload_n (pc := 360) C 1 rfl dL_law_360 rfl ?_
  refine y_arg (pc := 361) C X 1 (by omega) dL_law_361 dL_law_362 dL_law_363 dL_law_364 dL_law_365 (by decide) ?_
  refine y_arg (pc := 366) C X 2 (by omega) dL_law_366 dL_law_367 dL_law_368 dL_law_369 dL_law_370 (by decide) ?_
  refine y_cVi (pc := 371) C [.int (xs (i + 1)), .int (xs (i + 2))] me_X12_speed mv_X12_speed ml_L_35 hR hs.k2 rfl rfl (Nat.le_of_ble_eq_true rfl) dL_law_371 (by decide) (by show cells + 0 + 0 ≤ 600000; omega) (by show slots + 0 + 0 ≤ 7302250; omega) (fun r2 S2' p2 => ?_)
  refine y_swap ?_
  obtain ⟨eq, sim⟩ := hJ _ _ _ _ p1 p2
  exact y_ic_eq (pc := 374) C 1521 dL_law_374 rfl (fun _ => tl _ _ _ _ sim (by omega) (by omega)) (fun h => absurd eq h)
theorem l_free {b L a1 a2 i : Nat} {xs : Nat → Int32} (C : Cx p s m c cL_law 4 args RL G) (X : Xs G s b L xs) (hi : i + 7 < L) (hs : Sim a1 a2 S1 S2) (hc : cells ≤ 100000) (hsl : slots ≤ 7000000) (tl : Tl p l e s m args below meth c Q G cells slots b a1 a2 i) : Wy p l e room_1 s m args below meth c Q G 4 cells slots S1 S2 379 (lvL b a1 a2 i) [] := by
  obtain ⟨PC, PR, hC, hR, hJ⟩ := b_free l hs (xs (i + 1)) (xs (i + 2)) (xs (i + 3))
  refine y_aload_n (pc := 379) C 2 rfl dL_law_379 rfl ?_
  refine y_arg (pc := 380) C X 1 (by omega) dL_law_380 dL_law_381 dL_law_382 dL_law_383 dL_law_384 (by decide) ?_
  refine y_arg (pc := 385) C X 2 (by omega) dL_law_385 dL_law_386 dL_law_387 dL_law_388 dL_law_389 (by decide) ?_
  refine y_arg (pc := 390) C X 3 (by omega) dL_law_390 dL_law_391 dL_law_392 dL_law_393 dL_law_394 (by decide) ?_
  refine y_cVi (pc := 395) C [.int (xs (i + 1)), .int (xs (i + 2)), .int (xs (i + 3))] me_X11_free mv_X11_free ml_L_36 hC hs.k1 rfl rfl (Nat.le_of_ble_eq_true rfl) dL_law_395 (by decide) (by show cells + 0 ≤ 600000; omega) (by show slots + 0 ≤ 7302250; omega) (fun r1 S1' p1 => ?_)
  refine y_swap ?_
  refine y_aload_n (pc := 398) C 1 rfl dL_law_398 rfl ?_
  refine y_arg (pc := 399) C X 1 (by omega) dL_law_399 dL_law_400 dL_law_401 dL_law_402 dL_law_403 (by decide) ?_
  refine y_arg (pc := 404) C X 2 (by omega) dL_law_404 dL_law_405 dL_law_406 dL_law_407 dL_law_408 (by decide) ?_
  refine y_arg (pc := 409) C X 3 (by omega) dL_law_409 dL_law_410 dL_law_411 dL_law_412 dL_law_413 (by decide) ?_
  refine y_cVi (pc := 414) C [.int (xs (i + 1)), .int (xs (i + 2)), .int (xs (i + 3))] me_X12_free mv_X12_free ml_L_39 hR hs.k2 rfl rfl (Nat.le_of_ble_eq_true rfl) dL_law_414 (by decide) (by show cells + 0 + 0 ≤ 600000; omega) (by show slots + 0 + 0 ≤ 7302250; omega) (fun r2 S2' p2 => ?_)
  refine y_swap ?_
  obtain ⟨eq, sim⟩ := hJ _ _ _ _ p1 p2
  exact y_ic_eq (pc := 417) C 1521 dL_law_417 rfl (fun _ => tl _ _ _ _ sim (by omega) (by omega)) (fun h => absurd eq h)
theorem l_shipTold {b L a1 a2 i : Nat} {xs : Nat → Int32} (C : Cx p s m c cL_law 4 args RL G) (X : Xs G s b L xs) (hi : i + 7 < L) (hs : Sim a1 a2 S1 S2) (hc : cells ≤ 100000) (hsl : slots ≤ 7000000) (tl : Tl p l e s m args below meth c Q G cells slots b a1 a2 i) : Wy p l e room_1 s m args below meth c Q G 4 cells slots S1 S2 422 (lvL b a1 a2 i) [] := by
  obtain ⟨PC, PR, hC, hR, hJ⟩ := b_shipTold l hs (xs (i + 1)) (xs (i + 2))
  refine y_aload_n (pc := 422) C 2 rfl dL_law_422 rfl ?_
  refine y_arg (pc := 423) C X 1 (by omega) dL_law_423 dL_law_424 dL_law_425 dL_law_426 dL_law_427 (by decide) ?_
  refine y_arg (pc := 428) C X 2 (by omega) dL_law_428 dL_law_429 dL_law_430 dL_law_431 dL_law_432 (by decide) ?_
  refine y_cVi (pc := 433) C [.int (xs (i + 1)), .int (xs (i + 2))] me_X11_shipTold mv_X11_shipTold ml_L_40 hC hs.k1 rfl rfl (Nat.le_of_ble_eq_true rfl) dL_law_433 (by decide) (by show cells + 0 ≤ 600000; omega) (by show slots + 0 ≤ 7302250; omega) (fun r1 S1' p1 => ?_)
  refine y_swap ?_
  refine y_aload_n (pc := 436) C 1 rfl dL_law_436 rfl ?_
  refine y_arg (pc := 437) C X 1 (by omega) dL_law_437 dL_law_438 dL_law_439 dL_law_440 dL_law_441 (by decide) ?_
  refine y_arg (pc := 442) C X 2 (by omega) dL_law_442 dL_law_443 dL_law_444 dL_law_445 dL_law_446 (by decide) ?_
  refine y_cVi (pc := 447) C [.int (xs (i + 1)), .int (xs (i + 2))] me_X12_shipTold mv_X12_shipTold ml_L_43 hR hs.k2 rfl rfl (Nat.le_of_ble_eq_true rfl) dL_law_447 (by decide) (by show cells + 0 + 0 ≤ 600000; omega) (by show slots + 0 + 0 ≤ 7302250; omega) (fun r2 S2' p2 => ?_)
  refine y_swap ?_
  obtain ⟨eq, sim⟩ := hJ _ _ _ _ p1 p2
  exact y_ic_eq (pc := 450) C 1521 dL_law_450 rfl (fun _ => tl _ _ _ _ sim (by omega) (by omega)) (fun h => absurd eq h)
theorem l_offer {b L a1 a2 i : Nat} {xs : Nat → Int32} (C : Cx p s m c cL_law 4 args RL G) (X : Xs G s b L xs) (hi : i + 7 < L) (hs : Sim a1 a2 S1 S2) (hc : cells ≤ 100000) (hsl : slots ≤ 7000000) (tl : Tl p l e s m args below meth c Q G cells slots b a1 a2 i) : Wy p l e room_1 s m args below meth c Q G 4 cells slots S1 S2 455 (lvL b a1 a2 i) [] := by
  obtain ⟨PC, PR, hC, hR, hJ⟩ := b_offer l hs (xs (i + 1)) (xs (i + 2)) (xs (i + 3)) (xs (i + 4)) (xs (i + 5)) (xs (i + 6))
  refine y_aload_n (pc := 455) C 2 rfl dL_law_455 rfl ?_
  refine y_arg (pc := 456) C X 1 (by omega) dL_law_456 dL_law_457 dL_law_458 dL_law_459 dL_law_460 (by decide) ?_
  refine y_arg (pc := 461) C X 2 (by omega) dL_law_461 dL_law_462 dL_law_463 dL_law_464 dL_law_465 (by decide) ?_
  refine y_arg (pc := 466) C X 3 (by omega) dL_law_466 dL_law_467 dL_law_468 dL_law_469 dL_law_470 (by decide) ?_
  refine y_arg (pc := 471) C X 4 (by omega) dL_law_471 dL_law_472 dL_law_473 dL_law_474 dL_law_475 (by decide) ?_
  refine y_arg (pc := 476) C X 5 (by omega) dL_law_476 dL_law_477 dL_law_478 dL_law_479 dL_law_480 (by decide) ?_
  refine y_argb (pc := 481) C X 6 (by omega) dL_law_481 dL_law_482 dL_law_483 dL_law_485 dL_law_486 (by decide) ?_
  refine y_cVi (pc := 487) C [.int (xs (i + 1)), .int (xs (i + 2)), .int (xs (i + 3)), .int (xs (i + 4)), .int (xs (i + 5)), .int (xs (i + 6))] me_X11_offer mv_X11_offer ml_L_44 hC hs.k1 rfl rfl (Nat.le_of_ble_eq_true rfl) dL_law_487 (by decide) (by show cells + 1 ≤ 600000; omega) (by show slots + 7 ≤ 7302250; omega) (fun r1 S1' p1 => ?_)
  refine y_swap ?_
  refine y_aload_n (pc := 490) C 1 rfl dL_law_490 rfl ?_
  refine y_arg (pc := 491) C X 1 (by omega) dL_law_491 dL_law_492 dL_law_493 dL_law_494 dL_law_495 (by decide) ?_
  refine y_arg (pc := 496) C X 2 (by omega) dL_law_496 dL_law_497 dL_law_498 dL_law_499 dL_law_500 (by decide) ?_
  refine y_arg (pc := 501) C X 3 (by omega) dL_law_501 dL_law_502 dL_law_503 dL_law_504 dL_law_505 (by decide) ?_
  refine y_arg (pc := 506) C X 4 (by omega) dL_law_506 dL_law_507 dL_law_508 dL_law_509 dL_law_510 (by decide) ?_
  refine y_arg (pc := 511) C X 5 (by omega) dL_law_511 dL_law_512 dL_law_513 dL_law_514 dL_law_515 (by decide) ?_
  refine y_argb (pc := 516) C X 6 (by omega) dL_law_516 dL_law_517 dL_law_518 dL_law_520 dL_law_521 (by decide) ?_
  refine y_cVi (pc := 522) C [.int (xs (i + 1)), .int (xs (i + 2)), .int (xs (i + 3)), .int (xs (i + 4)), .int (xs (i + 5)), .int (xs (i + 6))] me_X12_offer mv_X12_offer ml_L_48 hR hs.k2 rfl rfl (Nat.le_of_ble_eq_true rfl) dL_law_522 (by decide) (by show cells + 1 + 0 ≤ 600000; omega) (by show slots + 7 + 0 ≤ 7302250; omega) (fun r2 S2' p2 => ?_)
  refine y_swap ?_
  obtain ⟨eq, sim⟩ := hJ _ _ _ _ p1 p2
  exact y_ic_eq (pc := 525) C 1521 dL_law_525 rfl (fun _ => tl _ _ _ _ sim (by omega) (by omega)) (fun h => absurd eq h)
theorem l_why {b L a1 a2 i : Nat} {xs : Nat → Int32} (C : Cx p s m c cL_law 4 args RL G) (X : Xs G s b L xs) (hi : i + 7 < L) (hs : Sim a1 a2 S1 S2) (hc : cells ≤ 100000) (hsl : slots ≤ 7000000) (tl : Tl p l e s m args below meth c Q G cells slots b a1 a2 i) : Wy p l e room_1 s m args below meth c Q G 4 cells slots S1 S2 530 (lvL b a1 a2 i) [] := by
  obtain ⟨PC, PR, hC, hR, hJ⟩ := b_why l hs (xs (i + 1)) (xs (i + 2))
  refine y_aload_n (pc := 530) C 2 rfl dL_law_530 rfl ?_
  refine y_arg (pc := 531) C X 1 (by omega) dL_law_531 dL_law_532 dL_law_533 dL_law_534 dL_law_535 (by decide) ?_
  refine y_arg (pc := 536) C X 2 (by omega) dL_law_536 dL_law_537 dL_law_538 dL_law_539 dL_law_540 (by decide) ?_
  refine y_cVi (pc := 541) C [.int (xs (i + 1)), .int (xs (i + 2))] me_X11_why mv_X11_why ml_L_49 hC hs.k1 rfl rfl (Nat.le_of_ble_eq_true rfl) dL_law_541 (by decide) (by show cells + 0 ≤ 600000; omega) (by show slots + 0 ≤ 7302250; omega) (fun r1 S1' p1 => ?_)
  refine y_swap ?_
  refine y_aload_n (pc := 544) C 1 rfl dL_law_544 rfl ?_
  refine y_arg (pc := 545) C X 1 (by omega) dL_law_545 dL_law_546 dL_law_547 dL_law_548 dL_law_549 (by decide) ?_
  refine y_arg (pc := 550) C X 2 (by omega) dL_law_550 dL_law_551 dL_law_552 dL_law_553 dL_law_554 (by decide) ?_
  refine y_cVi (pc := 555) C [.int (xs (i + 1)), .int (xs (i + 2))] me_X12_why mv_X12_why ml_L_52 hR hs.k2 rfl rfl (Nat.le_of_ble_eq_true rfl) dL_law_555 (by decide) (by show cells + 0 + 0 ≤ 600000; omega) (by show slots + 0 + 0 ≤ 7302250; omega) (fun r2 S2' p2 => ?_)
  refine y_swap ?_
  obtain ⟨eq, sim⟩ := hJ _ _ _ _ p1 p2
  exact y_ic_eq (pc := 558) C 1521 dL_law_558 rfl (fun _ => tl _ _ _ _ sim (by omega) (by omega)) (fun h => absurd eq h)
theorem l_estimate {b L a1 a2 i : Nat} {xs : Nat → Int32} (C : Cx p s m c cL_law 4 args RL G) (X : Xs G s b L xs) (hi : i + 7 < L) (hs : Sim a1 a2 S1 S2) (hc : cells ≤ 100000) (hsl : slots ≤ 7000000) (tl : Tl p l e s m args below meth c Q G cells slots b a1 a2 i) : Wy p l e room_1 s m args below meth c Q G 4 cells slots S1 S2 563 (lvL b a1 a2 i) [] := by
  obtain ⟨PC, PR, hC, hR, hJ⟩ := b_estimate l hs (xs (i + 1)) (xs (i + 2)) (xs (i + 3))
  refine y_aload_n (pc := 563) C 2 rfl dL_law_563 rfl ?_
  refine y_arg (pc := 564) C X 1 (by omega) dL_law_564 dL_law_565 dL_law_566 dL_law_567 dL_law_568 (by decide) ?_
  refine y_arg (pc := 569) C X 2 (by omega) dL_law_569 dL_law_570 dL_law_571 dL_law_572 dL_law_573 (by decide) ?_
  refine y_arg (pc := 574) C X 3 (by omega) dL_law_574 dL_law_575 dL_law_576 dL_law_577 dL_law_578 (by decide) ?_
  refine y_cVl (pc := 579) C [.int (xs (i + 1)), .int (xs (i + 2)), .int (xs (i + 3))] me_X11_estimate mv_X11_estimate ml_L_53 hC hs.k1 rfl rfl (Nat.le_of_ble_eq_true rfl) dL_law_579 (by decide) (by show cells + 0 ≤ 600000; omega) (by show slots + 0 ≤ 7302250; omega) (fun r1 S1' p1 => ?_)
  refine y_swap ?_
  refine y_aload_n (pc := 582) C 1 rfl dL_law_582 rfl ?_
  refine y_arg (pc := 583) C X 1 (by omega) dL_law_583 dL_law_584 dL_law_585 dL_law_586 dL_law_587 (by decide) ?_
  refine y_arg (pc := 588) C X 2 (by omega) dL_law_588 dL_law_589 dL_law_590 dL_law_591 dL_law_592 (by decide) ?_
  refine y_arg (pc := 593) C X 3 (by omega) dL_law_593 dL_law_594 dL_law_595 dL_law_596 dL_law_597 (by decide) ?_
  refine y_cVl (pc := 598) C [.int (xs (i + 1)), .int (xs (i + 2)), .int (xs (i + 3))] me_X12_estimate mv_X12_estimate ml_L_57 hR hs.k2 rfl rfl (Nat.le_of_ble_eq_true rfl) dL_law_598 (by decide) (by show cells + 0 + 0 ≤ 600000; omega) (by show slots + 0 + 0 ≤ 7302250; omega) (fun r2 S2' p2 => ?_)
  refine y_swap ?_
  obtain ⟨eq, sim⟩ := hJ _ _ _ _ p1 p2
  refine y_lcmp (pc := 601) C dL_law_601 ?_
  exact y_if_eq (pc := 602) C 1521 dL_law_602 rfl (fun _ => tl _ _ _ _ sim (by omega) (by omega)) (fun h => absurd (by rw [eq]; exact cmp_self _) h)
theorem l_best {b L a1 a2 i : Nat} {xs : Nat → Int32} (C : Cx p s m c cL_law 4 args RL G) (X : Xs G s b L xs) (hi : i + 7 < L) (hs : Sim a1 a2 S1 S2) (hc : cells ≤ 100000) (hsl : slots ≤ 7000000) (tl : Tl p l e s m args below meth c Q G cells slots b a1 a2 i) : Wy p l e room_1 s m args below meth c Q G 4 cells slots S1 S2 607 (lvL b a1 a2 i) [] := by
  obtain ⟨PC, PR, hC, hR, hJ⟩ := b_best l hs (xs (i + 1)) (xs (i + 2)) (xs (i + 3))
  refine y_aload_n (pc := 607) C 2 rfl dL_law_607 rfl ?_
  refine y_arg (pc := 608) C X 1 (by omega) dL_law_608 dL_law_609 dL_law_610 dL_law_611 dL_law_612 (by decide) ?_
  refine y_arg (pc := 613) C X 2 (by omega) dL_law_613 dL_law_614 dL_law_615 dL_law_616 dL_law_617 (by decide) ?_
  refine y_arg (pc := 618) C X 3 (by omega) dL_law_618 dL_law_619 dL_law_620 dL_law_621 dL_law_622 (by decide) ?_
  refine y_cVl (pc := 623) C [.int (xs (i + 1)), .int (xs (i + 2)), .int (xs (i + 3))] me_X11_best mv_X11_best ml_L_58 hC hs.k1 rfl rfl (Nat.le_of_ble_eq_true rfl) dL_law_623 (by decide) (by show cells + 0 ≤ 600000; omega) (by show slots + 0 ≤ 7302250; omega) (fun r1 S1' p1 => ?_)
  refine y_swap ?_
  refine y_aload_n (pc := 626) C 1 rfl dL_law_626 rfl ?_
  refine y_arg (pc := 627) C X 1 (by omega) dL_law_627 dL_law_628 dL_law_629 dL_law_630 dL_law_631 (by decide) ?_
  refine y_arg (pc := 632) C X 2 (by omega) dL_law_632 dL_law_633 dL_law_634 dL_law_635 dL_law_636 (by decide) ?_
  refine y_arg (pc := 637) C X 3 (by omega) dL_law_637 dL_law_638 dL_law_639 dL_law_640 dL_law_641 (by decide) ?_
  refine y_cVl (pc := 642) C [.int (xs (i + 1)), .int (xs (i + 2)), .int (xs (i + 3))] me_X12_best mv_X12_best ml_L_61 hR hs.k2 rfl rfl (Nat.le_of_ble_eq_true rfl) dL_law_642 (by decide) (by show cells + 0 + 0 ≤ 600000; omega) (by show slots + 0 + 0 ≤ 7302250; omega) (fun r2 S2' p2 => ?_)
  refine y_swap ?_
  obtain ⟨eq, sim⟩ := hJ _ _ _ _ p1 p2
  refine y_lcmp (pc := 645) C dL_law_645 ?_
  exact y_if_eq (pc := 646) C 1521 dL_law_646 rfl (fun _ => tl _ _ _ _ sim (by omega) (by omega)) (fun h => absurd (by rw [eq]; exact cmp_self _) h)
theorem l_chain {b L a1 a2 i : Nat} {xs : Nat → Int32} (C : Cx p s m c cL_law 4 args RL G) (X : Xs G s b L xs) (hi : i + 7 < L) (hs : Sim a1 a2 S1 S2) (hc : cells ≤ 100000) (hsl : slots ≤ 7000000) (tl : Tl p l e s m args below meth c Q G cells slots b a1 a2 i) : Wy p l e room_1 s m args below meth c Q G 4 cells slots S1 S2 651 (lvL b a1 a2 i) [] := by
  obtain ⟨PC, PR, hC, hR, hJ⟩ := b_chain l hs (xs (i + 1)) (xs (i + 2)) (xs (i + 3))
  refine y_aload_n (pc := 651) C 2 rfl dL_law_651 rfl ?_
  refine y_arg (pc := 652) C X 1 (by omega) dL_law_652 dL_law_653 dL_law_654 dL_law_655 dL_law_656 (by decide) ?_
  refine y_arg (pc := 657) C X 2 (by omega) dL_law_657 dL_law_658 dL_law_659 dL_law_660 dL_law_661 (by decide) ?_
  refine y_arg (pc := 662) C X 3 (by omega) dL_law_662 dL_law_663 dL_law_664 dL_law_665 dL_law_666 (by decide) ?_
  refine y_cVi (pc := 667) C [.int (xs (i + 1)), .int (xs (i + 2)), .int (xs (i + 3))] me_X11_chain mv_X11_chain ml_L_62 hC hs.k1 rfl rfl (Nat.le_of_ble_eq_true rfl) dL_law_667 (by decide) (by show cells + 0 ≤ 600000; omega) (by show slots + 0 ≤ 7302250; omega) (fun r1 S1' p1 => ?_)
  refine y_swap ?_
  refine y_aload_n (pc := 670) C 1 rfl dL_law_670 rfl ?_
  refine y_arg (pc := 671) C X 1 (by omega) dL_law_671 dL_law_672 dL_law_673 dL_law_674 dL_law_675 (by decide) ?_
  refine y_arg (pc := 676) C X 2 (by omega) dL_law_676 dL_law_677 dL_law_678 dL_law_679 dL_law_680 (by decide) ?_
  refine y_arg (pc := 681) C X 3 (by omega) dL_law_681 dL_law_682 dL_law_683 dL_law_684 dL_law_685 (by decide) ?_
  refine y_cVi (pc := 686) C [.int (xs (i + 1)), .int (xs (i + 2)), .int (xs (i + 3))] me_X12_chain mv_X12_chain ml_L_65 hR hs.k2 rfl rfl (Nat.le_of_ble_eq_true rfl) dL_law_686 (by decide) (by show cells + 0 + 0 ≤ 600000; omega) (by show slots + 0 + 0 ≤ 7302250; omega) (fun r2 S2' p2 => ?_)
  refine y_swap ?_
  obtain ⟨eq, sim⟩ := hJ _ _ _ _ p1 p2
  exact y_ic_eq (pc := 689) C 1521 dL_law_689 rfl (fun _ => tl _ _ _ _ sim (by omega) (by omega)) (fun h => absurd eq h)
theorem l_fix {b L a1 a2 i : Nat} {xs : Nat → Int32} (C : Cx p s m c cL_law 4 args RL G) (X : Xs G s b L xs) (hi : i + 7 < L) (hs : Sim a1 a2 S1 S2) (hc : cells ≤ 100000) (hsl : slots ≤ 7000000) (tl : Tl p l e s m args below meth c Q G cells slots b a1 a2 i) : Wy p l e room_1 s m args below meth c Q G 4 cells slots S1 S2 694 (lvL b a1 a2 i) [] := by
  obtain ⟨PC, PR, hC, hR, hJ⟩ := b_fix l hs (xs (i + 1)) (xs (i + 2))
  refine y_aload_n (pc := 694) C 2 rfl dL_law_694 rfl ?_
  refine y_arg (pc := 695) C X 1 (by omega) dL_law_695 dL_law_696 dL_law_697 dL_law_698 dL_law_699 (by decide) ?_
  refine y_arg (pc := 700) C X 2 (by omega) dL_law_700 dL_law_701 dL_law_702 dL_law_703 dL_law_704 (by decide) ?_
  refine y_cVi (pc := 705) C [.int (xs (i + 1)), .int (xs (i + 2))] me_X11_fix mv_X11_fix ml_L_66 hC hs.k1 rfl rfl (Nat.le_of_ble_eq_true rfl) dL_law_705 (by decide) (by show cells + 0 ≤ 600000; omega) (by show slots + 0 ≤ 7302250; omega) (fun r1 S1' p1 => ?_)
  refine y_swap ?_
  refine y_aload_n (pc := 708) C 1 rfl dL_law_708 rfl ?_
  refine y_arg (pc := 709) C X 1 (by omega) dL_law_709 dL_law_710 dL_law_711 dL_law_712 dL_law_713 (by decide) ?_
  refine y_arg (pc := 714) C X 2 (by omega) dL_law_714 dL_law_715 dL_law_716 dL_law_717 dL_law_718 (by decide) ?_
  refine y_cVi (pc := 719) C [.int (xs (i + 1)), .int (xs (i + 2))] me_X12_fix mv_X12_fix ml_L_69 hR hs.k2 rfl rfl (Nat.le_of_ble_eq_true rfl) dL_law_719 (by decide) (by show cells + 0 + 0 ≤ 600000; omega) (by show slots + 0 + 0 ≤ 7302250; omega) (fun r2 S2' p2 => ?_)
  refine y_swap ?_
  obtain ⟨eq, sim⟩ := hJ _ _ _ _ p1 p2
  exact y_ic_eq (pc := 722) C 1521 dL_law_722 rfl (fun _ => tl _ _ _ _ sim (by omega) (by omega)) (fun h => absurd eq h)
theorem l_go {b L a1 a2 i : Nat} {xs : Nat → Int32} (C : Cx p s m c cL_law 4 args RL G) (X : Xs G s b L xs) (hi : i + 7 < L) (hs : Sim a1 a2 S1 S2) (hc : cells ≤ 100000) (hsl : slots ≤ 7000000) (tl : Tl p l e s m args below meth c Q G cells slots b a1 a2 i) : Wy p l e room_1 s m args below meth c Q G 4 cells slots S1 S2 727 (lvL b a1 a2 i) [] := by
  obtain ⟨PC, PR, hC, hR, hJ⟩ := b_go l hs (xs (i + 1))
  refine y_aload_n (pc := 727) C 2 rfl dL_law_727 rfl ?_
  refine y_arg (pc := 728) C X 1 (by omega) dL_law_728 dL_law_729 dL_law_730 dL_law_731 dL_law_732 (by decide) ?_
  refine y_cVi (pc := 733) C [.int (xs (i + 1))] me_X11_go mv_X11_go ml_L_70 hC hs.k1 rfl rfl (Nat.le_of_ble_eq_true rfl) dL_law_733 (by decide) (by show cells + 0 ≤ 600000; omega) (by show slots + 0 ≤ 7302250; omega) (fun r1 S1' p1 => ?_)
  refine y_swap ?_
  refine y_aload_n (pc := 736) C 1 rfl dL_law_736 rfl ?_
  refine y_arg (pc := 737) C X 1 (by omega) dL_law_737 dL_law_738 dL_law_739 dL_law_740 dL_law_741 (by decide) ?_
  refine y_cVi (pc := 742) C [.int (xs (i + 1))] me_X12_go mv_X12_go ml_L_74 hR hs.k2 rfl rfl (Nat.le_of_ble_eq_true rfl) dL_law_742 (by decide) (by show cells + 0 + 0 ≤ 600000; omega) (by show slots + 0 + 0 ≤ 7302250; omega) (fun r2 S2' p2 => ?_)
  refine y_swap ?_
  obtain ⟨eq, sim⟩ := hJ _ _ _ _ p1 p2
  exact y_ic_eq (pc := 745) C 1521 dL_law_745 rfl (fun _ => tl _ _ _ _ sim (by omega) (by omega)) (fun h => absurd eq h)
theorem l_clear {b L a1 a2 i : Nat} {xs : Nat → Int32} (C : Cx p s m c cL_law 4 args RL G) (X : Xs G s b L xs) (hi : i + 7 < L) (hs : Sim a1 a2 S1 S2) (hc : cells ≤ 100000) (hsl : slots ≤ 7000000) (tl : Tl p l e s m args below meth c Q G cells slots b a1 a2 i) : Wy p l e room_1 s m args below meth c Q G 4 cells slots S1 S2 750 (lvL b a1 a2 i) [] := by
  obtain ⟨PC, PR, hC, hR, hJ⟩ := b_clear l hs 
  refine y_aload_n (pc := 750) C 2 rfl dL_law_750 rfl ?_
  refine y_cVi (pc := 751) C [] me_X11_clear mv_X11_clear ml_L_75 hC hs.k1 rfl rfl (Nat.le_of_ble_eq_true rfl) dL_law_751 (by decide) (by show cells + 0 ≤ 600000; omega) (by show slots + 0 ≤ 7302250; omega) (fun r1 S1' p1 => ?_)
  refine y_swap ?_
  refine y_aload_n (pc := 754) C 1 rfl dL_law_754 rfl ?_
  refine y_cVi (pc := 755) C [] me_X12_clear mv_X12_clear ml_L_79 hR hs.k2 rfl rfl (Nat.le_of_ble_eq_true rfl) dL_law_755 (by decide) (by show cells + 0 + 0 ≤ 600000; omega) (by show slots + 0 + 0 ≤ 7302250; omega) (fun r2 S2' p2 => ?_)
  refine y_swap ?_
  obtain ⟨eq, sim⟩ := hJ _ _ _ _ p1 p2
  exact y_ic_eq (pc := 758) C 1521 dL_law_758 rfl (fun _ => tl _ _ _ _ sim (by omega) (by omega)) (fun h => absurd eq h)
theorem l_bunker {b L a1 a2 i : Nat} {xs : Nat → Int32} (C : Cx p s m c cL_law 4 args RL G) (X : Xs G s b L xs) (hi : i + 7 < L) (hs : Sim a1 a2 S1 S2) (hc : cells ≤ 100000) (hsl : slots ≤ 7000000) (tl : Tl p l e s m args below meth c Q G cells slots b a1 a2 i) : Wy p l e room_1 s m args below meth c Q G 4 cells slots S1 S2 763 (lvL b a1 a2 i) [] := by
  obtain ⟨PC, PR, hC, hR, hJ⟩ := b_bunker l hs (xs (i + 1))
  refine y_aload_n (pc := 763) C 2 rfl dL_law_763 rfl ?_
  refine y_arg (pc := 764) C X 1 (by omega) dL_law_764 dL_law_765 dL_law_766 dL_law_767 dL_law_768 (by decide) ?_
  refine y_cVi (pc := 769) C [.int (xs (i + 1))] me_X11_bunker mv_X11_bunker ml_L_80 hC hs.k1 rfl rfl (Nat.le_of_ble_eq_true rfl) dL_law_769 (by decide) (by show cells + 0 ≤ 600000; omega) (by show slots + 0 ≤ 7302250; omega) (fun r1 S1' p1 => ?_)
  refine y_swap ?_
  refine y_aload_n (pc := 772) C 1 rfl dL_law_772 rfl ?_
  refine y_arg (pc := 773) C X 1 (by omega) dL_law_773 dL_law_774 dL_law_775 dL_law_776 dL_law_777 (by decide) ?_
  refine y_cVi (pc := 778) C [.int (xs (i + 1))] me_X12_bunker mv_X12_bunker ml_L_83 hR hs.k2 rfl rfl (Nat.le_of_ble_eq_true rfl) dL_law_778 (by decide) (by show cells + 0 + 0 ≤ 600000; omega) (by show slots + 0 + 0 ≤ 7302250; omega) (fun r2 S2' p2 => ?_)
  refine y_swap ?_
  obtain ⟨eq, sim⟩ := hJ _ _ _ _ p1 p2
  exact y_ic_eq (pc := 781) C 1521 dL_law_781 rfl (fun _ => tl _ _ _ _ sim (by omega) (by omega)) (fun h => absurd eq h)
theorem l_bought {b L a1 a2 i : Nat} {xs : Nat → Int32} (C : Cx p s m c cL_law 4 args RL G) (X : Xs G s b L xs) (hi : i + 7 < L) (hs : Sim a1 a2 S1 S2) (hc : cells ≤ 100000) (hsl : slots ≤ 7000000) (tl : Tl p l e s m args below meth c Q G cells slots b a1 a2 i) : Wy p l e room_1 s m args below meth c Q G 4 cells slots S1 S2 786 (lvL b a1 a2 i) [] := by
  obtain ⟨PC, PR, hC, hR, hJ⟩ := b_bought l hs (xs (i + 1)) (xs (i + 2))
  refine y_aload_n (pc := 786) C 2 rfl dL_law_786 rfl ?_
  refine y_arg (pc := 787) C X 1 (by omega) dL_law_787 dL_law_788 dL_law_789 dL_law_790 dL_law_791 (by decide) ?_
  refine y_arg (pc := 792) C X 2 (by omega) dL_law_792 dL_law_793 dL_law_794 dL_law_795 dL_law_796 (by decide) ?_
  refine y_cVi (pc := 797) C [.int (xs (i + 1)), .int (xs (i + 2))] me_X11_bought mv_X11_bought ml_L_84 hC hs.k1 rfl rfl (Nat.le_of_ble_eq_true rfl) dL_law_797 (by decide) (by show cells + 0 ≤ 600000; omega) (by show slots + 0 ≤ 7302250; omega) (fun r1 S1' p1 => ?_)
  refine y_swap ?_
  refine y_aload_n (pc := 800) C 1 rfl dL_law_800 rfl ?_
  refine y_arg (pc := 801) C X 1 (by omega) dL_law_801 dL_law_802 dL_law_803 dL_law_804 dL_law_805 (by decide) ?_
  refine y_arg (pc := 806) C X 2 (by omega) dL_law_806 dL_law_807 dL_law_808 dL_law_809 dL_law_810 (by decide) ?_
  refine y_cVi (pc := 811) C [.int (xs (i + 1)), .int (xs (i + 2))] me_X12_bought mv_X12_bought ml_L_87 hR hs.k2 rfl rfl (Nat.le_of_ble_eq_true rfl) dL_law_811 (by decide) (by show cells + 0 + 0 ≤ 600000; omega) (by show slots + 0 + 0 ≤ 7302250; omega) (fun r2 S2' p2 => ?_)
  refine y_swap ?_
  obtain ⟨eq, sim⟩ := hJ _ _ _ _ p1 p2
  exact y_ic_eq (pc := 814) C 1521 dL_law_814 rfl (fun _ => tl _ _ _ _ sim (by omega) (by omega)) (fun h => absurd eq h)
theorem l_log {b L a1 a2 i : Nat} {xs : Nat → Int32} (C : Cx p s m c cL_law 4 args RL G) (X : Xs G s b L xs) (hi : i + 7 < L) (hs : Sim a1 a2 S1 S2) (hc : cells ≤ 100000) (hsl : slots ≤ 7000000) (tl : Tl p l e s m args below meth c Q G cells slots b a1 a2 i) : Wy p l e room_1 s m args below meth c Q G 4 cells slots S1 S2 819 (lvL b a1 a2 i) [] := by
  obtain ⟨PC, PR, hC, hR, hJ⟩ := b_log l hs (xs (i + 1)) (xs (i + 2)) (xs (i + 3))
  refine y_aload_n (pc := 819) C 2 rfl dL_law_819 rfl ?_
  refine y_arg (pc := 820) C X 1 (by omega) dL_law_820 dL_law_821 dL_law_822 dL_law_823 dL_law_824 (by decide) ?_
  refine y_arg (pc := 825) C X 2 (by omega) dL_law_825 dL_law_826 dL_law_827 dL_law_828 dL_law_829 (by decide) ?_
  refine y_arg (pc := 830) C X 3 (by omega) dL_law_830 dL_law_831 dL_law_832 dL_law_833 dL_law_834 (by decide) ?_
  refine y_cVi (pc := 835) C [.int (xs (i + 1)), .int (xs (i + 2)), .int (xs (i + 3))] me_X11_log mv_X11_log ml_L_88 hC hs.k1 rfl rfl (Nat.le_of_ble_eq_true rfl) dL_law_835 (by decide) (by show cells + 0 ≤ 600000; omega) (by show slots + 0 ≤ 7302250; omega) (fun r1 S1' p1 => ?_)
  refine y_swap ?_
  refine y_aload_n (pc := 838) C 1 rfl dL_law_838 rfl ?_
  refine y_arg (pc := 839) C X 1 (by omega) dL_law_839 dL_law_840 dL_law_841 dL_law_842 dL_law_843 (by decide) ?_
  refine y_arg (pc := 844) C X 2 (by omega) dL_law_844 dL_law_845 dL_law_846 dL_law_847 dL_law_848 (by decide) ?_
  refine y_arg (pc := 849) C X 3 (by omega) dL_law_849 dL_law_850 dL_law_851 dL_law_852 dL_law_853 (by decide) ?_
  refine y_cVi (pc := 854) C [.int (xs (i + 1)), .int (xs (i + 2)), .int (xs (i + 3))] me_X12_log mv_X12_log ml_L_91 hR hs.k2 rfl rfl (Nat.le_of_ble_eq_true rfl) dL_law_854 (by decide) (by show cells + 0 + 0 ≤ 600000; omega) (by show slots + 0 + 0 ≤ 7302250; omega) (fun r2 S2' p2 => ?_)
  refine y_swap ?_
  obtain ⟨eq, sim⟩ := hJ _ _ _ _ p1 p2
  exact y_ic_eq (pc := 857) C 1521 dL_law_857 rfl (fun _ => tl _ _ _ _ sim (by omega) (by omega)) (fun h => absurd eq h)
theorem l_lay {b L a1 a2 i : Nat} {xs : Nat → Int32} (C : Cx p s m c cL_law 4 args RL G) (X : Xs G s b L xs) (hi : i + 7 < L) (hs : Sim a1 a2 S1 S2) (hc : cells ≤ 100000) (hsl : slots ≤ 7000000) (tl : Tl p l e s m args below meth c Q G cells slots b a1 a2 i) : Wy p l e room_1 s m args below meth c Q G 4 cells slots S1 S2 862 (lvL b a1 a2 i) [] := by
  obtain ⟨PC, PR, hC, hR, hJ⟩ := b_lay l hs (xs (i + 1)) (xs (i + 2)) (xs (i + 3)) (xs (i + 4)) (xs (i + 5))
  refine y_aload_n (pc := 862) C 2 rfl dL_law_862 rfl ?_
  refine y_arg (pc := 863) C X 1 (by omega) dL_law_863 dL_law_864 dL_law_865 dL_law_866 dL_law_867 (by decide) ?_
  refine y_arg (pc := 868) C X 2 (by omega) dL_law_868 dL_law_869 dL_law_870 dL_law_871 dL_law_872 (by decide) ?_
  refine y_arg (pc := 873) C X 3 (by omega) dL_law_873 dL_law_874 dL_law_875 dL_law_876 dL_law_877 (by decide) ?_
  refine y_arg (pc := 878) C X 4 (by omega) dL_law_878 dL_law_879 dL_law_880 dL_law_881 dL_law_882 (by decide) ?_
  refine y_arg (pc := 883) C X 5 (by omega) dL_law_883 dL_law_884 dL_law_885 dL_law_886 dL_law_887 (by decide) ?_
  refine y_cVi (pc := 888) C [.int (xs (i + 1)), .int (xs (i + 2)), .int (xs (i + 3)), .int (xs (i + 4)), .int (xs (i + 5))] me_X11_lay mv_X11_lay ml_L_92 hC hs.k1 rfl rfl (Nat.le_of_ble_eq_true rfl) dL_law_888 (by decide) (by show cells + 0 ≤ 600000; omega) (by show slots + 0 ≤ 7302250; omega) (fun r1 S1' p1 => ?_)
  refine y_swap ?_
  refine y_aload_n (pc := 891) C 1 rfl dL_law_891 rfl ?_
  refine y_arg (pc := 892) C X 1 (by omega) dL_law_892 dL_law_893 dL_law_894 dL_law_895 dL_law_896 (by decide) ?_
  refine y_arg (pc := 897) C X 2 (by omega) dL_law_897 dL_law_898 dL_law_899 dL_law_900 dL_law_901 (by decide) ?_
  refine y_arg (pc := 902) C X 3 (by omega) dL_law_902 dL_law_903 dL_law_904 dL_law_905 dL_law_906 (by decide) ?_
  refine y_arg (pc := 907) C X 4 (by omega) dL_law_907 dL_law_908 dL_law_909 dL_law_910 dL_law_911 (by decide) ?_
  refine y_arg (pc := 912) C X 5 (by omega) dL_law_912 dL_law_913 dL_law_914 dL_law_915 dL_law_916 (by decide) ?_
  refine y_cVi (pc := 917) C [.int (xs (i + 1)), .int (xs (i + 2)), .int (xs (i + 3)), .int (xs (i + 4)), .int (xs (i + 5))] me_X12_lay mv_X12_lay ml_L_96 hR hs.k2 rfl rfl (Nat.le_of_ble_eq_true rfl) dL_law_917 (by decide) (by show cells + 0 + 0 ≤ 600000; omega) (by show slots + 0 + 0 ≤ 7302250; omega) (fun r2 S2' p2 => ?_)
  refine y_swap ?_
  obtain ⟨eq, sim⟩ := hJ _ _ _ _ p1 p2
  exact y_ic_eq (pc := 920) C 1521 dL_law_920 rfl (fun _ => tl _ _ _ _ sim (by omega) (by omega)) (fun h => absurd eq h)
theorem l_right {b L a1 a2 i : Nat} {xs : Nat → Int32} (C : Cx p s m c cL_law 4 args RL G) (X : Xs G s b L xs) (hi : i + 7 < L) (hs : Sim a1 a2 S1 S2) (hc : cells ≤ 100000) (hsl : slots ≤ 7000000) (tl : Tl p l e s m args below meth c Q G cells slots b a1 a2 i) : Wy p l e room_1 s m args below meth c Q G 4 cells slots S1 S2 925 (lvL b a1 a2 i) [] := by
  obtain ⟨PC, PR, hC, hR, hJ⟩ := b_right l hs (xs (i + 1)) (xs (i + 2)) (xs (i + 3))
  refine y_aload_n (pc := 925) C 2 rfl dL_law_925 rfl ?_
  refine y_arg (pc := 926) C X 1 (by omega) dL_law_926 dL_law_927 dL_law_928 dL_law_929 dL_law_930 (by decide) ?_
  refine y_arg (pc := 931) C X 2 (by omega) dL_law_931 dL_law_932 dL_law_933 dL_law_934 dL_law_935 (by decide) ?_
  refine y_arg (pc := 936) C X 3 (by omega) dL_law_936 dL_law_937 dL_law_938 dL_law_939 dL_law_940 (by decide) ?_
  refine y_cVi (pc := 941) C [.int (xs (i + 1)), .int (xs (i + 2)), .int (xs (i + 3))] me_X11_right mv_X11_right ml_L_97 hC hs.k1 rfl rfl (Nat.le_of_ble_eq_true rfl) dL_law_941 (by decide) (by show cells + 0 ≤ 600000; omega) (by show slots + 0 ≤ 7302250; omega) (fun r1 S1' p1 => ?_)
  refine y_swap ?_
  refine y_aload_n (pc := 944) C 1 rfl dL_law_944 rfl ?_
  refine y_arg (pc := 945) C X 1 (by omega) dL_law_945 dL_law_946 dL_law_947 dL_law_948 dL_law_949 (by decide) ?_
  refine y_arg (pc := 950) C X 2 (by omega) dL_law_950 dL_law_951 dL_law_952 dL_law_953 dL_law_954 (by decide) ?_
  refine y_arg (pc := 955) C X 3 (by omega) dL_law_955 dL_law_956 dL_law_957 dL_law_958 dL_law_959 (by decide) ?_
  refine y_cVi (pc := 960) C [.int (xs (i + 1)), .int (xs (i + 2)), .int (xs (i + 3))] me_X12_right mv_X12_right ml_L_100 hR hs.k2 rfl rfl (Nat.le_of_ble_eq_true rfl) dL_law_960 (by decide) (by show cells + 0 + 0 ≤ 600000; omega) (by show slots + 0 + 0 ≤ 7302250; omega) (fun r2 S2' p2 => ?_)
  refine y_swap ?_
  obtain ⟨eq, sim⟩ := hJ _ _ _ _ p1 p2
  exact y_ic_eq (pc := 963) C 1521 dL_law_963 rfl (fun _ => tl _ _ _ _ sim (by omega) (by omega)) (fun h => absurd eq h)
theorem l_sort {b L a1 a2 i : Nat} {xs : Nat → Int32} (C : Cx p s m c cL_law 4 args RL G) (X : Xs G s b L xs) (hi : i + 7 < L) (hs : Sim a1 a2 S1 S2) (hc : cells ≤ 100000) (hsl : slots ≤ 7000000) (tl : Tl p l e s m args below meth c Q G cells slots b a1 a2 i) : Wy p l e room_1 s m args below meth c Q G 4 cells slots S1 S2 968 (lvL b a1 a2 i) [] := by
  obtain ⟨PC, PR, hC, hR, hJ⟩ := b_sort l hs (xs (i + 1)) (xs (i + 2))
  refine y_aload_n (pc := 968) C 2 rfl dL_law_968 rfl ?_
  refine y_arg (pc := 969) C X 1 (by omega) dL_law_969 dL_law_970 dL_law_971 dL_law_972 dL_law_973 (by decide) ?_
  refine y_arg (pc := 974) C X 2 (by omega) dL_law_974 dL_law_975 dL_law_976 dL_law_977 dL_law_978 (by decide) ?_
  refine y_cVi (pc := 979) C [.int (xs (i + 1)), .int (xs (i + 2))] me_X11_sort mv_X11_sort ml_L_101 hC hs.k1 rfl rfl (Nat.le_of_ble_eq_true rfl) dL_law_979 (by decide) (by show cells + 0 ≤ 600000; omega) (by show slots + 0 ≤ 7302250; omega) (fun r1 S1' p1 => ?_)
  refine y_swap ?_
  refine y_aload_n (pc := 982) C 1 rfl dL_law_982 rfl ?_
  refine y_arg (pc := 983) C X 1 (by omega) dL_law_983 dL_law_984 dL_law_985 dL_law_986 dL_law_987 (by decide) ?_
  refine y_arg (pc := 988) C X 2 (by omega) dL_law_988 dL_law_989 dL_law_990 dL_law_991 dL_law_992 (by decide) ?_
  refine y_cVi (pc := 993) C [.int (xs (i + 1)), .int (xs (i + 2))] me_X12_sort mv_X12_sort ml_L_104 hR hs.k2 rfl rfl (Nat.le_of_ble_eq_true rfl) dL_law_993 (by decide) (by show cells + 0 + 0 ≤ 600000; omega) (by show slots + 0 + 0 ≤ 7302250; omega) (fun r2 S2' p2 => ?_)
  refine y_swap ?_
  obtain ⟨eq, sim⟩ := hJ _ _ _ _ p1 p2
  exact y_ic_eq (pc := 996) C 1521 dL_law_996 rfl (fun _ => tl _ _ _ _ sim (by omega) (by omega)) (fun h => absurd eq h)
theorem l_feed {b L a1 a2 i : Nat} {xs : Nat → Int32} (C : Cx p s m c cL_law 4 args RL G) (X : Xs G s b L xs) (hi : i + 7 < L) (hs : Sim a1 a2 S1 S2) (hc : cells ≤ 100000) (hsl : slots ≤ 7000000) (tl : Tl p l e s m args below meth c Q G cells slots b a1 a2 i) : Wy p l e room_1 s m args below meth c Q G 4 cells slots S1 S2 1001 (lvL b a1 a2 i) [] := by
  obtain ⟨PC, PR, hC, hR, hJ⟩ := b_feed l hs (xs (i + 1)) ((((xs (i + 2)).toInt64 <<< (((32 : Int32)).toInt64 &&& 63)) ||| ((xs (i + 3)).toInt64 &&& (4294967295 : Int64))))
  refine y_aload_n (pc := 1001) C 2 rfl dL_law_1001 rfl ?_
  refine y_arg (pc := 1002) C X 1 (by omega) dL_law_1002 dL_law_1003 dL_law_1004 dL_law_1005 dL_law_1006 (by decide) ?_
  refine y_arg (pc := 1007) C X 2 (by omega) dL_law_1007 dL_law_1008 dL_law_1009 dL_law_1010 dL_law_1011 (by decide) ?_
  refine y_i2l (pc := 1012) C dL_law_1012 ?_
  refine y_bipush (pc := 1013) C (32 : Int32) dL_law_1013 (by decide) ?_
  refine y_lshl (pc := 1015) C dL_law_1015 ?_
  refine y_arg (pc := 1016) C X 3 (by omega) dL_law_1016 dL_law_1017 dL_law_1018 dL_law_1019 dL_law_1020 (by decide) ?_
  refine y_i2l (pc := 1021) C dL_law_1021 ?_
  refine y_ldc2 (pc := 1022) C 4294967295 dL_law_1022 ldc_law ?_
  refine y_land (pc := 1025) C dL_law_1025 ?_
  refine y_lor (pc := 1026) C dL_law_1026 ?_
  refine y_cVi (pc := 1027) C [.int (xs (i + 1)), .long ((((xs (i + 2)).toInt64 <<< (((32 : Int32)).toInt64 &&& 63)) ||| ((xs (i + 3)).toInt64 &&& (4294967295 : Int64))))] me_X11_feed mv_X11_feed ml_L_107 hC hs.k1 rfl rfl (Nat.le_of_ble_eq_true rfl) dL_law_1027 (by decide) (by show cells + 0 ≤ 600000; omega) (by show slots + 0 ≤ 7302250; omega) (fun r1 S1' p1 => ?_)
  refine y_swap ?_
  refine y_aload_n (pc := 1030) C 1 rfl dL_law_1030 rfl ?_
  refine y_arg (pc := 1031) C X 1 (by omega) dL_law_1031 dL_law_1032 dL_law_1033 dL_law_1034 dL_law_1035 (by decide) ?_
  refine y_arg (pc := 1036) C X 2 (by omega) dL_law_1036 dL_law_1037 dL_law_1038 dL_law_1039 dL_law_1040 (by decide) ?_
  refine y_i2l (pc := 1041) C dL_law_1041 ?_
  refine y_bipush (pc := 1042) C (32 : Int32) dL_law_1042 (by decide) ?_
  refine y_lshl (pc := 1044) C dL_law_1044 ?_
  refine y_arg (pc := 1045) C X 3 (by omega) dL_law_1045 dL_law_1046 dL_law_1047 dL_law_1048 dL_law_1049 (by decide) ?_
  refine y_i2l (pc := 1050) C dL_law_1050 ?_
  refine y_ldc2 (pc := 1051) C 4294967295 dL_law_1051 ldc_law ?_
  refine y_land (pc := 1054) C dL_law_1054 ?_
  refine y_lor (pc := 1055) C dL_law_1055 ?_
  refine y_cVi (pc := 1056) C [.int (xs (i + 1)), .long ((((xs (i + 2)).toInt64 <<< (((32 : Int32)).toInt64 &&& 63)) ||| ((xs (i + 3)).toInt64 &&& (4294967295 : Int64))))] me_X12_feed mv_X12_feed ml_L_111 hR hs.k2 rfl rfl (Nat.le_of_ble_eq_true rfl) dL_law_1056 (by decide) (by show cells + 0 + 0 ≤ 600000; omega) (by show slots + 0 + 0 ≤ 7302250; omega) (fun r2 S2' p2 => ?_)
  refine y_swap ?_
  obtain ⟨eq, sim⟩ := hJ _ _ _ _ p1 p2
  exact y_ic_eq (pc := 1059) C 1521 dL_law_1059 rfl (fun _ => tl _ _ _ _ sim (by omega) (by omega)) (fun h => absurd eq h)
theorem l_text {b L a1 a2 i : Nat} {xs : Nat → Int32} (C : Cx p s m c cL_law 4 args RL G) (X : Xs G s b L xs) (hi : i + 7 < L) (hs : Sim a1 a2 S1 S2) (hc : cells ≤ 100000) (hsl : slots ≤ 7000000) (tl : Tl p l e s m args below meth c Q G cells slots b a1 a2 i) : Wy p l e room_1 s m args below meth c Q G 4 cells slots S1 S2 1064 (lvL b a1 a2 i) [] := by
  obtain ⟨PC, PR, hC, hR, hJ⟩ := b_text l hs 
  refine y_aload_n (pc := 1064) C 2 rfl dL_law_1064 rfl ?_
  refine y_cVi (pc := 1065) C [] me_X11_text mv_X11_text ml_L_112 hC hs.k1 rfl rfl (Nat.le_of_ble_eq_true rfl) dL_law_1065 (by decide) (by show cells + 2 ≤ 600000; omega) (by show slots + 164 ≤ 7302250; omega) (fun r1 S1' p1 => ?_)
  refine y_swap ?_
  refine y_aload_n (pc := 1068) C 1 rfl dL_law_1068 rfl ?_
  refine y_cVi (pc := 1069) C [] me_X12_text mv_X12_text ml_L_115 hR hs.k2 rfl rfl (Nat.le_of_ble_eq_true rfl) dL_law_1069 (by decide) (by show cells + 2 + 0 ≤ 600000; omega) (by show slots + 164 + 0 ≤ 7302250; omega) (fun r2 S2' p2 => ?_)
  refine y_swap ?_
  obtain ⟨eq, sim⟩ := hJ _ _ _ _ p1 p2
  exact y_ic_eq (pc := 1072) C 1521 dL_law_1072 rfl (fun _ => tl _ _ _ _ sim (by omega) (by omega)) (fun h => absurd eq h)
theorem l_charter {b L a1 a2 i : Nat} {xs : Nat → Int32} (C : Cx p s m c cL_law 4 args RL G) (X : Xs G s b L xs) (hi : i + 7 < L) (hs : Sim a1 a2 S1 S2) (hc : cells ≤ 100000) (hsl : slots ≤ 7000000) (tl : Tl p l e s m args below meth c Q G cells slots b a1 a2 i) : Wy p l e room_1 s m args below meth c Q G 4 cells slots S1 S2 1077 (lvL b a1 a2 i) [] := by
  obtain ⟨PC, PR, hC, hR, hJ⟩ := b_charter l hs (xs (i + 1)) (xs (i + 2)) (xs (i + 3)) (xs (i + 4)) (xs (i + 5)) ((((xs (i + 6)).toInt64 <<< (((32 : Int32)).toInt64 &&& 63)) ||| ((xs (i + 7)).toInt64 &&& (4294967295 : Int64))))
  refine y_aload_n (pc := 1077) C 2 rfl dL_law_1077 rfl ?_
  refine y_arg (pc := 1078) C X 1 (by omega) dL_law_1078 dL_law_1079 dL_law_1080 dL_law_1081 dL_law_1082 (by decide) ?_
  refine y_arg (pc := 1083) C X 2 (by omega) dL_law_1083 dL_law_1084 dL_law_1085 dL_law_1086 dL_law_1087 (by decide) ?_
  refine y_arg (pc := 1088) C X 3 (by omega) dL_law_1088 dL_law_1089 dL_law_1090 dL_law_1091 dL_law_1092 (by decide) ?_
  refine y_arg (pc := 1093) C X 4 (by omega) dL_law_1093 dL_law_1094 dL_law_1095 dL_law_1096 dL_law_1097 (by decide) ?_
  refine y_arg (pc := 1098) C X 5 (by omega) dL_law_1098 dL_law_1099 dL_law_1100 dL_law_1101 dL_law_1102 (by decide) ?_
  refine y_argb (pc := 1103) C X 6 (by omega) dL_law_1103 dL_law_1104 dL_law_1105 dL_law_1107 dL_law_1108 (by decide) ?_
  refine y_i2l (pc := 1109) C dL_law_1109 ?_
  refine y_bipush (pc := 1110) C (32 : Int32) dL_law_1110 (by decide) ?_
  refine y_lshl (pc := 1112) C dL_law_1112 ?_
  refine y_argb (pc := 1113) C X 7 (by omega) dL_law_1113 dL_law_1114 dL_law_1115 dL_law_1117 dL_law_1118 (by decide) ?_
  refine y_i2l (pc := 1119) C dL_law_1119 ?_
  refine y_ldc2 (pc := 1120) C 4294967295 dL_law_1120 ldc_law ?_
  refine y_land (pc := 1123) C dL_law_1123 ?_
  refine y_lor (pc := 1124) C dL_law_1124 ?_
  refine y_cVi (pc := 1125) C [.int (xs (i + 1)), .int (xs (i + 2)), .int (xs (i + 3)), .int (xs (i + 4)), .int (xs (i + 5)), .long ((((xs (i + 6)).toInt64 <<< (((32 : Int32)).toInt64 &&& 63)) ||| ((xs (i + 7)).toInt64 &&& (4294967295 : Int64))))] me_X11_charter mv_X11_charter ml_L_116 hC hs.k1 rfl rfl (Nat.le_of_ble_eq_true rfl) dL_law_1125 (by decide) (by show cells + 1 ≤ 600000; omega) (by show slots + 9 ≤ 7302250; omega) (fun r1 S1' p1 => ?_)
  refine y_swap ?_
  refine y_aload_n (pc := 1128) C 1 rfl dL_law_1128 rfl ?_
  refine y_arg (pc := 1129) C X 1 (by omega) dL_law_1129 dL_law_1130 dL_law_1131 dL_law_1132 dL_law_1133 (by decide) ?_
  refine y_arg (pc := 1134) C X 2 (by omega) dL_law_1134 dL_law_1135 dL_law_1136 dL_law_1137 dL_law_1138 (by decide) ?_
  refine y_arg (pc := 1139) C X 3 (by omega) dL_law_1139 dL_law_1140 dL_law_1141 dL_law_1142 dL_law_1143 (by decide) ?_
  refine y_arg (pc := 1144) C X 4 (by omega) dL_law_1144 dL_law_1145 dL_law_1146 dL_law_1147 dL_law_1148 (by decide) ?_
  refine y_arg (pc := 1149) C X 5 (by omega) dL_law_1149 dL_law_1150 dL_law_1151 dL_law_1152 dL_law_1153 (by decide) ?_
  refine y_argb (pc := 1154) C X 6 (by omega) dL_law_1154 dL_law_1155 dL_law_1156 dL_law_1158 dL_law_1159 (by decide) ?_
  refine y_i2l (pc := 1160) C dL_law_1160 ?_
  refine y_bipush (pc := 1161) C (32 : Int32) dL_law_1161 (by decide) ?_
  refine y_lshl (pc := 1163) C dL_law_1163 ?_
  refine y_argb (pc := 1164) C X 7 (by omega) dL_law_1164 dL_law_1165 dL_law_1166 dL_law_1168 dL_law_1169 (by decide) ?_
  refine y_i2l (pc := 1170) C dL_law_1170 ?_
  refine y_ldc2 (pc := 1171) C 4294967295 dL_law_1171 ldc_law ?_
  refine y_land (pc := 1174) C dL_law_1174 ?_
  refine y_lor (pc := 1175) C dL_law_1175 ?_
  refine y_cVi (pc := 1176) C [.int (xs (i + 1)), .int (xs (i + 2)), .int (xs (i + 3)), .int (xs (i + 4)), .int (xs (i + 5)), .long ((((xs (i + 6)).toInt64 <<< (((32 : Int32)).toInt64 &&& 63)) ||| ((xs (i + 7)).toInt64 &&& (4294967295 : Int64))))] me_X12_charter mv_X12_charter ml_L_120 hR hs.k2 rfl rfl (Nat.le_of_ble_eq_true rfl) dL_law_1176 (by decide) (by show cells + 1 + 0 ≤ 600000; omega) (by show slots + 9 + 0 ≤ 7302250; omega) (fun r2 S2' p2 => ?_)
  refine y_swap ?_
  obtain ⟨eq, sim⟩ := hJ _ _ _ _ p1 p2
  exact y_ic_eq (pc := 1179) C 1521 dL_law_1179 rfl (fun _ => tl _ _ _ _ sim (by omega) (by omega)) (fun h => absurd eq h)
theorem l_lift {b L a1 a2 i : Nat} {xs : Nat → Int32} (C : Cx p s m c cL_law 4 args RL G) (X : Xs G s b L xs) (hi : i + 7 < L) (hs : Sim a1 a2 S1 S2) (hc : cells ≤ 100000) (hsl : slots ≤ 7000000) (tl : Tl p l e s m args below meth c Q G cells slots b a1 a2 i) : Wy p l e room_1 s m args below meth c Q G 4 cells slots S1 S2 1184 (lvL b a1 a2 i) [] := by
  by_cases hz : xs (i + 2) = 0
  · obtain ⟨PC, PR, hC, hR, hJ⟩ := b_lift l hs (xs (i + 1)) ((0 : Int32))
    refine y_aload_n (pc := 1184) C 2 rfl dL_law_1184 rfl ?_
    refine y_arg (pc := 1185) C X 1 (by omega) dL_law_1185 dL_law_1186 dL_law_1187 dL_law_1188 dL_law_1189 (by decide) ?_
    refine y_arg (pc := 1190) C X 2 (by omega) dL_law_1190 dL_law_1191 dL_law_1192 dL_law_1193 dL_law_1194 (by decide) ?_
    refine y_if_eq (pc := 1195) C 1202 dL_law_1195 rfl (fun _ => ?_) (fun z => absurd hz z)
    refine y_iconst (pc := 1202) C (0 : Int32) dL_law_1202 (by decide) ?_
    refine y_cVi (pc := 1203) C [.int (xs (i + 1)), .int ((0 : Int32))] me_X11_lift mv_X11_lift ml_L_121 hC hs.k1 rfl rfl (Nat.le_of_ble_eq_true rfl) dL_law_1203 (by decide) (by show cells + 0 ≤ 600000; omega) (by show slots + 0 ≤ 7302250; omega) (fun r1 S1' p1 => ?_)
    refine y_swap ?_
    refine y_aload_n (pc := 1206) C 1 rfl dL_law_1206 rfl ?_
    refine y_arg (pc := 1207) C X 1 (by omega) dL_law_1207 dL_law_1208 dL_law_1209 dL_law_1210 dL_law_1211 (by decide) ?_
    refine y_arg (pc := 1212) C X 2 (by omega) dL_law_1212 dL_law_1213 dL_law_1214 dL_law_1215 dL_law_1216 (by decide) ?_
    refine y_if_eq (pc := 1217) C 1224 dL_law_1217 rfl (fun _ => ?_) (fun z => absurd hz z)
    refine y_iconst (pc := 1224) C (0 : Int32) dL_law_1224 (by decide) ?_
    refine y_cVi (pc := 1225) C [.int (xs (i + 1)), .int ((0 : Int32))] me_X12_lift mv_X12_lift ml_L_125 hR hs.k2 rfl rfl (Nat.le_of_ble_eq_true rfl) dL_law_1225 (by decide) (by show cells + 0 + 0 ≤ 600000; omega) (by show slots + 0 + 0 ≤ 7302250; omega) (fun r2 S2' p2 => ?_)
    refine y_swap ?_
    obtain ⟨eq, sim⟩ := hJ _ _ _ _ p1 p2
    exact y_ic_eq (pc := 1228) C 1521 dL_law_1228 rfl (fun _ => tl _ _ _ _ sim (by omega) (by omega)) (fun h => absurd eq h)
  · obtain ⟨PC, PR, hC, hR, hJ⟩ := b_lift l hs (xs (i + 1)) ((1 : Int32))
    refine y_aload_n (pc := 1184) C 2 rfl dL_law_1184 rfl ?_
    refine y_arg (pc := 1185) C X 1 (by omega) dL_law_1185 dL_law_1186 dL_law_1187 dL_law_1188 dL_law_1189 (by decide) ?_
    refine y_arg (pc := 1190) C X 2 (by omega) dL_law_1190 dL_law_1191 dL_law_1192 dL_law_1193 dL_law_1194 (by decide) ?_
    refine y_if_eq (pc := 1195) C 1202 dL_law_1195 rfl (fun z => absurd z hz) (fun _ => ?_)
    refine y_iconst (pc := 1198) C (1 : Int32) dL_law_1198 (by decide) ?_
    refine y_goto (pc := 1199) C 1203 dL_law_1199 rfl ?_
    refine y_cVi (pc := 1203) C [.int (xs (i + 1)), .int ((1 : Int32))] me_X11_lift mv_X11_lift ml_L_121 hC hs.k1 rfl rfl (Nat.le_of_ble_eq_true rfl) dL_law_1203 (by decide) (by show cells + 0 ≤ 600000; omega) (by show slots + 0 ≤ 7302250; omega) (fun r1 S1' p1 => ?_)
    refine y_swap ?_
    refine y_aload_n (pc := 1206) C 1 rfl dL_law_1206 rfl ?_
    refine y_arg (pc := 1207) C X 1 (by omega) dL_law_1207 dL_law_1208 dL_law_1209 dL_law_1210 dL_law_1211 (by decide) ?_
    refine y_arg (pc := 1212) C X 2 (by omega) dL_law_1212 dL_law_1213 dL_law_1214 dL_law_1215 dL_law_1216 (by decide) ?_
    refine y_if_eq (pc := 1217) C 1224 dL_law_1217 rfl (fun z => absurd z hz) (fun _ => ?_)
    refine y_iconst (pc := 1220) C (1 : Int32) dL_law_1220 (by decide) ?_
    refine y_goto (pc := 1221) C 1225 dL_law_1221 rfl ?_
    refine y_cVi (pc := 1225) C [.int (xs (i + 1)), .int ((1 : Int32))] me_X12_lift mv_X12_lift ml_L_125 hR hs.k2 rfl rfl (Nat.le_of_ble_eq_true rfl) dL_law_1225 (by decide) (by show cells + 0 + 0 ≤ 600000; omega) (by show slots + 0 + 0 ≤ 7302250; omega) (fun r2 S2' p2 => ?_)
    refine y_swap ?_
    obtain ⟨eq, sim⟩ := hJ _ _ _ _ p1 p2
    exact y_ic_eq (pc := 1228) C 1521 dL_law_1228 rfl (fun _ => tl _ _ _ _ sim (by omega) (by omega)) (fun h => absurd eq h)
theorem l_charterTold {b L a1 a2 i : Nat} {xs : Nat → Int32} (C : Cx p s m c cL_law 4 args RL G) (X : Xs G s b L xs) (hi : i + 7 < L) (hs : Sim a1 a2 S1 S2) (hc : cells ≤ 100000) (hsl : slots ≤ 7000000) (tl : Tl p l e s m args below meth c Q G cells slots b a1 a2 i) : Wy p l e room_1 s m args below meth c Q G 4 cells slots S1 S2 1233 (lvL b a1 a2 i) [] := by
  obtain ⟨PC, PR, hC, hR, hJ⟩ := b_charterTold l hs (xs (i + 1)) (xs (i + 2))
  refine y_aload_n (pc := 1233) C 2 rfl dL_law_1233 rfl ?_
  refine y_arg (pc := 1234) C X 1 (by omega) dL_law_1234 dL_law_1235 dL_law_1236 dL_law_1237 dL_law_1238 (by decide) ?_
  refine y_arg (pc := 1239) C X 2 (by omega) dL_law_1239 dL_law_1240 dL_law_1241 dL_law_1242 dL_law_1243 (by decide) ?_
  refine y_cVi (pc := 1244) C [.int (xs (i + 1)), .int (xs (i + 2))] me_X11_charterTold mv_X11_charterTold ml_L_126 hC hs.k1 rfl rfl (Nat.le_of_ble_eq_true rfl) dL_law_1244 (by decide) (by show cells + 0 ≤ 600000; omega) (by show slots + 0 ≤ 7302250; omega) (fun r1 S1' p1 => ?_)
  refine y_swap ?_
  refine y_aload_n (pc := 1247) C 1 rfl dL_law_1247 rfl ?_
  refine y_arg (pc := 1248) C X 1 (by omega) dL_law_1248 dL_law_1249 dL_law_1250 dL_law_1251 dL_law_1252 (by decide) ?_
  refine y_arg (pc := 1253) C X 2 (by omega) dL_law_1253 dL_law_1254 dL_law_1255 dL_law_1256 dL_law_1257 (by decide) ?_
  refine y_cVi (pc := 1258) C [.int (xs (i + 1)), .int (xs (i + 2))] me_X12_charterTold mv_X12_charterTold ml_L_129 hR hs.k2 rfl rfl (Nat.le_of_ble_eq_true rfl) dL_law_1258 (by decide) (by show cells + 0 + 0 ≤ 600000; omega) (by show slots + 0 + 0 ≤ 7302250; omega) (fun r2 S2' p2 => ?_)
  refine y_swap ?_
  obtain ⟨eq, sim⟩ := hJ _ _ _ _ p1 p2
  exact y_ic_eq (pc := 1261) C 1521 dL_law_1261 rfl (fun _ => tl _ _ _ _ sim (by omega) (by omega)) (fun h => absurd eq h)
theorem l_pays {b L a1 a2 i : Nat} {xs : Nat → Int32} (C : Cx p s m c cL_law 4 args RL G) (X : Xs G s b L xs) (hi : i + 7 < L) (hs : Sim a1 a2 S1 S2) (hc : cells ≤ 100000) (hsl : slots ≤ 7000000) (tl : Tl p l e s m args below meth c Q G cells slots b a1 a2 i) : Wy p l e room_1 s m args below meth c Q G 4 cells slots S1 S2 1266 (lvL b a1 a2 i) [] := by
  obtain ⟨PC, PR, hC, hR, hJ⟩ := b_pays l hs (xs (i + 1))
  refine y_aload_n (pc := 1266) C 2 rfl dL_law_1266 rfl ?_
  refine y_arg (pc := 1267) C X 1 (by omega) dL_law_1267 dL_law_1268 dL_law_1269 dL_law_1270 dL_law_1271 (by decide) ?_
  refine y_cVl (pc := 1272) C [.int (xs (i + 1))] me_X11_pays mv_X11_pays ml_L_130 hC hs.k1 rfl rfl (Nat.le_of_ble_eq_true rfl) dL_law_1272 (by decide) (by show cells + 0 ≤ 600000; omega) (by show slots + 0 ≤ 7302250; omega) (fun r1 S1' p1 => ?_)
  refine y_swap ?_
  refine y_aload_n (pc := 1275) C 1 rfl dL_law_1275 rfl ?_
  refine y_arg (pc := 1276) C X 1 (by omega) dL_law_1276 dL_law_1277 dL_law_1278 dL_law_1279 dL_law_1280 (by decide) ?_
  refine y_cVl (pc := 1281) C [.int (xs (i + 1))] me_X12_pays mv_X12_pays ml_L_134 hR hs.k2 rfl rfl (Nat.le_of_ble_eq_true rfl) dL_law_1281 (by decide) (by show cells + 0 + 0 ≤ 600000; omega) (by show slots + 0 + 0 ≤ 7302250; omega) (fun r2 S2' p2 => ?_)
  refine y_swap ?_
  obtain ⟨eq, sim⟩ := hJ _ _ _ _ p1 p2
  refine y_lcmp (pc := 1284) C dL_law_1284 ?_
  exact y_if_eq (pc := 1285) C 1521 dL_law_1285 rfl (fun _ => tl _ _ _ _ sim (by omega) (by omega)) (fun h => absurd (by rw [eq]; exact cmp_self _) h)
theorem l_counts {b L a1 a2 i : Nat} {xs : Nat → Int32} (C : Cx p s m c cL_law 4 args RL G) (X : Xs G s b L xs) (hi : i + 7 < L) (hs : Sim a1 a2 S1 S2) (hc : cells ≤ 100000) (hsl : slots ≤ 7000000) (tl : Tl p l e s m args below meth c Q G cells slots b a1 a2 i) : Wy p l e room_1 s m args below meth c Q G 4 cells slots S1 S2 1290 (lvL b a1 a2 i) [] := by
  obtain ⟨PC, PR, hC, hR, hJ⟩ := b_counts l hs (xs (i + 1)) (xs (i + 2))
  refine y_aload_n (pc := 1290) C 2 rfl dL_law_1290 rfl ?_
  refine y_arg (pc := 1291) C X 1 (by omega) dL_law_1291 dL_law_1292 dL_law_1293 dL_law_1294 dL_law_1295 (by decide) ?_
  refine y_arg (pc := 1296) C X 2 (by omega) dL_law_1296 dL_law_1297 dL_law_1298 dL_law_1299 dL_law_1300 (by decide) ?_
  refine y_cVi (pc := 1301) C [.int (xs (i + 1)), .int (xs (i + 2))] me_X11_counts mv_X11_counts ml_L_135 hC hs.k1 rfl rfl (Nat.le_of_ble_eq_true rfl) dL_law_1301 (by decide) (by show cells + 0 ≤ 600000; omega) (by show slots + 0 ≤ 7302250; omega) (fun r1 S1' p1 => ?_)
  refine y_swap ?_
  refine y_aload_n (pc := 1304) C 1 rfl dL_law_1304 rfl ?_
  refine y_arg (pc := 1305) C X 1 (by omega) dL_law_1305 dL_law_1306 dL_law_1307 dL_law_1308 dL_law_1309 (by decide) ?_
  refine y_arg (pc := 1310) C X 2 (by omega) dL_law_1310 dL_law_1311 dL_law_1312 dL_law_1313 dL_law_1314 (by decide) ?_
  refine y_cVi (pc := 1315) C [.int (xs (i + 1)), .int (xs (i + 2))] me_X12_counts mv_X12_counts ml_L_138 hR hs.k2 rfl rfl (Nat.le_of_ble_eq_true rfl) dL_law_1315 (by decide) (by show cells + 0 + 0 ≤ 600000; omega) (by show slots + 0 + 0 ≤ 7302250; omega) (fun r2 S2' p2 => ?_)
  refine y_swap ?_
  obtain ⟨eq, sim⟩ := hJ _ _ _ _ p1 p2
  exact y_ic_eq (pc := 1318) C 1521 dL_law_1318 rfl (fun _ => tl _ _ _ _ sim (by omega) (by omega)) (fun h => absurd eq h)
theorem l_account {b L a1 a2 i : Nat} {xs : Nat → Int32} (C : Cx p s m c cL_law 4 args RL G) (X : Xs G s b L xs) (hi : i + 7 < L) (hs : Sim a1 a2 S1 S2) (hc : cells ≤ 100000) (hsl : slots ≤ 7000000) (tl : Tl p l e s m args below meth c Q G cells slots b a1 a2 i) : Wy p l e room_1 s m args below meth c Q G 4 cells slots S1 S2 1323 (lvL b a1 a2 i) [] := by
  obtain ⟨PC, PR, hC, hR, hJ⟩ := b_account l hs (xs (i + 1)) (xs (i + 2))
  refine y_aload_n (pc := 1323) C 2 rfl dL_law_1323 rfl ?_
  refine y_arg (pc := 1324) C X 1 (by omega) dL_law_1324 dL_law_1325 dL_law_1326 dL_law_1327 dL_law_1328 (by decide) ?_
  refine y_arg (pc := 1329) C X 2 (by omega) dL_law_1329 dL_law_1330 dL_law_1331 dL_law_1332 dL_law_1333 (by decide) ?_
  refine y_cVi (pc := 1334) C [.int (xs (i + 1)), .int (xs (i + 2))] me_X11_account mv_X11_account ml_L_139 hC hs.k1 rfl rfl (Nat.le_of_ble_eq_true rfl) dL_law_1334 (by decide) (by show cells + 0 ≤ 600000; omega) (by show slots + 0 ≤ 7302250; omega) (fun r1 S1' p1 => ?_)
  refine y_swap ?_
  refine y_aload_n (pc := 1337) C 1 rfl dL_law_1337 rfl ?_
  refine y_arg (pc := 1338) C X 1 (by omega) dL_law_1338 dL_law_1339 dL_law_1340 dL_law_1341 dL_law_1342 (by decide) ?_
  refine y_arg (pc := 1343) C X 2 (by omega) dL_law_1343 dL_law_1344 dL_law_1345 dL_law_1346 dL_law_1347 (by decide) ?_
  refine y_cVi (pc := 1348) C [.int (xs (i + 1)), .int (xs (i + 2))] me_X12_account mv_X12_account ml_L_142 hR hs.k2 rfl rfl (Nat.le_of_ble_eq_true rfl) dL_law_1348 (by decide) (by show cells + 0 + 0 ≤ 600000; omega) (by show slots + 0 + 0 ≤ 7302250; omega) (fun r2 S2' p2 => ?_)
  refine y_swap ?_
  obtain ⟨eq, sim⟩ := hJ _ _ _ _ p1 p2
  exact y_ic_eq (pc := 1351) C 1521 dL_law_1351 rfl (fun _ => tl _ _ _ _ sim (by omega) (by omega)) (fun h => absurd eq h)
theorem l_owners {b L a1 a2 i : Nat} {xs : Nat → Int32} (C : Cx p s m c cL_law 4 args RL G) (X : Xs G s b L xs) (hi : i + 7 < L) (hs : Sim a1 a2 S1 S2) (hc : cells ≤ 100000) (hsl : slots ≤ 7000000) (tl : Tl p l e s m args below meth c Q G cells slots b a1 a2 i) : Wy p l e room_1 s m args below meth c Q G 4 cells slots S1 S2 1356 (lvL b a1 a2 i) [] := by
  obtain ⟨PC, PR, hC, hR, hJ⟩ := b_owners l hs (xs (i + 1))
  refine y_aload_n (pc := 1356) C 2 rfl dL_law_1356 rfl ?_
  refine y_arg (pc := 1357) C X 1 (by omega) dL_law_1357 dL_law_1358 dL_law_1359 dL_law_1360 dL_law_1361 (by decide) ?_
  refine y_cVi (pc := 1362) C [.int (xs (i + 1))] me_X11_owners mv_X11_owners ml_L_143 hC hs.k1 rfl rfl (Nat.le_of_ble_eq_true rfl) dL_law_1362 (by decide) (by show cells + 0 ≤ 600000; omega) (by show slots + 0 ≤ 7302250; omega) (fun r1 S1' p1 => ?_)
  refine y_swap ?_
  refine y_aload_n (pc := 1365) C 1 rfl dL_law_1365 rfl ?_
  refine y_arg (pc := 1366) C X 1 (by omega) dL_law_1366 dL_law_1367 dL_law_1368 dL_law_1369 dL_law_1370 (by decide) ?_
  refine y_cVi (pc := 1371) C [.int (xs (i + 1))] me_X12_owners mv_X12_owners ml_L_146 hR hs.k2 rfl rfl (Nat.le_of_ble_eq_true rfl) dL_law_1371 (by decide) (by show cells + 0 + 0 ≤ 600000; omega) (by show slots + 0 + 0 ≤ 7302250; omega) (fun r2 S2' p2 => ?_)
  refine y_swap ?_
  obtain ⟨eq, sim⟩ := hJ _ _ _ _ p1 p2
  exact y_ic_eq (pc := 1374) C 1521 dL_law_1374 rfl (fun _ => tl _ _ _ _ sim (by omega) (by omega)) (fun h => absurd eq h)
theorem l_count {b L a1 a2 i : Nat} {xs : Nat → Int32} (C : Cx p s m c cL_law 4 args RL G) (X : Xs G s b L xs) (hi : i + 7 < L) (hs : Sim a1 a2 S1 S2) (hc : cells ≤ 100000) (hsl : slots ≤ 7000000) (tl : Tl p l e s m args below meth c Q G cells slots b a1 a2 i) : Wy p l e room_1 s m args below meth c Q G 4 cells slots S1 S2 1379 (lvL b a1 a2 i) [] := by
  obtain ⟨PC, PR, hC, hR, hJ⟩ := b_count l hs (xs (i + 1))
  refine y_aload_n (pc := 1379) C 2 rfl dL_law_1379 rfl ?_
  refine y_arg (pc := 1380) C X 1 (by omega) dL_law_1380 dL_law_1381 dL_law_1382 dL_law_1383 dL_law_1384 (by decide) ?_
  refine y_cVi (pc := 1385) C [.int (xs (i + 1))] me_X11_count mv_X11_count ml_L_147 hC hs.k1 rfl rfl (Nat.le_of_ble_eq_true rfl) dL_law_1385 (by decide) (by show cells + 0 ≤ 600000; omega) (by show slots + 0 ≤ 7302250; omega) (fun r1 S1' p1 => ?_)
  refine y_swap ?_
  refine y_aload_n (pc := 1388) C 1 rfl dL_law_1388 rfl ?_
  refine y_arg (pc := 1389) C X 1 (by omega) dL_law_1389 dL_law_1390 dL_law_1391 dL_law_1392 dL_law_1393 (by decide) ?_
  refine y_cVi (pc := 1394) C [.int (xs (i + 1))] me_X12_count mv_X12_count ml_L_150 hR hs.k2 rfl rfl (Nat.le_of_ble_eq_true rfl) dL_law_1394 (by decide) (by show cells + 0 + 0 ≤ 600000; omega) (by show slots + 0 + 0 ≤ 7302250; omega) (fun r2 S2' p2 => ?_)
  refine y_swap ?_
  obtain ⟨eq, sim⟩ := hJ _ _ _ _ p1 p2
  exact y_ic_eq (pc := 1397) C 1521 dL_law_1397 rfl (fun _ => tl _ _ _ _ sim (by omega) (by omega)) (fun h => absurd eq h)
theorem l_sheet {b L a1 a2 i : Nat} {xs : Nat → Int32} (C : Cx p s m c cL_law 4 args RL G) (X : Xs G s b L xs) (hi : i + 7 < L) (hs : Sim a1 a2 S1 S2) (hc : cells ≤ 100000) (hsl : slots ≤ 7000000) (tl : Tl p l e s m args below meth c Q G cells slots b a1 a2 i) : Wy p l e room_1 s m args below meth c Q G 4 cells slots S1 S2 1402 (lvL b a1 a2 i) [] := by
  obtain ⟨PC, PR, hC, hR, hJ⟩ := b_sheet l hs (xs (i + 1)) (xs (i + 2)) (xs (i + 3))
  refine y_aload_n (pc := 1402) C 2 rfl dL_law_1402 rfl ?_
  refine y_arg (pc := 1403) C X 1 (by omega) dL_law_1403 dL_law_1404 dL_law_1405 dL_law_1406 dL_law_1407 (by decide) ?_
  refine y_arg (pc := 1408) C X 2 (by omega) dL_law_1408 dL_law_1409 dL_law_1410 dL_law_1411 dL_law_1412 (by decide) ?_
  refine y_arg (pc := 1413) C X 3 (by omega) dL_law_1413 dL_law_1414 dL_law_1415 dL_law_1416 dL_law_1417 (by decide) ?_
  refine y_cVi (pc := 1418) C [.int (xs (i + 1)), .int (xs (i + 2)), .int (xs (i + 3))] me_X11_sheet mv_X11_sheet ml_L_151 hC hs.k1 rfl rfl (Nat.le_of_ble_eq_true rfl) dL_law_1418 (by decide) (by show cells + 0 ≤ 600000; omega) (by show slots + 0 ≤ 7302250; omega) (fun r1 S1' p1 => ?_)
  refine y_swap ?_
  refine y_aload_n (pc := 1421) C 1 rfl dL_law_1421 rfl ?_
  refine y_arg (pc := 1422) C X 1 (by omega) dL_law_1422 dL_law_1423 dL_law_1424 dL_law_1425 dL_law_1426 (by decide) ?_
  refine y_arg (pc := 1427) C X 2 (by omega) dL_law_1427 dL_law_1428 dL_law_1429 dL_law_1430 dL_law_1431 (by decide) ?_
  refine y_arg (pc := 1432) C X 3 (by omega) dL_law_1432 dL_law_1433 dL_law_1434 dL_law_1435 dL_law_1436 (by decide) ?_
  refine y_cVi (pc := 1437) C [.int (xs (i + 1)), .int (xs (i + 2)), .int (xs (i + 3))] me_X12_sheet mv_X12_sheet ml_L_154 hR hs.k2 rfl rfl (Nat.le_of_ble_eq_true rfl) dL_law_1437 (by decide) (by show cells + 0 + 0 ≤ 600000; omega) (by show slots + 0 + 0 ≤ 7302250; omega) (fun r2 S2' p2 => ?_)
  refine y_swap ?_
  obtain ⟨eq, sim⟩ := hJ _ _ _ _ p1 p2
  exact y_ic_eq (pc := 1440) C 1521 dL_law_1440 rfl (fun _ => tl _ _ _ _ sim (by omega) (by omega)) (fun h => absurd eq h)
theorem l_cell {b L a1 a2 i : Nat} {xs : Nat → Int32} (C : Cx p s m c cL_law 4 args RL G) (X : Xs G s b L xs) (hi : i + 7 < L) (hs : Sim a1 a2 S1 S2) (hc : cells ≤ 100000) (hsl : slots ≤ 7000000) (tl : Tl p l e s m args below meth c Q G cells slots b a1 a2 i) : Wy p l e room_1 s m args below meth c Q G 4 cells slots S1 S2 1445 (lvL b a1 a2 i) [] := by
  obtain ⟨PC, PR, hC, hR, hJ⟩ := b_cell l hs (xs (i + 1)) (xs (i + 2)) (xs (i + 3))
  refine y_aload_n (pc := 1445) C 2 rfl dL_law_1445 rfl ?_
  refine y_arg (pc := 1446) C X 1 (by omega) dL_law_1446 dL_law_1447 dL_law_1448 dL_law_1449 dL_law_1450 (by decide) ?_
  refine y_arg (pc := 1451) C X 2 (by omega) dL_law_1451 dL_law_1452 dL_law_1453 dL_law_1454 dL_law_1455 (by decide) ?_
  refine y_arg (pc := 1456) C X 3 (by omega) dL_law_1456 dL_law_1457 dL_law_1458 dL_law_1459 dL_law_1460 (by decide) ?_
  refine y_cVi (pc := 1461) C [.int (xs (i + 1)), .int (xs (i + 2)), .int (xs (i + 3))] me_X11_cell mv_X11_cell ml_L_155 hC hs.k1 rfl rfl (Nat.le_of_ble_eq_true rfl) dL_law_1461 (by decide) (by show cells + 0 ≤ 600000; omega) (by show slots + 0 ≤ 7302250; omega) (fun r1 S1' p1 => ?_)
  refine y_swap ?_
  refine y_aload_n (pc := 1464) C 1 rfl dL_law_1464 rfl ?_
  refine y_arg (pc := 1465) C X 1 (by omega) dL_law_1465 dL_law_1466 dL_law_1467 dL_law_1468 dL_law_1469 (by decide) ?_
  refine y_arg (pc := 1470) C X 2 (by omega) dL_law_1470 dL_law_1471 dL_law_1472 dL_law_1473 dL_law_1474 (by decide) ?_
  refine y_arg (pc := 1475) C X 3 (by omega) dL_law_1475 dL_law_1476 dL_law_1477 dL_law_1478 dL_law_1479 (by decide) ?_
  refine y_cVi (pc := 1480) C [.int (xs (i + 1)), .int (xs (i + 2)), .int (xs (i + 3))] me_X12_cell mv_X12_cell ml_L_158 hR hs.k2 rfl rfl (Nat.le_of_ble_eq_true rfl) dL_law_1480 (by decide) (by show cells + 0 + 0 ≤ 600000; omega) (by show slots + 0 + 0 ≤ 7302250; omega) (fun r2 S2' p2 => ?_)
  refine y_swap ?_
  obtain ⟨eq, sim⟩ := hJ _ _ _ _ p1 p2
  exact y_ic_eq (pc := 1483) C 1521 dL_law_1483 rfl (fun _ => tl _ _ _ _ sim (by omega) (by omega)) (fun h => absurd eq h)
theorem l_taken {b L a1 a2 i : Nat} {xs : Nat → Int32} (C : Cx p s m c cL_law 4 args RL G) (X : Xs G s b L xs) (hi : i + 7 < L) (hs : Sim a1 a2 S1 S2) (hc : cells ≤ 100000) (hsl : slots ≤ 7000000) (tl : Tl p l e s m args below meth c Q G cells slots b a1 a2 i) : Wy p l e room_1 s m args below meth c Q G 4 cells slots S1 S2 1488 (lvL b a1 a2 i) [] := by
  obtain ⟨PC, PR, hC, hR, hJ⟩ := b_taken l hs (xs (i + 1)) (xs (i + 2))
  refine y_aload_n (pc := 1488) C 2 rfl dL_law_1488 rfl ?_
  refine y_arg (pc := 1489) C X 1 (by omega) dL_law_1489 dL_law_1490 dL_law_1491 dL_law_1492 dL_law_1493 (by decide) ?_
  refine y_arg (pc := 1494) C X 2 (by omega) dL_law_1494 dL_law_1495 dL_law_1496 dL_law_1497 dL_law_1498 (by decide) ?_
  refine y_cVi (pc := 1499) C [.int (xs (i + 1)), .int (xs (i + 2))] me_X11_taken mv_X11_taken ml_L_159 hC hs.k1 rfl rfl (Nat.le_of_ble_eq_true rfl) dL_law_1499 (by decide) (by show cells + 0 ≤ 600000; omega) (by show slots + 0 ≤ 7302250; omega) (fun r1 S1' p1 => ?_)
  refine y_swap ?_
  refine y_aload_n (pc := 1502) C 1 rfl dL_law_1502 rfl ?_
  refine y_arg (pc := 1503) C X 1 (by omega) dL_law_1503 dL_law_1504 dL_law_1505 dL_law_1506 dL_law_1507 (by decide) ?_
  refine y_arg (pc := 1508) C X 2 (by omega) dL_law_1508 dL_law_1509 dL_law_1510 dL_law_1511 dL_law_1512 (by decide) ?_
  refine y_cVi (pc := 1513) C [.int (xs (i + 1)), .int (xs (i + 2))] me_X12_taken mv_X12_taken ml_L_162 hR hs.k2 rfl rfl (Nat.le_of_ble_eq_true rfl) dL_law_1513 (by decide) (by show cells + 0 + 0 ≤ 600000; omega) (by show slots + 0 + 0 ≤ 7302250; omega) (fun r2 S2' p2 => ?_)
  refine y_swap ?_
  obtain ⟨eq, sim⟩ := hJ _ _ _ _ p1 p2
  exact y_ic_eq (pc := 1516) C 1521 dL_law_1516 rfl (fun _ => tl _ _ _ _ sim (by omega) (by omega)) (fun h => absurd eq h)
end YC
