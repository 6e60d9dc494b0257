/-! the law: its calls, one by one -/
section LC
variable {p : Program} {l : Launch} {e : Env} {s : State} {m : MethodId} {args : Array Value} {below : List Frame} {meth : Method} {c : Code} {Q : State → Prop} {D : sf_D} {A : Nat → Prop} {g m0 m1 m2 ka sa sn h : Nat → Nat} {cI cJ cK cS : ClassId} {b i L : Nat} {xs : Nat → Int32}
theorem cs_rock (cx : sf_Cx p m meth c cL_law 4 s args RL D (sf_ty cI cJ cK cS) A) (X : LX s A b L xs i) (K : LG p l e s m args below meth c Q D A g m0 m1 m2 ka sa sn h cI cJ cK cS b i 1399) : LG p l e s m args below meth c Q D A g m0 m1 m2 ka sa sn h cI cJ cK cS b i 220 := by
  intro mu tr ke kp tby tlen ttok tsta tbeh tnum ttak sh fi row fnd tape tmany sort begs tends word valu good bits size shts lent imag befo kept hR
  obtain ⟨r, muq_n, fiq_n, rowq_n, fndq_n, hc, hm, xRA, xRF⟩ := op_rock hR.1 hR.2.1 (xs (i + 1)) (xs (i + 2))
  refine sw_aload_n (pc' := 221) cx dL_law_220 rfl 2 rfl rfl ?_
  refine sw_scr (pc' := 226) cx X 1 (by decide) (by decide) dL_law_221 dL_law_222 dL_law_223 dL_law_224 dL_law_225 rfl ?_
  refine sw_scr (pc' := 231) cx X 2 (by decide) (by decide) dL_law_226 dL_law_227 dL_law_228 dL_law_229 dL_law_230 rfl ?_
  refine sw_callA (As := [.int (xs (i + 1)), .int (xs (i + 2))]) (rest := []) (pc' := 234) cx (k_X9_rock l D g m0 m1 m2 ka sa sn cI cJ cK cS mu tr ke kp tby tlen ttok tsta tbeh tnum ttak sh fi (xs (i + 1)) (xs (i + 2)) _ hc) pk_yX9_rock ml_RL_13 ⟨rfl, rfl⟩ ⟨Nat.le_of_ble_eq_true rfl, Nat.le_of_ble_eq_true rfl⟩ ⟨Nat.le_of_ble_eq_true rfl, Nat.le_of_ble_eq_true rfl⟩ sx_adr sx_0 rfl rfl rfl (Nat.le_of_ble_eq_true rfl) rfl dL_law_231 rfl ?_
  refine sw_aload_n (pc' := 235) cx dL_law_234 rfl 1 rfl rfl ?_
  refine sw_scr (pc' := 240) cx X 1 (by decide) (by decide) dL_law_235 dL_law_236 dL_law_237 dL_law_238 dL_law_239 rfl ?_
  refine sw_scr (pc' := 245) cx X 2 (by decide) (by decide) dL_law_240 dL_law_241 dL_law_242 dL_law_243 dL_law_244 rfl ?_
  refine sw_callB (As := [.int (xs (i + 1)), .int (xs (i + 2))]) (rest := [.int r]) (pc' := 248) cx (k_X10_rock l D h cI cJ cK cS row (nI 0) fnd tape tmany sort begs tends word valu good bits size shts lent imag befo kept (xs (i + 1)) (xs (i + 2)) _ hm) pk_yX10_rock ml_RL_17 ⟨rfl, rfl⟩ ⟨Nat.le_of_ble_eq_true rfl, Nat.le_of_ble_eq_true rfl⟩ ⟨Nat.le_of_ble_eq_true rfl, Nat.le_of_ble_eq_true rfl⟩ rfl rfl rfl rfl rfl (Nat.le_of_ble_eq_true rfl) rfl dL_law_245 rfl ?_
  refine sw_icmp_eq (tgt := 1399) (pc' := 251) cx dL_law_248 (by decide) rfl (fun _ => ?_) (fun hne => absurd rfl hne)
  exact K _ _ _ _ _ _ _ _ _ _ _ _ _ _ _ _ _ _ _ _ _ _ _ _ _ _ _ _ _ _ ⟨xRA, xRF, hR.2.2.1, hR.2.2.2.1, hR.2.2.2.2⟩
theorem cs_let (cx : sf_Cx p m meth c cL_law 4 s args RL D (sf_ty cI cJ cK cS) A) (X : LX s A b L xs i) (K : LG p l e s m args below meth c Q D A g m0 m1 m2 ka sa sn h cI cJ cK cS b i 1399) : LG p l e s m args below meth c Q D A g m0 m1 m2 ka sa sn h cI cJ cK cS b i 253 := by
  intro mu tr ke kp tby tlen ttok tsta tbeh tnum ttak sh fi row fnd tape tmany sort begs tends word valu good bits size shts lent imag befo kept hR
  obtain ⟨r, muq_n, fiq_n, rowq_n, fndq_n, hc, hm, xRA, xRF⟩ := op_let hR.1 hR.2.1 (xs (i + 1)) (xs (i + 2))
  refine sw_aload_n (pc' := 254) cx dL_law_253 rfl 2 rfl rfl ?_
  refine sw_scr (pc' := 259) cx X 1 (by decide) (by decide) dL_law_254 dL_law_255 dL_law_256 dL_law_257 dL_law_258 rfl ?_
  refine sw_scr (pc' := 264) cx X 2 (by decide) (by decide) dL_law_259 dL_law_260 dL_law_261 dL_law_262 dL_law_263 rfl ?_
  refine sw_callA (As := [.int (xs (i + 1)), .int (xs (i + 2))]) (rest := []) (pc' := 267) cx (k_X9_let l D g m0 m1 m2 ka sa sn cI cJ cK cS mu tr ke kp tby tlen ttok tsta tbeh tnum ttak sh fi (xs (i + 1)) (xs (i + 2)) _ hc) pk_yX9_let ml_RL_18 ⟨rfl, rfl⟩ ⟨Nat.le_of_ble_eq_true rfl, Nat.le_of_ble_eq_true rfl⟩ ⟨Nat.le_of_ble_eq_true rfl, Nat.le_of_ble_eq_true rfl⟩ sx_adr sx_0 rfl rfl rfl (Nat.le_of_ble_eq_true rfl) rfl dL_law_264 rfl ?_
  refine sw_aload_n (pc' := 268) cx dL_law_267 rfl 1 rfl rfl ?_
  refine sw_scr (pc' := 273) cx X 1 (by decide) (by decide) dL_law_268 dL_law_269 dL_law_270 dL_law_271 dL_law_272 rfl ?_
  refine sw_scr (pc' := 278) cx X 2 (by decide) (by decide) dL_law_273 dL_law_274 dL_law_275 dL_law_276 dL_law_277 rfl ?_
  refine sw_callB (As := [.int (xs (i + 1)), .int (xs (i + 2))]) (rest := [.int r]) (pc' := 281) cx (k_X10_let l D h cI cJ cK cS row (nI 0) fnd tape tmany sort begs tends word valu good bits size shts lent imag befo kept (xs (i + 1)) (xs (i + 2)) _ hm) pk_yX10_let ml_RL_21 ⟨rfl, rfl⟩ ⟨Nat.le_of_ble_eq_true rfl, Nat.le_of_ble_eq_true rfl⟩ ⟨Nat.le_of_ble_eq_true rfl, Nat.le_of_ble_eq_true rfl⟩ rfl rfl rfl rfl rfl (Nat.le_of_ble_eq_true rfl) rfl dL_law_278 rfl ?_
  refine sw_icmp_eq (tgt := 1399) (pc' := 284) cx dL_law_281 (by decide) rfl (fun _ => ?_) (fun hne => absurd rfl hne)
  exact K _ _ _ _ _ _ _ _ _ _ _ _ _ _ _ _ _ _ _ _ _ _ _ _ _ _ _ _ _ _ ⟨xRA, xRF, hR.2.2.1, hR.2.2.2.1, hR.2.2.2.2⟩
theorem cs_fine (cx : sf_Cx p m meth c cL_law 4 s args RL D (sf_ty cI cJ cK cS) A) (X : LX s A b L xs i) (K : LG p l e s m args below meth c Q D A g m0 m1 m2 ka sa sn h cI cJ cK cS b i 1399) : LG p l e s m args below meth c Q D A g m0 m1 m2 ka sa sn h cI cJ cK cS b i 286 := by
  intro mu tr ke kp tby tlen ttok tsta tbeh tnum ttak sh fi row fnd tape tmany sort begs tends word valu good bits size shts lent imag befo kept hR
  obtain ⟨r, muq_n, fiq_n, rowq_n, fndq_n, hc, hm, xRA, xRF⟩ := op_fine hR.1 hR.2.1 (xs (i + 1)) (xs (i + 2)) (xs (i + 3))
  refine sw_aload_n (pc' := 287) cx dL_law_286 rfl 2 rfl rfl ?_
  refine sw_scr (pc' := 292) cx X 1 (by decide) (by decide) dL_law_287 dL_law_288 dL_law_289 dL_law_290 dL_law_291 rfl ?_
  refine sw_scr (pc' := 297) cx X 2 (by decide) (by decide) dL_law_292 dL_law_293 dL_law_294 dL_law_295 dL_law_296 rfl ?_
  refine sw_scr (pc' := 302) cx X 3 (by decide) (by decide) dL_law_297 dL_law_298 dL_law_299 dL_law_300 dL_law_301 rfl ?_
  refine sw_callA (As := [.int (xs (i + 1)), .int (xs (i + 2)), .int (xs (i + 3))]) (rest := []) (pc' := 305) cx (k_X9_fine l D g m0 m1 m2 ka sa sn cI cJ cK cS mu tr ke kp tby tlen ttok tsta tbeh tnum ttak sh fi (xs (i + 1)) (xs (i + 2)) (xs (i + 3)) _ hc) pk_yX9_fine ml_RL_22 ⟨rfl, rfl⟩ ⟨Nat.le_of_ble_eq_true rfl, Nat.le_of_ble_eq_true rfl⟩ ⟨Nat.le_of_ble_eq_true rfl, Nat.le_of_ble_eq_true rfl⟩ sx_adr sx_0 rfl rfl rfl (Nat.le_of_ble_eq_true rfl) rfl dL_law_302 rfl ?_
  refine sw_aload_n (pc' := 306) cx dL_law_305 rfl 1 rfl rfl ?_
  refine sw_scr (pc' := 311) cx X 1 (by decide) (by decide) dL_law_306 dL_law_307 dL_law_308 dL_law_309 dL_law_310 rfl ?_
  refine sw_scr (pc' := 316) cx X 2 (by decide) (by decide) dL_law_311 dL_law_312 dL_law_313 dL_law_314 dL_law_315 rfl ?_
  refine sw_scr (pc' := 321) cx X 3 (by decide) (by decide) dL_law_316 dL_law_317 dL_law_318 dL_law_319 dL_law_320 rfl ?_
  refine sw_callB (As := [.int (xs (i + 1)), .int (xs (i + 2)), .int (xs (i + 3))]) (rest := [.int r]) (pc' := 324) cx (k_X10_fine l D h cI cJ cK cS row (nI 0) fnd tape tmany sort begs tends word valu good bits size shts lent imag befo kept (xs (i + 1)) (xs (i + 2)) (xs (i + 3)) _ hm) pk_yX10_fine ml_RL_26 ⟨rfl, rfl⟩ ⟨Nat.le_of_ble_eq_true rfl, Nat.le_of_ble_eq_true rfl⟩ ⟨Nat.le_of_ble_eq_true rfl, Nat.le_of_ble_eq_true rfl⟩ rfl rfl rfl rfl rfl (Nat.le_of_ble_eq_true rfl) rfl dL_law_321 rfl ?_
  refine sw_icmp_eq (tgt := 1399) (pc' := 327) cx dL_law_324 (by decide) rfl (fun _ => ?_) (fun hne => absurd rfl hne)
  exact K _ _ _ _ _ _ _ _ _ _ _ _ _ _ _ _ _ _ _ _ _ _ _ _ _ _ _ _ _ _ ⟨xRA, xRF, hR.2.2.1, hR.2.2.2.1, hR.2.2.2.2⟩
theorem cs_of (cx : sf_Cx p m meth c cL_law 4 s args RL D (sf_ty cI cJ cK cS) A) (X : LX s A b L xs i) (K : LG p l e s m args below meth c Q D A g m0 m1 m2 ka sa sn h cI cJ cK cS b i 1399) : LG p l e s m args below meth c Q D A g m0 m1 m2 ka sa sn h cI cJ cK cS b i 329 := by
  intro mu tr ke kp tby tlen ttok tsta tbeh tnum ttak sh fi row fnd tape tmany sort begs tends word valu good bits size shts lent imag befo kept hR
  obtain ⟨r, fiq_n, fndq_n, hc, hm, xRF⟩ := op_of hR.1 hR.2.1 (xs (i + 1)) (xs (i + 2))
  refine sw_aload_n (pc' := 330) cx dL_law_329 rfl 2 rfl rfl ?_
  refine sw_scr (pc' := 335) cx X 1 (by decide) (by decide) dL_law_330 dL_law_331 dL_law_332 dL_law_333 dL_law_334 rfl ?_
  refine sw_scr (pc' := 340) cx X 2 (by decide) (by decide) dL_law_335 dL_law_336 dL_law_337 dL_law_338 dL_law_339 rfl ?_
  refine sw_callA (As := [.int (xs (i + 1)), .int (xs (i + 2))]) (rest := []) (pc' := 343) cx (k_X9_of l D g m0 m1 m2 ka sa sn cI cJ cK cS mu tr ke kp tby tlen ttok tsta tbeh tnum ttak sh fi (xs (i + 1)) (xs (i + 2)) _ hc) pk_yX9_of ml_RL_27 ⟨rfl, rfl⟩ ⟨Nat.le_of_ble_eq_true rfl, Nat.le_of_ble_eq_true rfl⟩ ⟨Nat.le_of_ble_eq_true rfl, Nat.le_of_ble_eq_true rfl⟩ sx_adr sx_0 rfl rfl rfl (Nat.le_of_ble_eq_true rfl) rfl dL_law_340 rfl ?_
  refine sw_aload_n (pc' := 344) cx dL_law_343 rfl 1 rfl rfl ?_
  refine sw_scr (pc' := 349) cx X 1 (by decide) (by decide) dL_law_344 dL_law_345 dL_law_346 dL_law_347 dL_law_348 rfl ?_
  refine sw_scr (pc' := 354) cx X 2 (by decide) (by decide) dL_law_349 dL_law_350 dL_law_351 dL_law_352 dL_law_353 rfl ?_
  refine sw_callB (As := [.int (xs (i + 1)), .int (xs (i + 2))]) (rest := [.int r]) (pc' := 357) cx (k_X10_of l D h cI cJ cK cS row (nI 0) fnd tape tmany sort begs tends word valu good bits size shts lent imag befo kept (xs (i + 1)) (xs (i + 2)) _ hm) pk_yX10_of ml_RL_30 ⟨rfl, rfl⟩ ⟨Nat.le_of_ble_eq_true rfl, Nat.le_of_ble_eq_true rfl⟩ ⟨Nat.le_of_ble_eq_true rfl, Nat.le_of_ble_eq_true rfl⟩ rfl rfl rfl rfl rfl (Nat.le_of_ble_eq_true rfl) rfl dL_law_354 rfl ?_
  refine sw_icmp_eq (tgt := 1399) (pc' := 360) cx dL_law_357 (by decide) rfl (fun _ => ?_) (fun hne => absurd rfl hne)
  exact K _ _ _ _ _ _ _ _ _ _ _ _ _ _ _ _ _ _ _ _ _ _ _ _ _ _ _ _ _ _ ⟨hR.1, xRF, hR.2.2.1, hR.2.2.2.1, hR.2.2.2.2⟩
theorem cs_set (cx : sf_Cx p m meth c cL_law 4 s args RL D (sf_ty cI cJ cK cS) A) (X : LX s A b L xs i) (K : LG p l e s m args below meth c Q D A g m0 m1 m2 ka sa sn h cI cJ cK cS b i 1399) : LG p l e s m args below meth c Q D A g m0 m1 m2 ka sa sn h cI cJ cK cS b i 362 := by
  intro mu tr ke kp tby tlen ttok tsta tbeh tnum ttak sh fi row fnd tape tmany sort begs tends word valu good bits size shts lent imag befo kept hR
  obtain ⟨r, muq_n, fiq_n, rowq_n, fndq_n, hc, hm, xRA, xRF⟩ := op_set hR.1 hR.2.1 (xs (i + 1)) (xs (i + 2)) (xs (i + 3))
  refine sw_aload_n (pc' := 363) cx dL_law_362 rfl 2 rfl rfl ?_
  refine sw_scr (pc' := 368) cx X 1 (by decide) (by decide) dL_law_363 dL_law_364 dL_law_365 dL_law_366 dL_law_367 rfl ?_
  refine sw_scr (pc' := 373) cx X 2 (by decide) (by decide) dL_law_368 dL_law_369 dL_law_370 dL_law_371 dL_law_372 rfl ?_
  refine sw_scr (pc' := 378) cx X 3 (by decide) (by decide) dL_law_373 dL_law_374 dL_law_375 dL_law_376 dL_law_377 rfl ?_
  refine sw_callA (As := [.int (xs (i + 1)), .int (xs (i + 2)), .int (xs (i + 3))]) (rest := []) (pc' := 381) cx (k_X9_set l D g m0 m1 m2 ka sa sn cI cJ cK cS mu tr ke kp tby tlen ttok tsta tbeh tnum ttak sh fi (xs (i + 1)) (xs (i + 2)) (xs (i + 3)) _ hc) pk_yX9_set ml_RL_31 ⟨rfl, rfl⟩ ⟨Nat.le_of_ble_eq_true rfl, Nat.le_of_ble_eq_true rfl⟩ ⟨Nat.le_of_ble_eq_true rfl, Nat.le_of_ble_eq_true rfl⟩ sx_adr sx_0 rfl rfl rfl (Nat.le_of_ble_eq_true rfl) rfl dL_law_378 rfl ?_
  refine sw_aload_n (pc' := 382) cx dL_law_381 rfl 1 rfl rfl ?_
  refine sw_scr (pc' := 387) cx X 1 (by decide) (by decide) dL_law_382 dL_law_383 dL_law_384 dL_law_385 dL_law_386 rfl ?_
  refine sw_scr (pc' := 392) cx X 2 (by decide) (by decide) dL_law_387 dL_law_388 dL_law_389 dL_law_390 dL_law_391 rfl ?_
  refine sw_scr (pc' := 397) cx X 3 (by decide) (by decide) dL_law_392 dL_law_393 dL_law_394 dL_law_395 dL_law_396 rfl ?_
  refine sw_callB (As := [.int (xs (i + 1)), .int (xs (i + 2)), .int (xs (i + 3))]) (rest := [.int r]) (pc' := 400) cx (k_X10_set l D h cI cJ cK cS row (nI 0) fnd tape tmany sort begs tends word valu good bits size shts lent imag befo kept (xs (i + 1)) (xs (i + 2)) (xs (i + 3)) _ hm) pk_yX10_set ml_RL_34 ⟨rfl, rfl⟩ ⟨Nat.le_of_ble_eq_true rfl, Nat.le_of_ble_eq_true rfl⟩ ⟨Nat.le_of_ble_eq_true rfl, Nat.le_of_ble_eq_true rfl⟩ rfl rfl rfl rfl rfl (Nat.le_of_ble_eq_true rfl) rfl dL_law_397 rfl ?_
  refine sw_icmp_eq (tgt := 1399) (pc' := 403) cx dL_law_400 (by decide) rfl (fun _ => ?_) (fun hne => absurd rfl hne)
  exact K _ _ _ _ _ _ _ _ _ _ _ _ _ _ _ _ _ _ _ _ _ _ _ _ _ _ _ _ _ _ ⟨xRA, xRF, hR.2.2.1, hR.2.2.2.1, hR.2.2.2.2⟩
theorem cs_turn (cx : sf_Cx p m meth c cL_law 4 s args RL D (sf_ty cI cJ cK cS) A) (X : LX s A b L xs i) (K : LG p l e s m args below meth c Q D A g m0 m1 m2 ka sa sn h cI cJ cK cS b i 1399) : LG p l e s m args below meth c Q D A g m0 m1 m2 ka sa sn h cI cJ cK cS b i 405 := by
  intro mu tr ke kp tby tlen ttok tsta tbeh tnum ttak sh fi row fnd tape tmany sort begs tends word valu good bits size shts lent imag befo kept hR
  obtain ⟨r, muq_n, fiq_n, rowq_n, fndq_n, hc, hm, xRA, xRF⟩ := op_turn hR.1 hR.2.1 (xs (i + 1)) (xs (i + 2))
  refine sw_aload_n (pc' := 406) cx dL_law_405 rfl 2 rfl rfl ?_
  refine sw_scr (pc' := 411) cx X 1 (by decide) (by decide) dL_law_406 dL_law_407 dL_law_408 dL_law_409 dL_law_410 rfl ?_
  refine sw_scr (pc' := 416) cx X 2 (by decide) (by decide) dL_law_411 dL_law_412 dL_law_413 dL_law_414 dL_law_415 rfl ?_
  refine sw_callA (As := [.int (xs (i + 1)), .int (xs (i + 2))]) (rest := []) (pc' := 419) cx (k_X9_turn l D g m0 m1 m2 ka sa sn cI cJ cK cS mu tr ke kp tby tlen ttok tsta tbeh tnum ttak sh fi (xs (i + 1)) (xs (i + 2)) _ hc) pk_yX9_turn ml_RL_35 ⟨rfl, rfl⟩ ⟨Nat.le_of_ble_eq_true rfl, Nat.le_of_ble_eq_true rfl⟩ ⟨Nat.le_of_ble_eq_true rfl, Nat.le_of_ble_eq_true rfl⟩ sx_adr sx_0 rfl rfl rfl (Nat.le_of_ble_eq_true rfl) rfl dL_law_416 rfl ?_
  refine sw_aload_n (pc' := 420) cx dL_law_419 rfl 1 rfl rfl ?_
  refine sw_scr (pc' := 425) cx X 1 (by decide) (by decide) dL_law_420 dL_law_421 dL_law_422 dL_law_423 dL_law_424 rfl ?_
  refine sw_scr (pc' := 430) cx X 2 (by decide) (by decide) dL_law_425 dL_law_426 dL_law_427 dL_law_428 dL_law_429 rfl ?_
  refine sw_callB (As := [.int (xs (i + 1)), .int (xs (i + 2))]) (rest := [.int r]) (pc' := 433) cx (k_X10_turn l D h cI cJ cK cS row (nI 0) fnd tape tmany sort begs tends word valu good bits size shts lent imag befo kept (xs (i + 1)) (xs (i + 2)) _ hm) pk_yX10_turn ml_RL_38 ⟨rfl, rfl⟩ ⟨Nat.le_of_ble_eq_true rfl, Nat.le_of_ble_eq_true rfl⟩ ⟨Nat.le_of_ble_eq_true rfl, Nat.le_of_ble_eq_true rfl⟩ rfl rfl rfl rfl rfl (Nat.le_of_ble_eq_true rfl) rfl dL_law_430 rfl ?_
  refine sw_icmp_eq (tgt := 1399) (pc' := 436) cx dL_law_433 (by decide) rfl (fun _ => ?_) (fun hne => absurd rfl hne)
  exact K _ _ _ _ _ _ _ _ _ _ _ _ _ _ _ _ _ _ _ _ _ _ _ _ _ _ _ _ _ _ ⟨xRA, xRF, hR.2.2.1, hR.2.2.2.1, hR.2.2.2.2⟩
theorem cs_as (cx : sf_Cx p m meth c cL_law 4 s args RL D (sf_ty cI cJ cK cS) A) (X : LX s A b L xs i) (K : LG p l e s m args below meth c Q D A g m0 m1 m2 ka sa sn h cI cJ cK cS b i 1399) : LG p l e s m args below meth c Q D A g m0 m1 m2 ka sa sn h cI cJ cK cS b i 438 := by
  intro mu tr ke kp tby tlen ttok tsta tbeh tnum ttak sh fi row fnd tape tmany sort begs tends word valu good bits size shts lent imag befo kept hR
  obtain ⟨r, fiq_n, fndq_n, hc, hm, xRF⟩ := op_as hR.1 hR.2.1 (xs (i + 1)) (xs (i + 2))
  refine sw_aload_n (pc' := 439) cx dL_law_438 rfl 2 rfl rfl ?_
  refine sw_scr (pc' := 444) cx X 1 (by decide) (by decide) dL_law_439 dL_law_440 dL_law_441 dL_law_442 dL_law_443 rfl ?_
  refine sw_scr (pc' := 449) cx X 2 (by decide) (by decide) dL_law_444 dL_law_445 dL_law_446 dL_law_447 dL_law_448 rfl ?_
  refine sw_callA (As := [.int (xs (i + 1)), .int (xs (i + 2))]) (rest := []) (pc' := 452) cx (k_X9_as l D g m0 m1 m2 ka sa sn cI cJ cK cS mu tr ke kp tby tlen ttok tsta tbeh tnum ttak sh fi (xs (i + 1)) (xs (i + 2)) _ hc) pk_yX9_as ml_RL_39 ⟨rfl, rfl⟩ ⟨Nat.le_of_ble_eq_true rfl, Nat.le_of_ble_eq_true rfl⟩ ⟨Nat.le_of_ble_eq_true rfl, Nat.le_of_ble_eq_true rfl⟩ sx_adr sx_0 rfl rfl rfl (Nat.le_of_ble_eq_true rfl) rfl dL_law_449 rfl ?_
  refine sw_aload_n (pc' := 453) cx dL_law_452 rfl 1 rfl rfl ?_
  refine sw_scr (pc' := 458) cx X 1 (by decide) (by decide) dL_law_453 dL_law_454 dL_law_455 dL_law_456 dL_law_457 rfl ?_
  refine sw_scr (pc' := 463) cx X 2 (by decide) (by decide) dL_law_458 dL_law_459 dL_law_460 dL_law_461 dL_law_462 rfl ?_
  refine sw_callB (As := [.int (xs (i + 1)), .int (xs (i + 2))]) (rest := [.int r]) (pc' := 466) cx (k_X10_as l D h cI cJ cK cS row (nI 0) fnd tape tmany sort begs tends word valu good bits size shts lent imag befo kept (xs (i + 1)) (xs (i + 2)) _ hm) pk_yX10_as ml_RL_42 ⟨rfl, rfl⟩ ⟨Nat.le_of_ble_eq_true rfl, Nat.le_of_ble_eq_true rfl⟩ ⟨Nat.le_of_ble_eq_true rfl, Nat.le_of_ble_eq_true rfl⟩ rfl rfl rfl rfl rfl (Nat.le_of_ble_eq_true rfl) rfl dL_law_463 rfl ?_
  refine sw_icmp_eq (tgt := 1399) (pc' := 469) cx dL_law_466 (by decide) rfl (fun _ => ?_) (fun hne => absurd rfl hne)
  exact K _ _ _ _ _ _ _ _ _ _ _ _ _ _ _ _ _ _ _ _ _ _ _ _ _ _ _ _ _ _ ⟨hR.1, xRF, hR.2.2.1, hR.2.2.2.1, hR.2.2.2.2⟩
theorem cs_placeOf (cx : sf_Cx p m meth c cL_law 4 s args RL D (sf_ty cI cJ cK cS) A) (X : LX s A b L xs i) (K : LG p l e s m args below meth c Q D A g m0 m1 m2 ka sa sn h cI cJ cK cS b i 1399) : LG p l e s m args below meth c Q D A g m0 m1 m2 ka sa sn h cI cJ cK cS b i 471 := by
  intro mu tr ke kp tby tlen ttok tsta tbeh tnum ttak sh fi row fnd tape tmany sort begs tends word valu good bits size shts lent imag befo kept hR
  obtain ⟨r, fiq_n, fndq_n, hc, hm, xRF⟩ := op_placeOf hR.1 hR.2.1 (xs (i + 1)) (xs (i + 2))
  refine sw_aload_n (pc' := 472) cx dL_law_471 rfl 2 rfl rfl ?_
  refine sw_scr (pc' := 477) cx X 1 (by decide) (by decide) dL_law_472 dL_law_473 dL_law_474 dL_law_475 dL_law_476 rfl ?_
  refine sw_scr (pc' := 482) cx X 2 (by decide) (by decide) dL_law_477 dL_law_478 dL_law_479 dL_law_480 dL_law_481 rfl ?_
  refine sw_callA (As := [.int (xs (i + 1)), .int (xs (i + 2))]) (rest := []) (pc' := 485) cx (k_X9_placeOf l D g m0 m1 m2 ka sa sn cI cJ cK cS mu tr ke kp tby tlen ttok tsta tbeh tnum ttak sh fi (xs (i + 1)) (xs (i + 2)) _ hc) pk_yX9_placeOf ml_RL_43 ⟨rfl, rfl⟩ ⟨Nat.le_of_ble_eq_true rfl, Nat.le_of_ble_eq_true rfl⟩ ⟨Nat.le_of_ble_eq_true rfl, Nat.le_of_ble_eq_true rfl⟩ sx_adr sx_0 rfl rfl rfl (Nat.le_of_ble_eq_true rfl) rfl dL_law_482 rfl ?_
  refine sw_aload_n (pc' := 486) cx dL_law_485 rfl 1 rfl rfl ?_
  refine sw_scr (pc' := 491) cx X 1 (by decide) (by decide) dL_law_486 dL_law_487 dL_law_488 dL_law_489 dL_law_490 rfl ?_
  refine sw_scr (pc' := 496) cx X 2 (by decide) (by decide) dL_law_491 dL_law_492 dL_law_493 dL_law_494 dL_law_495 rfl ?_
  refine sw_callB (As := [.int (xs (i + 1)), .int (xs (i + 2))]) (rest := [.int r]) (pc' := 499) cx (k_X10_placeOf l D h cI cJ cK cS row (nI 0) fnd tape tmany sort begs tends word valu good bits size shts lent imag befo kept (xs (i + 1)) (xs (i + 2)) _ hm) pk_yX10_placeOf ml_RL_46 ⟨rfl, rfl⟩ ⟨Nat.le_of_ble_eq_true rfl, Nat.le_of_ble_eq_true rfl⟩ ⟨Nat.le_of_ble_eq_true rfl, Nat.le_of_ble_eq_true rfl⟩ rfl rfl rfl rfl rfl (Nat.le_of_ble_eq_true rfl) rfl dL_law_496 rfl ?_
  refine sw_icmp_eq (tgt := 1399) (pc' := 502) cx dL_law_499 (by decide) rfl (fun _ => ?_) (fun hne => absurd rfl hne)
  exact K _ _ _ _ _ _ _ _ _ _ _ _ _ _ _ _ _ _ _ _ _ _ _ _ _ _ _ _ _ _ ⟨hR.1, xRF, hR.2.2.1, hR.2.2.2.1, hR.2.2.2.2⟩
theorem cs_whole (cx : sf_Cx p m meth c cL_law 4 s args RL D (sf_ty cI cJ cK cS) A) (X : LX s A b L xs i) (K : LG p l e s m args below meth c Q D A g m0 m1 m2 ka sa sn h cI cJ cK cS b i 1399) : LG p l e s m args below meth c Q D A g m0 m1 m2 ka sa sn h cI cJ cK cS b i 504 := by
  intro mu tr ke kp tby tlen ttok tsta tbeh tnum ttak sh fi row fnd tape tmany sort begs tends word valu good bits size shts lent imag befo kept hR
  obtain ⟨r, hc, hm⟩ := op_whole hR.1
  refine sw_aload_n (pc' := 505) cx dL_law_504 rfl 2 rfl rfl ?_
  refine sw_callA (As := []) (rest := []) (pc' := 508) cx (k_X9_whole l D g m0 m1 m2 ka sa sn cI cJ cK cS mu tr ke kp tby tlen ttok tsta tbeh tnum ttak sh fi  _ hc) pk_yX9_whole ml_RL_47 ⟨rfl, rfl⟩ ⟨Nat.le_of_ble_eq_true rfl, Nat.le_of_ble_eq_true rfl⟩ ⟨Nat.le_of_ble_eq_true rfl, Nat.le_of_ble_eq_true rfl⟩ sx_adr sx_0 rfl rfl rfl (Nat.le_of_ble_eq_true rfl) rfl dL_law_505 rfl ?_
  refine sw_aload_n (pc' := 509) cx dL_law_508 rfl 1 rfl rfl ?_
  refine sw_callB (As := []) (rest := [.long r]) (pc' := 512) cx (k_X10_whole l D h cI cJ cK cS row (nI 0) fnd tape tmany sort begs tends word valu good bits size shts lent imag befo kept  _ hm) pk_yX10_whole ml_RL_51 ⟨rfl, rfl⟩ ⟨Nat.le_of_ble_eq_true rfl, Nat.le_of_ble_eq_true rfl⟩ ⟨Nat.le_of_ble_eq_true rfl, Nat.le_of_ble_eq_true rfl⟩ rfl rfl rfl rfl rfl (Nat.le_of_ble_eq_true rfl) rfl dL_law_509 rfl ?_
  refine sw_lcmp (pc' := 513) cx dL_law_512 rfl ?_
  refine sw_if_eq (tgt := 1399) (pc' := 516) cx dL_law_513 (by decide) rfl (fun _ => ?_) (fun hne => absurd ((lg_cmp_eq r r).mpr rfl) hne)
  exact K _ _ _ _ _ _ _ _ _ _ _ _ _ _ _ _ _ _ _ _ _ _ _ _ _ _ _ _ _ _ ⟨hR.1, hR.2.1, hR.2.2.1, hR.2.2.2.1, hR.2.2.2.2⟩
theorem cs_make (cx : sf_Cx p m meth c cL_law 4 s args RL D (sf_ty cI cJ cK cS) A) (X : LX s A b L xs i) (K : LG p l e s m args below meth c Q D A g m0 m1 m2 ka sa sn h cI cJ cK cS b i 1399) : LG p l e s m args below meth c Q D A g m0 m1 m2 ka sa sn h cI cJ cK cS b i 518 := by
  intro mu tr ke kp tby tlen ttok tsta tbeh tnum ttak sh fi row fnd tape tmany sort begs tends word valu good bits size shts lent imag befo kept hR
  obtain ⟨r, muq_n, fiq_n, rowq_n, fndq_n, hc, hm, xRA, xRF⟩ := op_make hR.1 hR.2.1 (xs (i + 1)) (bz (xs (i + 2))) (xs (i + 3)) (bz_or _)
  refine sw_aload_n (pc' := 519) cx dL_law_518 rfl 2 rfl rfl ?_
  refine sw_scr (pc' := 524) cx X 1 (by decide) (by decide) dL_law_519 dL_law_520 dL_law_521 dL_law_522 dL_law_523 rfl ?_
  refine sw_scr (pc' := 529) cx X 2 (by decide) (by decide) dL_law_524 dL_law_525 dL_law_526 dL_law_527 dL_law_528 rfl ?_
  refine sw_bz (pc' := 537) cx dL_law_529 dL_law_532 dL_law_533 dL_law_536 rfl ?_
  refine sw_scr (pc' := 542) cx X 3 (by decide) (by decide) dL_law_537 dL_law_538 dL_law_539 dL_law_540 dL_law_541 rfl ?_
  refine sw_callA (As := [.int (xs (i + 1)), .int (bz (xs (i + 2))), .int (xs (i + 3))]) (rest := []) (pc' := 545) cx (k_X9_make l D g m0 m1 m2 ka sa sn cI cJ cK cS mu tr ke kp tby tlen ttok tsta tbeh tnum ttak sh fi (xs (i + 1)) (bz (xs (i + 2))) (xs (i + 3)) _ hc) pk_yX9_make ml_RL_52 ⟨rfl, rfl⟩ ⟨Nat.le_of_ble_eq_true rfl, Nat.le_of_ble_eq_true rfl⟩ ⟨Nat.le_of_ble_eq_true rfl, Nat.le_of_ble_eq_true rfl⟩ sx_adr sx_0 rfl rfl rfl (Nat.le_of_ble_eq_true rfl) rfl dL_law_542 rfl ?_
  refine sw_aload_n (pc' := 546) cx dL_law_545 rfl 1 rfl rfl ?_
  refine sw_scr (pc' := 551) cx X 1 (by decide) (by decide) dL_law_546 dL_law_547 dL_law_548 dL_law_549 dL_law_550 rfl ?_
  refine sw_scr (pc' := 556) cx X 2 (by decide) (by decide) dL_law_551 dL_law_552 dL_law_553 dL_law_554 dL_law_555 rfl ?_
  refine sw_bz (pc' := 564) cx dL_law_556 dL_law_559 dL_law_560 dL_law_563 rfl ?_
  refine sw_scr (pc' := 569) cx X 3 (by decide) (by decide) dL_law_564 dL_law_565 dL_law_566 dL_law_567 dL_law_568 rfl ?_
  refine sw_callB (As := [.int (xs (i + 1)), .int (bz (xs (i + 2))), .int (xs (i + 3))]) (rest := [.int r]) (pc' := 572) cx (k_X10_make l D h cI cJ cK cS row (nI 0) fnd tape tmany sort begs tends word valu good bits size shts lent imag befo kept (xs (i + 1)) (bz (xs (i + 2))) (xs (i + 3)) _ hm) pk_yX10_make ml_RL_56 ⟨rfl, rfl⟩ ⟨Nat.le_of_ble_eq_true rfl, Nat.le_of_ble_eq_true rfl⟩ ⟨Nat.le_of_ble_eq_true rfl, Nat.le_of_ble_eq_true rfl⟩ rfl rfl rfl rfl rfl (Nat.le_of_ble_eq_true rfl) rfl dL_law_569 rfl ?_
  refine sw_icmp_eq (tgt := 1399) (pc' := 575) cx dL_law_572 (by decide) rfl (fun _ => ?_) (fun hne => absurd rfl hne)
  exact K _ _ _ _ _ _ _ _ _ _ _ _ _ _ _ _ _ _ _ _ _ _ _ _ _ _ _ _ _ _ ⟨xRA, xRF, hR.2.2.1, hR.2.2.2.1, hR.2.2.2.2⟩
theorem cs_reach (cx : sf_Cx p m meth c cL_law 4 s args RL D (sf_ty cI cJ cK cS) A) (X : LX s A b L xs i) (K : LG p l e s m args below meth c Q D A g m0 m1 m2 ka sa sn h cI cJ cK cS b i 1399) : LG p l e s m args below meth c Q D A g m0 m1 m2 ka sa sn h cI cJ cK cS b i 577 := by
  intro mu tr ke kp tby tlen ttok tsta tbeh tnum ttak sh fi row fnd tape tmany sort begs tends word valu good bits size shts lent imag befo kept hR
  obtain ⟨r, hc, hm⟩ := op_reach hR.1
  refine sw_aload_n (pc' := 578) cx dL_law_577 rfl 2 rfl rfl ?_
  refine sw_callA (As := []) (rest := []) (pc' := 581) cx (k_X9_reach l D g m0 m1 m2 ka sa sn cI cJ cK cS mu tr ke kp tby tlen ttok tsta tbeh tnum ttak sh fi  _ hc) pk_yX9_reach ml_RL_57 ⟨rfl, rfl⟩ ⟨Nat.le_of_ble_eq_true rfl, Nat.le_of_ble_eq_true rfl⟩ ⟨Nat.le_of_ble_eq_true rfl, Nat.le_of_ble_eq_true rfl⟩ sx_adr sx_0 rfl rfl rfl (Nat.le_of_ble_eq_true rfl) rfl dL_law_578 rfl ?_
  refine sw_aload_n (pc' := 582) cx dL_law_581 rfl 1 rfl rfl ?_
  refine sw_callB (As := []) (rest := [.int r]) (pc' := 585) cx (k_X10_reach l D h cI cJ cK cS row (nI 0) fnd tape tmany sort begs tends word valu good bits size shts lent imag befo kept  _ hm) pk_yX10_reach ml_RL_61 ⟨rfl, rfl⟩ ⟨Nat.le_of_ble_eq_true rfl, Nat.le_of_ble_eq_true rfl⟩ ⟨Nat.le_of_ble_eq_true rfl, Nat.le_of_ble_eq_true rfl⟩ rfl rfl rfl rfl rfl (Nat.le_of_ble_eq_true rfl) rfl dL_law_582 rfl ?_
  refine sw_icmp_eq (tgt := 1399) (pc' := 588) cx dL_law_585 (by decide) rfl (fun _ => ?_) (fun hne => absurd rfl hne)
  exact K _ _ _ _ _ _ _ _ _ _ _ _ _ _ _ _ _ _ _ _ _ _ _ _ _ _ _ _ _ _ ⟨hR.1, hR.2.1, hR.2.2.1, hR.2.2.2.1, hR.2.2.2.2⟩
theorem cs_faults (cx : sf_Cx p m meth c cL_law 4 s args RL D (sf_ty cI cJ cK cS) A) (X : LX s A b L xs i) (K : LG p l e s m args below meth c Q D A g m0 m1 m2 ka sa sn h cI cJ cK cS b i 1399) : LG p l e s m args below meth c Q D A g m0 m1 m2 ka sa sn h cI cJ cK cS b i 590 := by
  intro mu tr ke kp tby tlen ttok tsta tbeh tnum ttak sh fi row fnd tape tmany sort begs tends word valu good bits size shts lent imag befo kept hR
  obtain ⟨r, hc, hm⟩ := op_faults hR.1
  refine sw_aload_n (pc' := 591) cx dL_law_590 rfl 2 rfl rfl ?_
  refine sw_callA (As := []) (rest := []) (pc' := 594) cx (k_X9_faults l D g m0 m1 m2 ka sa sn cI cJ cK cS mu tr ke kp tby tlen ttok tsta tbeh tnum ttak sh fi  _ hc) pk_yX9_faults ml_RL_62 ⟨rfl, rfl⟩ ⟨Nat.le_of_ble_eq_true rfl, Nat.le_of_ble_eq_true rfl⟩ ⟨Nat.le_of_ble_eq_true rfl, Nat.le_of_ble_eq_true rfl⟩ sx_adr sx_0 rfl rfl rfl (Nat.le_of_ble_eq_true rfl) rfl dL_law_591 rfl ?_
  refine sw_aload_n (pc' := 595) cx dL_law_594 rfl 1 rfl rfl ?_
  refine sw_callB (As := []) (rest := [.long r]) (pc' := 598) cx (k_X10_faults l D h cI cJ cK cS row (nI 0) fnd tape tmany sort begs tends word valu good bits size shts lent imag befo kept  _ hm) pk_yX10_faults ml_RL_65 ⟨rfl, rfl⟩ ⟨Nat.le_of_ble_eq_true rfl, Nat.le_of_ble_eq_true rfl⟩ ⟨Nat.le_of_ble_eq_true rfl, Nat.le_of_ble_eq_true rfl⟩ rfl rfl rfl rfl rfl (Nat.le_of_ble_eq_true rfl) rfl dL_law_595 rfl ?_
  refine sw_lcmp (pc' := 599) cx dL_law_598 rfl ?_
  refine sw_if_eq (tgt := 1399) (pc' := 602) cx dL_law_599 (by decide) rfl (fun _ => ?_) (fun hne => absurd ((lg_cmp_eq r r).mpr rfl) hne)
  exact K _ _ _ _ _ _ _ _ _ _ _ _ _ _ _ _ _ _ _ _ _ _ _ _ _ _ _ _ _ _ ⟨hR.1, hR.2.1, hR.2.2.1, hR.2.2.2.1, hR.2.2.2.2⟩
theorem cs_years (cx : sf_Cx p m meth c cL_law 4 s args RL D (sf_ty cI cJ cK cS) A) (X : LX s A b L xs i) (K : LG p l e s m args below meth c Q D A g m0 m1 m2 ka sa sn h cI cJ cK cS b i 1399) : LG p l e s m args below meth c Q D A g m0 m1 m2 ka sa sn h cI cJ cK cS b i 604 := by
  intro mu tr ke kp tby tlen ttok tsta tbeh tnum ttak sh fi row fnd tape tmany sort begs tends word valu good bits size shts lent imag befo kept hR
  obtain ⟨r, muq_n, fiq_n, rowq_n, fndq_n, hc, hm, xRA, xRF⟩ := op_years hR.1 hR.2.1 (xs (i + 1))
  refine sw_aload_n (pc' := 605) cx dL_law_604 rfl 2 rfl rfl ?_
  refine sw_scr (pc' := 610) cx X 1 (by decide) (by decide) dL_law_605 dL_law_606 dL_law_607 dL_law_608 dL_law_609 rfl ?_
  refine sw_callA (As := [.int (xs (i + 1))]) (rest := []) (pc' := 613) cx (k_X9_years l D g m0 m1 m2 ka sa sn cI cJ cK cS mu tr ke kp tby tlen ttok tsta tbeh tnum ttak sh fi (xs (i + 1)) _ hc) pk_yX9_years ml_RL_66 ⟨rfl, rfl⟩ ⟨Nat.le_of_ble_eq_true rfl, Nat.le_of_ble_eq_true rfl⟩ ⟨Nat.le_of_ble_eq_true rfl, Nat.le_of_ble_eq_true rfl⟩ sx_adr sx_0 rfl rfl rfl (Nat.le_of_ble_eq_true rfl) rfl dL_law_610 rfl ?_
  refine sw_aload_n (pc' := 614) cx dL_law_613 rfl 1 rfl rfl ?_
  refine sw_scr (pc' := 619) cx X 1 (by decide) (by decide) dL_law_614 dL_law_615 dL_law_616 dL_law_617 dL_law_618 rfl ?_
  refine sw_callB (As := [.int (xs (i + 1))]) (rest := [.int r]) (pc' := 622) cx (k_X10_years l D h cI cJ cK cS row (nI 0) fnd tape tmany sort begs tends word valu good bits size shts lent imag befo kept (xs (i + 1)) _ hm) pk_yX10_years ml_RL_70 ⟨rfl, rfl⟩ ⟨Nat.le_of_ble_eq_true rfl, Nat.le_of_ble_eq_true rfl⟩ ⟨Nat.le_of_ble_eq_true rfl, Nat.le_of_ble_eq_true rfl⟩ rfl rfl rfl rfl rfl (Nat.le_of_ble_eq_true rfl) rfl dL_law_619 rfl ?_
  refine sw_icmp_eq (tgt := 1399) (pc' := 625) cx dL_law_622 (by decide) rfl (fun _ => ?_) (fun hne => absurd rfl hne)
  exact K _ _ _ _ _ _ _ _ _ _ _ _ _ _ _ _ _ _ _ _ _ _ _ _ _ _ _ _ _ _ ⟨xRA, xRF, hR.2.2.1, hR.2.2.2.1, hR.2.2.2.2⟩
theorem cs_seed (cx : sf_Cx p m meth c cL_law 4 s args RL D (sf_ty cI cJ cK cS) A) (X : LX s A b L xs i) (K : LG p l e s m args below meth c Q D A g m0 m1 m2 ka sa sn h cI cJ cK cS b i 1399) : LG p l e s m args below meth c Q D A g m0 m1 m2 ka sa sn h cI cJ cK cS b i 627 := by
  intro mu tr ke kp tby tlen ttok tsta tbeh tnum ttak sh fi row fnd tape tmany sort begs tends word valu good bits size shts lent imag befo kept hR
  obtain ⟨r, muq_n, rowq_n, hc, hm, xRA⟩ := op_seed hR.1 (xs (i + 1))
  refine sw_aload_n (pc' := 628) cx dL_law_627 rfl 2 rfl rfl ?_
  refine sw_scr (pc' := 633) cx X 1 (by decide) (by decide) dL_law_628 dL_law_629 dL_law_630 dL_law_631 dL_law_632 rfl ?_
  refine sw_callA (As := [.int (xs (i + 1))]) (rest := []) (pc' := 636) cx (k_X9_seed l D g m0 m1 m2 ka sa sn cI cJ cK cS mu tr ke kp tby tlen ttok tsta tbeh tnum ttak sh fi (xs (i + 1)) _ hc) pk_yX9_seed ml_RL_71 ⟨rfl, rfl⟩ ⟨Nat.le_of_ble_eq_true rfl, Nat.le_of_ble_eq_true rfl⟩ ⟨Nat.le_of_ble_eq_true rfl, Nat.le_of_ble_eq_true rfl⟩ sx_adr sx_0 rfl rfl rfl (Nat.le_of_ble_eq_true rfl) rfl dL_law_633 rfl ?_
  refine sw_aload_n (pc' := 637) cx dL_law_636 rfl 1 rfl rfl ?_
  refine sw_scr (pc' := 642) cx X 1 (by decide) (by decide) dL_law_637 dL_law_638 dL_law_639 dL_law_640 dL_law_641 rfl ?_
  refine sw_callB (As := [.int (xs (i + 1))]) (rest := [.int r]) (pc' := 645) cx (k_X10_seed l D h cI cJ cK cS row (nI 0) fnd tape tmany sort begs tends word valu good bits size shts lent imag befo kept (xs (i + 1)) _ hm) pk_yX10_seed ml_RL_74 ⟨rfl, rfl⟩ ⟨Nat.le_of_ble_eq_true rfl, Nat.le_of_ble_eq_true rfl⟩ ⟨Nat.le_of_ble_eq_true rfl, Nat.le_of_ble_eq_true rfl⟩ rfl rfl rfl rfl rfl (Nat.le_of_ble_eq_true rfl) rfl dL_law_642 rfl ?_
  refine sw_icmp_eq (tgt := 1399) (pc' := 648) cx dL_law_645 (by decide) rfl (fun _ => ?_) (fun hne => absurd rfl hne)
  exact K _ _ _ _ _ _ _ _ _ _ _ _ _ _ _ _ _ _ _ _ _ _ _ _ _ _ _ _ _ _ ⟨xRA, hR.2.1, hR.2.2.1, hR.2.2.2.1, hR.2.2.2.2⟩
theorem cs_now (cx : sf_Cx p m meth c cL_law 4 s args RL D (sf_ty cI cJ cK cS) A) (X : LX s A b L xs i) (K : LG p l e s m args below meth c Q D A g m0 m1 m2 ka sa sn h cI cJ cK cS b i 1399) : LG p l e s m args below meth c Q D A g m0 m1 m2 ka sa sn h cI cJ cK cS b i 650 := by
  intro mu tr ke kp tby tlen ttok tsta tbeh tnum ttak sh fi row fnd tape tmany sort begs tends word valu good bits size shts lent imag befo kept hR
  obtain ⟨r, fiq_n, fndq_n, hc, hm, xRF⟩ := op_now hR.1 hR.2.1 (xs (i + 1))
  refine sw_aload_n (pc' := 651) cx dL_law_650 rfl 2 rfl rfl ?_
  refine sw_scr (pc' := 656) cx X 1 (by decide) (by decide) dL_law_651 dL_law_652 dL_law_653 dL_law_654 dL_law_655 rfl ?_
  refine sw_callA (As := [.int (xs (i + 1))]) (rest := []) (pc' := 659) cx (k_X9_now l D g m0 m1 m2 ka sa sn cI cJ cK cS mu tr ke kp tby tlen ttok tsta tbeh tnum ttak sh fi (xs (i + 1)) _ hc) pk_yX9_now ml_RL_75 ⟨rfl, rfl⟩ ⟨Nat.le_of_ble_eq_true rfl, Nat.le_of_ble_eq_true rfl⟩ ⟨Nat.le_of_ble_eq_true rfl, Nat.le_of_ble_eq_true rfl⟩ sx_adr sx_0 rfl rfl rfl (Nat.le_of_ble_eq_true rfl) rfl dL_law_656 rfl ?_
  refine sw_aload_n (pc' := 660) cx dL_law_659 rfl 1 rfl rfl ?_
  refine sw_scr (pc' := 665) cx X 1 (by decide) (by decide) dL_law_660 dL_law_661 dL_law_662 dL_law_663 dL_law_664 rfl ?_
  refine sw_callB (As := [.int (xs (i + 1))]) (rest := [.int r]) (pc' := 668) cx (k_X10_now l D h cI cJ cK cS row (nI 0) fnd tape tmany sort begs tends word valu good bits size shts lent imag befo kept (xs (i + 1)) _ hm) pk_yX10_now ml_RL_78 ⟨rfl, rfl⟩ ⟨Nat.le_of_ble_eq_true rfl, Nat.le_of_ble_eq_true rfl⟩ ⟨Nat.le_of_ble_eq_true rfl, Nat.le_of_ble_eq_true rfl⟩ rfl rfl rfl rfl rfl (Nat.le_of_ble_eq_true rfl) rfl dL_law_665 rfl ?_
  refine sw_icmp_eq (tgt := 1399) (pc' := 671) cx dL_law_668 (by decide) rfl (fun _ => ?_) (fun hne => absurd rfl hne)
  exact K _ _ _ _ _ _ _ _ _ _ _ _ _ _ _ _ _ _ _ _ _ _ _ _ _ _ _ _ _ _ ⟨hR.1, xRF, hR.2.2.1, hR.2.2.2.1, hR.2.2.2.2⟩
end LC
