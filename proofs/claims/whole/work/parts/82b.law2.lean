/-! the law's calls: field, sow, ofCell, lay, person, ofPerson, lead, become, as, feed -/
/-- the eight bytes of feed -/
def fdW (x y : Int32) : Int64 := (x.toInt64 <<< ((32 : Int32).toInt64 &&& 63)) ||| (y.toInt64 &&& 4294967295)
set_option maxRecDepth 100000 in
theorem lc_field {p : Program} {l : Launch} {e : Env} {s : State} {m : MethodId} {args : Array Value} {below : List Frame} {meth : Method} {c : Code} {H : Heap} {locs : List Loc} {Q : State → Prop} {D : va_G} {ad sa : Nat → Nat} {cc : cT} {a : Nat → Nat} {tt : tT} {A : Nat → Prop} {X : xS} {M : mS} {ls : Array Slot} {b L n : Nat} {xs : Nat → Int32} (hC : LXt D sa cc A p s m c args b L xs) (hn : 6 * n + 6 ≤ L) (ih : LKt p l e s m args below meth c Q D ad sa cc a A b (n + 1)) (hs : LSt D ad sa cc a A s b n tt X M H locs ls) : W p l e room_1 s m args below meth c H locs (76 + 3 * n) (2571 + 102 * n) Q (F0 m 204 ls []) := by
  have hL := hC.2.2.2.2.2.1
  have hx := hC.1.1
  have hb := hC.1.2.1
  have hf : 76 + 3 * n ≤ 600000 ∧ 2571 + 102 * n ≤ 7302250 := by omega
  obtain ⟨hI, ht, ⟨w, S, G⟩, hS, hl⟩ := hs
  refine lv_aload_n hx hb dL_law_204 rfl (lv_at hl 2 rfl) ?_
  refine lr_arg hC hS hl 1 (by decide) (by omega) dL_law_205 dL_law_206 dL_law_207 dL_law_208 dL_law_209 ?_
  refine lr_X (rX := x8_field X (xs (6 * n + 1))) hC G hS (kx8_field l D ad sa cc tt X (xs (6 * n + 1)) ) (cwV 1 hC.1.2.2.2.2.1 gL_law_X8_field rfl rfl rfl (by decide +kernel) ⟨Nat.le_of_ble_eq_true rfl, Nat.le_of_ble_eq_true rfl⟩) rfl hl.1 rfl (Nat.le_of_ble_eq_true rfl) dL_law_210 hf (fun H locs w G hS => ?_)
  refine lv_aload_n hx hb dL_law_213 rfl (lv_at hl 1 rfl) ?_
  refine lr_arg hC hS hl 1 (by decide) (by omega) dL_law_214 dL_law_215 dL_law_216 dL_law_217 dL_law_218 ?_
  refine lr_M (rM := mF_field M (xs (6 * n + 1))) hC G hS (k_field l D cc.1 a M (xs (6 * n + 1)) ) (cwV 1 hC.1.2.2.2.2.1 gL_law_X9_field rfl rfl rfl (by decide +kernel) ⟨Nat.le_of_ble_eq_true rfl, Nat.le_of_ble_eq_true rfl⟩) rfl hl.1 rfl (Nat.le_of_ble_eq_true rfl) dL_law_219 hf (fun H locs S G hS => ?_)
  exact lr_cmp hC ih (Nat.le_succ n) (field_e hI (xs (6 * n + 1))) (by omega) G hS hl (by omega) (by omega) dL_law_222 (by decide)
set_option maxRecDepth 100000 in
theorem lc_sow {p : Program} {l : Launch} {e : Env} {s : State} {m : MethodId} {args : Array Value} {below : List Frame} {meth : Method} {c : Code} {H : Heap} {locs : List Loc} {Q : State → Prop} {D : va_G} {ad sa : Nat → Nat} {cc : cT} {a : Nat → Nat} {tt : tT} {A : Nat → Prop} {X : xS} {M : mS} {ls : Array Slot} {b L n : Nat} {xs : Nat → Int32} (hC : LXt D sa cc A p s m c args b L xs) (hn : 6 * n + 6 ≤ L) (ih : LKt p l e s m args below meth c Q D ad sa cc a A b (n + 1)) (hs : LSt D ad sa cc a A s b n tt X M H locs ls) : W p l e room_1 s m args below meth c H locs (76 + 3 * n) (2571 + 102 * n) Q (F0 m 227 ls []) := by
  have hL := hC.2.2.2.2.2.1
  have hx := hC.1.1
  have hb := hC.1.2.1
  have hf : 76 + 3 * n ≤ 600000 ∧ 2571 + 102 * n ≤ 7302250 := by omega
  obtain ⟨hI, ht, ⟨w, S, G⟩, hS, hl⟩ := hs
  refine lv_aload_n hx hb dL_law_227 rfl (lv_at hl 2 rfl) ?_
  refine lr_arg hC hS hl 1 (by decide) (by omega) dL_law_228 dL_law_229 dL_law_230 dL_law_231 dL_law_232 ?_
  refine lr_arg hC hS hl 2 (by decide) (by omega) dL_law_233 dL_law_234 dL_law_235 dL_law_236 dL_law_237 ?_
  refine lr_arg hC hS hl 3 (by decide) (by omega) dL_law_238 dL_law_239 dL_law_240 dL_law_241 dL_law_242 ?_
  refine lr_X (rX := x8_sow X (xs (6 * n + 1)) (xs (6 * n + 2)) (xs (6 * n + 3))) hC G hS (kx8_sow l D ad sa cc tt X (xs (6 * n + 1)) (xs (6 * n + 2)) (xs (6 * n + 3)) ((INV_eR hI).1.1)) (cwV 3 hC.1.2.2.2.2.1 gL_law_X8_sow rfl rfl rfl (by decide +kernel) ⟨Nat.le_of_ble_eq_true rfl, Nat.le_of_ble_eq_true rfl⟩) rfl hl.1 rfl (Nat.le_of_ble_eq_true rfl) dL_law_243 hf (fun H locs w G hS => ?_)
  refine lv_aload_n hx hb dL_law_246 rfl (lv_at hl 1 rfl) ?_
  refine lr_arg hC hS hl 1 (by decide) (by omega) dL_law_247 dL_law_248 dL_law_249 dL_law_250 dL_law_251 ?_
  refine lr_arg hC hS hl 2 (by decide) (by omega) dL_law_252 dL_law_253 dL_law_254 dL_law_255 dL_law_256 ?_
  refine lr_arg hC hS hl 3 (by decide) (by omega) dL_law_257 dL_law_258 dL_law_259 dL_law_260 dL_law_261 ?_
  refine lr_M (rM := mF_sow M (xs (6 * n + 1)) (xs (6 * n + 2)) (xs (6 * n + 3))) hC G hS (k_sow l D cc.1 a M (xs (6 * n + 1)) (xs (6 * n + 2)) (xs (6 * n + 3)) ((INV_R hI).1)) (cwV 3 hC.1.2.2.2.2.1 gL_law_X9_sow rfl rfl rfl (by decide +kernel) ⟨Nat.le_of_ble_eq_true rfl, Nat.le_of_ble_eq_true rfl⟩) rfl hl.1 rfl (Nat.le_of_ble_eq_true rfl) dL_law_262 hf (fun H locs S G hS => ?_)
  exact lr_cmp hC ih (Nat.le_succ n) (sow_e hI (xs (6 * n + 1)) (xs (6 * n + 2)) (xs (6 * n + 3))) (by omega) G hS hl (by omega) (by omega) dL_law_265 (by decide)
set_option maxRecDepth 100000 in
theorem lc_ofCell {p : Program} {l : Launch} {e : Env} {s : State} {m : MethodId} {args : Array Value} {below : List Frame} {meth : Method} {c : Code} {H : Heap} {locs : List Loc} {Q : State → Prop} {D : va_G} {ad sa : Nat → Nat} {cc : cT} {a : Nat → Nat} {tt : tT} {A : Nat → Prop} {X : xS} {M : mS} {ls : Array Slot} {b L n : Nat} {xs : Nat → Int32} (hC : LXt D sa cc A p s m c args b L xs) (hn : 6 * n + 6 ≤ L) (ih : LKt p l e s m args below meth c Q D ad sa cc a A b (n + 1)) (hs : LSt D ad sa cc a A s b n tt X M H locs ls) : W p l e room_1 s m args below meth c H locs (76 + 3 * n) (2571 + 102 * n) Q (F0 m 270 ls []) := by
  have hL := hC.2.2.2.2.2.1
  have hx := hC.1.1
  have hb := hC.1.2.1
  have hf : 76 + 3 * n ≤ 600000 ∧ 2571 + 102 * n ≤ 7302250 := by omega
  obtain ⟨hI, ht, ⟨w, S, G⟩, hS, hl⟩ := hs
  refine lv_aload_n hx hb dL_law_270 rfl (lv_at hl 2 rfl) ?_
  refine lr_arg hC hS hl 1 (by decide) (by omega) dL_law_271 dL_law_272 dL_law_273 dL_law_274 dL_law_275 ?_
  refine lr_arg hC hS hl 2 (by decide) (by omega) dL_law_276 dL_law_277 dL_law_278 dL_law_279 dL_law_280 ?_
  refine lr_X (rX := x8_ofCell tt X (xs (6 * n + 1)) (xs (6 * n + 2))) hC G hS (kx8_ofCell l D ad sa cc tt X (xs (6 * n + 1)) (xs (6 * n + 2)) ((INV_eR hI).1)) (cwV 2 hC.1.2.2.2.2.1 gL_law_X8_ofCell rfl rfl rfl (by decide +kernel) ⟨Nat.le_of_ble_eq_true rfl, Nat.le_of_ble_eq_true rfl⟩) rfl hl.1 rfl (Nat.le_of_ble_eq_true rfl) dL_law_281 hf (fun H locs w G hS => ?_)
  refine lv_aload_n hx hb dL_law_284 rfl (lv_at hl 1 rfl) ?_
  refine lr_arg hC hS hl 1 (by decide) (by omega) dL_law_285 dL_law_286 dL_law_287 dL_law_288 dL_law_289 ?_
  refine lr_arg hC hS hl 2 (by decide) (by omega) dL_law_290 dL_law_291 dL_law_292 dL_law_293 dL_law_294 ?_
  refine lr_M (rM := mF_ofCell M (xs (6 * n + 1)) (xs (6 * n + 2))) hC G hS (k_ofCell l D cc.1 a M (xs (6 * n + 1)) (xs (6 * n + 2)) (INV_R hI)) (cwV 2 hC.1.2.2.2.2.1 gL_law_X9_ofCell rfl rfl rfl (by decide +kernel) ⟨Nat.le_of_ble_eq_true rfl, Nat.le_of_ble_eq_true rfl⟩) rfl hl.1 rfl (Nat.le_of_ble_eq_true rfl) dL_law_295 hf (fun H locs S G hS => ?_)
  exact lr_cmp hC ih (Nat.le_succ n) (ofCell_e hI (xs (6 * n + 1)) (xs (6 * n + 2))) (by omega) G hS hl (by omega) (by omega) dL_law_298 (by decide)
set_option maxRecDepth 100000 in
theorem lc_lay {p : Program} {l : Launch} {e : Env} {s : State} {m : MethodId} {args : Array Value} {below : List Frame} {meth : Method} {c : Code} {H : Heap} {locs : List Loc} {Q : State → Prop} {D : va_G} {ad sa : Nat → Nat} {cc : cT} {a : Nat → Nat} {tt : tT} {A : Nat → Prop} {X : xS} {M : mS} {ls : Array Slot} {b L n : Nat} {xs : Nat → Int32} (hC : LXt D sa cc A p s m c args b L xs) (hn : 6 * n + 6 ≤ L) (ih : LKt p l e s m args below meth c Q D ad sa cc a A b (n + 1)) (hs : LSt D ad sa cc a A s b n tt X M H locs ls) : W p l e room_1 s m args below meth c H locs (76 + 3 * n) (2571 + 102 * n) Q (F0 m 303 ls []) := by
  have hL := hC.2.2.2.2.2.1
  have hx := hC.1.1
  have hb := hC.1.2.1
  have hf : 76 + 3 * n ≤ 600000 ∧ 2571 + 102 * n ≤ 7302250 := by omega
  obtain ⟨hI, ht, ⟨w, S, G⟩, hS, hl⟩ := hs
  refine lv_aload_n hx hb dL_law_303 rfl (lv_at hl 2 rfl) ?_
  refine lr_arg hC hS hl 1 (by decide) (by omega) dL_law_304 dL_law_305 dL_law_306 dL_law_307 dL_law_308 ?_
  refine lr_arg hC hS hl 2 (by decide) (by omega) dL_law_309 dL_law_310 dL_law_311 dL_law_312 dL_law_313 ?_
  refine lr_X (rX := x8_lay X (xs (6 * n + 1)) (xs (6 * n + 2))) hC G hS (kx8_lay l D ad sa cc tt X (xs (6 * n + 1)) (xs (6 * n + 2)) ) (cwV 2 hC.1.2.2.2.2.1 gL_law_X8_lay rfl rfl rfl (by decide +kernel) ⟨Nat.le_of_ble_eq_true rfl, Nat.le_of_ble_eq_true rfl⟩) rfl hl.1 rfl (Nat.le_of_ble_eq_true rfl) dL_law_314 hf (fun H locs w G hS => ?_)
  refine lv_aload_n hx hb dL_law_317 rfl (lv_at hl 1 rfl) ?_
  refine lr_arg hC hS hl 1 (by decide) (by omega) dL_law_318 dL_law_319 dL_law_320 dL_law_321 dL_law_322 ?_
  refine lr_arg hC hS hl 2 (by decide) (by omega) dL_law_323 dL_law_324 dL_law_325 dL_law_326 dL_law_327 ?_
  refine lr_M (rM := mF_lay M (xs (6 * n + 1)) (xs (6 * n + 2))) hC G hS (k_lay l D cc.1 a M (xs (6 * n + 1)) (xs (6 * n + 2)) ) (cwV 2 hC.1.2.2.2.2.1 gL_law_X9_lay rfl rfl rfl (by decide +kernel) ⟨Nat.le_of_ble_eq_true rfl, Nat.le_of_ble_eq_true rfl⟩) rfl hl.1 rfl (Nat.le_of_ble_eq_true rfl) dL_law_328 hf (fun H locs S G hS => ?_)
  exact lr_cmp hC ih (Nat.le_succ n) (lay_e hI (xs (6 * n + 1)) (xs (6 * n + 2))) (by omega) G hS hl (by omega) (by omega) dL_law_331 (by decide)
set_option maxRecDepth 100000 in
theorem lc_person {p : Program} {l : Launch} {e : Env} {s : State} {m : MethodId} {args : Array Value} {below : List Frame} {meth : Method} {c : Code} {H : Heap} {locs : List Loc} {Q : State → Prop} {D : va_G} {ad sa : Nat → Nat} {cc : cT} {a : Nat → Nat} {tt : tT} {A : Nat → Prop} {X : xS} {M : mS} {ls : Array Slot} {b L n : Nat} {xs : Nat → Int32} (hC : LXt D sa cc A p s m c args b L xs) (hn : 6 * n + 6 ≤ L) (ih : LKt p l e s m args below meth c Q D ad sa cc a A b (n + 1)) (hs : LSt D ad sa cc a A s b n tt X M H locs ls) : W p l e room_1 s m args below meth c H locs (76 + 3 * n) (2571 + 102 * n) Q (F0 m 336 ls []) := by
  have hL := hC.2.2.2.2.2.1
  have hx := hC.1.1
  have hb := hC.1.2.1
  have hf : 76 + 3 * n ≤ 600000 ∧ 2571 + 102 * n ≤ 7302250 := by omega
  obtain ⟨hI, ht, ⟨w, S, G⟩, hS, hl⟩ := hs
  refine lv_aload_n hx hb dL_law_336 rfl (lv_at hl 2 rfl) ?_
  refine lr_arg hC hS hl 1 (by decide) (by omega) dL_law_337 dL_law_338 dL_law_339 dL_law_340 dL_law_341 ?_
  refine lr_arg hC hS hl 2 (by decide) (by omega) dL_law_342 dL_law_343 dL_law_344 dL_law_345 dL_law_346 ?_
  refine lr_X (rX := x8_person X (xs (6 * n + 1)) (xs (6 * n + 2))) hC G hS (kx8_person l D ad sa cc tt X (xs (6 * n + 1)) (xs (6 * n + 2)) ((INV_eR hI).1.2.1)) (cwV 2 hC.1.2.2.2.2.1 gL_law_X8_person rfl rfl rfl (by decide +kernel) ⟨Nat.le_of_ble_eq_true rfl, Nat.le_of_ble_eq_true rfl⟩) rfl hl.1 rfl (Nat.le_of_ble_eq_true rfl) dL_law_347 hf (fun H locs w G hS => ?_)
  refine lv_aload_n hx hb dL_law_350 rfl (lv_at hl 1 rfl) ?_
  refine lr_arg hC hS hl 1 (by decide) (by omega) dL_law_351 dL_law_352 dL_law_353 dL_law_354 dL_law_355 ?_
  refine lr_arg hC hS hl 2 (by decide) (by omega) dL_law_356 dL_law_357 dL_law_358 dL_law_359 dL_law_360 ?_
  refine lr_M (rM := mF_person M (xs (6 * n + 1)) (xs (6 * n + 2))) hC G hS (k_person l D cc.1 a M (xs (6 * n + 1)) (xs (6 * n + 2)) ((INV_R hI).1) ((INV_R hI).2.1)) (cwV 2 hC.1.2.2.2.2.1 gL_law_X9_person rfl rfl rfl (by decide +kernel) ⟨Nat.le_of_ble_eq_true rfl, Nat.le_of_ble_eq_true rfl⟩) rfl hl.1 rfl (Nat.le_of_ble_eq_true rfl) dL_law_361 hf (fun H locs S G hS => ?_)
  exact lr_cmp hC ih (Nat.le_succ n) (person_e hI (xs (6 * n + 1)) (xs (6 * n + 2))) (by omega) G hS hl (by omega) (by omega) dL_law_364 (by decide)
set_option maxRecDepth 100000 in
theorem lc_ofPerson {p : Program} {l : Launch} {e : Env} {s : State} {m : MethodId} {args : Array Value} {below : List Frame} {meth : Method} {c : Code} {H : Heap} {locs : List Loc} {Q : State → Prop} {D : va_G} {ad sa : Nat → Nat} {cc : cT} {a : Nat → Nat} {tt : tT} {A : Nat → Prop} {X : xS} {M : mS} {ls : Array Slot} {b L n : Nat} {xs : Nat → Int32} (hC : LXt D sa cc A p s m c args b L xs) (hn : 6 * n + 6 ≤ L) (ih : LKt p l e s m args below meth c Q D ad sa cc a A b (n + 1)) (hs : LSt D ad sa cc a A s b n tt X M H locs ls) : W p l e room_1 s m args below meth c H locs (76 + 3 * n) (2571 + 102 * n) Q (F0 m 369 ls []) := by
  have hL := hC.2.2.2.2.2.1
  have hx := hC.1.1
  have hb := hC.1.2.1
  have hf : 76 + 3 * n ≤ 600000 ∧ 2571 + 102 * n ≤ 7302250 := by omega
  obtain ⟨hI, ht, ⟨w, S, G⟩, hS, hl⟩ := hs
  refine lv_aload_n hx hb dL_law_369 rfl (lv_at hl 2 rfl) ?_
  refine lr_arg hC hS hl 1 (by decide) (by omega) dL_law_370 dL_law_371 dL_law_372 dL_law_373 dL_law_374 ?_
  refine lr_arg hC hS hl 2 (by decide) (by omega) dL_law_375 dL_law_376 dL_law_377 dL_law_378 dL_law_379 ?_
  refine lr_X (rX := x8_ofPerson tt X (xs (6 * n + 1)) (xs (6 * n + 2))) hC G hS (kx8_ofPerson l D ad sa cc tt X (xs (6 * n + 1)) (xs (6 * n + 2)) ((INV_eR hI).1)) (cwV 2 hC.1.2.2.2.2.1 gL_law_X8_ofPerson rfl rfl rfl (by decide +kernel) ⟨Nat.le_of_ble_eq_true rfl, Nat.le_of_ble_eq_true rfl⟩) rfl hl.1 rfl (Nat.le_of_ble_eq_true rfl) dL_law_380 hf (fun H locs w G hS => ?_)
  refine lv_aload_n hx hb dL_law_383 rfl (lv_at hl 1 rfl) ?_
  refine lr_arg hC hS hl 1 (by decide) (by omega) dL_law_384 dL_law_385 dL_law_386 dL_law_387 dL_law_388 ?_
  refine lr_arg hC hS hl 2 (by decide) (by omega) dL_law_389 dL_law_390 dL_law_391 dL_law_392 dL_law_393 ?_
  refine lr_M (rM := mF_ofPerson M (xs (6 * n + 1)) (xs (6 * n + 2))) hC G hS (k_ofPerson l D cc.1 a M (xs (6 * n + 1)) (xs (6 * n + 2)) (INV_R hI)) (cwV 2 hC.1.2.2.2.2.1 gL_law_X9_ofPerson rfl rfl rfl (by decide +kernel) ⟨Nat.le_of_ble_eq_true rfl, Nat.le_of_ble_eq_true rfl⟩) rfl hl.1 rfl (Nat.le_of_ble_eq_true rfl) dL_law_394 hf (fun H locs S G hS => ?_)
  exact lr_cmp hC ih (Nat.le_succ n) (ofPerson_e hI (xs (6 * n + 1)) (xs (6 * n + 2))) (by omega) G hS hl (by omega) (by omega) dL_law_397 (by decide)
set_option maxRecDepth 100000 in
theorem lc_lead {p : Program} {l : Launch} {e : Env} {s : State} {m : MethodId} {args : Array Value} {below : List Frame} {meth : Method} {c : Code} {H : Heap} {locs : List Loc} {Q : State → Prop} {D : va_G} {ad sa : Nat → Nat} {cc : cT} {a : Nat → Nat} {tt : tT} {A : Nat → Prop} {X : xS} {M : mS} {ls : Array Slot} {b L n : Nat} {xs : Nat → Int32} (hC : LXt D sa cc A p s m c args b L xs) (hn : 6 * n + 6 ≤ L) (ih : LKt p l e s m args below meth c Q D ad sa cc a A b (n + 1)) (hs : LSt D ad sa cc a A s b n tt X M H locs ls) : W p l e room_1 s m args below meth c H locs (76 + 3 * n) (2571 + 102 * n) Q (F0 m 402 ls []) := by
  have hL := hC.2.2.2.2.2.1
  have hx := hC.1.1
  have hb := hC.1.2.1
  have hf : 76 + 3 * n ≤ 600000 ∧ 2571 + 102 * n ≤ 7302250 := by omega
  obtain ⟨hI, ht, ⟨w, S, G⟩, hS, hl⟩ := hs
  refine lv_aload_n hx hb dL_law_402 rfl (lv_at hl 2 rfl) ?_
  refine lr_arg hC hS hl 1 (by decide) (by omega) dL_law_403 dL_law_404 dL_law_405 dL_law_406 dL_law_407 ?_
  refine lr_arg hC hS hl 2 (by decide) (by omega) dL_law_408 dL_law_409 dL_law_410 dL_law_411 dL_law_412 ?_
  refine lr_arg hC hS hl 3 (by decide) (by omega) dL_law_413 dL_law_414 dL_law_415 dL_law_416 dL_law_417 ?_
  refine lr_X (rX := x8_lead X (xs (6 * n + 1)) (xs (6 * n + 2)) (xs (6 * n + 3))) hC G hS (kx8_lead l D ad sa cc tt X (xs (6 * n + 1)) (xs (6 * n + 2)) (xs (6 * n + 3)) ((INV_eR hI).1.2.1)) (cwV 3 hC.1.2.2.2.2.1 gL_law_X8_lead rfl rfl rfl (by decide +kernel) ⟨Nat.le_of_ble_eq_true rfl, Nat.le_of_ble_eq_true rfl⟩) rfl hl.1 rfl (Nat.le_of_ble_eq_true rfl) dL_law_418 hf (fun H locs w G hS => ?_)
  refine lv_aload_n hx hb dL_law_421 rfl (lv_at hl 1 rfl) ?_
  refine lr_arg hC hS hl 1 (by decide) (by omega) dL_law_422 dL_law_423 dL_law_424 dL_law_425 dL_law_426 ?_
  refine lr_arg hC hS hl 2 (by decide) (by omega) dL_law_427 dL_law_428 dL_law_429 dL_law_430 dL_law_431 ?_
  refine lr_arg hC hS hl 3 (by decide) (by omega) dL_law_432 dL_law_433 dL_law_434 dL_law_435 dL_law_436 ?_
  refine lr_M (rM := mF_lead M (xs (6 * n + 1)) (xs (6 * n + 2)) (xs (6 * n + 3))) hC G hS (k_lead l D cc.1 a M (xs (6 * n + 1)) (xs (6 * n + 2)) (xs (6 * n + 3)) ((INV_R hI).1) ((INV_R hI).2.1)) (cwV 3 hC.1.2.2.2.2.1 gL_law_X9_lead rfl rfl rfl (by decide +kernel) ⟨Nat.le_of_ble_eq_true rfl, Nat.le_of_ble_eq_true rfl⟩) rfl hl.1 rfl (Nat.le_of_ble_eq_true rfl) dL_law_437 hf (fun H locs S G hS => ?_)
  exact lr_cmp hC ih (Nat.le_succ n) (lead_e hI (xs (6 * n + 1)) (xs (6 * n + 2)) (xs (6 * n + 3))) (by omega) G hS hl (by omega) (by omega) dL_law_440 (by decide)
set_option maxRecDepth 100000 in
theorem lc_become {p : Program} {l : Launch} {e : Env} {s : State} {m : MethodId} {args : Array Value} {below : List Frame} {meth : Method} {c : Code} {H : Heap} {locs : List Loc} {Q : State → Prop} {D : va_G} {ad sa : Nat → Nat} {cc : cT} {a : Nat → Nat} {tt : tT} {A : Nat → Prop} {X : xS} {M : mS} {ls : Array Slot} {b L n : Nat} {xs : Nat → Int32} (hC : LXt D sa cc A p s m c args b L xs) (hn : 6 * n + 6 ≤ L) (ih : LKt p l e s m args below meth c Q D ad sa cc a A b (n + 1)) (hs : LSt D ad sa cc a A s b n tt X M H locs ls) : W p l e room_1 s m args below meth c H locs (76 + 3 * n) (2571 + 102 * n) Q (F0 m 445 ls []) := by
  have hL := hC.2.2.2.2.2.1
  have hx := hC.1.1
  have hb := hC.1.2.1
  have hf : 76 + 3 * n ≤ 600000 ∧ 2571 + 102 * n ≤ 7302250 := by omega
  obtain ⟨hI, ht, ⟨w, S, G⟩, hS, hl⟩ := hs
  refine lv_aload_n hx hb dL_law_445 rfl (lv_at hl 2 rfl) ?_
  refine lr_arg hC hS hl 1 (by decide) (by omega) dL_law_446 dL_law_447 dL_law_448 dL_law_449 dL_law_450 ?_
  refine lr_arg hC hS hl 2 (by decide) (by omega) dL_law_451 dL_law_452 dL_law_453 dL_law_454 dL_law_455 ?_
  refine lr_X (rX := x8_become X (xs (6 * n + 1)) (xs (6 * n + 2))) hC G hS (kx8_become l D ad sa cc tt X (xs (6 * n + 1)) (xs (6 * n + 2)) ((INV_eR hI).1.2.1)) (cwV 2 hC.1.2.2.2.2.1 gL_law_X8_become rfl rfl rfl (by decide +kernel) ⟨Nat.le_of_ble_eq_true rfl, Nat.le_of_ble_eq_true rfl⟩) rfl hl.1 rfl (Nat.le_of_ble_eq_true rfl) dL_law_456 hf (fun H locs w G hS => ?_)
  refine lv_aload_n hx hb dL_law_459 rfl (lv_at hl 1 rfl) ?_
  refine lr_arg hC hS hl 1 (by decide) (by omega) dL_law_460 dL_law_461 dL_law_462 dL_law_463 dL_law_464 ?_
  refine lr_arg hC hS hl 2 (by decide) (by omega) dL_law_465 dL_law_466 dL_law_467 dL_law_468 dL_law_469 ?_
  refine lr_M (rM := mF_become M (xs (6 * n + 1)) (xs (6 * n + 2))) hC G hS (k_become l D cc.1 a M (xs (6 * n + 1)) (xs (6 * n + 2)) ((INV_R hI).2.1)) (cwV 2 hC.1.2.2.2.2.1 gL_law_X9_become rfl rfl rfl (by decide +kernel) ⟨Nat.le_of_ble_eq_true rfl, Nat.le_of_ble_eq_true rfl⟩) rfl hl.1 rfl (Nat.le_of_ble_eq_true rfl) dL_law_470 hf (fun H locs S G hS => ?_)
  exact lr_cmp hC ih (Nat.le_succ n) (become_e hI (xs (6 * n + 1)) (xs (6 * n + 2))) (by omega) G hS hl (by omega) (by omega) dL_law_473 (by decide)
set_option maxRecDepth 100000 in
theorem lc_as {p : Program} {l : Launch} {e : Env} {s : State} {m : MethodId} {args : Array Value} {below : List Frame} {meth : Method} {c : Code} {H : Heap} {locs : List Loc} {Q : State → Prop} {D : va_G} {ad sa : Nat → Nat} {cc : cT} {a : Nat → Nat} {tt : tT} {A : Nat → Prop} {X : xS} {M : mS} {ls : Array Slot} {b L n : Nat} {xs : Nat → Int32} (hC : LXt D sa cc A p s m c args b L xs) (hn : 6 * n + 6 ≤ L) (ih : LKt p l e s m args below meth c Q D ad sa cc a A b (n + 1)) (hs : LSt D ad sa cc a A s b n tt X M H locs ls) : W p l e room_1 s m args below meth c H locs (76 + 3 * n) (2571 + 102 * n) Q (F0 m 478 ls []) := by
  have hL := hC.2.2.2.2.2.1
  have hx := hC.1.1
  have hb := hC.1.2.1
  have hf : 76 + 3 * n ≤ 600000 ∧ 2571 + 102 * n ≤ 7302250 := by omega
  obtain ⟨hI, ht, ⟨w, S, G⟩, hS, hl⟩ := hs
  refine lv_aload_n hx hb dL_law_478 rfl (lv_at hl 2 rfl) ?_
  refine lr_arg hC hS hl 1 (by decide) (by omega) dL_law_479 dL_law_480 dL_law_481 dL_law_482 dL_law_483 ?_
  refine lr_arg hC hS hl 2 (by decide) (by omega) dL_law_484 dL_law_485 dL_law_486 dL_law_487 dL_law_488 ?_
  refine lr_X (rX := x8_as X (xs (6 * n + 1)) (xs (6 * n + 2))) hC G hS (kx8_as l D ad sa cc tt X (xs (6 * n + 1)) (xs (6 * n + 2)) ((INV_eR hI).1.2.1)) (cwV 2 hC.1.2.2.2.2.1 gL_law_X8_as rfl rfl rfl (by decide +kernel) ⟨Nat.le_of_ble_eq_true rfl, Nat.le_of_ble_eq_true rfl⟩) rfl hl.1 rfl (Nat.le_of_ble_eq_true rfl) dL_law_489 hf (fun H locs w G hS => ?_)
  refine lv_aload_n hx hb dL_law_492 rfl (lv_at hl 1 rfl) ?_
  refine lr_arg hC hS hl 1 (by decide) (by omega) dL_law_493 dL_law_494 dL_law_495 dL_law_496 dL_law_497 ?_
  refine lr_arg hC hS hl 2 (by decide) (by omega) dL_law_498 dL_law_499 dL_law_500 dL_law_501 dL_law_502 ?_
  refine lr_M (rM := mF_as M (xs (6 * n + 1)) (xs (6 * n + 2))) hC G hS (k_as l D cc.1 a M (xs (6 * n + 1)) (xs (6 * n + 2)) ((INV_R hI).2.1) ((INV_R hI).2.2.1)) (cwV 2 hC.1.2.2.2.2.1 gL_law_X9_as rfl rfl rfl (by decide +kernel) ⟨Nat.le_of_ble_eq_true rfl, Nat.le_of_ble_eq_true rfl⟩) rfl hl.1 rfl (Nat.le_of_ble_eq_true rfl) dL_law_503 hf (fun H locs S G hS => ?_)
  exact lr_cmp hC ih (Nat.le_succ n) (as_e hI (xs (6 * n + 1)) (xs (6 * n + 2))) (by omega) G hS hl (by omega) (by omega) dL_law_506 (by decide)
set_option maxRecDepth 100000 in
theorem lc_feed {p : Program} {l : Launch} {e : Env} {s : State} {m : MethodId} {args : Array Value} {below : List Frame} {meth : Method} {c : Code} {H : Heap} {locs : List Loc} {Q : State → Prop} {D : va_G} {ad sa : Nat → Nat} {cc : cT} {a : Nat → Nat} {tt : tT} {A : Nat → Prop} {X : xS} {M : mS} {ls : Array Slot} {b L n : Nat} {xs : Nat → Int32} (hC : LXt D sa cc A p s m c args b L xs) (hn : 6 * n + 6 ≤ L) (ih : LKt p l e s m args below meth c Q D ad sa cc a A b (n + 1)) (hs : LSt D ad sa cc a A s b n tt X M H locs ls) : W p l e room_1 s m args below meth c H locs (76 + 3 * n) (2571 + 102 * n) Q (F0 m 511 ls []) := by
  have hL := hC.2.2.2.2.2.1
  have hx := hC.1.1
  have hb := hC.1.2.1
  have hf : 76 + 3 * n ≤ 600000 ∧ 2571 + 102 * n ≤ 7302250 := by omega
  obtain ⟨hI, ht, ⟨w, S, G⟩, hS, hl⟩ := hs
  refine lv_aload_n hx hb dL_law_511 rfl (lv_at hl 2 rfl) ?_
  refine lr_arg hC hS hl 1 (by decide) (by omega) dL_law_512 dL_law_513 dL_law_514 dL_law_515 dL_law_516 ?_
  refine lv_i2l hx hb dL_law_517 rfl ?_
  refine lv_bipush (v := 32) hx hb dL_law_518 (by decide) ?_
  refine lv_lshl hx hb dL_law_520 rfl ?_
  refine lr_arg hC hS hl 2 (by decide) (by omega) dL_law_521 dL_law_522 dL_law_523 dL_law_524 dL_law_525 ?_
  refine lv_i2l hx hb dL_law_526 rfl ?_
  refine lv_ldc2 (own := RL) (v := 4294967295) hx hb hC.1.2.2.2.1 (hC.1.2.2.2.2.1 _ (List.mem_of_getElem? (i := 6) (by decide +kernel))) dL_law_527 ?_
  refine lv_land hx hb dL_law_530 ?_
  refine lv_lor hx hb dL_law_531 ?_
  refine lr_arg hC hS hl 3 (by decide) (by omega) dL_law_532 dL_law_533 dL_law_534 dL_law_535 dL_law_536 ?_
  refine lr_X (rX := x8_feed X (fdW (xs (6 * n + 1)) (xs (6 * n + 2))) (xs (6 * n + 3))) hC G hS (kx8_feed l D ad sa cc tt X (fdW (xs (6 * n + 1)) (xs (6 * n + 2))) (xs (6 * n + 3)) ((INV_eR hI).2.1)) (cwV 2 hC.1.2.2.2.2.1 gL_law_X8_feed rfl rfl rfl (by decide +kernel) ⟨Nat.le_of_ble_eq_true rfl, Nat.le_of_ble_eq_true rfl⟩) rfl hl.1 rfl (Nat.le_of_ble_eq_true rfl) dL_law_537 hf (fun H locs w G hS => ?_)
  refine lv_aload_n hx hb dL_law_540 rfl (lv_at hl 1 rfl) ?_
  refine lr_arg hC hS hl 1 (by decide) (by omega) dL_law_541 dL_law_542 dL_law_543 dL_law_544 dL_law_545 ?_
  refine lv_i2l hx hb dL_law_546 rfl ?_
  refine lv_bipush (v := 32) hx hb dL_law_547 (by decide) ?_
  refine lv_lshl hx hb dL_law_549 rfl ?_
  refine lr_arg hC hS hl 2 (by decide) (by omega) dL_law_550 dL_law_551 dL_law_552 dL_law_553 dL_law_554 ?_
  refine lv_i2l hx hb dL_law_555 rfl ?_
  refine lv_ldc2 (own := RL) (v := 4294967295) hx hb hC.1.2.2.2.1 (hC.1.2.2.2.2.1 _ (List.mem_of_getElem? (i := 6) (by decide +kernel))) dL_law_556 ?_
  refine lv_land hx hb dL_law_559 ?_
  refine lv_lor hx hb dL_law_560 ?_
  refine lr_arg hC hS hl 3 (by decide) (by omega) dL_law_561 dL_law_562 dL_law_563 dL_law_564 dL_law_565 ?_
  refine lr_M (rM := mF_feed M (fdW (xs (6 * n + 1)) (xs (6 * n + 2))) (xs (6 * n + 3))) hC G hS (k_feed l D cc.1 a M (fdW (xs (6 * n + 1)) (xs (6 * n + 2))) (xs (6 * n + 3)) ((INV_tw hI).1)) (cwV 2 hC.1.2.2.2.2.1 gL_law_X9_feed rfl rfl rfl (by decide +kernel) ⟨Nat.le_of_ble_eq_true rfl, Nat.le_of_ble_eq_true rfl⟩) rfl hl.1 rfl (Nat.le_of_ble_eq_true rfl) dL_law_566 hf (fun H locs S G hS => ?_)
  exact lr_cmp hC ih (Nat.le_succ n) (feed_e hI (fdW (xs (6 * n + 1)) (xs (6 * n + 2))) (xs (6 * n + 3))) (by omega) G hS hl (by omega) (by omega) dL_law_569 (by decide)
