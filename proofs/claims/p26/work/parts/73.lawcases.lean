section LK
variable {p : Program} {l : Launch} {e : Env} {s : State} {m : MethodId} {below : List Frame} {meth : Method} {c : Code} {H : Heap} {locs : List Loc} {Q : State → Prop}
variable {b L qt qm : Nat} {xs : Nat → Int32} {ls : Array Slot} {E : Ev} {A : Nat → Prop}
set_option maxHeartbeats 4000000
set_option maxRecDepth 100000
theorem i_of {x y : Int32} (h : x.toInt = y.toInt) : x = y := Int32.toInt_inj.mp h
theorem lc_0 (C : LwC p s m c b L xs E A) (hS : va_S A s.heap H locs) (I : LwI E A qt qm H) {i : Int32} (hl : lv_has ls 4 (lwl b qt qm i)) (hi : 0 ≤ i.toInt ∧ i.toInt + 7 ≤ L)
    (K : ∀ (H : Heap) (locs : List Loc), va_S A s.heap H locs → LwI E A qt qm H → W p l e room_1 s m #[Value.ref b] below meth c H locs 600000 7302250 Q (F0 m 1456 ls [])) : W p l e room_1 s m #[Value.ref b] below meth c H locs 600000 7302250 Q (F0 m 200 ls []) := by
  have hx := C.1.1
  have hb := C.1.2.1
  have hw := C.2.2.2.2.2.2.2
  obtain ⟨X, vm, hR, I⟩ := I
  have hM := lwj_md I
  refine lv_aload_n hx hb dL_law_200 rfl (lv_at hl 1 rfl) ?_
  refine lw_arg (v := 1) C hS hl hi (by decide) (by decide) dL_law_201 dL_law_202 dL_law_203 dL_law_204 dL_law_205 ?_
  refine lw_tM (rest := []) C hS I (t_X9_feed l E qt (xs (i + 1).toNatClampNeg)) (cwV 1 (hw_X9_feed hw) gd_X9_feed rfl rfl rfl (by decide +kernel) ⟨(Nat.le_of_ble_eq_true rfl), (Nat.le_of_ble_eq_true rfl)⟩) rfl hl.1 rfl (Nat.le_of_ble_eq_true rfl) dL_law_206 ⟨(Nat.le_of_ble_eq_true rfl), (Nat.le_of_ble_eq_true rfl)⟩ (fun r206 X206 H locs h206 hS I => ?_)
  refine lv_pop hx hb dL_law_209 rfl ?_
  refine lv_aload_n hx hb dL_law_210 rfl (lv_at hl 2 rfl) ?_
  refine lw_arg (v := 1) C hS hl hi (by decide) (by decide) dL_law_211 dL_law_212 dL_law_213 dL_law_214 dL_law_215 ?_
  refine lw_mM (rest := []) C hS I (t_X10_feed l E qm (xs (i + 1).toNatClampNeg)) (cwV 1 (hw_X10_feed hw) gd_X10_feed rfl rfl rfl (by decide +kernel) ⟨(Nat.le_of_ble_eq_true rfl), (Nat.le_of_ble_eq_true rfl)⟩) rfl hl.1 rfl (Nat.le_of_ble_eq_true rfl) dL_law_216 ⟨(Nat.le_of_ble_eq_true rfl), (Nat.le_of_ble_eq_true rfl)⟩ (fun r216 vm216 H locs h216 hS I => ?_)
  refine lv_pop hx hb dL_law_219 rfl ?_
  exact lv_goto (tgt := 1456) hx hb dL_law_220 (by decide) (K H locs hS ⟨X206, vm216, (rl_feed h206 h216 hM (lwj_md I) hR), I⟩)
theorem lc_1 (C : LwC p s m c b L xs E A) (hS : va_S A s.heap H locs) (I : LwI E A qt qm H) {i : Int32} (hl : lv_has ls 4 (lwl b qt qm i)) (hi : 0 ≤ i.toInt ∧ i.toInt + 7 ≤ L)
    (K : ∀ (H : Heap) (locs : List Loc), va_S A s.heap H locs → LwI E A qt qm H → W p l e room_1 s m #[Value.ref b] below meth c H locs 600000 7302250 Q (F0 m 1456 ls [])) : W p l e room_1 s m #[Value.ref b] below meth c H locs 600000 7302250 Q (F0 m 223 ls []) := by
  have hx := C.1.1
  have hb := C.1.2.1
  have hw := C.2.2.2.2.2.2.2
  obtain ⟨X, vm, hR, I⟩ := I
  have hM := lwj_md I
  refine lv_aload_n hx hb dL_law_223 rfl (lv_at hl 1 rfl) ?_
  refine lw_tM (rest := []) C hS I (t_X9_ground l E qt (SI (gr0 vm)) z0_gr0) (cwV 0 (hw_X9_ground hw) gd_X9_ground rfl rfl rfl (by decide +kernel) ⟨(Nat.le_of_ble_eq_true rfl), (Nat.le_of_ble_eq_true rfl)⟩) rfl hl.1 rfl (Nat.le_of_ble_eq_true rfl) dL_law_224 ⟨(Nat.le_of_ble_eq_true rfl), (Nat.le_of_ble_eq_true rfl)⟩ (fun r224 X224 H locs h224 hS I => ?_)
  refine lv_pop hx hb dL_law_227 rfl ?_
  refine lv_aload_n hx hb dL_law_228 rfl (lv_at hl 2 rfl) ?_
  refine lw_mM (rest := []) C hS I (t_X10_ground l E qm ) (cwV 0 (hw_X10_ground hw) gd_X10_ground rfl rfl rfl (by decide +kernel) ⟨(Nat.le_of_ble_eq_true rfl), (Nat.le_of_ble_eq_true rfl)⟩) rfl hl.1 rfl (Nat.le_of_ble_eq_true rfl) dL_law_229 ⟨(Nat.le_of_ble_eq_true rfl), (Nat.le_of_ble_eq_true rfl)⟩ (fun r229 vm229 H locs h229 hS I => ?_)
  refine lv_pop hx hb dL_law_232 rfl ?_
  exact lv_goto (tgt := 1456) hx hb dL_law_233 (by decide) (K H locs hS ⟨X224, vm229, (rl_ground h224 h229 hM (lwj_md I) hR).2, I⟩)
theorem lc_2 (C : LwC p s m c b L xs E A) (hS : va_S A s.heap H locs) (I : LwI E A qt qm H) {i : Int32} (hl : lv_has ls 4 (lwl b qt qm i)) (hi : 0 ≤ i.toInt ∧ i.toInt + 7 ≤ L)
    (K : ∀ (H : Heap) (locs : List Loc), va_S A s.heap H locs → LwI E A qt qm H → W p l e room_1 s m #[Value.ref b] below meth c H locs 600000 7302250 Q (F0 m 1456 ls [])) : W p l e room_1 s m #[Value.ref b] below meth c H locs 600000 7302250 Q (F0 m 236 ls []) := by
  have hx := C.1.1
  have hb := C.1.2.1
  have hw := C.2.2.2.2.2.2.2
  obtain ⟨X, vm, hR, I⟩ := I
  have hM := lwj_md I
  refine lv_aload_n hx hb dL_law_236 rfl (lv_at hl 1 rfl) ?_
  refine lw_tR (rest := []) C hS I (t_X9_fault l E A qt ) (cwV 0 (hw_X9_fault hw) gd_X9_fault rfl rfl rfl (by decide +kernel) ⟨(Nat.le_of_ble_eq_true rfl), (Nat.le_of_ble_eq_true rfl)⟩) rfl hl.1 rfl (Nat.le_of_ble_eq_true rfl) dL_law_237 ⟨(Nat.le_of_ble_eq_true rfl), (Nat.le_of_ble_eq_true rfl)⟩ (fun r237 h237 => ?_)
  refine lv_pop hx hb dL_law_240 rfl ?_
  refine lv_aload_n hx hb dL_law_241 rfl (lv_at hl 2 rfl) ?_
  refine lw_mR (rest := []) C hS I (t_X10_fault l E A qm ) (cwV 0 (hw_X10_fault hw) gd_X10_fault rfl rfl rfl (by decide +kernel) ⟨(Nat.le_of_ble_eq_true rfl), (Nat.le_of_ble_eq_true rfl)⟩) rfl hl.1 rfl (Nat.le_of_ble_eq_true rfl) dL_law_242 ⟨(Nat.le_of_ble_eq_true rfl), (Nat.le_of_ble_eq_true rfl)⟩ (fun r242 h242 => ?_)
  refine lv_pop hx hb dL_law_245 rfl ?_
  exact lv_goto (tgt := 1456) hx hb dL_law_246 (by decide) (K H locs hS ⟨X, vm, (rl_k hM ⟨kp.rf, rfl⟩ ⟨kp.rf, fun _ _ => rfl⟩ hR), I⟩)
theorem lc_3 (C : LwC p s m c b L xs E A) (hS : va_S A s.heap H locs) (I : LwI E A qt qm H) {i : Int32} (hl : lv_has ls 4 (lwl b qt qm i)) (hi : 0 ≤ i.toInt ∧ i.toInt + 7 ≤ L)
    (K : ∀ (H : Heap) (locs : List Loc), va_S A s.heap H locs → LwI E A qt qm H → W p l e room_1 s m #[Value.ref b] below meth c H locs 600000 7302250 Q (F0 m 1456 ls [])) : W p l e room_1 s m #[Value.ref b] below meth c H locs 600000 7302250 Q (F0 m 249 ls []) := by
  have hx := C.1.1
  have hb := C.1.2.1
  have hw := C.2.2.2.2.2.2.2
  obtain ⟨X, vm, hR, I⟩ := I
  have hM := lwj_md I
  refine lv_aload_n hx hb dL_law_249 rfl (lv_at hl 1 rfl) ?_
  refine lw_arg (v := 1) C hS hl hi (by decide) (by decide) dL_law_250 dL_law_251 dL_law_252 dL_law_253 dL_law_254 ?_
  refine lw_tR (rest := []) C hS I (t_X9_told l E A qt (xs (i + 1).toNatClampNeg)) (cwV 1 (hw_X9_told hw) gd_X9_told rfl rfl rfl (by decide +kernel) ⟨(Nat.le_of_ble_eq_true rfl), (Nat.le_of_ble_eq_true rfl)⟩) rfl hl.1 rfl (Nat.le_of_ble_eq_true rfl) dL_law_255 ⟨(Nat.le_of_ble_eq_true rfl), (Nat.le_of_ble_eq_true rfl)⟩ (fun r255 h255 => ?_)
  refine lv_pop hx hb dL_law_258 rfl ?_
  refine lv_aload_n hx hb dL_law_259 rfl (lv_at hl 2 rfl) ?_
  refine lw_arg (v := 1) C hS hl hi (by decide) (by decide) dL_law_260 dL_law_261 dL_law_262 dL_law_263 dL_law_264 ?_
  refine lw_mR (rest := []) C hS I (t_X10_told l E A qm (xs (i + 1).toNatClampNeg)) (cwV 1 (hw_X10_told hw) gd_X10_told rfl rfl rfl (by decide +kernel) ⟨(Nat.le_of_ble_eq_true rfl), (Nat.le_of_ble_eq_true rfl)⟩) rfl hl.1 rfl (Nat.le_of_ble_eq_true rfl) dL_law_265 ⟨(Nat.le_of_ble_eq_true rfl), (Nat.le_of_ble_eq_true rfl)⟩ (fun r265 h265 => ?_)
  refine lv_pop hx hb dL_law_268 rfl ?_
  exact lv_goto (tgt := 1456) hx hb dL_law_269 (by decide) (K H locs hS ⟨X, vm, (rl_k hM ⟨kp.rf, rfl⟩ ⟨kp.rf, fun _ _ => rfl⟩ hR), I⟩)
theorem lc_4 (C : LwC p s m c b L xs E A) (hS : va_S A s.heap H locs) (I : LwI E A qt qm H) {i : Int32} (hl : lv_has ls 4 (lwl b qt qm i)) (hi : 0 ≤ i.toInt ∧ i.toInt + 7 ≤ L)
    (K : ∀ (H : Heap) (locs : List Loc), va_S A s.heap H locs → LwI E A qt qm H → W p l e room_1 s m #[Value.ref b] below meth c H locs 600000 7302250 Q (F0 m 1456 ls [])) : W p l e room_1 s m #[Value.ref b] below meth c H locs 600000 7302250 Q (F0 m 272 ls []) := by
  have hx := C.1.1
  have hb := C.1.2.1
  have hw := C.2.2.2.2.2.2.2
  obtain ⟨X, vm, hR, I⟩ := I
  have hM := lwj_md I
  refine lv_aload_n hx hb dL_law_272 rfl (lv_at hl 1 rfl) ?_
  refine lw_arg (v := 1) C hS hl hi (by decide) (by decide) dL_law_273 dL_law_274 dL_law_275 dL_law_276 dL_law_277 ?_
  refine lw_arg (v := 2) C hS hl hi (by decide) (by decide) dL_law_278 dL_law_279 dL_law_280 dL_law_281 dL_law_282 ?_
  refine lw_arg (v := 3) C hS hl hi (by decide) (by decide) dL_law_283 dL_law_284 dL_law_285 dL_law_286 dL_law_287 ?_
  refine lw_tR (rest := []) C hS I (t_X9_cell l E A qt (xs (i + 1).toNatClampNeg) (xs (i + 2).toNatClampNeg) (xs (i + 3).toNatClampNeg)) (cwV 3 (hw_X9_cell hw) gd_X9_cell rfl rfl rfl (by decide +kernel) ⟨(Nat.le_of_ble_eq_true rfl), (Nat.le_of_ble_eq_true rfl)⟩) rfl hl.1 rfl (Nat.le_of_ble_eq_true rfl) dL_law_288 ⟨(Nat.le_of_ble_eq_true rfl), (Nat.le_of_ble_eq_true rfl)⟩ (fun r288 h288 => ?_)
  refine lv_pop hx hb dL_law_291 rfl ?_
  refine lv_aload_n hx hb dL_law_292 rfl (lv_at hl 2 rfl) ?_
  refine lw_arg (v := 1) C hS hl hi (by decide) (by decide) dL_law_293 dL_law_294 dL_law_295 dL_law_296 dL_law_297 ?_
  refine lw_arg (v := 2) C hS hl hi (by decide) (by decide) dL_law_298 dL_law_299 dL_law_300 dL_law_301 dL_law_302 ?_
  refine lw_arg (v := 3) C hS hl hi (by decide) (by decide) dL_law_303 dL_law_304 dL_law_305 dL_law_306 dL_law_307 ?_
  refine lw_mR (rest := []) C hS I (t_X10_cell l E A qm (xs (i + 1).toNatClampNeg) (xs (i + 2).toNatClampNeg) (xs (i + 3).toNatClampNeg)) (cwV 3 (hw_X10_cell hw) gd_X10_cell rfl rfl rfl (by decide +kernel) ⟨(Nat.le_of_ble_eq_true rfl), (Nat.le_of_ble_eq_true rfl)⟩) rfl hl.1 rfl (Nat.le_of_ble_eq_true rfl) dL_law_308 ⟨(Nat.le_of_ble_eq_true rfl), (Nat.le_of_ble_eq_true rfl)⟩ (fun r308 h308 => ?_)
  refine lv_pop hx hb dL_law_311 rfl ?_
  exact lv_goto (tgt := 1456) hx hb dL_law_312 (by decide) (K H locs hS ⟨X, vm, (rl_k hM ⟨kp.rf, rfl⟩ ⟨kp.rf, fun _ _ => rfl⟩ hR), I⟩)
theorem lc_5 (C : LwC p s m c b L xs E A) (hS : va_S A s.heap H locs) (I : LwI E A qt qm H) {i : Int32} (hl : lv_has ls 4 (lwl b qt qm i)) (hi : 0 ≤ i.toInt ∧ i.toInt + 7 ≤ L)
    (K : ∀ (H : Heap) (locs : List Loc), va_S A s.heap H locs → LwI E A qt qm H → W p l e room_1 s m #[Value.ref b] below meth c H locs 600000 7302250 Q (F0 m 1456 ls [])) : W p l e room_1 s m #[Value.ref b] below meth c H locs 600000 7302250 Q (F0 m 315 ls []) := by
  have hx := C.1.1
  have hb := C.1.2.1
  have hw := C.2.2.2.2.2.2.2
  obtain ⟨X, vm, hR, I⟩ := I
  have hM := lwj_md I
  refine lv_aload_n hx hb dL_law_315 rfl (lv_at hl 1 rfl) ?_
  refine lw_arg (v := 1) C hS hl hi (by decide) (by decide) dL_law_316 dL_law_317 dL_law_318 dL_law_319 dL_law_320 ?_
  refine lw_arg (v := 2) C hS hl hi (by decide) (by decide) dL_law_321 dL_law_322 dL_law_323 dL_law_324 dL_law_325 ?_
  refine lw_arg (v := 3) C hS hl hi (by decide) (by decide) dL_law_326 dL_law_327 dL_law_328 dL_law_329 dL_law_330 ?_
  refine lw_tR (rest := []) C hS I (t_X9_height l E A qt (xs (i + 1).toNatClampNeg) (xs (i + 2).toNatClampNeg) (xs (i + 3).toNatClampNeg)) (cwV 3 (hw_X9_height hw) gd_X9_height rfl rfl rfl (by decide +kernel) ⟨(Nat.le_of_ble_eq_true rfl), (Nat.le_of_ble_eq_true rfl)⟩) rfl hl.1 rfl (Nat.le_of_ble_eq_true rfl) dL_law_331 ⟨(Nat.le_of_ble_eq_true rfl), (Nat.le_of_ble_eq_true rfl)⟩ (fun r331 h331 => ?_)
  refine lv_pop hx hb dL_law_334 rfl ?_
  refine lv_aload_n hx hb dL_law_335 rfl (lv_at hl 2 rfl) ?_
  refine lw_arg (v := 1) C hS hl hi (by decide) (by decide) dL_law_336 dL_law_337 dL_law_338 dL_law_339 dL_law_340 ?_
  refine lw_arg (v := 2) C hS hl hi (by decide) (by decide) dL_law_341 dL_law_342 dL_law_343 dL_law_344 dL_law_345 ?_
  refine lw_arg (v := 3) C hS hl hi (by decide) (by decide) dL_law_346 dL_law_347 dL_law_348 dL_law_349 dL_law_350 ?_
  refine lw_mR (rest := []) C hS I (t_X10_height l E A qm (xs (i + 1).toNatClampNeg) (xs (i + 2).toNatClampNeg) (xs (i + 3).toNatClampNeg)) (cwV 3 (hw_X10_height hw) gd_X10_height rfl rfl rfl (by decide +kernel) ⟨(Nat.le_of_ble_eq_true rfl), (Nat.le_of_ble_eq_true rfl)⟩) rfl hl.1 rfl (Nat.le_of_ble_eq_true rfl) dL_law_351 ⟨(Nat.le_of_ble_eq_true rfl), (Nat.le_of_ble_eq_true rfl)⟩ (fun r351 h351 => ?_)
  refine lv_pop hx hb dL_law_354 rfl ?_
  exact lv_goto (tgt := 1456) hx hb dL_law_355 (by decide) (K H locs hS ⟨X, vm, (rl_k hM ⟨kp.rf, rfl⟩ ⟨kp.rf, fun _ _ => rfl⟩ hR), I⟩)
theorem lc_6 (C : LwC p s m c b L xs E A) (hS : va_S A s.heap H locs) (I : LwI E A qt qm H) {i : Int32} (hl : lv_has ls 4 (lwl b qt qm i)) (hi : 0 ≤ i.toInt ∧ i.toInt + 7 ≤ L)
    (K : ∀ (H : Heap) (locs : List Loc), va_S A s.heap H locs → LwI E A qt qm H → W p l e room_1 s m #[Value.ref b] below meth c H locs 600000 7302250 Q (F0 m 1456 ls [])) : W p l e room_1 s m #[Value.ref b] below meth c H locs 600000 7302250 Q (F0 m 358 ls []) := by
  have hx := C.1.1
  have hb := C.1.2.1
  have hw := C.2.2.2.2.2.2.2
  obtain ⟨X, vm, hR, I⟩ := I
  have hM := lwj_md I
  refine lv_aload_n hx hb dL_law_358 rfl (lv_at hl 1 rfl) ?_
  refine lw_arg (v := 1) C hS hl hi (by decide) (by decide) dL_law_359 dL_law_360 dL_law_361 dL_law_362 dL_law_363 ?_
  refine lw_arg (v := 2) C hS hl hi (by decide) (by decide) dL_law_364 dL_law_365 dL_law_366 dL_law_367 dL_law_368 ?_
  refine lw_tR (rest := []) C hS I (t_X9_moon l E A qt (xs (i + 1).toNatClampNeg) (xs (i + 2).toNatClampNeg)) (cwV 2 (hw_X9_moon hw) gd_X9_moon rfl rfl rfl (by decide +kernel) ⟨(Nat.le_of_ble_eq_true rfl), (Nat.le_of_ble_eq_true rfl)⟩) rfl hl.1 rfl (Nat.le_of_ble_eq_true rfl) dL_law_369 ⟨(Nat.le_of_ble_eq_true rfl), (Nat.le_of_ble_eq_true rfl)⟩ (fun r369 h369 => ?_)
  refine lv_pop hx hb dL_law_372 rfl ?_
  refine lv_aload_n hx hb dL_law_373 rfl (lv_at hl 2 rfl) ?_
  refine lw_arg (v := 1) C hS hl hi (by decide) (by decide) dL_law_374 dL_law_375 dL_law_376 dL_law_377 dL_law_378 ?_
  refine lw_arg (v := 2) C hS hl hi (by decide) (by decide) dL_law_379 dL_law_380 dL_law_381 dL_law_382 dL_law_383 ?_
  refine lw_mR (rest := []) C hS I (t_X10_moon l E A qm (xs (i + 1).toNatClampNeg) (xs (i + 2).toNatClampNeg)) (cwV 2 (hw_X10_moon hw) gd_X10_moon rfl rfl rfl (by decide +kernel) ⟨(Nat.le_of_ble_eq_true rfl), (Nat.le_of_ble_eq_true rfl)⟩) rfl hl.1 rfl (Nat.le_of_ble_eq_true rfl) dL_law_384 ⟨(Nat.le_of_ble_eq_true rfl), (Nat.le_of_ble_eq_true rfl)⟩ (fun r384 h384 => ?_)
  refine lv_pop hx hb dL_law_387 rfl ?_
  exact lv_goto (tgt := 1456) hx hb dL_law_388 (by decide) (K H locs hS ⟨X, vm, (rl_k hM ⟨kp.rf, rfl⟩ ⟨kp.rf, fun _ _ => rfl⟩ hR), I⟩)
theorem lc_7 (C : LwC p s m c b L xs E A) (hS : va_S A s.heap H locs) (I : LwI E A qt qm H) {i : Int32} (hl : lv_has ls 4 (lwl b qt qm i)) (hi : 0 ≤ i.toInt ∧ i.toInt + 7 ≤ L)
    (K : ∀ (H : Heap) (locs : List Loc), va_S A s.heap H locs → LwI E A qt qm H → W p l e room_1 s m #[Value.ref b] below meth c H locs 600000 7302250 Q (F0 m 1456 ls [])) : W p l e room_1 s m #[Value.ref b] below meth c H locs 600000 7302250 Q (F0 m 391 ls []) := by
  have hx := C.1.1
  have hb := C.1.2.1
  have hw := C.2.2.2.2.2.2.2
  obtain ⟨X, vm, hR, I⟩ := I
  have hM := lwj_md I
  refine lv_aload_n hx hb dL_law_391 rfl (lv_at hl 1 rfl) ?_
  refine lw_arg (v := 1) C hS hl hi (by decide) (by decide) dL_law_392 dL_law_393 dL_law_394 dL_law_395 dL_law_396 ?_
  refine lw_arg (v := 2) C hS hl hi (by decide) (by decide) dL_law_397 dL_law_398 dL_law_399 dL_law_400 dL_law_401 ?_
  refine lw_tR (rest := []) C hS I (t_X9_house l E A qt (xs (i + 1).toNatClampNeg) (xs (i + 2).toNatClampNeg)) (cwV 2 (hw_X9_house hw) gd_X9_house rfl rfl rfl (by decide +kernel) ⟨(Nat.le_of_ble_eq_true rfl), (Nat.le_of_ble_eq_true rfl)⟩) rfl hl.1 rfl (Nat.le_of_ble_eq_true rfl) dL_law_402 ⟨(Nat.le_of_ble_eq_true rfl), (Nat.le_of_ble_eq_true rfl)⟩ (fun r402 h402 => ?_)
  refine lv_pop hx hb dL_law_405 rfl ?_
  refine lv_aload_n hx hb dL_law_406 rfl (lv_at hl 2 rfl) ?_
  refine lw_arg (v := 1) C hS hl hi (by decide) (by decide) dL_law_407 dL_law_408 dL_law_409 dL_law_410 dL_law_411 ?_
  refine lw_arg (v := 2) C hS hl hi (by decide) (by decide) dL_law_412 dL_law_413 dL_law_414 dL_law_415 dL_law_416 ?_
  refine lw_mR (rest := []) C hS I (t_X10_house l E A qm (xs (i + 1).toNatClampNeg) (xs (i + 2).toNatClampNeg)) (cwV 2 (hw_X10_house hw) gd_X10_house rfl rfl rfl (by decide +kernel) ⟨(Nat.le_of_ble_eq_true rfl), (Nat.le_of_ble_eq_true rfl)⟩) rfl hl.1 rfl (Nat.le_of_ble_eq_true rfl) dL_law_417 ⟨(Nat.le_of_ble_eq_true rfl), (Nat.le_of_ble_eq_true rfl)⟩ (fun r417 h417 => ?_)
  refine lv_pop hx hb dL_law_420 rfl ?_
  exact lv_goto (tgt := 1456) hx hb dL_law_421 (by decide) (K H locs hS ⟨X, vm, (rl_k hM ⟨kp.rf, rfl⟩ ⟨kp.rf, fun _ _ => rfl⟩ hR), I⟩)
theorem lc_8 (C : LwC p s m c b L xs E A) (hS : va_S A s.heap H locs) (I : LwI E A qt qm H) {i : Int32} (hl : lv_has ls 4 (lwl b qt qm i)) (hi : 0 ≤ i.toInt ∧ i.toInt + 7 ≤ L)
    (K : ∀ (H : Heap) (locs : List Loc), va_S A s.heap H locs → LwI E A qt qm H → W p l e room_1 s m #[Value.ref b] below meth c H locs 600000 7302250 Q (F0 m 1456 ls [])) : W p l e room_1 s m #[Value.ref b] below meth c H locs 600000 7302250 Q (F0 m 424 ls []) := by
  have hx := C.1.1
  have hb := C.1.2.1
  have hw := C.2.2.2.2.2.2.2
  obtain ⟨X, vm, hR, I⟩ := I
  have hM := lwj_md I
  refine lv_aload_n hx hb dL_law_424 rfl (lv_at hl 1 rfl) ?_
  refine lw_arg (v := 1) C hS hl hi (by decide) (by decide) dL_law_425 dL_law_426 dL_law_427 dL_law_428 dL_law_429 ?_
  refine lw_arg (v := 2) C hS hl hi (by decide) (by decide) dL_law_430 dL_law_431 dL_law_432 dL_law_433 dL_law_434 ?_
  refine lw_tR (rest := []) C hS I (t_X9_crack l E A qt (xs (i + 1).toNatClampNeg) (xs (i + 2).toNatClampNeg)) (cwV 2 (hw_X9_crack hw) gd_X9_crack rfl rfl rfl (by decide +kernel) ⟨(Nat.le_of_ble_eq_true rfl), (Nat.le_of_ble_eq_true rfl)⟩) rfl hl.1 rfl (Nat.le_of_ble_eq_true rfl) dL_law_435 ⟨(Nat.le_of_ble_eq_true rfl), (Nat.le_of_ble_eq_true rfl)⟩ (fun r435 h435 => ?_)
  refine lv_pop hx hb dL_law_438 rfl ?_
  refine lv_aload_n hx hb dL_law_439 rfl (lv_at hl 2 rfl) ?_
  refine lw_arg (v := 1) C hS hl hi (by decide) (by decide) dL_law_440 dL_law_441 dL_law_442 dL_law_443 dL_law_444 ?_
  refine lw_arg (v := 2) C hS hl hi (by decide) (by decide) dL_law_445 dL_law_446 dL_law_447 dL_law_448 dL_law_449 ?_
  refine lw_mR (rest := []) C hS I (t_X10_crack l E A qm (xs (i + 1).toNatClampNeg) (xs (i + 2).toNatClampNeg)) (cwV 2 (hw_X10_crack hw) gd_X10_crack rfl rfl rfl (by decide +kernel) ⟨(Nat.le_of_ble_eq_true rfl), (Nat.le_of_ble_eq_true rfl)⟩) rfl hl.1 rfl (Nat.le_of_ble_eq_true rfl) dL_law_450 ⟨(Nat.le_of_ble_eq_true rfl), (Nat.le_of_ble_eq_true rfl)⟩ (fun r450 h450 => ?_)
  refine lv_pop hx hb dL_law_453 rfl ?_
  exact lv_goto (tgt := 1456) hx hb dL_law_454 (by decide) (K H locs hS ⟨X, vm, (rl_k hM ⟨kp.rf, rfl⟩ ⟨kp.rf, fun _ _ => rfl⟩ hR), I⟩)
theorem lc_9 (C : LwC p s m c b L xs E A) (hS : va_S A s.heap H locs) (I : LwI E A qt qm H) {i : Int32} (hl : lv_has ls 4 (lwl b qt qm i)) (hi : 0 ≤ i.toInt ∧ i.toInt + 7 ≤ L)
    (K : ∀ (H : Heap) (locs : List Loc), va_S A s.heap H locs → LwI E A qt qm H → W p l e room_1 s m #[Value.ref b] below meth c H locs 600000 7302250 Q (F0 m 1456 ls [])) : W p l e room_1 s m #[Value.ref b] below meth c H locs 600000 7302250 Q (F0 m 457 ls []) := by
  have hx := C.1.1
  have hb := C.1.2.1
  have hw := C.2.2.2.2.2.2.2
  obtain ⟨X, vm, hR, I⟩ := I
  have hM := lwj_md I
  refine lv_aload_n hx hb dL_law_457 rfl (lv_at hl 1 rfl) ?_
  refine lw_arg (v := 1) C hS hl hi (by decide) (by decide) dL_law_458 dL_law_459 dL_law_460 dL_law_461 dL_law_462 ?_
  refine lw_tM (rest := []) C hS I (t_X9_pass l E qt (xs (i + 1).toNatClampNeg)) (cwV 1 (hw_X9_pass hw) gd_X9_pass rfl rfl rfl (by decide +kernel) ⟨(Nat.le_of_ble_eq_true rfl), (Nat.le_of_ble_eq_true rfl)⟩) rfl hl.1 rfl (Nat.le_of_ble_eq_true rfl) dL_law_463 ⟨(Nat.le_of_ble_eq_true rfl), (Nat.le_of_ble_eq_true rfl)⟩ (fun r463 X463 H locs h463 hS I => ?_)
  refine lv_pop hx hb dL_law_466 rfl ?_
  refine lv_aload_n hx hb dL_law_467 rfl (lv_at hl 2 rfl) ?_
  refine lw_arg (v := 1) C hS hl hi (by decide) (by decide) dL_law_468 dL_law_469 dL_law_470 dL_law_471 dL_law_472 ?_
  refine lw_mM (rest := []) C hS I (t_X10_pass l E qm (xs (i + 1).toNatClampNeg)) (cwV 1 (hw_X10_pass hw) gd_X10_pass rfl rfl rfl (by decide +kernel) ⟨(Nat.le_of_ble_eq_true rfl), (Nat.le_of_ble_eq_true rfl)⟩) rfl hl.1 rfl (Nat.le_of_ble_eq_true rfl) dL_law_473 ⟨(Nat.le_of_ble_eq_true rfl), (Nat.le_of_ble_eq_true rfl)⟩ (fun r473 vm473 H locs h473 hS I => ?_)
  refine lv_pop hx hb dL_law_476 rfl ?_
  exact lv_goto (tgt := 1456) hx hb dL_law_477 (by decide) (K H locs hS ⟨X463, vm473, (rl_pass h463 h473 hM (lwj_md I) hR).2, I⟩)
theorem lc_10 (C : LwC p s m c b L xs E A) (hS : va_S A s.heap H locs) (I : LwI E A qt qm H) {i : Int32} (hl : lv_has ls 4 (lwl b qt qm i)) (hi : 0 ≤ i.toInt ∧ i.toInt + 7 ≤ L)
    (K : ∀ (H : Heap) (locs : List Loc), va_S A s.heap H locs → LwI E A qt qm H → W p l e room_1 s m #[Value.ref b] below meth c H locs 600000 7302250 Q (F0 m 1456 ls [])) : W p l e room_1 s m #[Value.ref b] below meth c H locs 600000 7302250 Q (F0 m 480 ls []) := by
  have hx := C.1.1
  have hb := C.1.2.1
  have hw := C.2.2.2.2.2.2.2
  obtain ⟨X, vm, hR, I⟩ := I
  have hM := lwj_md I
  refine lv_aload_n hx hb dL_law_480 rfl (lv_at hl 1 rfl) ?_
  refine lw_arg (v := 1) C hS hl hi (by decide) (by decide) dL_law_481 dL_law_482 dL_law_483 dL_law_484 dL_law_485 ?_
  refine lw_tM (rest := []) C hS I (t_X9_roll l E qt (xs (i + 1).toNatClampNeg)) (cwV 1 (hw_X9_roll hw) gd_X9_roll rfl rfl rfl (by decide +kernel) ⟨(Nat.le_of_ble_eq_true rfl), (Nat.le_of_ble_eq_true rfl)⟩) rfl hl.1 rfl (Nat.le_of_ble_eq_true rfl) dL_law_486 ⟨(Nat.le_of_ble_eq_true rfl), (Nat.le_of_ble_eq_true rfl)⟩ (fun r486 X486 H locs h486 hS I => ?_)
  refine lv_pop hx hb dL_law_489 rfl ?_
  refine lv_aload_n hx hb dL_law_490 rfl (lv_at hl 2 rfl) ?_
  refine lw_arg (v := 1) C hS hl hi (by decide) (by decide) dL_law_491 dL_law_492 dL_law_493 dL_law_494 dL_law_495 ?_
  refine lw_mM (rest := []) C hS I (t_X10_roll l E qm (xs (i + 1).toNatClampNeg)) (cwV 1 (hw_X10_roll hw) gd_X10_roll rfl rfl rfl (by decide +kernel) ⟨(Nat.le_of_ble_eq_true rfl), (Nat.le_of_ble_eq_true rfl)⟩) rfl hl.1 rfl (Nat.le_of_ble_eq_true rfl) dL_law_496 ⟨(Nat.le_of_ble_eq_true rfl), (Nat.le_of_ble_eq_true rfl)⟩ (fun r496 vm496 H locs h496 hS I => ?_)
  refine lv_pop hx hb dL_law_499 rfl ?_
  exact lv_goto (tgt := 1456) hx hb dL_law_500 (by decide) (K H locs hS ⟨X486, vm496, (rl_roll h486 h496 hM (lwj_md I) hR).2, I⟩)
theorem lc_11 (C : LwC p s m c b L xs E A) (hS : va_S A s.heap H locs) (I : LwI E A qt qm H) {i : Int32} (hl : lv_has ls 4 (lwl b qt qm i)) (hi : 0 ≤ i.toInt ∧ i.toInt + 7 ≤ L)
    (K : ∀ (H : Heap) (locs : List Loc), va_S A s.heap H locs → LwI E A qt qm H → W p l e room_1 s m #[Value.ref b] below meth c H locs 600000 7302250 Q (F0 m 1456 ls [])) : W p l e room_1 s m #[Value.ref b] below meth c H locs 600000 7302250 Q (F0 m 503 ls []) := by
  have hx := C.1.1
  have hb := C.1.2.1
  have hw := C.2.2.2.2.2.2.2
  obtain ⟨X, vm, hR, I⟩ := I
  have hM := lwj_md I
  refine lv_aload_n hx hb dL_law_503 rfl (lv_at hl 1 rfl) ?_
  refine lw_arg (v := 1) C hS hl hi (by decide) (by decide) dL_law_504 dL_law_505 dL_law_506 dL_law_507 dL_law_508 ?_
  refine lw_tM (rest := []) C hS I (t_X9_steep l E qt (xs (i + 1).toNatClampNeg)) (cwV 1 (hw_X9_steep hw) gd_X9_steep rfl rfl rfl (by decide +kernel) ⟨(Nat.le_of_ble_eq_true rfl), (Nat.le_of_ble_eq_true rfl)⟩) rfl hl.1 rfl (Nat.le_of_ble_eq_true rfl) dL_law_509 ⟨(Nat.le_of_ble_eq_true rfl), (Nat.le_of_ble_eq_true rfl)⟩ (fun r509 X509 H locs h509 hS I => ?_)
  refine lv_pop hx hb dL_law_512 rfl ?_
  refine lv_aload_n hx hb dL_law_513 rfl (lv_at hl 2 rfl) ?_
  refine lw_arg (v := 1) C hS hl hi (by decide) (by decide) dL_law_514 dL_law_515 dL_law_516 dL_law_517 dL_law_518 ?_
  refine lw_mM (rest := []) C hS I (t_X10_steep l E qm (xs (i + 1).toNatClampNeg)) (cwV 1 (hw_X10_steep hw) gd_X10_steep rfl rfl rfl (by decide +kernel) ⟨(Nat.le_of_ble_eq_true rfl), (Nat.le_of_ble_eq_true rfl)⟩) rfl hl.1 rfl (Nat.le_of_ble_eq_true rfl) dL_law_519 ⟨(Nat.le_of_ble_eq_true rfl), (Nat.le_of_ble_eq_true rfl)⟩ (fun r519 vm519 H locs h519 hS I => ?_)
  refine lv_pop hx hb dL_law_522 rfl ?_
  exact lv_goto (tgt := 1456) hx hb dL_law_523 (by decide) (K H locs hS ⟨X509, vm519, (rl_steep h509 h519 hM (lwj_md I) hR).2, I⟩)
theorem lc_12 (C : LwC p s m c b L xs E A) (hS : va_S A s.heap H locs) (I : LwI E A qt qm H) {i : Int32} (hl : lv_has ls 4 (lwl b qt qm i)) (hi : 0 ≤ i.toInt ∧ i.toInt + 7 ≤ L)
    (K : ∀ (H : Heap) (locs : List Loc), va_S A s.heap H locs → LwI E A qt qm H → W p l e room_1 s m #[Value.ref b] below meth c H locs 600000 7302250 Q (F0 m 1456 ls [])) : W p l e room_1 s m #[Value.ref b] below meth c H locs 600000 7302250 Q (F0 m 526 ls []) := by
  have hx := C.1.1
  have hb := C.1.2.1
  have hw := C.2.2.2.2.2.2.2
  obtain ⟨X, vm, hR, I⟩ := I
  have hM := lwj_md I
  refine lv_aload_n hx hb dL_law_526 rfl (lv_at hl 1 rfl) ?_
  refine lw_arg (v := 1) C hS hl hi (by decide) (by decide) dL_law_527 dL_law_528 dL_law_529 dL_law_530 dL_law_531 ?_
  refine lw_arg (v := 2) C hS hl hi (by decide) (by decide) dL_law_532 dL_law_533 dL_law_534 dL_law_535 dL_law_536 ?_
  refine lw_arg (v := 3) C hS hl hi (by decide) (by decide) dL_law_537 dL_law_538 dL_law_539 dL_law_540 dL_law_541 ?_
  refine lw_tM (rest := []) C hS I (t_X9_load l E qt (xs (i + 1).toNatClampNeg) (xs (i + 2).toNatClampNeg) (xs (i + 3).toNatClampNeg)) (cwV 3 (hw_X9_load hw) gd_X9_load rfl rfl rfl (by decide +kernel) ⟨(Nat.le_of_ble_eq_true rfl), (Nat.le_of_ble_eq_true rfl)⟩) rfl hl.1 rfl (Nat.le_of_ble_eq_true rfl) dL_law_542 ⟨(Nat.le_of_ble_eq_true rfl), (Nat.le_of_ble_eq_true rfl)⟩ (fun r542 X542 H locs h542 hS I => ?_)
  refine lv_pop hx hb dL_law_545 rfl ?_
  refine lv_aload_n hx hb dL_law_546 rfl (lv_at hl 2 rfl) ?_
  refine lw_arg (v := 1) C hS hl hi (by decide) (by decide) dL_law_547 dL_law_548 dL_law_549 dL_law_550 dL_law_551 ?_
  refine lw_arg (v := 2) C hS hl hi (by decide) (by decide) dL_law_552 dL_law_553 dL_law_554 dL_law_555 dL_law_556 ?_
  refine lw_arg (v := 3) C hS hl hi (by decide) (by decide) dL_law_557 dL_law_558 dL_law_559 dL_law_560 dL_law_561 ?_
  refine lw_mM (rest := []) C hS I (t_X10_load l E qm (xs (i + 1).toNatClampNeg) (xs (i + 2).toNatClampNeg) (xs (i + 3).toNatClampNeg)) (cwV 3 (hw_X10_load hw) gd_X10_load rfl rfl rfl (by decide +kernel) ⟨(Nat.le_of_ble_eq_true rfl), (Nat.le_of_ble_eq_true rfl)⟩) rfl hl.1 rfl (Nat.le_of_ble_eq_true rfl) dL_law_562 ⟨(Nat.le_of_ble_eq_true rfl), (Nat.le_of_ble_eq_true rfl)⟩ (fun r562 vm562 H locs h562 hS I => ?_)
  refine lv_pop hx hb dL_law_565 rfl ?_
  exact lv_goto (tgt := 1456) hx hb dL_law_566 (by decide) (K H locs hS ⟨X542, vm562, (rl_load h542 h562 hM (lwj_md I) hR).2, I⟩)
theorem lc_13 (C : LwC p s m c b L xs E A) (hS : va_S A s.heap H locs) (I : LwI E A qt qm H) {i : Int32} (hl : lv_has ls 4 (lwl b qt qm i)) (hi : 0 ≤ i.toInt ∧ i.toInt + 7 ≤ L)
    (K : ∀ (H : Heap) (locs : List Loc), va_S A s.heap H locs → LwI E A qt qm H → W p l e room_1 s m #[Value.ref b] below meth c H locs 600000 7302250 Q (F0 m 1456 ls [])) : W p l e room_1 s m #[Value.ref b] below meth c H locs 600000 7302250 Q (F0 m 569 ls []) := by
  have hx := C.1.1
  have hb := C.1.2.1
  have hw := C.2.2.2.2.2.2.2
  obtain ⟨X, vm, hR, I⟩ := I
  have hM := lwj_md I
  refine lv_aload_n hx hb dL_law_569 rfl (lv_at hl 1 rfl) ?_
  refine lw_arg (v := 1) C hS hl hi (by decide) (by decide) dL_law_570 dL_law_571 dL_law_572 dL_law_573 dL_law_574 ?_
  refine lw_arg (v := 2) C hS hl hi (by decide) (by decide) dL_law_575 dL_law_576 dL_law_577 dL_law_578 dL_law_579 ?_
  refine lw_tM (rest := []) C hS I (t_X9_prop l E qt (xs (i + 1).toNatClampNeg) (xs (i + 2).toNatClampNeg)) (cwV 2 (hw_X9_prop hw) gd_X9_prop rfl rfl rfl (by decide +kernel) ⟨(Nat.le_of_ble_eq_true rfl), (Nat.le_of_ble_eq_true rfl)⟩) rfl hl.1 rfl (Nat.le_of_ble_eq_true rfl) dL_law_580 ⟨(Nat.le_of_ble_eq_true rfl), (Nat.le_of_ble_eq_true rfl)⟩ (fun r580 X580 H locs h580 hS I => ?_)
  refine lv_pop hx hb dL_law_583 rfl ?_
  refine lv_aload_n hx hb dL_law_584 rfl (lv_at hl 2 rfl) ?_
  refine lw_arg (v := 1) C hS hl hi (by decide) (by decide) dL_law_585 dL_law_586 dL_law_587 dL_law_588 dL_law_589 ?_
  refine lw_arg (v := 2) C hS hl hi (by decide) (by decide) dL_law_590 dL_law_591 dL_law_592 dL_law_593 dL_law_594 ?_
  refine lw_mM (rest := []) C hS I (t_X10_prop l E qm (xs (i + 1).toNatClampNeg) (xs (i + 2).toNatClampNeg)) (cwV 2 (hw_X10_prop hw) gd_X10_prop rfl rfl rfl (by decide +kernel) ⟨(Nat.le_of_ble_eq_true rfl), (Nat.le_of_ble_eq_true rfl)⟩) rfl hl.1 rfl (Nat.le_of_ble_eq_true rfl) dL_law_595 ⟨(Nat.le_of_ble_eq_true rfl), (Nat.le_of_ble_eq_true rfl)⟩ (fun r595 vm595 H locs h595 hS I => ?_)
  refine lv_pop hx hb dL_law_598 rfl ?_
  exact lv_goto (tgt := 1456) hx hb dL_law_599 (by decide) (K H locs hS ⟨X580, vm595, (rl_prop h580 h595 hM (lwj_md I) hR).2, I⟩)
theorem lc_14 (C : LwC p s m c b L xs E A) (hS : va_S A s.heap H locs) (I : LwI E A qt qm H) {i : Int32} (hl : lv_has ls 4 (lwl b qt qm i)) (hi : 0 ≤ i.toInt ∧ i.toInt + 7 ≤ L)
    (K : ∀ (H : Heap) (locs : List Loc), va_S A s.heap H locs → LwI E A qt qm H → W p l e room_1 s m #[Value.ref b] below meth c H locs 600000 7302250 Q (F0 m 1456 ls [])) : W p l e room_1 s m #[Value.ref b] below meth c H locs 600000 7302250 Q (F0 m 602 ls []) := by
  have hx := C.1.1
  have hb := C.1.2.1
  have hw := C.2.2.2.2.2.2.2
  obtain ⟨X, vm, hR, I⟩ := I
  have hM := lwj_md I
  refine lv_aload_n hx hb dL_law_602 rfl (lv_at hl 1 rfl) ?_
  refine lw_arg (v := 1) C hS hl hi (by decide) (by decide) dL_law_603 dL_law_604 dL_law_605 dL_law_606 dL_law_607 ?_
  refine lw_arg (v := 2) C hS hl hi (by decide) (by decide) dL_law_608 dL_law_609 dL_law_610 dL_law_611 dL_law_612 ?_
  refine lw_tM (rest := []) C hS I (t_X9_shift l E qt (xs (i + 1).toNatClampNeg) (xs (i + 2).toNatClampNeg)) (cwV 2 (hw_X9_shift hw) gd_X9_shift rfl rfl rfl (by decide +kernel) ⟨(Nat.le_of_ble_eq_true rfl), (Nat.le_of_ble_eq_true rfl)⟩) rfl hl.1 rfl (Nat.le_of_ble_eq_true rfl) dL_law_613 ⟨(Nat.le_of_ble_eq_true rfl), (Nat.le_of_ble_eq_true rfl)⟩ (fun r613 X613 H locs h613 hS I => ?_)
  refine lv_pop hx hb dL_law_616 rfl ?_
  refine lv_aload_n hx hb dL_law_617 rfl (lv_at hl 2 rfl) ?_
  refine lw_arg (v := 1) C hS hl hi (by decide) (by decide) dL_law_618 dL_law_619 dL_law_620 dL_law_621 dL_law_622 ?_
  refine lw_arg (v := 2) C hS hl hi (by decide) (by decide) dL_law_623 dL_law_624 dL_law_625 dL_law_626 dL_law_627 ?_
  refine lw_mM (rest := []) C hS I (t_X10_shift l E qm (xs (i + 1).toNatClampNeg) (xs (i + 2).toNatClampNeg)) (cwV 2 (hw_X10_shift hw) gd_X10_shift rfl rfl rfl (by decide +kernel) ⟨(Nat.le_of_ble_eq_true rfl), (Nat.le_of_ble_eq_true rfl)⟩) rfl hl.1 rfl (Nat.le_of_ble_eq_true rfl) dL_law_628 ⟨(Nat.le_of_ble_eq_true rfl), (Nat.le_of_ble_eq_true rfl)⟩ (fun r628 vm628 H locs h628 hS I => ?_)
  refine lv_pop hx hb dL_law_631 rfl ?_
  exact lv_goto (tgt := 1456) hx hb dL_law_632 (by decide) (K H locs hS ⟨X613, vm628, (rl_shift h613 h628 hM (lwj_md I) hR).2, I⟩)
theorem lc_15 (C : LwC p s m c b L xs E A) (hS : va_S A s.heap H locs) (I : LwI E A qt qm H) {i : Int32} (hl : lv_has ls 4 (lwl b qt qm i)) (hi : 0 ≤ i.toInt ∧ i.toInt + 7 ≤ L)
    (K : ∀ (H : Heap) (locs : List Loc), va_S A s.heap H locs → LwI E A qt qm H → W p l e room_1 s m #[Value.ref b] below meth c H locs 600000 7302250 Q (F0 m 1456 ls [])) : W p l e room_1 s m #[Value.ref b] below meth c H locs 600000 7302250 Q (F0 m 635 ls []) := by
  have hx := C.1.1
  have hb := C.1.2.1
  have hw := C.2.2.2.2.2.2.2
  obtain ⟨X, vm, hR, I⟩ := I
  have hM := lwj_md I
  refine lv_aload_n hx hb dL_law_635 rfl (lv_at hl 1 rfl) ?_
  refine lw_arg (v := 1) C hS hl hi (by decide) (by decide) dL_law_636 dL_law_637 dL_law_638 dL_law_639 dL_law_640 ?_
  refine lw_tM (rest := []) C hS I (t_X9_drift l E qt (xs (i + 1).toNatClampNeg)) (cwV 1 (hw_X9_drift hw) gd_X9_drift rfl rfl rfl (by decide +kernel) ⟨(Nat.le_of_ble_eq_true rfl), (Nat.le_of_ble_eq_true rfl)⟩) rfl hl.1 rfl (Nat.le_of_ble_eq_true rfl) dL_law_641 ⟨(Nat.le_of_ble_eq_true rfl), (Nat.le_of_ble_eq_true rfl)⟩ (fun r641 X641 H locs h641 hS I => ?_)
  refine lv_pop hx hb dL_law_644 rfl ?_
  refine lv_aload_n hx hb dL_law_645 rfl (lv_at hl 2 rfl) ?_
  refine lw_arg (v := 1) C hS hl hi (by decide) (by decide) dL_law_646 dL_law_647 dL_law_648 dL_law_649 dL_law_650 ?_
  refine lw_mM (rest := []) C hS I (t_X10_drift l E qm (xs (i + 1).toNatClampNeg)) (cwV 1 (hw_X10_drift hw) gd_X10_drift rfl rfl rfl (by decide +kernel) ⟨(Nat.le_of_ble_eq_true rfl), (Nat.le_of_ble_eq_true rfl)⟩) rfl hl.1 rfl (Nat.le_of_ble_eq_true rfl) dL_law_651 ⟨(Nat.le_of_ble_eq_true rfl), (Nat.le_of_ble_eq_true rfl)⟩ (fun r651 vm651 H locs h651 hS I => ?_)
  refine lv_pop hx hb dL_law_654 rfl ?_
  exact lv_goto (tgt := 1456) hx hb dL_law_655 (by decide) (K H locs hS ⟨X641, vm651, (rl_drift h641 h651 hM (lwj_md I) hR).2, I⟩)
theorem lc_16 (C : LwC p s m c b L xs E A) (hS : va_S A s.heap H locs) (I : LwI E A qt qm H) {i : Int32} (hl : lv_has ls 4 (lwl b qt qm i)) (hi : 0 ≤ i.toInt ∧ i.toInt + 7 ≤ L)
    (K : ∀ (H : Heap) (locs : List Loc), va_S A s.heap H locs → LwI E A qt qm H → W p l e room_1 s m #[Value.ref b] below meth c H locs 600000 7302250 Q (F0 m 1456 ls [])) : W p l e room_1 s m #[Value.ref b] below meth c H locs 600000 7302250 Q (F0 m 658 ls []) := by
  have hx := C.1.1
  have hb := C.1.2.1
  have hw := C.2.2.2.2.2.2.2
  obtain ⟨X, vm, hR, I⟩ := I
  have hM := lwj_md I
  refine lv_aload_n hx hb dL_law_658 rfl (lv_at hl 1 rfl) ?_
  refine lw_arg (v := 1) C hS hl hi (by decide) (by decide) dL_law_659 dL_law_660 dL_law_661 dL_law_662 dL_law_663 ?_
  refine lw_arg (v := 2) C hS hl hi (by decide) (by decide) dL_law_664 dL_law_665 dL_law_666 dL_law_667 dL_law_668 ?_
  refine lw_arg (v := 3) C hS hl hi (by decide) (by decide) dL_law_669 dL_law_670 dL_law_671 dL_law_672 dL_law_673 ?_
  refine lw_tR (rest := []) C hS I (t_X9_level l E A qt (xs (i + 1).toNatClampNeg) (xs (i + 2).toNatClampNeg) (xs (i + 3).toNatClampNeg)) (cwV 3 (hw_X9_level hw) gd_X9_level rfl rfl rfl (by decide +kernel) ⟨(Nat.le_of_ble_eq_true rfl), (Nat.le_of_ble_eq_true rfl)⟩) rfl hl.1 rfl (Nat.le_of_ble_eq_true rfl) dL_law_674 ⟨(Nat.le_of_ble_eq_true rfl), (Nat.le_of_ble_eq_true rfl)⟩ (fun r674 h674 => ?_)
  refine lv_pop hx hb dL_law_677 rfl ?_
  refine lv_aload_n hx hb dL_law_678 rfl (lv_at hl 2 rfl) ?_
  refine lw_arg (v := 1) C hS hl hi (by decide) (by decide) dL_law_679 dL_law_680 dL_law_681 dL_law_682 dL_law_683 ?_
  refine lw_arg (v := 2) C hS hl hi (by decide) (by decide) dL_law_684 dL_law_685 dL_law_686 dL_law_687 dL_law_688 ?_
  refine lw_arg (v := 3) C hS hl hi (by decide) (by decide) dL_law_689 dL_law_690 dL_law_691 dL_law_692 dL_law_693 ?_
  refine lw_mR (rest := []) C hS I (t_X10_level l E A qm (xs (i + 1).toNatClampNeg) (xs (i + 2).toNatClampNeg) (xs (i + 3).toNatClampNeg)) (cwV 3 (hw_X10_level hw) gd_X10_level rfl rfl rfl (by decide +kernel) ⟨(Nat.le_of_ble_eq_true rfl), (Nat.le_of_ble_eq_true rfl)⟩) rfl hl.1 rfl (Nat.le_of_ble_eq_true rfl) dL_law_694 ⟨(Nat.le_of_ble_eq_true rfl), (Nat.le_of_ble_eq_true rfl)⟩ (fun r694 h694 => ?_)
  refine lv_pop hx hb dL_law_697 rfl ?_
  exact lv_goto (tgt := 1456) hx hb dL_law_698 (by decide) (K H locs hS ⟨X, vm, (rl_k hM ⟨kp.rf, rfl⟩ ⟨kp.rf, fun _ _ => rfl⟩ hR), I⟩)
theorem lc_17 (C : LwC p s m c b L xs E A) (hS : va_S A s.heap H locs) (I : LwI E A qt qm H) {i : Int32} (hl : lv_has ls 4 (lwl b qt qm i)) (hi : 0 ≤ i.toInt ∧ i.toInt + 7 ≤ L)
    (K : ∀ (H : Heap) (locs : List Loc), va_S A s.heap H locs → LwI E A qt qm H → W p l e room_1 s m #[Value.ref b] below meth c H locs 600000 7302250 Q (F0 m 1456 ls [])) : W p l e room_1 s m #[Value.ref b] below meth c H locs 600000 7302250 Q (F0 m 701 ls []) := by
  have hx := C.1.1
  have hb := C.1.2.1
  have hw := C.2.2.2.2.2.2.2
  obtain ⟨X, vm, hR, I⟩ := I
  have hM := lwj_md I
  refine lv_aload_n hx hb dL_law_701 rfl (lv_at hl 1 rfl) ?_
  refine lw_arg (v := 1) C hS hl hi (by decide) (by decide) dL_law_702 dL_law_703 dL_law_704 dL_law_705 dL_law_706 ?_
  refine lw_tR (rest := []) C hS I (t_X9_aslant l E A qt (xs (i + 1).toNatClampNeg)) (cwV 1 (hw_X9_aslant hw) gd_X9_aslant rfl rfl rfl (by decide +kernel) ⟨(Nat.le_of_ble_eq_true rfl), (Nat.le_of_ble_eq_true rfl)⟩) rfl hl.1 rfl (Nat.le_of_ble_eq_true rfl) dL_law_707 ⟨(Nat.le_of_ble_eq_true rfl), (Nat.le_of_ble_eq_true rfl)⟩ (fun r707 h707 => ?_)
  refine lv_pop hx hb dL_law_710 rfl ?_
  refine lv_aload_n hx hb dL_law_711 rfl (lv_at hl 2 rfl) ?_
  refine lw_arg (v := 1) C hS hl hi (by decide) (by decide) dL_law_712 dL_law_713 dL_law_714 dL_law_715 dL_law_716 ?_
  refine lw_mR (rest := []) C hS I (t_X10_aslant l E A qm (xs (i + 1).toNatClampNeg)) (cwV 1 (hw_X10_aslant hw) gd_X10_aslant rfl rfl rfl (by decide +kernel) ⟨(Nat.le_of_ble_eq_true rfl), (Nat.le_of_ble_eq_true rfl)⟩) rfl hl.1 rfl (Nat.le_of_ble_eq_true rfl) dL_law_717 ⟨(Nat.le_of_ble_eq_true rfl), (Nat.le_of_ble_eq_true rfl)⟩ (fun r717 h717 => ?_)
  refine lv_pop hx hb dL_law_720 rfl ?_
  exact lv_goto (tgt := 1456) hx hb dL_law_721 (by decide) (K H locs hS ⟨X, vm, (rl_k hM ⟨kp.rf, rfl⟩ ⟨kp.rf, fun _ _ => rfl⟩ hR), I⟩)
theorem lc_18 (C : LwC p s m c b L xs E A) (hS : va_S A s.heap H locs) (I : LwI E A qt qm H) {i : Int32} (hl : lv_has ls 4 (lwl b qt qm i)) (hi : 0 ≤ i.toInt ∧ i.toInt + 7 ≤ L)
    (K : ∀ (H : Heap) (locs : List Loc), va_S A s.heap H locs → LwI E A qt qm H → W p l e room_1 s m #[Value.ref b] below meth c H locs 600000 7302250 Q (F0 m 1456 ls [])) : W p l e room_1 s m #[Value.ref b] below meth c H locs 600000 7302250 Q (F0 m 724 ls []) := by
  have hx := C.1.1
  have hb := C.1.2.1
  have hw := C.2.2.2.2.2.2.2
  obtain ⟨X, vm, hR, I⟩ := I
  have hM := lwj_md I
  refine lv_aload_n hx hb dL_law_724 rfl (lv_at hl 1 rfl) ?_
  refine lw_arg (v := 1) C hS hl hi (by decide) (by decide) dL_law_725 dL_law_726 dL_law_727 dL_law_728 dL_law_729 ?_
  refine lw_arg (v := 2) C hS hl hi (by decide) (by decide) dL_law_730 dL_law_731 dL_law_732 dL_law_733 dL_law_734 ?_
  refine lw_arg (v := 3) C hS hl hi (by decide) (by decide) dL_law_735 dL_law_736 dL_law_737 dL_law_738 dL_law_739 ?_
  refine lw_tR (rest := []) C hS I (t_X9_turn l E A qt (xs (i + 1).toNatClampNeg) (xs (i + 2).toNatClampNeg) (xs (i + 3).toNatClampNeg)) (cwV 3 (hw_X9_turn hw) gd_X9_turn rfl rfl rfl (by decide +kernel) ⟨(Nat.le_of_ble_eq_true rfl), (Nat.le_of_ble_eq_true rfl)⟩) rfl hl.1 rfl (Nat.le_of_ble_eq_true rfl) dL_law_740 ⟨(Nat.le_of_ble_eq_true rfl), (Nat.le_of_ble_eq_true rfl)⟩ (fun r740 h740 => ?_)
  refine lv_pop hx hb dL_law_743 rfl ?_
  refine lv_aload_n hx hb dL_law_744 rfl (lv_at hl 2 rfl) ?_
  refine lw_arg (v := 1) C hS hl hi (by decide) (by decide) dL_law_745 dL_law_746 dL_law_747 dL_law_748 dL_law_749 ?_
  refine lw_arg (v := 2) C hS hl hi (by decide) (by decide) dL_law_750 dL_law_751 dL_law_752 dL_law_753 dL_law_754 ?_
  refine lw_arg (v := 3) C hS hl hi (by decide) (by decide) dL_law_755 dL_law_756 dL_law_757 dL_law_758 dL_law_759 ?_
  refine lw_mR (rest := []) C hS I (t_X10_turn l E A qm (xs (i + 1).toNatClampNeg) (xs (i + 2).toNatClampNeg) (xs (i + 3).toNatClampNeg)) (cwV 3 (hw_X10_turn hw) gd_X10_turn rfl rfl rfl (by decide +kernel) ⟨(Nat.le_of_ble_eq_true rfl), (Nat.le_of_ble_eq_true rfl)⟩) rfl hl.1 rfl (Nat.le_of_ble_eq_true rfl) dL_law_760 ⟨(Nat.le_of_ble_eq_true rfl), (Nat.le_of_ble_eq_true rfl)⟩ (fun r760 h760 => ?_)
  refine lv_pop hx hb dL_law_763 rfl ?_
  exact lv_goto (tgt := 1456) hx hb dL_law_764 (by decide) (K H locs hS ⟨X, vm, (rl_k hM ⟨kp.rf, rfl⟩ ⟨kp.rf, fun _ _ => rfl⟩ hR), I⟩)
theorem lc_19 (C : LwC p s m c b L xs E A) (hS : va_S A s.heap H locs) (I : LwI E A qt qm H) {i : Int32} (hl : lv_has ls 4 (lwl b qt qm i)) (hi : 0 ≤ i.toInt ∧ i.toInt + 7 ≤ L)
    (K : ∀ (H : Heap) (locs : List Loc), va_S A s.heap H locs → LwI E A qt qm H → W p l e room_1 s m #[Value.ref b] below meth c H locs 600000 7302250 Q (F0 m 1456 ls [])) : W p l e room_1 s m #[Value.ref b] below meth c H locs 600000 7302250 Q (F0 m 767 ls []) := by
  have hx := C.1.1
  have hb := C.1.2.1
  have hw := C.2.2.2.2.2.2.2
  obtain ⟨X, vm, hR, I⟩ := I
  have hM := lwj_md I
  refine lv_aload_n hx hb dL_law_767 rfl (lv_at hl 1 rfl) ?_
  refine lw_arg (v := 1) C hS hl hi (by decide) (by decide) dL_law_768 dL_law_769 dL_law_770 dL_law_771 dL_law_772 ?_
  refine lw_arg (v := 2) C hS hl hi (by decide) (by decide) dL_law_773 dL_law_774 dL_law_775 dL_law_776 dL_law_777 ?_
  refine lw_arg (v := 3) C hS hl hi (by decide) (by decide) dL_law_778 dL_law_779 dL_law_780 dL_law_781 dL_law_782 ?_
  refine lw_arg (v := 4) C hS hl hi (by decide) (by decide) dL_law_783 dL_law_784 dL_law_785 dL_law_786 dL_law_787 ?_
  refine lw_tR (rest := []) C hS I (t_X9_most l E A qt (xs (i + 1).toNatClampNeg) (xs (i + 2).toNatClampNeg) (xs (i + 3).toNatClampNeg) (xs (i + 4).toNatClampNeg)) (cwV 4 (hw_X9_most hw) gd_X9_most rfl rfl rfl (by decide +kernel) ⟨(Nat.le_of_ble_eq_true rfl), (Nat.le_of_ble_eq_true rfl)⟩) rfl hl.1 rfl (Nat.le_of_ble_eq_true rfl) dL_law_788 ⟨(Nat.le_of_ble_eq_true rfl), (Nat.le_of_ble_eq_true rfl)⟩ (fun r788 h788 => ?_)
  refine lv_pop hx hb dL_law_791 rfl ?_
  refine lv_aload_n hx hb dL_law_792 rfl (lv_at hl 2 rfl) ?_
  refine lw_arg (v := 1) C hS hl hi (by decide) (by decide) dL_law_793 dL_law_794 dL_law_795 dL_law_796 dL_law_797 ?_
  refine lw_arg (v := 2) C hS hl hi (by decide) (by decide) dL_law_798 dL_law_799 dL_law_800 dL_law_801 dL_law_802 ?_
  refine lw_arg (v := 3) C hS hl hi (by decide) (by decide) dL_law_803 dL_law_804 dL_law_805 dL_law_806 dL_law_807 ?_
  refine lw_arg (v := 4) C hS hl hi (by decide) (by decide) dL_law_808 dL_law_809 dL_law_810 dL_law_811 dL_law_812 ?_
  refine lw_mR (rest := []) C hS I (t_X10_most l E A qm (xs (i + 1).toNatClampNeg) (xs (i + 2).toNatClampNeg) (xs (i + 3).toNatClampNeg) (xs (i + 4).toNatClampNeg)) (cwV 4 (hw_X10_most hw) gd_X10_most rfl rfl rfl (by decide +kernel) ⟨(Nat.le_of_ble_eq_true rfl), (Nat.le_of_ble_eq_true rfl)⟩) rfl hl.1 rfl (Nat.le_of_ble_eq_true rfl) dL_law_813 ⟨(Nat.le_of_ble_eq_true rfl), (Nat.le_of_ble_eq_true rfl)⟩ (fun r813 h813 => ?_)
  refine lv_pop hx hb dL_law_816 rfl ?_
  exact lv_goto (tgt := 1456) hx hb dL_law_817 (by decide) (K H locs hS ⟨X, vm, (rl_k hM ⟨kp.rf, rfl⟩ ⟨kp.rf, fun _ _ => rfl⟩ hR), I⟩)
theorem lc_20 (C : LwC p s m c b L xs E A) (hS : va_S A s.heap H locs) (I : LwI E A qt qm H) {i : Int32} (hl : lv_has ls 4 (lwl b qt qm i)) (hi : 0 ≤ i.toInt ∧ i.toInt + 7 ≤ L)
    (K : ∀ (H : Heap) (locs : List Loc), va_S A s.heap H locs → LwI E A qt qm H → W p l e room_1 s m #[Value.ref b] below meth c H locs 600000 7302250 Q (F0 m 1456 ls [])) : W p l e room_1 s m #[Value.ref b] below meth c H locs 600000 7302250 Q (F0 m 820 ls []) := by
  have hx := C.1.1
  have hb := C.1.2.1
  have hw := C.2.2.2.2.2.2.2
  obtain ⟨X, vm, hR, I⟩ := I
  have hM := lwj_md I
  refine lv_aload_n hx hb dL_law_820 rfl (lv_at hl 1 rfl) ?_
  refine lw_arg (v := 1) C hS hl hi (by decide) (by decide) dL_law_821 dL_law_822 dL_law_823 dL_law_824 dL_law_825 ?_
  refine lw_arg (v := 2) C hS hl hi (by decide) (by decide) dL_law_826 dL_law_827 dL_law_828 dL_law_829 dL_law_830 ?_
  refine lw_arg (v := 3) C hS hl hi (by decide) (by decide) dL_law_831 dL_law_832 dL_law_833 dL_law_834 dL_law_835 ?_
  refine lw_arg (v := 4) C hS hl hi (by decide) (by decide) dL_law_836 dL_law_837 dL_law_838 dL_law_839 dL_law_840 ?_
  refine lw_arg (v := 5) C hS hl hi (by decide) (by decide) dL_law_841 dL_law_842 dL_law_843 dL_law_844 dL_law_845 ?_
  refine lw_tR (rest := []) C hS I (t_X9_bell l E A qt (xs (i + 1).toNatClampNeg) (xs (i + 2).toNatClampNeg) (xs (i + 3).toNatClampNeg) (xs (i + 4).toNatClampNeg) (xs (i + 5).toNatClampNeg)) (cwV 5 (hw_X9_bell hw) gd_X9_bell rfl rfl rfl (by decide +kernel) ⟨(Nat.le_of_ble_eq_true rfl), (Nat.le_of_ble_eq_true rfl)⟩) rfl hl.1 rfl (Nat.le_of_ble_eq_true rfl) dL_law_846 ⟨(Nat.le_of_ble_eq_true rfl), (Nat.le_of_ble_eq_true rfl)⟩ (fun r846 h846 => ?_)
  refine lv_pop hx hb dL_law_849 rfl ?_
  refine lv_aload_n hx hb dL_law_850 rfl (lv_at hl 2 rfl) ?_
  refine lw_arg (v := 1) C hS hl hi (by decide) (by decide) dL_law_851 dL_law_852 dL_law_853 dL_law_854 dL_law_855 ?_
  refine lw_arg (v := 2) C hS hl hi (by decide) (by decide) dL_law_856 dL_law_857 dL_law_858 dL_law_859 dL_law_860 ?_
  refine lw_arg (v := 3) C hS hl hi (by decide) (by decide) dL_law_861 dL_law_862 dL_law_863 dL_law_864 dL_law_865 ?_
  refine lw_arg (v := 4) C hS hl hi (by decide) (by decide) dL_law_866 dL_law_867 dL_law_868 dL_law_869 dL_law_870 ?_
  refine lw_arg (v := 5) C hS hl hi (by decide) (by decide) dL_law_871 dL_law_872 dL_law_873 dL_law_874 dL_law_875 ?_
  refine lw_mR (rest := []) C hS I (t_X10_bell l E A qm (xs (i + 1).toNatClampNeg) (xs (i + 2).toNatClampNeg) (xs (i + 3).toNatClampNeg) (xs (i + 4).toNatClampNeg) (xs (i + 5).toNatClampNeg)) (cwV 5 (hw_X10_bell hw) gd_X10_bell rfl rfl rfl (by decide +kernel) ⟨(Nat.le_of_ble_eq_true rfl), (Nat.le_of_ble_eq_true rfl)⟩) rfl hl.1 rfl (Nat.le_of_ble_eq_true rfl) dL_law_876 ⟨(Nat.le_of_ble_eq_true rfl), (Nat.le_of_ble_eq_true rfl)⟩ (fun r876 h876 => ?_)
  refine lv_pop hx hb dL_law_879 rfl ?_
  exact lv_goto (tgt := 1456) hx hb dL_law_880 (by decide) (K H locs hS ⟨X, vm, (rl_k hM ⟨kp.rf, rfl⟩ ⟨kp.rf, fun _ _ => rfl⟩ hR), I⟩)
theorem lc_21 (C : LwC p s m c b L xs E A) (hS : va_S A s.heap H locs) (I : LwI E A qt qm H) {i : Int32} (hl : lv_has ls 4 (lwl b qt qm i)) (hi : 0 ≤ i.toInt ∧ i.toInt + 7 ≤ L)
    (K : ∀ (H : Heap) (locs : List Loc), va_S A s.heap H locs → LwI E A qt qm H → W p l e room_1 s m #[Value.ref b] below meth c H locs 600000 7302250 Q (F0 m 1456 ls [])) : W p l e room_1 s m #[Value.ref b] below meth c H locs 600000 7302250 Q (F0 m 883 ls []) := by
  have hx := C.1.1
  have hb := C.1.2.1
  have hw := C.2.2.2.2.2.2.2
  obtain ⟨X, vm, hR, I⟩ := I
  have hM := lwj_md I
  refine lv_aload_n hx hb dL_law_883 rfl (lv_at hl 1 rfl) ?_
  refine lw_arg (v := 1) C hS hl hi (by decide) (by decide) dL_law_884 dL_law_885 dL_law_886 dL_law_887 dL_law_888 ?_
  refine lw_arg (v := 2) C hS hl hi (by decide) (by decide) dL_law_889 dL_law_890 dL_law_891 dL_law_892 dL_law_893 ?_
  refine lw_tR (rest := []) C hS I (t_X9_breaks l E A qt (xs (i + 1).toNatClampNeg) (xs (i + 2).toNatClampNeg)) (cwV 2 (hw_X9_breaks hw) gd_X9_breaks rfl rfl rfl (by decide +kernel) ⟨(Nat.le_of_ble_eq_true rfl), (Nat.le_of_ble_eq_true rfl)⟩) rfl hl.1 rfl (Nat.le_of_ble_eq_true rfl) dL_law_894 ⟨(Nat.le_of_ble_eq_true rfl), (Nat.le_of_ble_eq_true rfl)⟩ (fun r894 h894 => ?_)
  refine lv_pop hx hb dL_law_897 rfl ?_
  refine lv_aload_n hx hb dL_law_898 rfl (lv_at hl 2 rfl) ?_
  refine lw_arg (v := 1) C hS hl hi (by decide) (by decide) dL_law_899 dL_law_900 dL_law_901 dL_law_902 dL_law_903 ?_
  refine lw_arg (v := 2) C hS hl hi (by decide) (by decide) dL_law_904 dL_law_905 dL_law_906 dL_law_907 dL_law_908 ?_
  refine lw_mR (rest := []) C hS I (t_X10_breaks l E A qm (xs (i + 1).toNatClampNeg) (xs (i + 2).toNatClampNeg)) (cwV 2 (hw_X10_breaks hw) gd_X10_breaks rfl rfl rfl (by decide +kernel) ⟨(Nat.le_of_ble_eq_true rfl), (Nat.le_of_ble_eq_true rfl)⟩) rfl hl.1 rfl (Nat.le_of_ble_eq_true rfl) dL_law_909 ⟨(Nat.le_of_ble_eq_true rfl), (Nat.le_of_ble_eq_true rfl)⟩ (fun r909 h909 => ?_)
  refine lv_pop hx hb dL_law_912 rfl ?_
  exact lv_goto (tgt := 1456) hx hb dL_law_913 (by decide) (K H locs hS ⟨X, vm, (rl_k hM ⟨kp.rf, rfl⟩ ⟨kp.rf, fun _ _ => rfl⟩ hR), I⟩)
theorem lc_22 (C : LwC p s m c b L xs E A) (hS : va_S A s.heap H locs) (I : LwI E A qt qm H) {i : Int32} (hl : lv_has ls 4 (lwl b qt qm i)) (hi : 0 ≤ i.toInt ∧ i.toInt + 7 ≤ L)
    (K : ∀ (H : Heap) (locs : List Loc), va_S A s.heap H locs → LwI E A qt qm H → W p l e room_1 s m #[Value.ref b] below meth c H locs 600000 7302250 Q (F0 m 1456 ls [])) : W p l e room_1 s m #[Value.ref b] below meth c H locs 600000 7302250 Q (F0 m 916 ls []) := by
  have hx := C.1.1
  have hb := C.1.2.1
  have hw := C.2.2.2.2.2.2.2
  obtain ⟨X, vm, hR, I⟩ := I
  have hM := lwj_md I
  refine lv_aload_n hx hb dL_law_916 rfl (lv_at hl 1 rfl) ?_
  refine lw_arg (v := 1) C hS hl hi (by decide) (by decide) dL_law_917 dL_law_918 dL_law_919 dL_law_920 dL_law_921 ?_
  refine lw_tR (rest := []) C hS I (t_X9_props l E A qt (xs (i + 1).toNatClampNeg)) (cwV 1 (hw_X9_props hw) gd_X9_props rfl rfl rfl (by decide +kernel) ⟨(Nat.le_of_ble_eq_true rfl), (Nat.le_of_ble_eq_true rfl)⟩) rfl hl.1 rfl (Nat.le_of_ble_eq_true rfl) dL_law_922 ⟨(Nat.le_of_ble_eq_true rfl), (Nat.le_of_ble_eq_true rfl)⟩ (fun r922 h922 => ?_)
  refine lv_pop hx hb dL_law_925 rfl ?_
  refine lv_aload_n hx hb dL_law_926 rfl (lv_at hl 2 rfl) ?_
  refine lw_arg (v := 1) C hS hl hi (by decide) (by decide) dL_law_927 dL_law_928 dL_law_929 dL_law_930 dL_law_931 ?_
  refine lw_mR (rest := []) C hS I (t_X10_props l E A qm (xs (i + 1).toNatClampNeg)) (cwV 1 (hw_X10_props hw) gd_X10_props rfl rfl rfl (by decide +kernel) ⟨(Nat.le_of_ble_eq_true rfl), (Nat.le_of_ble_eq_true rfl)⟩) rfl hl.1 rfl (Nat.le_of_ble_eq_true rfl) dL_law_932 ⟨(Nat.le_of_ble_eq_true rfl), (Nat.le_of_ble_eq_true rfl)⟩ (fun r932 h932 => ?_)
  refine lv_pop hx hb dL_law_935 rfl ?_
  exact lv_goto (tgt := 1456) hx hb dL_law_936 (by decide) (K H locs hS ⟨X, vm, (rl_k hM ⟨kp.rf, rfl⟩ ⟨kp.rf, fun _ _ => rfl⟩ hR), I⟩)
theorem lc_23 (C : LwC p s m c b L xs E A) (hS : va_S A s.heap H locs) (I : LwI E A qt qm H) {i : Int32} (hl : lv_has ls 4 (lwl b qt qm i)) (hi : 0 ≤ i.toInt ∧ i.toInt + 7 ≤ L)
    (K : ∀ (H : Heap) (locs : List Loc), va_S A s.heap H locs → LwI E A qt qm H → W p l e room_1 s m #[Value.ref b] below meth c H locs 600000 7302250 Q (F0 m 1456 ls [])) : W p l e room_1 s m #[Value.ref b] below meth c H locs 600000 7302250 Q (F0 m 939 ls []) := by
  have hx := C.1.1
  have hb := C.1.2.1
  have hw := C.2.2.2.2.2.2.2
  obtain ⟨X, vm, hR, I⟩ := I
  have hM := lwj_md I
  refine lv_aload_n hx hb dL_law_939 rfl (lv_at hl 1 rfl) ?_
  refine lw_arg (v := 1) C hS hl hi (by decide) (by decide) dL_law_940 dL_law_941 dL_law_942 dL_law_943 dL_law_944 ?_
  refine lw_arg (v := 2) C hS hl hi (by decide) (by decide) dL_law_945 dL_law_946 dL_law_947 dL_law_948 dL_law_949 ?_
  refine lw_arg (v := 3) C hS hl hi (by decide) (by decide) dL_law_950 dL_law_951 dL_law_952 dL_law_953 dL_law_954 ?_
  refine lw_tR (rest := []) C hS I (t_X9_soonest l E A qt (xs (i + 1).toNatClampNeg) (xs (i + 2).toNatClampNeg) (xs (i + 3).toNatClampNeg)) (cwV 3 (hw_X9_soonest hw) gd_X9_soonest rfl rfl rfl (by decide +kernel) ⟨(Nat.le_of_ble_eq_true rfl), (Nat.le_of_ble_eq_true rfl)⟩) rfl hl.1 rfl (Nat.le_of_ble_eq_true rfl) dL_law_955 ⟨(Nat.le_of_ble_eq_true rfl), (Nat.le_of_ble_eq_true rfl)⟩ (fun r955 h955 => ?_)
  refine lv_pop hx hb dL_law_958 rfl ?_
  refine lv_aload_n hx hb dL_law_959 rfl (lv_at hl 2 rfl) ?_
  refine lw_arg (v := 1) C hS hl hi (by decide) (by decide) dL_law_960 dL_law_961 dL_law_962 dL_law_963 dL_law_964 ?_
  refine lw_arg (v := 2) C hS hl hi (by decide) (by decide) dL_law_965 dL_law_966 dL_law_967 dL_law_968 dL_law_969 ?_
  refine lw_arg (v := 3) C hS hl hi (by decide) (by decide) dL_law_970 dL_law_971 dL_law_972 dL_law_973 dL_law_974 ?_
  refine lw_mR (rest := []) C hS I (t_X10_soonest l E A qm (xs (i + 1).toNatClampNeg) (xs (i + 2).toNatClampNeg) (xs (i + 3).toNatClampNeg)) (cwV 3 (hw_X10_soonest hw) gd_X10_soonest rfl rfl rfl (by decide +kernel) ⟨(Nat.le_of_ble_eq_true rfl), (Nat.le_of_ble_eq_true rfl)⟩) rfl hl.1 rfl (Nat.le_of_ble_eq_true rfl) dL_law_975 ⟨(Nat.le_of_ble_eq_true rfl), (Nat.le_of_ble_eq_true rfl)⟩ (fun r975 h975 => ?_)
  refine lv_pop hx hb dL_law_978 rfl ?_
  exact lv_goto (tgt := 1456) hx hb dL_law_979 (by decide) (K H locs hS ⟨X, vm, (rl_k hM ⟨kp.rf, rfl⟩ ⟨kp.rf, fun _ _ => rfl⟩ hR), I⟩)
theorem lc_24 (C : LwC p s m c b L xs E A) (hS : va_S A s.heap H locs) (I : LwI E A qt qm H) {i : Int32} (hl : lv_has ls 4 (lwl b qt qm i)) (hi : 0 ≤ i.toInt ∧ i.toInt + 7 ≤ L)
    (K : ∀ (H : Heap) (locs : List Loc), va_S A s.heap H locs → LwI E A qt qm H → W p l e room_1 s m #[Value.ref b] below meth c H locs 600000 7302250 Q (F0 m 1456 ls [])) : W p l e room_1 s m #[Value.ref b] below meth c H locs 600000 7302250 Q (F0 m 982 ls []) := by
  have hx := C.1.1
  have hb := C.1.2.1
  have hw := C.2.2.2.2.2.2.2
  obtain ⟨X, vm, hR, I⟩ := I
  have hM := lwj_md I
  refine lv_aload_n hx hb dL_law_982 rfl (lv_at hl 1 rfl) ?_
  refine lw_arg (v := 1) C hS hl hi (by decide) (by decide) dL_law_983 dL_law_984 dL_law_985 dL_law_986 dL_law_987 ?_
  refine lw_arg (v := 2) C hS hl hi (by decide) (by decide) dL_law_988 dL_law_989 dL_law_990 dL_law_991 dL_law_992 ?_
  refine lw_arg (v := 3) C hS hl hi (by decide) (by decide) dL_law_993 dL_law_994 dL_law_995 dL_law_996 dL_law_997 ?_
  refine lw_arg (v := 4) C hS hl hi (by decide) (by decide) dL_law_998 dL_law_999 dL_law_1000 dL_law_1001 dL_law_1002 ?_
  refine lw_arg (v := 5) C hS hl hi (by decide) (by decide) dL_law_1003 dL_law_1004 dL_law_1005 dL_law_1006 dL_law_1007 ?_
  refine lw_tM (rest := []) C hS I (t_X9_least l E qt (xs (i + 1).toNatClampNeg) (xs (i + 2).toNatClampNeg) (xs (i + 3).toNatClampNeg) (xs (i + 4).toNatClampNeg) (xs (i + 5).toNatClampNeg)) (cwV 5 (hw_X9_least hw) gd_X9_least rfl rfl rfl (by decide +kernel) ⟨(Nat.le_of_ble_eq_true rfl), (Nat.le_of_ble_eq_true rfl)⟩) rfl hl.1 rfl (Nat.le_of_ble_eq_true rfl) dL_law_1008 ⟨(Nat.le_of_ble_eq_true rfl), (Nat.le_of_ble_eq_true rfl)⟩ (fun r1008 X1008 H locs h1008 hS I => ?_)
  refine lv_aload_n hx hb dL_law_1011 rfl (lv_at hl 2 rfl) ?_
  refine lw_arg (v := 1) C hS hl hi (by decide) (by decide) dL_law_1012 dL_law_1013 dL_law_1014 dL_law_1015 dL_law_1016 ?_
  refine lw_arg (v := 2) C hS hl hi (by decide) (by decide) dL_law_1017 dL_law_1018 dL_law_1019 dL_law_1020 dL_law_1021 ?_
  refine lw_arg (v := 3) C hS hl hi (by decide) (by decide) dL_law_1022 dL_law_1023 dL_law_1024 dL_law_1025 dL_law_1026 ?_
  refine lw_arg (v := 4) C hS hl hi (by decide) (by decide) dL_law_1027 dL_law_1028 dL_law_1029 dL_law_1030 dL_law_1031 ?_
  refine lw_arg (v := 5) C hS hl hi (by decide) (by decide) dL_law_1032 dL_law_1033 dL_law_1034 dL_law_1035 dL_law_1036 ?_
  refine lw_mM (rest := [.int r1008]) C hS I (t_X10_least l E qm (xs (i + 1).toNatClampNeg) (xs (i + 2).toNatClampNeg) (xs (i + 3).toNatClampNeg) (xs (i + 4).toNatClampNeg) (xs (i + 5).toNatClampNeg)) (cwV 5 (hw_X10_least hw) gd_X10_least rfl rfl rfl (by decide +kernel) ⟨(Nat.le_of_ble_eq_true rfl), (Nat.le_of_ble_eq_true rfl)⟩) rfl hl.1 rfl (Nat.le_of_ble_eq_true rfl) dL_law_1037 ⟨(Nat.le_of_ble_eq_true rfl), (Nat.le_of_ble_eq_true rfl)⟩ (fun r1037 vm1037 H locs h1037 hS I => ?_)
  have hcmp : r1008.toInt = r1037.toInt ∧ Rl X1008 vm1037 := ⟨unk_eq (h1008.1 vm (rl_rw hR hM) hM.2.1.symm) h1037.1 (fun a b => out_eq a b lea_eq), rl_k hM h1008.2 h1037.2 hR⟩
  refine lv_icmp_eq (tgt := 1456) hx hb dL_law_1040 (by decide) (fun _ => K H locs hS ⟨X1008, vm1037, hcmp.2, I⟩) (fun q => absurd q (fun h => h (i_of hcmp.1)))
theorem lc_25 (C : LwC p s m c b L xs E A) (hS : va_S A s.heap H locs) (I : LwI E A qt qm H) {i : Int32} (hl : lv_has ls 4 (lwl b qt qm i)) (hi : 0 ≤ i.toInt ∧ i.toInt + 7 ≤ L)
    (K : ∀ (H : Heap) (locs : List Loc), va_S A s.heap H locs → LwI E A qt qm H → W p l e room_1 s m #[Value.ref b] below meth c H locs 600000 7302250 Q (F0 m 1456 ls [])) : W p l e room_1 s m #[Value.ref b] below meth c H locs 600000 7302250 Q (F0 m 1045 ls []) := by
  have hx := C.1.1
  have hb := C.1.2.1
  have hw := C.2.2.2.2.2.2.2
  obtain ⟨X, vm, hR, I⟩ := I
  have hM := lwj_md I
  refine lv_aload_n hx hb dL_law_1045 rfl (lv_at hl 1 rfl) ?_
  refine lw_arg (v := 1) C hS hl hi (by decide) (by decide) dL_law_1046 dL_law_1047 dL_law_1048 dL_law_1049 dL_law_1050 ?_
  refine lw_arg (v := 2) C hS hl hi (by decide) (by decide) dL_law_1051 dL_law_1052 dL_law_1053 dL_law_1054 dL_law_1055 ?_
  refine lw_arg (v := 3) C hS hl hi (by decide) (by decide) dL_law_1056 dL_law_1057 dL_law_1058 dL_law_1059 dL_law_1060 ?_
  refine lw_tM (rest := []) C hS I (t_X9_water l E qt (xs (i + 1).toNatClampNeg) (xs (i + 2).toNatClampNeg) (xs (i + 3).toNatClampNeg)) (cwV 3 (hw_X9_water hw) gd_X9_water rfl rfl rfl (by decide +kernel) ⟨(Nat.le_of_ble_eq_true rfl), (Nat.le_of_ble_eq_true rfl)⟩) rfl hl.1 rfl (Nat.le_of_ble_eq_true rfl) dL_law_1061 ⟨(Nat.le_of_ble_eq_true rfl), (Nat.le_of_ble_eq_true rfl)⟩ (fun r1061 X1061 H locs h1061 hS I => ?_)
  refine lv_pop hx hb dL_law_1064 rfl ?_
  refine lv_aload_n hx hb dL_law_1065 rfl (lv_at hl 2 rfl) ?_
  refine lw_arg (v := 1) C hS hl hi (by decide) (by decide) dL_law_1066 dL_law_1067 dL_law_1068 dL_law_1069 dL_law_1070 ?_
  refine lw_arg (v := 2) C hS hl hi (by decide) (by decide) dL_law_1071 dL_law_1072 dL_law_1073 dL_law_1074 dL_law_1075 ?_
  refine lw_arg (v := 3) C hS hl hi (by decide) (by decide) dL_law_1076 dL_law_1077 dL_law_1078 dL_law_1079 dL_law_1080 ?_
  refine lw_mM (rest := []) C hS I (t_X10_water l E qm (xs (i + 1).toNatClampNeg) (xs (i + 2).toNatClampNeg) (xs (i + 3).toNatClampNeg)) (cwV 3 (hw_X10_water hw) gd_X10_water rfl rfl rfl (by decide +kernel) ⟨(Nat.le_of_ble_eq_true rfl), (Nat.le_of_ble_eq_true rfl)⟩) rfl hl.1 rfl (Nat.le_of_ble_eq_true rfl) dL_law_1081 ⟨(Nat.le_of_ble_eq_true rfl), (Nat.le_of_ble_eq_true rfl)⟩ (fun r1081 vm1081 H locs h1081 hS I => ?_)
  refine lv_pop hx hb dL_law_1084 rfl ?_
  exact lv_goto (tgt := 1456) hx hb dL_law_1085 (by decide) (K H locs hS ⟨X1061, vm1081, (rl_k hM h1061.2 h1081.2 hR), I⟩)
theorem lc_26 (C : LwC p s m c b L xs E A) (hS : va_S A s.heap H locs) (I : LwI E A qt qm H) {i : Int32} (hl : lv_has ls 4 (lwl b qt qm i)) (hi : 0 ≤ i.toInt ∧ i.toInt + 7 ≤ L)
    (K : ∀ (H : Heap) (locs : List Loc), va_S A s.heap H locs → LwI E A qt qm H → W p l e room_1 s m #[Value.ref b] below meth c H locs 600000 7302250 Q (F0 m 1456 ls [])) : W p l e room_1 s m #[Value.ref b] below meth c H locs 600000 7302250 Q (F0 m 1088 ls []) := by
  have hx := C.1.1
  have hb := C.1.2.1
  have hw := C.2.2.2.2.2.2.2
  obtain ⟨X, vm, hR, I⟩ := I
  have hM := lwj_md I
  refine lv_aload_n hx hb dL_law_1088 rfl (lv_at hl 1 rfl) ?_
  refine lw_arg (v := 1) C hS hl hi (by decide) (by decide) dL_law_1089 dL_law_1090 dL_law_1091 dL_law_1092 dL_law_1093 ?_
  refine lw_arg (v := 2) C hS hl hi (by decide) (by decide) dL_law_1094 dL_law_1095 dL_law_1096 dL_law_1097 dL_law_1098 ?_
  refine lw_tR (rest := []) C hS I (t_X9_whose l E A qt (xs (i + 1).toNatClampNeg) (xs (i + 2).toNatClampNeg)) (cwV 2 (hw_X9_whose hw) gd_X9_whose rfl rfl rfl (by decide +kernel) ⟨(Nat.le_of_ble_eq_true rfl), (Nat.le_of_ble_eq_true rfl)⟩) rfl hl.1 rfl (Nat.le_of_ble_eq_true rfl) dL_law_1099 ⟨(Nat.le_of_ble_eq_true rfl), (Nat.le_of_ble_eq_true rfl)⟩ (fun r1099 h1099 => ?_)
  refine lv_pop hx hb dL_law_1102 rfl ?_
  refine lv_aload_n hx hb dL_law_1103 rfl (lv_at hl 2 rfl) ?_
  refine lw_arg (v := 1) C hS hl hi (by decide) (by decide) dL_law_1104 dL_law_1105 dL_law_1106 dL_law_1107 dL_law_1108 ?_
  refine lw_arg (v := 2) C hS hl hi (by decide) (by decide) dL_law_1109 dL_law_1110 dL_law_1111 dL_law_1112 dL_law_1113 ?_
  refine lw_mR (rest := []) C hS I (t_X10_whose l E A qm (xs (i + 1).toNatClampNeg) (xs (i + 2).toNatClampNeg)) (cwV 2 (hw_X10_whose hw) gd_X10_whose rfl rfl rfl (by decide +kernel) ⟨(Nat.le_of_ble_eq_true rfl), (Nat.le_of_ble_eq_true rfl)⟩) rfl hl.1 rfl (Nat.le_of_ble_eq_true rfl) dL_law_1114 ⟨(Nat.le_of_ble_eq_true rfl), (Nat.le_of_ble_eq_true rfl)⟩ (fun r1114 h1114 => ?_)
  refine lv_pop hx hb dL_law_1117 rfl ?_
  exact lv_goto (tgt := 1456) hx hb dL_law_1118 (by decide) (K H locs hS ⟨X, vm, (rl_k hM ⟨kp.rf, rfl⟩ ⟨kp.rf, fun _ _ => rfl⟩ hR), I⟩)
theorem lc_27 (C : LwC p s m c b L xs E A) (hS : va_S A s.heap H locs) (I : LwI E A qt qm H) {i : Int32} (hl : lv_has ls 4 (lwl b qt qm i)) (hi : 0 ≤ i.toInt ∧ i.toInt + 7 ≤ L)
    (K : ∀ (H : Heap) (locs : List Loc), va_S A s.heap H locs → LwI E A qt qm H → W p l e room_1 s m #[Value.ref b] below meth c H locs 600000 7302250 Q (F0 m 1456 ls [])) : W p l e room_1 s m #[Value.ref b] below meth c H locs 600000 7302250 Q (F0 m 1121 ls []) := by
  have hx := C.1.1
  have hb := C.1.2.1
  have hw := C.2.2.2.2.2.2.2
  obtain ⟨X, vm, hR, I⟩ := I
  have hM := lwj_md I
  refine lv_aload_n hx hb dL_law_1121 rfl (lv_at hl 1 rfl) ?_
  refine lw_arg (v := 1) C hS hl hi (by decide) (by decide) dL_law_1122 dL_law_1123 dL_law_1124 dL_law_1125 dL_law_1126 ?_
  refine lw_tR (rest := []) C hS I (t_X9_stays l E A qt (xs (i + 1).toNatClampNeg)) (cwV 1 (hw_X9_stays hw) gd_X9_stays rfl rfl rfl (by decide +kernel) ⟨(Nat.le_of_ble_eq_true rfl), (Nat.le_of_ble_eq_true rfl)⟩) rfl hl.1 rfl (Nat.le_of_ble_eq_true rfl) dL_law_1127 ⟨(Nat.le_of_ble_eq_true rfl), (Nat.le_of_ble_eq_true rfl)⟩ (fun r1127 h1127 => ?_)
  refine lv_pop hx hb dL_law_1130 rfl ?_
  refine lv_aload_n hx hb dL_law_1131 rfl (lv_at hl 2 rfl) ?_
  refine lw_arg (v := 1) C hS hl hi (by decide) (by decide) dL_law_1132 dL_law_1133 dL_law_1134 dL_law_1135 dL_law_1136 ?_
  refine lw_mR (rest := []) C hS I (t_X10_stays l E A qm (xs (i + 1).toNatClampNeg)) (cwV 1 (hw_X10_stays hw) gd_X10_stays rfl rfl rfl (by decide +kernel) ⟨(Nat.le_of_ble_eq_true rfl), (Nat.le_of_ble_eq_true rfl)⟩) rfl hl.1 rfl (Nat.le_of_ble_eq_true rfl) dL_law_1137 ⟨(Nat.le_of_ble_eq_true rfl), (Nat.le_of_ble_eq_true rfl)⟩ (fun r1137 h1137 => ?_)
  refine lv_pop hx hb dL_law_1140 rfl ?_
  exact lv_goto (tgt := 1456) hx hb dL_law_1141 (by decide) (K H locs hS ⟨X, vm, (rl_k hM ⟨kp.rf, rfl⟩ ⟨kp.rf, fun _ _ => rfl⟩ hR), I⟩)
theorem lc_28 (C : LwC p s m c b L xs E A) (hS : va_S A s.heap H locs) (I : LwI E A qt qm H) {i : Int32} (hl : lv_has ls 4 (lwl b qt qm i)) (hi : 0 ≤ i.toInt ∧ i.toInt + 7 ≤ L)
    (K : ∀ (H : Heap) (locs : List Loc), va_S A s.heap H locs → LwI E A qt qm H → W p l e room_1 s m #[Value.ref b] below meth c H locs 600000 7302250 Q (F0 m 1456 ls [])) : W p l e room_1 s m #[Value.ref b] below meth c H locs 600000 7302250 Q (F0 m 1144 ls []) := by
  have hx := C.1.1
  have hb := C.1.2.1
  have hw := C.2.2.2.2.2.2.2
  obtain ⟨X, vm, hR, I⟩ := I
  have hM := lwj_md I
  refine lv_aload_n hx hb dL_law_1144 rfl (lv_at hl 1 rfl) ?_
  refine lw_arg (v := 1) C hS hl hi (by decide) (by decide) dL_law_1145 dL_law_1146 dL_law_1147 dL_law_1148 dL_law_1149 ?_
  refine lw_arg (v := 2) C hS hl hi (by decide) (by decide) dL_law_1150 dL_law_1151 dL_law_1152 dL_law_1153 dL_law_1154 ?_
  refine lw_arg (v := 3) C hS hl hi (by decide) (by decide) dL_law_1155 dL_law_1156 dL_law_1157 dL_law_1158 dL_law_1159 ?_
  refine lw_arg (v := 4) C hS hl hi (by decide) (by decide) dL_law_1160 dL_law_1161 dL_law_1162 dL_law_1163 dL_law_1164 ?_
  refine lw_tM (rest := []) C hS I (t_X9_see l E qt (xs (i + 1).toNatClampNeg) (xs (i + 2).toNatClampNeg) (xs (i + 3).toNatClampNeg) (xs (i + 4).toNatClampNeg)) (cwV 4 (hw_X9_see hw) gd_X9_see rfl rfl rfl (by decide +kernel) ⟨(Nat.le_of_ble_eq_true rfl), (Nat.le_of_ble_eq_true rfl)⟩) rfl hl.1 rfl (Nat.le_of_ble_eq_true rfl) dL_law_1165 ⟨(Nat.le_of_ble_eq_true rfl), (Nat.le_of_ble_eq_true rfl)⟩ (fun r1165 X1165 H locs h1165 hS I => ?_)
  refine lv_pop hx hb dL_law_1168 rfl ?_
  refine lv_aload_n hx hb dL_law_1169 rfl (lv_at hl 2 rfl) ?_
  refine lw_arg (v := 1) C hS hl hi (by decide) (by decide) dL_law_1170 dL_law_1171 dL_law_1172 dL_law_1173 dL_law_1174 ?_
  refine lw_arg (v := 2) C hS hl hi (by decide) (by decide) dL_law_1175 dL_law_1176 dL_law_1177 dL_law_1178 dL_law_1179 ?_
  refine lw_arg (v := 3) C hS hl hi (by decide) (by decide) dL_law_1180 dL_law_1181 dL_law_1182 dL_law_1183 dL_law_1184 ?_
  refine lw_arg (v := 4) C hS hl hi (by decide) (by decide) dL_law_1185 dL_law_1186 dL_law_1187 dL_law_1188 dL_law_1189 ?_
  refine lw_mM (rest := []) C hS I (t_X10_see l E qm (xs (i + 1).toNatClampNeg) (xs (i + 2).toNatClampNeg) (xs (i + 3).toNatClampNeg) (xs (i + 4).toNatClampNeg)) (cwV 4 (hw_X10_see hw) gd_X10_see rfl rfl rfl (by decide +kernel) ⟨(Nat.le_of_ble_eq_true rfl), (Nat.le_of_ble_eq_true rfl)⟩) rfl hl.1 rfl (Nat.le_of_ble_eq_true rfl) dL_law_1190 ⟨(Nat.le_of_ble_eq_true rfl), (Nat.le_of_ble_eq_true rfl)⟩ (fun r1190 vm1190 H locs h1190 hS I => ?_)
  refine lv_pop hx hb dL_law_1193 rfl ?_
  exact lv_goto (tgt := 1456) hx hb dL_law_1194 (by decide) (K H locs hS ⟨X1165, vm1190, (rl_see h1165 h1190 hM (lwj_md I) hR).2, I⟩)
theorem lc_29 (C : LwC p s m c b L xs E A) (hS : va_S A s.heap H locs) (I : LwI E A qt qm H) {i : Int32} (hl : lv_has ls 4 (lwl b qt qm i)) (hi : 0 ≤ i.toInt ∧ i.toInt + 7 ≤ L)
    (K : ∀ (H : Heap) (locs : List Loc), va_S A s.heap H locs → LwI E A qt qm H → W p l e room_1 s m #[Value.ref b] below meth c H locs 600000 7302250 Q (F0 m 1456 ls [])) : W p l e room_1 s m #[Value.ref b] below meth c H locs 600000 7302250 Q (F0 m 1197 ls []) := by
  have hx := C.1.1
  have hb := C.1.2.1
  have hw := C.2.2.2.2.2.2.2
  obtain ⟨X, vm, hR, I⟩ := I
  have hM := lwj_md I
  refine lv_aload_n hx hb dL_law_1197 rfl (lv_at hl 1 rfl) ?_
  refine lw_arg (v := 1) C hS hl hi (by decide) (by decide) dL_law_1198 dL_law_1199 dL_law_1200 dL_law_1201 dL_law_1202 ?_
  refine lw_arg (v := 2) C hS hl hi (by decide) (by decide) dL_law_1203 dL_law_1204 dL_law_1205 dL_law_1206 dL_law_1207 ?_
  refine lw_tM (rest := []) C hS I (t_X9_fits l E qt (xs (i + 1).toNatClampNeg) (xs (i + 2).toNatClampNeg)) (cwV 2 (hw_X9_fits hw) gd_X9_fits rfl rfl rfl (by decide +kernel) ⟨(Nat.le_of_ble_eq_true rfl), (Nat.le_of_ble_eq_true rfl)⟩) rfl hl.1 rfl (Nat.le_of_ble_eq_true rfl) dL_law_1208 ⟨(Nat.le_of_ble_eq_true rfl), (Nat.le_of_ble_eq_true rfl)⟩ (fun r1208 X1208 H locs h1208 hS I => ?_)
  refine lv_pop hx hb dL_law_1211 rfl ?_
  refine lv_aload_n hx hb dL_law_1212 rfl (lv_at hl 2 rfl) ?_
  refine lw_arg (v := 1) C hS hl hi (by decide) (by decide) dL_law_1213 dL_law_1214 dL_law_1215 dL_law_1216 dL_law_1217 ?_
  refine lw_arg (v := 2) C hS hl hi (by decide) (by decide) dL_law_1218 dL_law_1219 dL_law_1220 dL_law_1221 dL_law_1222 ?_
  refine lw_mM (rest := []) C hS I (t_X10_fits l E qm (xs (i + 1).toNatClampNeg) (xs (i + 2).toNatClampNeg)) (cwV 2 (hw_X10_fits hw) gd_X10_fits rfl rfl rfl (by decide +kernel) ⟨(Nat.le_of_ble_eq_true rfl), (Nat.le_of_ble_eq_true rfl)⟩) rfl hl.1 rfl (Nat.le_of_ble_eq_true rfl) dL_law_1223 ⟨(Nat.le_of_ble_eq_true rfl), (Nat.le_of_ble_eq_true rfl)⟩ (fun r1223 vm1223 H locs h1223 hS I => ?_)
  refine lv_pop hx hb dL_law_1226 rfl ?_
  exact lv_goto (tgt := 1456) hx hb dL_law_1227 (by decide) (K H locs hS ⟨X1208, vm1223, (rl_k hM h1208.2 h1223.2 hR), I⟩)
theorem lc_30 (C : LwC p s m c b L xs E A) (hS : va_S A s.heap H locs) (I : LwI E A qt qm H) {i : Int32} (hl : lv_has ls 4 (lwl b qt qm i)) (hi : 0 ≤ i.toInt ∧ i.toInt + 7 ≤ L)
    (K : ∀ (H : Heap) (locs : List Loc), va_S A s.heap H locs → LwI E A qt qm H → W p l e room_1 s m #[Value.ref b] below meth c H locs 600000 7302250 Q (F0 m 1456 ls [])) : W p l e room_1 s m #[Value.ref b] below meth c H locs 600000 7302250 Q (F0 m 1230 ls []) := by
  have hx := C.1.1
  have hb := C.1.2.1
  have hw := C.2.2.2.2.2.2.2
  obtain ⟨X, vm, hR, I⟩ := I
  have hM := lwj_md I
  refine lv_aload_n hx hb dL_law_1230 rfl (lv_at hl 1 rfl) ?_
  refine lw_arg (v := 1) C hS hl hi (by decide) (by decide) dL_law_1231 dL_law_1232 dL_law_1233 dL_law_1234 dL_law_1235 ?_
  refine lw_tM (rest := []) C hS I (t_X9_look l E qt (xs (i + 1).toNatClampNeg)) (cwV 1 (hw_X9_look hw) gd_X9_look rfl rfl rfl (by decide +kernel) ⟨(Nat.le_of_ble_eq_true rfl), (Nat.le_of_ble_eq_true rfl)⟩) rfl hl.1 rfl (Nat.le_of_ble_eq_true rfl) dL_law_1236 ⟨(Nat.le_of_ble_eq_true rfl), (Nat.le_of_ble_eq_true rfl)⟩ (fun r1236 X1236 H locs h1236 hS I => ?_)
  refine lv_pop hx hb dL_law_1239 rfl ?_
  refine lv_aload_n hx hb dL_law_1240 rfl (lv_at hl 2 rfl) ?_
  refine lw_arg (v := 1) C hS hl hi (by decide) (by decide) dL_law_1241 dL_law_1242 dL_law_1243 dL_law_1244 dL_law_1245 ?_
  refine lw_mM (rest := []) C hS I (t_X10_look l E qm (xs (i + 1).toNatClampNeg)) (cwV 1 (hw_X10_look hw) gd_X10_look rfl rfl rfl (by decide +kernel) ⟨(Nat.le_of_ble_eq_true rfl), (Nat.le_of_ble_eq_true rfl)⟩) rfl hl.1 rfl (Nat.le_of_ble_eq_true rfl) dL_law_1246 ⟨(Nat.le_of_ble_eq_true rfl), (Nat.le_of_ble_eq_true rfl)⟩ (fun r1246 vm1246 H locs h1246 hS I => ?_)
  refine lv_pop hx hb dL_law_1249 rfl ?_
  exact lv_goto (tgt := 1456) hx hb dL_law_1250 (by decide) (K H locs hS ⟨X1236, vm1246, (rl_k hM h1236.2 h1246.2 hR), I⟩)
theorem lc_31 (C : LwC p s m c b L xs E A) (hS : va_S A s.heap H locs) (I : LwI E A qt qm H) {i : Int32} (hl : lv_has ls 4 (lwl b qt qm i)) (hi : 0 ≤ i.toInt ∧ i.toInt + 7 ≤ L)
    (K : ∀ (H : Heap) (locs : List Loc), va_S A s.heap H locs → LwI E A qt qm H → W p l e room_1 s m #[Value.ref b] below meth c H locs 600000 7302250 Q (F0 m 1456 ls [])) : W p l e room_1 s m #[Value.ref b] below meth c H locs 600000 7302250 Q (F0 m 1253 ls []) := by
  have hx := C.1.1
  have hb := C.1.2.1
  have hw := C.2.2.2.2.2.2.2
  obtain ⟨X, vm, hR, I⟩ := I
  have hM := lwj_md I
  refine lv_aload_n hx hb dL_law_1253 rfl (lv_at hl 1 rfl) ?_
  refine lw_arg (v := 1) C hS hl hi (by decide) (by decide) dL_law_1254 dL_law_1255 dL_law_1256 dL_law_1257 dL_law_1258 ?_
  refine lw_arg (v := 2) C hS hl hi (by decide) (by decide) dL_law_1259 dL_law_1260 dL_law_1261 dL_law_1262 dL_law_1263 ?_
  refine lw_arg (v := 3) C hS hl hi (by decide) (by decide) dL_law_1264 dL_law_1265 dL_law_1266 dL_law_1267 dL_law_1268 ?_
  refine lw_arg (v := 4) C hS hl hi (by decide) (by decide) dL_law_1269 dL_law_1270 dL_law_1271 dL_law_1272 dL_law_1273 ?_
  refine lw_arg (v := 5) C hS hl hi (by decide) (by decide) dL_law_1274 dL_law_1275 dL_law_1276 dL_law_1277 dL_law_1278 ?_
  refine lw_arg6 (v := 6) C hS hl hi (by decide) (by decide) dL_law_1279 dL_law_1280 dL_law_1281 dL_law_1283 dL_law_1284 ?_
  refine lw_tR (rest := []) C hS I (t_X9_odds l E A qt (xs (i + 1).toNatClampNeg) (xs (i + 2).toNatClampNeg) (xs (i + 3).toNatClampNeg) (xs (i + 4).toNatClampNeg) (xs (i + 5).toNatClampNeg) (xs (i + 6).toNatClampNeg)) (cwV 6 (hw_X9_odds hw) gd_X9_odds rfl rfl rfl (by decide +kernel) ⟨(Nat.le_of_ble_eq_true rfl), (Nat.le_of_ble_eq_true rfl)⟩) rfl hl.1 rfl (Nat.le_of_ble_eq_true rfl) dL_law_1285 ⟨(Nat.le_of_ble_eq_true rfl), (Nat.le_of_ble_eq_true rfl)⟩ (fun r1285 h1285 => ?_)
  refine lv_pop hx hb dL_law_1288 rfl ?_
  refine lv_aload_n hx hb dL_law_1289 rfl (lv_at hl 2 rfl) ?_
  refine lw_arg (v := 1) C hS hl hi (by decide) (by decide) dL_law_1290 dL_law_1291 dL_law_1292 dL_law_1293 dL_law_1294 ?_
  refine lw_arg (v := 2) C hS hl hi (by decide) (by decide) dL_law_1295 dL_law_1296 dL_law_1297 dL_law_1298 dL_law_1299 ?_
  refine lw_arg (v := 3) C hS hl hi (by decide) (by decide) dL_law_1300 dL_law_1301 dL_law_1302 dL_law_1303 dL_law_1304 ?_
  refine lw_arg (v := 4) C hS hl hi (by decide) (by decide) dL_law_1305 dL_law_1306 dL_law_1307 dL_law_1308 dL_law_1309 ?_
  refine lw_arg (v := 5) C hS hl hi (by decide) (by decide) dL_law_1310 dL_law_1311 dL_law_1312 dL_law_1313 dL_law_1314 ?_
  refine lw_arg6 (v := 6) C hS hl hi (by decide) (by decide) dL_law_1315 dL_law_1316 dL_law_1317 dL_law_1319 dL_law_1320 ?_
  refine lw_mM (rest := []) C hS I (t_X10_odds l E qm (xs (i + 1).toNatClampNeg) (xs (i + 2).toNatClampNeg) (xs (i + 3).toNatClampNeg) (xs (i + 4).toNatClampNeg) (xs (i + 5).toNatClampNeg) (xs (i + 6).toNatClampNeg)) (cwV 6 (hw_X10_odds hw) gd_X10_odds rfl rfl rfl (by decide +kernel) ⟨(Nat.le_of_ble_eq_true rfl), (Nat.le_of_ble_eq_true rfl)⟩) rfl hl.1 rfl (Nat.le_of_ble_eq_true rfl) dL_law_1321 ⟨(Nat.le_of_ble_eq_true rfl), (Nat.le_of_ble_eq_true rfl)⟩ (fun r1321 vm1321 H locs h1321 hS I => ?_)
  refine lv_pop hx hb dL_law_1324 rfl ?_
  exact lv_goto (tgt := 1456) hx hb dL_law_1325 (by decide) (K H locs hS ⟨X, vm1321, (rl_k hM ⟨kp.rf, rfl⟩ h1321.2 hR), I⟩)
theorem lc_32 (C : LwC p s m c b L xs E A) (hS : va_S A s.heap H locs) (I : LwI E A qt qm H) {i : Int32} (hl : lv_has ls 4 (lwl b qt qm i)) (hi : 0 ≤ i.toInt ∧ i.toInt + 7 ≤ L)
    (K : ∀ (H : Heap) (locs : List Loc), va_S A s.heap H locs → LwI E A qt qm H → W p l e room_1 s m #[Value.ref b] below meth c H locs 600000 7302250 Q (F0 m 1456 ls [])) : W p l e room_1 s m #[Value.ref b] below meth c H locs 600000 7302250 Q (F0 m 1328 ls []) := by
  have hx := C.1.1
  have hb := C.1.2.1
  have hw := C.2.2.2.2.2.2.2
  obtain ⟨X, vm, hR, I⟩ := I
  have hM := lwj_md I
  refine lv_aload_n hx hb dL_law_1328 rfl (lv_at hl 1 rfl) ?_
  refine lw_arg (v := 1) C hS hl hi (by decide) (by decide) dL_law_1329 dL_law_1330 dL_law_1331 dL_law_1332 dL_law_1333 ?_
  refine lw_tM (rest := []) C hS I (t_X9_write l E qt (xs (i + 1).toNatClampNeg)) (cwV 1 (hw_X9_write hw) gd_X9_write rfl rfl rfl (by decide +kernel) ⟨(Nat.le_of_ble_eq_true rfl), (Nat.le_of_ble_eq_true rfl)⟩) rfl hl.1 rfl (Nat.le_of_ble_eq_true rfl) dL_law_1334 ⟨(Nat.le_of_ble_eq_true rfl), (Nat.le_of_ble_eq_true rfl)⟩ (fun r1334 X1334 H locs h1334 hS I => ?_)
  refine lv_pop hx hb dL_law_1337 rfl ?_
  refine lv_aload_n hx hb dL_law_1338 rfl (lv_at hl 2 rfl) ?_
  refine lw_arg (v := 1) C hS hl hi (by decide) (by decide) dL_law_1339 dL_law_1340 dL_law_1341 dL_law_1342 dL_law_1343 ?_
  refine lw_mM (rest := []) C hS I (t_X10_write l E qm (xs (i + 1).toNatClampNeg)) (cwV 1 (hw_X10_write hw) gd_X10_write rfl rfl rfl (by decide +kernel) ⟨(Nat.le_of_ble_eq_true rfl), (Nat.le_of_ble_eq_true rfl)⟩) rfl hl.1 rfl (Nat.le_of_ble_eq_true rfl) dL_law_1344 ⟨(Nat.le_of_ble_eq_true rfl), (Nat.le_of_ble_eq_true rfl)⟩ (fun r1344 vm1344 H locs h1344 hS I => ?_)
  refine lv_pop hx hb dL_law_1347 rfl ?_
  exact lv_goto (tgt := 1456) hx hb dL_law_1348 (by decide) (K H locs hS ⟨X1334, vm1344, (rl_write h1334 h1344 hM (lwj_md I) hR).2, I⟩)
theorem lc_33 (C : LwC p s m c b L xs E A) (hS : va_S A s.heap H locs) (I : LwI E A qt qm H) {i : Int32} (hl : lv_has ls 4 (lwl b qt qm i)) (hi : 0 ≤ i.toInt ∧ i.toInt + 7 ≤ L)
    (K : ∀ (H : Heap) (locs : List Loc), va_S A s.heap H locs → LwI E A qt qm H → W p l e room_1 s m #[Value.ref b] below meth c H locs 600000 7302250 Q (F0 m 1456 ls [])) : W p l e room_1 s m #[Value.ref b] below meth c H locs 600000 7302250 Q (F0 m 1351 ls []) := by
  have hx := C.1.1
  have hb := C.1.2.1
  have hw := C.2.2.2.2.2.2.2
  obtain ⟨X, vm, hR, I⟩ := I
  have hM := lwj_md I
  refine lv_aload_n hx hb dL_law_1351 rfl (lv_at hl 1 rfl) ?_
  refine lw_tM (rest := []) C hS I (t_X9_tear l E qt ) (cwV 0 (hw_X9_tear hw) gd_X9_tear rfl rfl rfl (by decide +kernel) ⟨(Nat.le_of_ble_eq_true rfl), (Nat.le_of_ble_eq_true rfl)⟩) rfl hl.1 rfl (Nat.le_of_ble_eq_true rfl) dL_law_1352 ⟨(Nat.le_of_ble_eq_true rfl), (Nat.le_of_ble_eq_true rfl)⟩ (fun r1352 X1352 H locs h1352 hS I => ?_)
  refine lv_pop hx hb dL_law_1355 rfl ?_
  refine lv_aload_n hx hb dL_law_1356 rfl (lv_at hl 2 rfl) ?_
  refine lw_mM (rest := []) C hS I (t_X10_tear l E qm ) (cwV 0 (hw_X10_tear hw) gd_X10_tear rfl rfl rfl (by decide +kernel) ⟨(Nat.le_of_ble_eq_true rfl), (Nat.le_of_ble_eq_true rfl)⟩) rfl hl.1 rfl (Nat.le_of_ble_eq_true rfl) dL_law_1357 ⟨(Nat.le_of_ble_eq_true rfl), (Nat.le_of_ble_eq_true rfl)⟩ (fun r1357 vm1357 H locs h1357 hS I => ?_)
  refine lv_pop hx hb dL_law_1360 rfl ?_
  exact lv_goto (tgt := 1456) hx hb dL_law_1361 (by decide) (K H locs hS ⟨X1352, vm1357, (rl_tear h1352 h1357 hM (lwj_md I) hR).2, I⟩)
theorem lc_34 (C : LwC p s m c b L xs E A) (hS : va_S A s.heap H locs) (I : LwI E A qt qm H) {i : Int32} (hl : lv_has ls 4 (lwl b qt qm i)) (hi : 0 ≤ i.toInt ∧ i.toInt + 7 ≤ L)
    (K : ∀ (H : Heap) (locs : List Loc), va_S A s.heap H locs → LwI E A qt qm H → W p l e room_1 s m #[Value.ref b] below meth c H locs 600000 7302250 Q (F0 m 1456 ls [])) : W p l e room_1 s m #[Value.ref b] below meth c H locs 600000 7302250 Q (F0 m 1364 ls []) := by
  have hx := C.1.1
  have hb := C.1.2.1
  have hw := C.2.2.2.2.2.2.2
  obtain ⟨X, vm, hR, I⟩ := I
  have hM := lwj_md I
  refine lv_aload_n hx hb dL_law_1364 rfl (lv_at hl 1 rfl) ?_
  refine lw_arg (v := 1) C hS hl hi (by decide) (by decide) dL_law_1365 dL_law_1366 dL_law_1367 dL_law_1368 dL_law_1369 ?_
  refine lw_tR (rest := []) C hS I (t_X9_judge l E A qt (xs (i + 1).toNatClampNeg)) (cwV 1 (hw_X9_judge hw) gd_X9_judge rfl rfl rfl (by decide +kernel) ⟨(Nat.le_of_ble_eq_true rfl), (Nat.le_of_ble_eq_true rfl)⟩) rfl hl.1 rfl (Nat.le_of_ble_eq_true rfl) dL_law_1370 ⟨(Nat.le_of_ble_eq_true rfl), (Nat.le_of_ble_eq_true rfl)⟩ (fun r1370 h1370 => ?_)
  refine lv_pop hx hb dL_law_1373 rfl ?_
  refine lv_aload_n hx hb dL_law_1374 rfl (lv_at hl 2 rfl) ?_
  refine lw_arg (v := 1) C hS hl hi (by decide) (by decide) dL_law_1375 dL_law_1376 dL_law_1377 dL_law_1378 dL_law_1379 ?_
  refine lw_mR (rest := []) C hS I (t_X10_judge l E A qm (xs (i + 1).toNatClampNeg)) (cwV 1 (hw_X10_judge hw) gd_X10_judge rfl rfl rfl (by decide +kernel) ⟨(Nat.le_of_ble_eq_true rfl), (Nat.le_of_ble_eq_true rfl)⟩) rfl hl.1 rfl (Nat.le_of_ble_eq_true rfl) dL_law_1380 ⟨(Nat.le_of_ble_eq_true rfl), (Nat.le_of_ble_eq_true rfl)⟩ (fun r1380 h1380 => ?_)
  refine lv_pop hx hb dL_law_1383 rfl ?_
  exact lv_goto (tgt := 1456) hx hb dL_law_1384 (by decide) (K H locs hS ⟨X, vm, (rl_k hM ⟨kp.rf, rfl⟩ ⟨kp.rf, fun _ _ => rfl⟩ hR), I⟩)
theorem lc_35 (C : LwC p s m c b L xs E A) (hS : va_S A s.heap H locs) (I : LwI E A qt qm H) {i : Int32} (hl : lv_has ls 4 (lwl b qt qm i)) (hi : 0 ≤ i.toInt ∧ i.toInt + 7 ≤ L)
    (K : ∀ (H : Heap) (locs : List Loc), va_S A s.heap H locs → LwI E A qt qm H → W p l e room_1 s m #[Value.ref b] below meth c H locs 600000 7302250 Q (F0 m 1456 ls [])) : W p l e room_1 s m #[Value.ref b] below meth c H locs 600000 7302250 Q (F0 m 1387 ls []) := by
  have hx := C.1.1
  have hb := C.1.2.1
  have hw := C.2.2.2.2.2.2.2
  obtain ⟨X, vm, hR, I⟩ := I
  have hM := lwj_md I
  refine lv_aload_n hx hb dL_law_1387 rfl (lv_at hl 1 rfl) ?_
  refine lw_arg (v := 1) C hS hl hi (by decide) (by decide) dL_law_1388 dL_law_1389 dL_law_1390 dL_law_1391 dL_law_1392 ?_
  refine lw_tM (rest := []) C hS I (t_X9_seed l E qt (xs (i + 1).toNatClampNeg)) (cwV 1 (hw_X9_seed hw) gd_X9_seed rfl rfl rfl (by decide +kernel) ⟨(Nat.le_of_ble_eq_true rfl), (Nat.le_of_ble_eq_true rfl)⟩) rfl hl.1 rfl (Nat.le_of_ble_eq_true rfl) dL_law_1393 ⟨(Nat.le_of_ble_eq_true rfl), (Nat.le_of_ble_eq_true rfl)⟩ (fun r1393 X1393 H locs h1393 hS I => ?_)
  refine lv_pop hx hb dL_law_1396 rfl ?_
  refine lv_aload_n hx hb dL_law_1397 rfl (lv_at hl 2 rfl) ?_
  refine lw_arg (v := 1) C hS hl hi (by decide) (by decide) dL_law_1398 dL_law_1399 dL_law_1400 dL_law_1401 dL_law_1402 ?_
  refine lw_mM (rest := []) C hS I (t_X10_seed l E qm (xs (i + 1).toNatClampNeg)) (cwV 1 (hw_X10_seed hw) gd_X10_seed rfl rfl rfl (by decide +kernel) ⟨(Nat.le_of_ble_eq_true rfl), (Nat.le_of_ble_eq_true rfl)⟩) rfl hl.1 rfl (Nat.le_of_ble_eq_true rfl) dL_law_1403 ⟨(Nat.le_of_ble_eq_true rfl), (Nat.le_of_ble_eq_true rfl)⟩ (fun r1403 vm1403 H locs h1403 hS I => ?_)
  refine lv_pop hx hb dL_law_1406 rfl ?_
  exact lv_goto (tgt := 1456) hx hb dL_law_1407 (by decide) (K H locs hS ⟨X1393, vm1403, (rl_seed h1393 h1403 hM (lwj_md I) hR).2, I⟩)
theorem lc_36 (C : LwC p s m c b L xs E A) (hS : va_S A s.heap H locs) (I : LwI E A qt qm H) {i : Int32} (hl : lv_has ls 4 (lwl b qt qm i)) (hi : 0 ≤ i.toInt ∧ i.toInt + 7 ≤ L)
    (K : ∀ (H : Heap) (locs : List Loc), va_S A s.heap H locs → LwI E A qt qm H → W p l e room_1 s m #[Value.ref b] below meth c H locs 600000 7302250 Q (F0 m 1456 ls [])) : W p l e room_1 s m #[Value.ref b] below meth c H locs 600000 7302250 Q (F0 m 1410 ls []) := by
  have hx := C.1.1
  have hb := C.1.2.1
  have hw := C.2.2.2.2.2.2.2
  obtain ⟨X, vm, hR, I⟩ := I
  have hM := lwj_md I
  refine lv_aload_n hx hb dL_law_1410 rfl (lv_at hl 1 rfl) ?_
  refine lw_arg (v := 1) C hS hl hi (by decide) (by decide) dL_law_1411 dL_law_1412 dL_law_1413 dL_law_1414 dL_law_1415 ?_
  refine lw_tM (rest := []) C hS I (t_X9_keep l E qt (xs (i + 1).toNatClampNeg)) (cwV 1 (hw_X9_keep hw) gd_X9_keep rfl rfl rfl (by decide +kernel) ⟨(Nat.le_of_ble_eq_true rfl), (Nat.le_of_ble_eq_true rfl)⟩) rfl hl.1 rfl (Nat.le_of_ble_eq_true rfl) dL_law_1416 ⟨(Nat.le_of_ble_eq_true rfl), (Nat.le_of_ble_eq_true rfl)⟩ (fun r1416 X1416 H locs h1416 hS I => ?_)
  refine lv_pop hx hb dL_law_1419 rfl ?_
  refine lv_aload_n hx hb dL_law_1420 rfl (lv_at hl 2 rfl) ?_
  refine lw_arg (v := 1) C hS hl hi (by decide) (by decide) dL_law_1421 dL_law_1422 dL_law_1423 dL_law_1424 dL_law_1425 ?_
  refine lw_mM (rest := []) C hS I (t_X10_keep l E qm (xs (i + 1).toNatClampNeg)) (cwV 1 (hw_X10_keep hw) gd_X10_keep rfl rfl rfl (by decide +kernel) ⟨(Nat.le_of_ble_eq_true rfl), (Nat.le_of_ble_eq_true rfl)⟩) rfl hl.1 rfl (Nat.le_of_ble_eq_true rfl) dL_law_1426 ⟨(Nat.le_of_ble_eq_true rfl), (Nat.le_of_ble_eq_true rfl)⟩ (fun r1426 vm1426 H locs h1426 hS I => ?_)
  refine lv_pop hx hb dL_law_1429 rfl ?_
  exact lv_goto (tgt := 1456) hx hb dL_law_1430 (by decide) (K H locs hS ⟨X1416, vm1426, (rl_keep h1416 h1426 hM (lwj_md I) hR), I⟩)
theorem lc_37 (C : LwC p s m c b L xs E A) (hS : va_S A s.heap H locs) (I : LwI E A qt qm H) {i : Int32} (hl : lv_has ls 4 (lwl b qt qm i)) (hi : 0 ≤ i.toInt ∧ i.toInt + 7 ≤ L)
    (K : ∀ (H : Heap) (locs : List Loc), va_S A s.heap H locs → LwI E A qt qm H → W p l e room_1 s m #[Value.ref b] below meth c H locs 600000 7302250 Q (F0 m 1456 ls [])) : W p l e room_1 s m #[Value.ref b] below meth c H locs 600000 7302250 Q (F0 m 1433 ls []) := by
  have hx := C.1.1
  have hb := C.1.2.1
  have hw := C.2.2.2.2.2.2.2
  obtain ⟨X, vm, hR, I⟩ := I
  have hM := lwj_md I
  refine lv_aload_n hx hb dL_law_1433 rfl (lv_at hl 1 rfl) ?_
  refine lw_arg (v := 1) C hS hl hi (by decide) (by decide) dL_law_1434 dL_law_1435 dL_law_1436 dL_law_1437 dL_law_1438 ?_
  refine lw_tM (rest := []) C hS I (t_X9_goBack l E qt (xs (i + 1).toNatClampNeg)) (cwV 1 (hw_X9_goBack hw) gd_X9_goBack rfl rfl rfl (by decide +kernel) ⟨(Nat.le_of_ble_eq_true rfl), (Nat.le_of_ble_eq_true rfl)⟩) rfl hl.1 rfl (Nat.le_of_ble_eq_true rfl) dL_law_1439 ⟨(Nat.le_of_ble_eq_true rfl), (Nat.le_of_ble_eq_true rfl)⟩ (fun r1439 X1439 H locs h1439 hS I => ?_)
  refine lv_pop hx hb dL_law_1442 rfl ?_
  refine lv_aload_n hx hb dL_law_1443 rfl (lv_at hl 2 rfl) ?_
  refine lw_arg (v := 1) C hS hl hi (by decide) (by decide) dL_law_1444 dL_law_1445 dL_law_1446 dL_law_1447 dL_law_1448 ?_
  refine lw_mM (rest := []) C hS I (t_X10_goBack l E qm (xs (i + 1).toNatClampNeg)) (cwV 1 (hw_X10_goBack hw) gd_X10_goBack rfl rfl rfl (by decide +kernel) ⟨(Nat.le_of_ble_eq_true rfl), (Nat.le_of_ble_eq_true rfl)⟩) rfl hl.1 rfl (Nat.le_of_ble_eq_true rfl) dL_law_1449 ⟨(Nat.le_of_ble_eq_true rfl), (Nat.le_of_ble_eq_true rfl)⟩ (fun r1449 vm1449 H locs h1449 hS I => ?_)
  refine lv_pop hx hb dL_law_1452 rfl ?_
  exact lv_goto (tgt := 1456) hx hb dL_law_1453 (by decide) (K H locs hS ⟨X1439, vm1449, (rl_goBack h1439 h1449 hM (lwj_md I) hR).2, I⟩)
end LK
