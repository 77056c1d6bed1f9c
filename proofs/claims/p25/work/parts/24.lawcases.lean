section LWC
variable {p : Program} {l : Launch} {e : Env} {s : State} {m : MethodId} {below : List Frame} {meth : Method} {c : Code} {D : va_G} {tI tII : ClassId} {b L : Nat} {xs : Nat → Int32} {B cells slots : Nat} {H : Heap} {locs : List Loc} {Q : State → Prop} {ls : Array Slot} {x3 : Int32} {σ : Mem}
set_option maxHeartbeats 4000000 in
set_option maxRecDepth 100000 in
theorem lw_case_0 {I : Mem → Prop} {F : Nat} (hok : wl_ok_0 I F) (hI : I σ) (C : wl_C p s m meth c b L xs D tI tII B) (hcs : cells ≤ room_1.cells ∧ slots ≤ room_1.slots) (hin : ∀ j : Int32, 0 ≤ j ∧ j ≤ 5 → vp_in (x3 + j) L) (hM : wt_St D tI tII B σ s H locs) (hl : lv_has ls 4 [(3, .int x3), (0, .ref b), (1, .ref (B + 0)), (2, .ref (B + 101))]) (kk : ∀ (σ2 : Mem) (H : Heap) (locs : List Loc) (ls : Array Slot), I σ2 → wt_St D tI tII B σ2 s H locs → lv_has ls 4 [(3, .int x3), (0, .ref b), (1, .ref (B + 0)), (2, .ref (B + 101))] → W p l e room_1 s m #[Value.ref b] below meth c H locs cells slots Q (F0 m 1946 ls [])) : W p l e room_1 s m #[Value.ref b] below meth c H locs cells slots Q (F0 m 264 ls []) := by
  obtain ⟨hx, hb, hts, hown, hml, hX, hbl, hbA, hK⟩ := C
  obtain ⟨r1, σ1, r2, σ2, h1, h2, hI⟩ := hok σ (xs (x3 + 1).toNatClampNeg) hI
  refine lv_aload_n hx hb dL_law_264 rfl (lv_at hl 2 rfl) ?_
  refine lv_aload_n hx hb dL_law_265 rfl (lv_at hl 1 rfl) ?_
  refine lv_iload_n hx hb dL_law_266 rfl (lv_at hl 0 rfl) ?_
  refine lv_iconst (v := 1) hx hb dL_law_267 (by decide) ?_
  refine lv_iadd hx hb dL_law_268 ?_
  refine va_sld hx hb hX hbl hbA hM.2 (hin 1 (by decide)) dL_law_269 ?_
  refine wl_callVi (As := [.int (xs (x3 + 1).toNatClampNeg)]) (rest := []) hx hb hml hts hown hK hM wt_rc_X3 cl_13 hl_X3_feed rfl ⟨qz_b rfl, qz_b rfl⟩ ⟨rfl, rfl⟩ hl.1 rfl (qz_b rfl) dL_law_270 hcs (c_X3_feed h1) (fun H locs hM => ?_)
  refine lv_pop hx hb dL_law_273 rfl ?_
  refine lv_aload_n hx hb dL_law_274 rfl (lv_at hl 3 rfl) ?_
  refine lv_aload_n hx hb dL_law_275 rfl (lv_at hl 1 rfl) ?_
  refine lv_iload_n hx hb dL_law_276 rfl (lv_at hl 0 rfl) ?_
  refine lv_iconst (v := 1) hx hb dL_law_277 (by decide) ?_
  refine lv_iadd hx hb dL_law_278 ?_
  refine va_sld hx hb hX hbl hbA hM.2 (hin 1 (by decide)) dL_law_279 ?_
  refine wl_callVi (As := [.int (xs (x3 + 1).toNatClampNeg)]) (rest := []) hx hb hml hts hown hK hM wt_rc_X4 cl_17 hl_X4_feed rfl ⟨qz_b rfl, qz_b rfl⟩ ⟨rfl, rfl⟩ hl.1 rfl (qz_b rfl) dL_law_280 hcs (c_X4_feed h2) (fun H locs hM => ?_)
  refine lv_pop hx hb dL_law_283 rfl ?_
  refine lv_goto (tgt := 1946) hx hb dL_law_284 (by decide) ?_
  exact kk _ _ _ _ hI hM hl
set_option maxHeartbeats 4000000 in
set_option maxRecDepth 100000 in
theorem lw_case_1 {I : Mem → Prop} {F : Nat} (hok : wl_ok_1 I F) (hI : I σ) (C : wl_C p s m meth c b L xs D tI tII B) (hcs : cells ≤ room_1.cells ∧ slots ≤ room_1.slots) (hin : ∀ j : Int32, 0 ≤ j ∧ j ≤ 5 → vp_in (x3 + j) L) (hM : wt_St D tI tII B σ s H locs) (hl : lv_has ls 4 [(3, .int x3), (0, .ref b), (1, .ref (B + 0)), (2, .ref (B + 101))]) (kk : ∀ (σ2 : Mem) (H : Heap) (locs : List Loc) (ls : Array Slot), I σ2 → wt_St D tI tII B σ2 s H locs → lv_has ls 4 [(3, .int x3), (0, .ref b), (1, .ref (B + 0)), (2, .ref (B + 101))] → W p l e room_1 s m #[Value.ref b] below meth c H locs cells slots Q (F0 m 1946 ls [])) : W p l e room_1 s m #[Value.ref b] below meth c H locs cells slots Q (F0 m 287 ls []) := by
  obtain ⟨hx, hb, hts, hown, hml, hX, hbl, hbA, hK⟩ := C
  obtain ⟨r1, σ1, r2, σ2, h1, h2, hI⟩ := hok σ hI
  refine lv_aload_n hx hb dL_law_287 rfl (lv_at hl 2 rfl) ?_
  refine wl_callVi (As := []) (rest := []) hx hb hml hts hown hK hM wt_rc_X3 cl_18 hl_X3_terrace rfl ⟨qz_b rfl, qz_b rfl⟩ ⟨rfl, rfl⟩ hl.1 rfl (qz_b rfl) dL_law_288 hcs (c_X3_terrace h1) (fun H locs hM => ?_)
  refine lv_pop hx hb dL_law_291 rfl ?_
  refine lv_aload_n hx hb dL_law_292 rfl (lv_at hl 3 rfl) ?_
  refine wl_callVi (As := []) (rest := []) hx hb hml hts hown hK hM wt_rc_X4 cl_22 hl_X4_terrace rfl ⟨qz_b rfl, qz_b rfl⟩ ⟨rfl, rfl⟩ hl.1 rfl (qz_b rfl) dL_law_293 hcs (c_X4_terrace h2) (fun H locs hM => ?_)
  refine lv_pop hx hb dL_law_296 rfl ?_
  refine lv_goto (tgt := 1946) hx hb dL_law_297 (by decide) ?_
  exact kk _ _ _ _ hI hM hl
set_option maxHeartbeats 4000000 in
set_option maxRecDepth 100000 in
theorem lw_case_2 {I : Mem → Prop} {F : Nat} (hok : wl_ok_2 I F) (hI : I σ) (C : wl_C p s m meth c b L xs D tI tII B) (hcs : cells ≤ room_1.cells ∧ slots ≤ room_1.slots) (hin : ∀ j : Int32, 0 ≤ j ∧ j ≤ 5 → vp_in (x3 + j) L) (hM : wt_St D tI tII B σ s H locs) (hl : lv_has ls 4 [(3, .int x3), (0, .ref b), (1, .ref (B + 0)), (2, .ref (B + 101))]) (kk : ∀ (σ2 : Mem) (H : Heap) (locs : List Loc) (ls : Array Slot), I σ2 → wt_St D tI tII B σ2 s H locs → lv_has ls 4 [(3, .int x3), (0, .ref b), (1, .ref (B + 0)), (2, .ref (B + 101))] → W p l e room_1 s m #[Value.ref b] below meth c H locs cells slots Q (F0 m 1946 ls [])) : W p l e room_1 s m #[Value.ref b] below meth c H locs cells slots Q (F0 m 300 ls []) := by
  obtain ⟨hx, hb, hts, hown, hml, hX, hbl, hbA, hK⟩ := C
  obtain ⟨r1, σ1, r2, σ2, h1, h2, hI⟩ := hok σ (xs (x3 + 1).toNatClampNeg) (xs (x3 + 2).toNatClampNeg) hI
  refine lv_aload_n hx hb dL_law_300 rfl (lv_at hl 2 rfl) ?_
  refine lv_aload_n hx hb dL_law_301 rfl (lv_at hl 1 rfl) ?_
  refine lv_iload_n hx hb dL_law_302 rfl (lv_at hl 0 rfl) ?_
  refine lv_iconst (v := 1) hx hb dL_law_303 (by decide) ?_
  refine lv_iadd hx hb dL_law_304 ?_
  refine va_sld hx hb hX hbl hbA hM.2 (hin 1 (by decide)) dL_law_305 ?_
  refine lv_aload_n hx hb dL_law_306 rfl (lv_at hl 1 rfl) ?_
  refine lv_iload_n hx hb dL_law_307 rfl (lv_at hl 0 rfl) ?_
  refine lv_iconst (v := 2) hx hb dL_law_308 (by decide) ?_
  refine lv_iadd hx hb dL_law_309 ?_
  refine va_sld hx hb hX hbl hbA hM.2 (hin 2 (by decide)) dL_law_310 ?_
  refine wl_callVi (As := [.int (xs (x3 + 1).toNatClampNeg), .int (xs (x3 + 2).toNatClampNeg)]) (rest := []) hx hb hml hts hown hK hM wt_rc_X3 cl_23 hl_X3_paneOf rfl ⟨qz_b rfl, qz_b rfl⟩ ⟨rfl, rfl⟩ hl.1 rfl (qz_b rfl) dL_law_311 hcs (c_X3_paneOf h1) (fun H locs hM => ?_)
  refine lv_pop hx hb dL_law_314 rfl ?_
  refine lv_aload_n hx hb dL_law_315 rfl (lv_at hl 3 rfl) ?_
  refine lv_aload_n hx hb dL_law_316 rfl (lv_at hl 1 rfl) ?_
  refine lv_iload_n hx hb dL_law_317 rfl (lv_at hl 0 rfl) ?_
  refine lv_iconst (v := 1) hx hb dL_law_318 (by decide) ?_
  refine lv_iadd hx hb dL_law_319 ?_
  refine va_sld hx hb hX hbl hbA hM.2 (hin 1 (by decide)) dL_law_320 ?_
  refine lv_aload_n hx hb dL_law_321 rfl (lv_at hl 1 rfl) ?_
  refine lv_iload_n hx hb dL_law_322 rfl (lv_at hl 0 rfl) ?_
  refine lv_iconst (v := 2) hx hb dL_law_323 (by decide) ?_
  refine lv_iadd hx hb dL_law_324 ?_
  refine va_sld hx hb hX hbl hbA hM.2 (hin 2 (by decide)) dL_law_325 ?_
  refine wl_callVi (As := [.int (xs (x3 + 1).toNatClampNeg), .int (xs (x3 + 2).toNatClampNeg)]) (rest := []) hx hb hml hts hown hK hM wt_rc_X4 cl_27 hl_X4_paneOf rfl ⟨qz_b rfl, qz_b rfl⟩ ⟨rfl, rfl⟩ hl.1 rfl (qz_b rfl) dL_law_326 hcs (c_X4_paneOf h2) (fun H locs hM => ?_)
  refine lv_pop hx hb dL_law_329 rfl ?_
  refine lv_goto (tgt := 1946) hx hb dL_law_330 (by decide) ?_
  exact kk _ _ _ _ hI hM hl
set_option maxHeartbeats 4000000 in
set_option maxRecDepth 100000 in
theorem lw_case_3 {I : Mem → Prop} {F : Nat} (hok : wl_ok_3 I F) (hI : I σ) (C : wl_C p s m meth c b L xs D tI tII B) (hcs : cells ≤ room_1.cells ∧ slots ≤ room_1.slots) (hin : ∀ j : Int32, 0 ≤ j ∧ j ≤ 5 → vp_in (x3 + j) L) (hM : wt_St D tI tII B σ s H locs) (hl : lv_has ls 4 [(3, .int x3), (0, .ref b), (1, .ref (B + 0)), (2, .ref (B + 101))]) (kk : ∀ (σ2 : Mem) (H : Heap) (locs : List Loc) (ls : Array Slot), I σ2 → wt_St D tI tII B σ2 s H locs → lv_has ls 4 [(3, .int x3), (0, .ref b), (1, .ref (B + 0)), (2, .ref (B + 101))] → W p l e room_1 s m #[Value.ref b] below meth c H locs cells slots Q (F0 m 1946 ls [])) : W p l e room_1 s m #[Value.ref b] below meth c H locs cells slots Q (F0 m 333 ls []) := by
  obtain ⟨hx, hb, hts, hown, hml, hX, hbl, hbA, hK⟩ := C
  obtain ⟨r1, σ1, r2, σ2, h1, h2, hI⟩ := hok σ (xs (x3 + 1).toNatClampNeg) (xs (x3 + 2).toNatClampNeg) hI
  refine lv_aload_n hx hb dL_law_333 rfl (lv_at hl 2 rfl) ?_
  refine lv_aload_n hx hb dL_law_334 rfl (lv_at hl 1 rfl) ?_
  refine lv_iload_n hx hb dL_law_335 rfl (lv_at hl 0 rfl) ?_
  refine lv_iconst (v := 1) hx hb dL_law_336 (by decide) ?_
  refine lv_iadd hx hb dL_law_337 ?_
  refine va_sld hx hb hX hbl hbA hM.2 (hin 1 (by decide)) dL_law_338 ?_
  refine lv_aload_n hx hb dL_law_339 rfl (lv_at hl 1 rfl) ?_
  refine lv_iload_n hx hb dL_law_340 rfl (lv_at hl 0 rfl) ?_
  refine lv_iconst (v := 2) hx hb dL_law_341 (by decide) ?_
  refine lv_iadd hx hb dL_law_342 ?_
  refine va_sld hx hb hX hbl hbA hM.2 (hin 2 (by decide)) dL_law_343 ?_
  refine wl_callVi (As := [.int (xs (x3 + 1).toNatClampNeg), .int (xs (x3 + 2).toNatClampNeg)]) (rest := []) hx hb hml hts hown hK hM wt_rc_X3 cl_28 hl_X3_lookerOf rfl ⟨qz_b rfl, qz_b rfl⟩ ⟨rfl, rfl⟩ hl.1 rfl (qz_b rfl) dL_law_344 hcs (c_X3_lookerOf h1) (fun H locs hM => ?_)
  refine lv_pop hx hb dL_law_347 rfl ?_
  refine lv_aload_n hx hb dL_law_348 rfl (lv_at hl 3 rfl) ?_
  refine lv_aload_n hx hb dL_law_349 rfl (lv_at hl 1 rfl) ?_
  refine lv_iload_n hx hb dL_law_350 rfl (lv_at hl 0 rfl) ?_
  refine lv_iconst (v := 1) hx hb dL_law_351 (by decide) ?_
  refine lv_iadd hx hb dL_law_352 ?_
  refine va_sld hx hb hX hbl hbA hM.2 (hin 1 (by decide)) dL_law_353 ?_
  refine lv_aload_n hx hb dL_law_354 rfl (lv_at hl 1 rfl) ?_
  refine lv_iload_n hx hb dL_law_355 rfl (lv_at hl 0 rfl) ?_
  refine lv_iconst (v := 2) hx hb dL_law_356 (by decide) ?_
  refine lv_iadd hx hb dL_law_357 ?_
  refine va_sld hx hb hX hbl hbA hM.2 (hin 2 (by decide)) dL_law_358 ?_
  refine wl_callVi (As := [.int (xs (x3 + 1).toNatClampNeg), .int (xs (x3 + 2).toNatClampNeg)]) (rest := []) hx hb hml hts hown hK hM wt_rc_X4 cl_31 hl_X4_lookerOf rfl ⟨qz_b rfl, qz_b rfl⟩ ⟨rfl, rfl⟩ hl.1 rfl (qz_b rfl) dL_law_359 hcs (c_X4_lookerOf h2) (fun H locs hM => ?_)
  refine lv_pop hx hb dL_law_362 rfl ?_
  refine lv_goto (tgt := 1946) hx hb dL_law_363 (by decide) ?_
  exact kk _ _ _ _ hI hM hl
set_option maxHeartbeats 4000000 in
set_option maxRecDepth 100000 in
theorem lw_case_4 {I : Mem → Prop} {F : Nat} (hok : wl_ok_4 I F) (hI : I σ) (C : wl_C p s m meth c b L xs D tI tII B) (hcs : cells ≤ room_1.cells ∧ slots ≤ room_1.slots) (hin : ∀ j : Int32, 0 ≤ j ∧ j ≤ 5 → vp_in (x3 + j) L) (hM : wt_St D tI tII B σ s H locs) (hl : lv_has ls 4 [(3, .int x3), (0, .ref b), (1, .ref (B + 0)), (2, .ref (B + 101))]) (kk : ∀ (σ2 : Mem) (H : Heap) (locs : List Loc) (ls : Array Slot), I σ2 → wt_St D tI tII B σ2 s H locs → lv_has ls 4 [(3, .int x3), (0, .ref b), (1, .ref (B + 0)), (2, .ref (B + 101))] → W p l e room_1 s m #[Value.ref b] below meth c H locs cells slots Q (F0 m 1946 ls [])) : W p l e room_1 s m #[Value.ref b] below meth c H locs cells slots Q (F0 m 366 ls []) := by
  obtain ⟨hx, hb, hts, hown, hml, hX, hbl, hbA, hK⟩ := C
  obtain ⟨r1, σ1, r2, σ2, h1, h2, hI⟩ := hok σ (xs (x3 + 1).toNatClampNeg) hI
  refine lv_aload_n hx hb dL_law_366 rfl (lv_at hl 2 rfl) ?_
  refine lv_aload_n hx hb dL_law_367 rfl (lv_at hl 1 rfl) ?_
  refine lv_iload_n hx hb dL_law_368 rfl (lv_at hl 0 rfl) ?_
  refine lv_iconst (v := 1) hx hb dL_law_369 (by decide) ?_
  refine lv_iadd hx hb dL_law_370 ?_
  refine va_sld hx hb hX hbl hbA hM.2 (hin 1 (by decide)) dL_law_371 ?_
  refine wl_callVi (As := [.int (xs (x3 + 1).toNatClampNeg)]) (rest := []) hx hb hml hts hown hK hM wt_rc_X3 cl_32 hl_X3_pane rfl ⟨qz_b rfl, qz_b rfl⟩ ⟨rfl, rfl⟩ hl.1 rfl (qz_b rfl) dL_law_372 hcs (c_X3_pane h1) (fun H locs hM => ?_)
  refine lv_pop hx hb dL_law_375 rfl ?_
  refine lv_aload_n hx hb dL_law_376 rfl (lv_at hl 3 rfl) ?_
  refine lv_aload_n hx hb dL_law_377 rfl (lv_at hl 1 rfl) ?_
  refine lv_iload_n hx hb dL_law_378 rfl (lv_at hl 0 rfl) ?_
  refine lv_iconst (v := 1) hx hb dL_law_379 (by decide) ?_
  refine lv_iadd hx hb dL_law_380 ?_
  refine va_sld hx hb hX hbl hbA hM.2 (hin 1 (by decide)) dL_law_381 ?_
  refine wl_callVi (As := [.int (xs (x3 + 1).toNatClampNeg)]) (rest := []) hx hb hml hts hown hK hM wt_rc_X4 cl_35 hl_X4_pane rfl ⟨qz_b rfl, qz_b rfl⟩ ⟨rfl, rfl⟩ hl.1 rfl (qz_b rfl) dL_law_382 hcs (c_X4_pane h2) (fun H locs hM => ?_)
  refine lv_pop hx hb dL_law_385 rfl ?_
  refine lv_goto (tgt := 1946) hx hb dL_law_386 (by decide) ?_
  exact kk _ _ _ _ hI hM hl
set_option maxHeartbeats 4000000 in
set_option maxRecDepth 100000 in
theorem lw_case_5 {I : Mem → Prop} {F : Nat} (hok : wl_ok_5 I F) (hI : I σ) (C : wl_C p s m meth c b L xs D tI tII B) (hcs : cells ≤ room_1.cells ∧ slots ≤ room_1.slots) (hin : ∀ j : Int32, 0 ≤ j ∧ j ≤ 5 → vp_in (x3 + j) L) (hM : wt_St D tI tII B σ s H locs) (hl : lv_has ls 4 [(3, .int x3), (0, .ref b), (1, .ref (B + 0)), (2, .ref (B + 101))]) (kk : ∀ (σ2 : Mem) (H : Heap) (locs : List Loc) (ls : Array Slot), I σ2 → wt_St D tI tII B σ2 s H locs → lv_has ls 4 [(3, .int x3), (0, .ref b), (1, .ref (B + 0)), (2, .ref (B + 101))] → W p l e room_1 s m #[Value.ref b] below meth c H locs cells slots Q (F0 m 1946 ls [])) : W p l e room_1 s m #[Value.ref b] below meth c H locs cells slots Q (F0 m 389 ls []) := by
  obtain ⟨hx, hb, hts, hown, hml, hX, hbl, hbA, hK⟩ := C
  obtain ⟨r1, σ1, r2, σ2, h1, h2, hI⟩ := hok σ (xs (x3 + 1).toNatClampNeg) (xs (x3 + 2).toNatClampNeg) hI
  refine lv_aload_n hx hb dL_law_389 rfl (lv_at hl 2 rfl) ?_
  refine lv_aload_n hx hb dL_law_390 rfl (lv_at hl 1 rfl) ?_
  refine lv_iload_n hx hb dL_law_391 rfl (lv_at hl 0 rfl) ?_
  refine lv_iconst (v := 1) hx hb dL_law_392 (by decide) ?_
  refine lv_iadd hx hb dL_law_393 ?_
  refine va_sld hx hb hX hbl hbA hM.2 (hin 1 (by decide)) dL_law_394 ?_
  refine lv_aload_n hx hb dL_law_395 rfl (lv_at hl 1 rfl) ?_
  refine lv_iload_n hx hb dL_law_396 rfl (lv_at hl 0 rfl) ?_
  refine lv_iconst (v := 2) hx hb dL_law_397 (by decide) ?_
  refine lv_iadd hx hb dL_law_398 ?_
  refine va_sld hx hb hX hbl hbA hM.2 (hin 2 (by decide)) dL_law_399 ?_
  refine wl_callVi (As := [.int (xs (x3 + 1).toNatClampNeg), .int (xs (x3 + 2).toNatClampNeg)]) (rest := []) hx hb hml hts hown hK hM wt_rc_X3 cl_36 hl_X3_looker rfl ⟨qz_b rfl, qz_b rfl⟩ ⟨rfl, rfl⟩ hl.1 rfl (qz_b rfl) dL_law_400 hcs (c_X3_looker h1) (fun H locs hM => ?_)
  refine lv_pop hx hb dL_law_403 rfl ?_
  refine lv_aload_n hx hb dL_law_404 rfl (lv_at hl 3 rfl) ?_
  refine lv_aload_n hx hb dL_law_405 rfl (lv_at hl 1 rfl) ?_
  refine lv_iload_n hx hb dL_law_406 rfl (lv_at hl 0 rfl) ?_
  refine lv_iconst (v := 1) hx hb dL_law_407 (by decide) ?_
  refine lv_iadd hx hb dL_law_408 ?_
  refine va_sld hx hb hX hbl hbA hM.2 (hin 1 (by decide)) dL_law_409 ?_
  refine lv_aload_n hx hb dL_law_410 rfl (lv_at hl 1 rfl) ?_
  refine lv_iload_n hx hb dL_law_411 rfl (lv_at hl 0 rfl) ?_
  refine lv_iconst (v := 2) hx hb dL_law_412 (by decide) ?_
  refine lv_iadd hx hb dL_law_413 ?_
  refine va_sld hx hb hX hbl hbA hM.2 (hin 2 (by decide)) dL_law_414 ?_
  refine wl_callVi (As := [.int (xs (x3 + 1).toNatClampNeg), .int (xs (x3 + 2).toNatClampNeg)]) (rest := []) hx hb hml hts hown hK hM wt_rc_X4 cl_39 hl_X4_looker rfl ⟨qz_b rfl, qz_b rfl⟩ ⟨rfl, rfl⟩ hl.1 rfl (qz_b rfl) dL_law_415 hcs (c_X4_looker h2) (fun H locs hM => ?_)
  refine lv_pop hx hb dL_law_418 rfl ?_
  refine lv_goto (tgt := 1946) hx hb dL_law_419 (by decide) ?_
  exact kk _ _ _ _ hI hM hl
set_option maxHeartbeats 4000000 in
set_option maxRecDepth 100000 in
theorem lw_case_6 {I : Mem → Prop} {F : Nat} (hok : wl_ok_6 I F) (hI : I σ) (C : wl_C p s m meth c b L xs D tI tII B) (hcs : cells ≤ room_1.cells ∧ slots ≤ room_1.slots) (hin : ∀ j : Int32, 0 ≤ j ∧ j ≤ 5 → vp_in (x3 + j) L) (hM : wt_St D tI tII B σ s H locs) (hl : lv_has ls 4 [(3, .int x3), (0, .ref b), (1, .ref (B + 0)), (2, .ref (B + 101))]) (kk : ∀ (σ2 : Mem) (H : Heap) (locs : List Loc) (ls : Array Slot), I σ2 → wt_St D tI tII B σ2 s H locs → lv_has ls 4 [(3, .int x3), (0, .ref b), (1, .ref (B + 0)), (2, .ref (B + 101))] → W p l e room_1 s m #[Value.ref b] below meth c H locs cells slots Q (F0 m 1946 ls [])) : W p l e room_1 s m #[Value.ref b] below meth c H locs cells slots Q (F0 m 422 ls []) := by
  obtain ⟨hx, hb, hts, hown, hml, hX, hbl, hbA, hK⟩ := C
  obtain ⟨r1, σ1, r2, σ2, h1, h2, hI⟩ := hok σ (xs (x3 + 1).toNatClampNeg) (xs (x3 + 2).toNatClampNeg) (xs (x3 + 3).toNatClampNeg) (xs (x3 + 4).toNatClampNeg) hI
  refine lv_aload_n hx hb dL_law_422 rfl (lv_at hl 2 rfl) ?_
  refine lv_aload_n hx hb dL_law_423 rfl (lv_at hl 1 rfl) ?_
  refine lv_iload_n hx hb dL_law_424 rfl (lv_at hl 0 rfl) ?_
  refine lv_iconst (v := 1) hx hb dL_law_425 (by decide) ?_
  refine lv_iadd hx hb dL_law_426 ?_
  refine va_sld hx hb hX hbl hbA hM.2 (hin 1 (by decide)) dL_law_427 ?_
  refine lv_aload_n hx hb dL_law_428 rfl (lv_at hl 1 rfl) ?_
  refine lv_iload_n hx hb dL_law_429 rfl (lv_at hl 0 rfl) ?_
  refine lv_iconst (v := 2) hx hb dL_law_430 (by decide) ?_
  refine lv_iadd hx hb dL_law_431 ?_
  refine va_sld hx hb hX hbl hbA hM.2 (hin 2 (by decide)) dL_law_432 ?_
  refine lv_aload_n hx hb dL_law_433 rfl (lv_at hl 1 rfl) ?_
  refine lv_iload_n hx hb dL_law_434 rfl (lv_at hl 0 rfl) ?_
  refine lv_iconst (v := 3) hx hb dL_law_435 (by decide) ?_
  refine lv_iadd hx hb dL_law_436 ?_
  refine va_sld hx hb hX hbl hbA hM.2 (hin 3 (by decide)) dL_law_437 ?_
  refine lv_aload_n hx hb dL_law_438 rfl (lv_at hl 1 rfl) ?_
  refine lv_iload_n hx hb dL_law_439 rfl (lv_at hl 0 rfl) ?_
  refine lv_iconst (v := 4) hx hb dL_law_440 (by decide) ?_
  refine lv_iadd hx hb dL_law_441 ?_
  refine va_sld hx hb hX hbl hbA hM.2 (hin 4 (by decide)) dL_law_442 ?_
  refine wl_callVi (As := [.int (xs (x3 + 1).toNatClampNeg), .int (xs (x3 + 2).toNatClampNeg), .int (xs (x3 + 3).toNatClampNeg), .int (xs (x3 + 4).toNatClampNeg)]) (rest := []) hx hb hml hts hown hK hM wt_rc_X3 cl_40 hl_X3_stands rfl ⟨qz_b rfl, qz_b rfl⟩ ⟨rfl, rfl⟩ hl.1 rfl (qz_b rfl) dL_law_443 hcs (c_X3_stands h1) (fun H locs hM => ?_)
  refine lv_pop hx hb dL_law_446 rfl ?_
  refine lv_aload_n hx hb dL_law_447 rfl (lv_at hl 3 rfl) ?_
  refine lv_aload_n hx hb dL_law_448 rfl (lv_at hl 1 rfl) ?_
  refine lv_iload_n hx hb dL_law_449 rfl (lv_at hl 0 rfl) ?_
  refine lv_iconst (v := 1) hx hb dL_law_450 (by decide) ?_
  refine lv_iadd hx hb dL_law_451 ?_
  refine va_sld hx hb hX hbl hbA hM.2 (hin 1 (by decide)) dL_law_452 ?_
  refine lv_aload_n hx hb dL_law_453 rfl (lv_at hl 1 rfl) ?_
  refine lv_iload_n hx hb dL_law_454 rfl (lv_at hl 0 rfl) ?_
  refine lv_iconst (v := 2) hx hb dL_law_455 (by decide) ?_
  refine lv_iadd hx hb dL_law_456 ?_
  refine va_sld hx hb hX hbl hbA hM.2 (hin 2 (by decide)) dL_law_457 ?_
  refine lv_aload_n hx hb dL_law_458 rfl (lv_at hl 1 rfl) ?_
  refine lv_iload_n hx hb dL_law_459 rfl (lv_at hl 0 rfl) ?_
  refine lv_iconst (v := 3) hx hb dL_law_460 (by decide) ?_
  refine lv_iadd hx hb dL_law_461 ?_
  refine va_sld hx hb hX hbl hbA hM.2 (hin 3 (by decide)) dL_law_462 ?_
  refine lv_aload_n hx hb dL_law_463 rfl (lv_at hl 1 rfl) ?_
  refine lv_iload_n hx hb dL_law_464 rfl (lv_at hl 0 rfl) ?_
  refine lv_iconst (v := 4) hx hb dL_law_465 (by decide) ?_
  refine lv_iadd hx hb dL_law_466 ?_
  refine va_sld hx hb hX hbl hbA hM.2 (hin 4 (by decide)) dL_law_467 ?_
  refine wl_callVi (As := [.int (xs (x3 + 1).toNatClampNeg), .int (xs (x3 + 2).toNatClampNeg), .int (xs (x3 + 3).toNatClampNeg), .int (xs (x3 + 4).toNatClampNeg)]) (rest := []) hx hb hml hts hown hK hM wt_rc_X4 cl_44 hl_X4_stands rfl ⟨qz_b rfl, qz_b rfl⟩ ⟨rfl, rfl⟩ hl.1 rfl (qz_b rfl) dL_law_468 hcs (c_X4_stands h2) (fun H locs hM => ?_)
  refine lv_pop hx hb dL_law_471 rfl ?_
  refine lv_goto (tgt := 1946) hx hb dL_law_472 (by decide) ?_
  exact kk _ _ _ _ hI hM hl
set_option maxHeartbeats 4000000 in
set_option maxRecDepth 100000 in
theorem lw_case_7 {I : Mem → Prop} {F : Nat} (hok : wl_ok_7 I F) (hI : I σ) (C : wl_C p s m meth c b L xs D tI tII B) (hcs : cells ≤ room_1.cells ∧ slots ≤ room_1.slots) (hin : ∀ j : Int32, 0 ≤ j ∧ j ≤ 5 → vp_in (x3 + j) L) (hM : wt_St D tI tII B σ s H locs) (hl : lv_has ls 4 [(3, .int x3), (0, .ref b), (1, .ref (B + 0)), (2, .ref (B + 101))]) (kk : ∀ (σ2 : Mem) (H : Heap) (locs : List Loc) (ls : Array Slot), I σ2 → wt_St D tI tII B σ2 s H locs → lv_has ls 4 [(3, .int x3), (0, .ref b), (1, .ref (B + 0)), (2, .ref (B + 101))] → W p l e room_1 s m #[Value.ref b] below meth c H locs cells slots Q (F0 m 1946 ls [])) : W p l e room_1 s m #[Value.ref b] below meth c H locs cells slots Q (F0 m 475 ls []) := by
  obtain ⟨hx, hb, hts, hown, hml, hX, hbl, hbA, hK⟩ := C
  obtain ⟨r1, σ1, r2, σ2, h1, h2, hI⟩ := hok σ (xs (x3 + 1).toNatClampNeg) (xs (x3 + 2).toNatClampNeg) hI
  refine lv_aload_n hx hb dL_law_475 rfl (lv_at hl 2 rfl) ?_
  refine lv_aload_n hx hb dL_law_476 rfl (lv_at hl 1 rfl) ?_
  refine lv_iload_n hx hb dL_law_477 rfl (lv_at hl 0 rfl) ?_
  refine lv_iconst (v := 1) hx hb dL_law_478 (by decide) ?_
  refine lv_iadd hx hb dL_law_479 ?_
  refine va_sld hx hb hX hbl hbA hM.2 (hin 1 (by decide)) dL_law_480 ?_
  refine lv_aload_n hx hb dL_law_481 rfl (lv_at hl 1 rfl) ?_
  refine lv_iload_n hx hb dL_law_482 rfl (lv_at hl 0 rfl) ?_
  refine lv_iconst (v := 2) hx hb dL_law_483 (by decide) ?_
  refine lv_iadd hx hb dL_law_484 ?_
  refine va_sld hx hb hX hbl hbA hM.2 (hin 2 (by decide)) dL_law_485 ?_
  refine wl_callVi (As := [.int (xs (x3 + 1).toNatClampNeg), .int (xs (x3 + 2).toNatClampNeg)]) (rest := []) hx hb hml hts hown hK hM wt_rc_X3 cl_45 hl_X3_roster rfl ⟨qz_b rfl, qz_b rfl⟩ ⟨rfl, rfl⟩ hl.1 rfl (qz_b rfl) dL_law_486 hcs (c_X3_roster h1) (fun H locs hM => ?_)
  refine lv_pop hx hb dL_law_489 rfl ?_
  refine lv_aload_n hx hb dL_law_490 rfl (lv_at hl 3 rfl) ?_
  refine lv_aload_n hx hb dL_law_491 rfl (lv_at hl 1 rfl) ?_
  refine lv_iload_n hx hb dL_law_492 rfl (lv_at hl 0 rfl) ?_
  refine lv_iconst (v := 1) hx hb dL_law_493 (by decide) ?_
  refine lv_iadd hx hb dL_law_494 ?_
  refine va_sld hx hb hX hbl hbA hM.2 (hin 1 (by decide)) dL_law_495 ?_
  refine lv_aload_n hx hb dL_law_496 rfl (lv_at hl 1 rfl) ?_
  refine lv_iload_n hx hb dL_law_497 rfl (lv_at hl 0 rfl) ?_
  refine lv_iconst (v := 2) hx hb dL_law_498 (by decide) ?_
  refine lv_iadd hx hb dL_law_499 ?_
  refine va_sld hx hb hX hbl hbA hM.2 (hin 2 (by decide)) dL_law_500 ?_
  refine wl_callVi (As := [.int (xs (x3 + 1).toNatClampNeg), .int (xs (x3 + 2).toNatClampNeg)]) (rest := []) hx hb hml hts hown hK hM wt_rc_X4 cl_48 hl_X4_roster rfl ⟨qz_b rfl, qz_b rfl⟩ ⟨rfl, rfl⟩ hl.1 rfl (qz_b rfl) dL_law_501 hcs (c_X4_roster h2) (fun H locs hM => ?_)
  refine lv_pop hx hb dL_law_504 rfl ?_
  refine lv_goto (tgt := 1946) hx hb dL_law_505 (by decide) ?_
  exact kk _ _ _ _ hI hM hl
set_option maxHeartbeats 4000000 in
set_option maxRecDepth 100000 in
theorem lw_case_8 {I : Mem → Prop} {F : Nat} (hok : wl_ok_8 I F) (hI : I σ) (C : wl_C p s m meth c b L xs D tI tII B) (hcs : cells ≤ room_1.cells ∧ slots ≤ room_1.slots) (hin : ∀ j : Int32, 0 ≤ j ∧ j ≤ 5 → vp_in (x3 + j) L) (hM : wt_St D tI tII B σ s H locs) (hl : lv_has ls 4 [(3, .int x3), (0, .ref b), (1, .ref (B + 0)), (2, .ref (B + 101))]) (kk : ∀ (σ2 : Mem) (H : Heap) (locs : List Loc) (ls : Array Slot), I σ2 → wt_St D tI tII B σ2 s H locs → lv_has ls 4 [(3, .int x3), (0, .ref b), (1, .ref (B + 0)), (2, .ref (B + 101))] → W p l e room_1 s m #[Value.ref b] below meth c H locs cells slots Q (F0 m 1946 ls [])) : W p l e room_1 s m #[Value.ref b] below meth c H locs cells slots Q (F0 m 508 ls []) := by
  obtain ⟨hx, hb, hts, hown, hml, hX, hbl, hbA, hK⟩ := C
  obtain ⟨r1, σ1, r2, σ2, h1, h2, hI⟩ := hok σ (xs (x3 + 1).toNatClampNeg) (xs (x3 + 2).toNatClampNeg) hI
  refine lv_aload_n hx hb dL_law_508 rfl (lv_at hl 2 rfl) ?_
  refine lv_aload_n hx hb dL_law_509 rfl (lv_at hl 1 rfl) ?_
  refine lv_iload_n hx hb dL_law_510 rfl (lv_at hl 0 rfl) ?_
  refine lv_iconst (v := 1) hx hb dL_law_511 (by decide) ?_
  refine lv_iadd hx hb dL_law_512 ?_
  refine va_sld hx hb hX hbl hbA hM.2 (hin 1 (by decide)) dL_law_513 ?_
  refine lv_aload_n hx hb dL_law_514 rfl (lv_at hl 1 rfl) ?_
  refine lv_iload_n hx hb dL_law_515 rfl (lv_at hl 0 rfl) ?_
  refine lv_iconst (v := 2) hx hb dL_law_516 (by decide) ?_
  refine lv_iadd hx hb dL_law_517 ?_
  refine va_sld hx hb hX hbl hbA hM.2 (hin 2 (by decide)) dL_law_518 ?_
  refine wl_callVi (As := [.int (xs (x3 + 1).toNatClampNeg), .int (xs (x3 + 2).toNatClampNeg)]) (rest := []) hx hb hml hts hown hK hM wt_rc_X3 cl_49 hl_X3_wall rfl ⟨qz_b rfl, qz_b rfl⟩ ⟨rfl, rfl⟩ hl.1 rfl (qz_b rfl) dL_law_519 hcs (c_X3_wall h1) (fun H locs hM => ?_)
  refine lv_pop hx hb dL_law_522 rfl ?_
  refine lv_aload_n hx hb dL_law_523 rfl (lv_at hl 3 rfl) ?_
  refine lv_aload_n hx hb dL_law_524 rfl (lv_at hl 1 rfl) ?_
  refine lv_iload_n hx hb dL_law_525 rfl (lv_at hl 0 rfl) ?_
  refine lv_iconst (v := 1) hx hb dL_law_526 (by decide) ?_
  refine lv_iadd hx hb dL_law_527 ?_
  refine va_sld hx hb hX hbl hbA hM.2 (hin 1 (by decide)) dL_law_528 ?_
  refine lv_aload_n hx hb dL_law_529 rfl (lv_at hl 1 rfl) ?_
  refine lv_iload_n hx hb dL_law_530 rfl (lv_at hl 0 rfl) ?_
  refine lv_iconst (v := 2) hx hb dL_law_531 (by decide) ?_
  refine lv_iadd hx hb dL_law_532 ?_
  refine va_sld hx hb hX hbl hbA hM.2 (hin 2 (by decide)) dL_law_533 ?_
  refine wl_callVi (As := [.int (xs (x3 + 1).toNatClampNeg), .int (xs (x3 + 2).toNatClampNeg)]) (rest := []) hx hb hml hts hown hK hM wt_rc_X4 cl_52 hl_X4_wall rfl ⟨qz_b rfl, qz_b rfl⟩ ⟨rfl, rfl⟩ hl.1 rfl (qz_b rfl) dL_law_534 hcs (c_X4_wall h2) (fun H locs hM => ?_)
  refine lv_pop hx hb dL_law_537 rfl ?_
  refine lv_goto (tgt := 1946) hx hb dL_law_538 (by decide) ?_
  exact kk _ _ _ _ hI hM hl
set_option maxHeartbeats 4000000 in
set_option maxRecDepth 100000 in
theorem lw_case_9 {I : Mem → Prop} {F : Nat} (hok : wl_ok_9 I F) (hI : I σ) (C : wl_C p s m meth c b L xs D tI tII B) (hcs : cells ≤ room_1.cells ∧ slots ≤ room_1.slots) (hin : ∀ j : Int32, 0 ≤ j ∧ j ≤ 5 → vp_in (x3 + j) L) (hM : wt_St D tI tII B σ s H locs) (hl : lv_has ls 4 [(3, .int x3), (0, .ref b), (1, .ref (B + 0)), (2, .ref (B + 101))]) (kk : ∀ (σ2 : Mem) (H : Heap) (locs : List Loc) (ls : Array Slot), I σ2 → wt_St D tI tII B σ2 s H locs → lv_has ls 4 [(3, .int x3), (0, .ref b), (1, .ref (B + 0)), (2, .ref (B + 101))] → W p l e room_1 s m #[Value.ref b] below meth c H locs cells slots Q (F0 m 1946 ls [])) : W p l e room_1 s m #[Value.ref b] below meth c H locs cells slots Q (F0 m 541 ls []) := by
  obtain ⟨hx, hb, hts, hown, hml, hX, hbl, hbA, hK⟩ := C
  obtain ⟨r1, σ1, r2, σ2, h1, h2, hI⟩ := hok σ (xs (x3 + 1).toNatClampNeg) (xs (x3 + 2).toNatClampNeg) hI
  refine lv_aload_n hx hb dL_law_541 rfl (lv_at hl 2 rfl) ?_
  refine lv_aload_n hx hb dL_law_542 rfl (lv_at hl 1 rfl) ?_
  refine lv_iload_n hx hb dL_law_543 rfl (lv_at hl 0 rfl) ?_
  refine lv_iconst (v := 1) hx hb dL_law_544 (by decide) ?_
  refine lv_iadd hx hb dL_law_545 ?_
  refine va_sld hx hb hX hbl hbA hM.2 (hin 1 (by decide)) dL_law_546 ?_
  refine lv_aload_n hx hb dL_law_547 rfl (lv_at hl 1 rfl) ?_
  refine lv_iload_n hx hb dL_law_548 rfl (lv_at hl 0 rfl) ?_
  refine lv_iconst (v := 2) hx hb dL_law_549 (by decide) ?_
  refine lv_iadd hx hb dL_law_550 ?_
  refine va_sld hx hb hX hbl hbA hM.2 (hin 2 (by decide)) dL_law_551 ?_
  refine wl_callVi (As := [.int (xs (x3 + 1).toNatClampNeg), .int (xs (x3 + 2).toNatClampNeg)]) (rest := []) hx hb hml hts hown hK hM wt_rc_X3 cl_53 hl_X3_worth rfl ⟨qz_b rfl, qz_b rfl⟩ ⟨rfl, rfl⟩ hl.1 rfl (qz_b rfl) dL_law_552 hcs (c_X3_worth h1) (fun H locs hM => ?_)
  refine lv_pop hx hb dL_law_555 rfl ?_
  refine lv_aload_n hx hb dL_law_556 rfl (lv_at hl 3 rfl) ?_
  refine lv_aload_n hx hb dL_law_557 rfl (lv_at hl 1 rfl) ?_
  refine lv_iload_n hx hb dL_law_558 rfl (lv_at hl 0 rfl) ?_
  refine lv_iconst (v := 1) hx hb dL_law_559 (by decide) ?_
  refine lv_iadd hx hb dL_law_560 ?_
  refine va_sld hx hb hX hbl hbA hM.2 (hin 1 (by decide)) dL_law_561 ?_
  refine lv_aload_n hx hb dL_law_562 rfl (lv_at hl 1 rfl) ?_
  refine lv_iload_n hx hb dL_law_563 rfl (lv_at hl 0 rfl) ?_
  refine lv_iconst (v := 2) hx hb dL_law_564 (by decide) ?_
  refine lv_iadd hx hb dL_law_565 ?_
  refine va_sld hx hb hX hbl hbA hM.2 (hin 2 (by decide)) dL_law_566 ?_
  refine wl_callVi (As := [.int (xs (x3 + 1).toNatClampNeg), .int (xs (x3 + 2).toNatClampNeg)]) (rest := []) hx hb hml hts hown hK hM wt_rc_X4 cl_56 hl_X4_worth rfl ⟨qz_b rfl, qz_b rfl⟩ ⟨rfl, rfl⟩ hl.1 rfl (qz_b rfl) dL_law_567 hcs (c_X4_worth h2) (fun H locs hM => ?_)
  refine lv_pop hx hb dL_law_570 rfl ?_
  refine lv_goto (tgt := 1946) hx hb dL_law_571 (by decide) ?_
  exact kk _ _ _ _ hI hM hl
set_option maxHeartbeats 4000000 in
set_option maxRecDepth 100000 in
theorem lw_case_10 {I : Mem → Prop} {F : Nat} (hok : wl_ok_10 I F) (hI : I σ) (C : wl_C p s m meth c b L xs D tI tII B) (hcs : cells ≤ room_1.cells ∧ slots ≤ room_1.slots) (hin : ∀ j : Int32, 0 ≤ j ∧ j ≤ 5 → vp_in (x3 + j) L) (hM : wt_St D tI tII B σ s H locs) (hl : lv_has ls 4 [(3, .int x3), (0, .ref b), (1, .ref (B + 0)), (2, .ref (B + 101))]) (kk : ∀ (σ2 : Mem) (H : Heap) (locs : List Loc) (ls : Array Slot), I σ2 → wt_St D tI tII B σ2 s H locs → lv_has ls 4 [(3, .int x3), (0, .ref b), (1, .ref (B + 0)), (2, .ref (B + 101))] → W p l e room_1 s m #[Value.ref b] below meth c H locs cells slots Q (F0 m 1946 ls [])) : W p l e room_1 s m #[Value.ref b] below meth c H locs cells slots Q (F0 m 574 ls []) := by
  obtain ⟨hx, hb, hts, hown, hml, hX, hbl, hbA, hK⟩ := C
  obtain ⟨r1, σ1, r2, σ2, h1, h2, hI⟩ := hok σ (xs (x3 + 1).toNatClampNeg) hI
  refine lv_aload_n hx hb dL_law_574 rfl (lv_at hl 2 rfl) ?_
  refine lv_aload_n hx hb dL_law_575 rfl (lv_at hl 1 rfl) ?_
  refine lv_iload_n hx hb dL_law_576 rfl (lv_at hl 0 rfl) ?_
  refine lv_iconst (v := 1) hx hb dL_law_577 (by decide) ?_
  refine lv_iadd hx hb dL_law_578 ?_
  refine va_sld hx hb hX hbl hbA hM.2 (hin 1 (by decide)) dL_law_579 ?_
  refine wl_callVi (As := [.int (xs (x3 + 1).toNatClampNeg)]) (rest := []) hx hb hml hts hown hK hM wt_rc_X3 cl_57 hl_X3_law rfl ⟨qz_b rfl, qz_b rfl⟩ ⟨rfl, rfl⟩ hl.1 rfl (qz_b rfl) dL_law_580 hcs (c_X3_law h1) (fun H locs hM => ?_)
  refine lv_pop hx hb dL_law_583 rfl ?_
  refine lv_aload_n hx hb dL_law_584 rfl (lv_at hl 3 rfl) ?_
  refine lv_aload_n hx hb dL_law_585 rfl (lv_at hl 1 rfl) ?_
  refine lv_iload_n hx hb dL_law_586 rfl (lv_at hl 0 rfl) ?_
  refine lv_iconst (v := 1) hx hb dL_law_587 (by decide) ?_
  refine lv_iadd hx hb dL_law_588 ?_
  refine va_sld hx hb hX hbl hbA hM.2 (hin 1 (by decide)) dL_law_589 ?_
  refine wl_callVi (As := [.int (xs (x3 + 1).toNatClampNeg)]) (rest := []) hx hb hml hts hown hK hM wt_rc_X4 cl_60 hl_X4_law rfl ⟨qz_b rfl, qz_b rfl⟩ ⟨rfl, rfl⟩ hl.1 rfl (qz_b rfl) dL_law_590 hcs (c_X4_law h2) (fun H locs hM => ?_)
  refine lv_pop hx hb dL_law_593 rfl ?_
  refine lv_goto (tgt := 1946) hx hb dL_law_594 (by decide) ?_
  exact kk _ _ _ _ hI hM hl
set_option maxHeartbeats 4000000 in
set_option maxRecDepth 100000 in
theorem lw_case_11 {I : Mem → Prop} {F : Nat} (hok : wl_ok_11 I F) (hI : I σ) (C : wl_C p s m meth c b L xs D tI tII B) (hcs : cells ≤ room_1.cells ∧ slots ≤ room_1.slots) (hin : ∀ j : Int32, 0 ≤ j ∧ j ≤ 5 → vp_in (x3 + j) L) (hM : wt_St D tI tII B σ s H locs) (hl : lv_has ls 4 [(3, .int x3), (0, .ref b), (1, .ref (B + 0)), (2, .ref (B + 101))]) (kk : ∀ (σ2 : Mem) (H : Heap) (locs : List Loc) (ls : Array Slot), I σ2 → wt_St D tI tII B σ2 s H locs → lv_has ls 4 [(3, .int x3), (0, .ref b), (1, .ref (B + 0)), (2, .ref (B + 101))] → W p l e room_1 s m #[Value.ref b] below meth c H locs cells slots Q (F0 m 1946 ls [])) : W p l e room_1 s m #[Value.ref b] below meth c H locs cells slots Q (F0 m 597 ls []) := by
  obtain ⟨hx, hb, hts, hown, hml, hX, hbl, hbA, hK⟩ := C
  obtain ⟨r1, σ1, r2, σ2, h1, h2, hI⟩ := hok σ (xs (x3 + 1).toNatClampNeg) hI
  refine lv_aload_n hx hb dL_law_597 rfl (lv_at hl 2 rfl) ?_
  refine lv_aload_n hx hb dL_law_598 rfl (lv_at hl 1 rfl) ?_
  refine lv_iload_n hx hb dL_law_599 rfl (lv_at hl 0 rfl) ?_
  refine lv_iconst (v := 1) hx hb dL_law_600 (by decide) ?_
  refine lv_iadd hx hb dL_law_601 ?_
  refine va_sld hx hb hX hbl hbA hM.2 (hin 1 (by decide)) dL_law_602 ?_
  refine wl_callVi (As := [.int (xs (x3 + 1).toNatClampNeg)]) (rest := []) hx hb hml hts hown hK hM wt_rc_X3 cl_61 hl_X3_days rfl ⟨qz_b rfl, qz_b rfl⟩ ⟨rfl, rfl⟩ hl.1 rfl (qz_b rfl) dL_law_603 hcs (c_X3_days h1) (fun H locs hM => ?_)
  refine lv_pop hx hb dL_law_606 rfl ?_
  refine lv_aload_n hx hb dL_law_607 rfl (lv_at hl 3 rfl) ?_
  refine lv_aload_n hx hb dL_law_608 rfl (lv_at hl 1 rfl) ?_
  refine lv_iload_n hx hb dL_law_609 rfl (lv_at hl 0 rfl) ?_
  refine lv_iconst (v := 1) hx hb dL_law_610 (by decide) ?_
  refine lv_iadd hx hb dL_law_611 ?_
  refine va_sld hx hb hX hbl hbA hM.2 (hin 1 (by decide)) dL_law_612 ?_
  refine wl_callVi (As := [.int (xs (x3 + 1).toNatClampNeg)]) (rest := []) hx hb hml hts hown hK hM wt_rc_X4 cl_64 hl_X4_days rfl ⟨qz_b rfl, qz_b rfl⟩ ⟨rfl, rfl⟩ hl.1 rfl (qz_b rfl) dL_law_613 hcs (c_X4_days h2) (fun H locs hM => ?_)
  refine lv_pop hx hb dL_law_616 rfl ?_
  refine lv_goto (tgt := 1946) hx hb dL_law_617 (by decide) ?_
  exact kk _ _ _ _ hI hM hl
set_option maxHeartbeats 4000000 in
set_option maxRecDepth 100000 in
theorem lw_case_12 {I : Mem → Prop} {F : Nat} (hok : wl_ok_12 I F) (hI : I σ) (C : wl_C p s m meth c b L xs D tI tII B) (hcs : cells ≤ room_1.cells ∧ slots ≤ room_1.slots) (hin : ∀ j : Int32, 0 ≤ j ∧ j ≤ 5 → vp_in (x3 + j) L) (hM : wt_St D tI tII B σ s H locs) (hl : lv_has ls 4 [(3, .int x3), (0, .ref b), (1, .ref (B + 0)), (2, .ref (B + 101))]) (kk : ∀ (σ2 : Mem) (H : Heap) (locs : List Loc) (ls : Array Slot), I σ2 → wt_St D tI tII B σ2 s H locs → lv_has ls 4 [(3, .int x3), (0, .ref b), (1, .ref (B + 0)), (2, .ref (B + 101))] → W p l e room_1 s m #[Value.ref b] below meth c H locs cells slots Q (F0 m 1946 ls [])) : W p l e room_1 s m #[Value.ref b] below meth c H locs cells slots Q (F0 m 620 ls []) := by
  obtain ⟨hx, hb, hts, hown, hml, hX, hbl, hbA, hK⟩ := C
  obtain ⟨r1, σ1, r2, σ2, h1, h2, hI⟩ := hok σ hI
  refine lv_aload_n hx hb dL_law_620 rfl (lv_at hl 2 rfl) ?_
  refine wl_callVi (As := []) (rest := []) hx hb hml hts hown hK hM wt_rc_X3 cl_65 hl_X3_back rfl ⟨qz_b rfl, qz_b rfl⟩ ⟨rfl, rfl⟩ hl.1 rfl (qz_b rfl) dL_law_621 hcs (c_X3_back h1) (fun H locs hM => ?_)
  refine lv_pop hx hb dL_law_624 rfl ?_
  refine lv_aload_n hx hb dL_law_625 rfl (lv_at hl 3 rfl) ?_
  refine wl_callVi (As := []) (rest := []) hx hb hml hts hown hK hM wt_rc_X4 cl_68 hl_X4_back rfl ⟨qz_b rfl, qz_b rfl⟩ ⟨rfl, rfl⟩ hl.1 rfl (qz_b rfl) dL_law_626 hcs (c_X4_back h2) (fun H locs hM => ?_)
  refine lv_pop hx hb dL_law_629 rfl ?_
  refine lv_goto (tgt := 1946) hx hb dL_law_630 (by decide) ?_
  exact kk _ _ _ _ hI hM hl
set_option maxHeartbeats 4000000 in
set_option maxRecDepth 100000 in
theorem lw_case_13 {I : Mem → Prop} {F : Nat} (hok : wl_ok_13 I F) (hI : I σ) (C : wl_C p s m meth c b L xs D tI tII B) (hcs : cells ≤ room_1.cells ∧ slots ≤ room_1.slots) (hin : ∀ j : Int32, 0 ≤ j ∧ j ≤ 5 → vp_in (x3 + j) L) (hM : wt_St D tI tII B σ s H locs) (hl : lv_has ls 4 [(3, .int x3), (0, .ref b), (1, .ref (B + 0)), (2, .ref (B + 101))]) (kk : ∀ (σ2 : Mem) (H : Heap) (locs : List Loc) (ls : Array Slot), I σ2 → wt_St D tI tII B σ2 s H locs → lv_has ls 4 [(3, .int x3), (0, .ref b), (1, .ref (B + 0)), (2, .ref (B + 101))] → W p l e room_1 s m #[Value.ref b] below meth c H locs cells slots Q (F0 m 1946 ls [])) : W p l e room_1 s m #[Value.ref b] below meth c H locs cells slots Q (F0 m 633 ls []) := by
  obtain ⟨hx, hb, hts, hown, hml, hX, hbl, hbA, hK⟩ := C
  obtain ⟨r1, σ1, r2, σ2, h1, h2, hI⟩ := hok σ (xs (x3 + 1).toNatClampNeg) (xs (x3 + 2).toNatClampNeg) (xs (x3 + 3).toNatClampNeg) hI
  refine lv_aload_n hx hb dL_law_633 rfl (lv_at hl 2 rfl) ?_
  refine lv_aload_n hx hb dL_law_634 rfl (lv_at hl 1 rfl) ?_
  refine lv_iload_n hx hb dL_law_635 rfl (lv_at hl 0 rfl) ?_
  refine lv_iconst (v := 1) hx hb dL_law_636 (by decide) ?_
  refine lv_iadd hx hb dL_law_637 ?_
  refine va_sld hx hb hX hbl hbA hM.2 (hin 1 (by decide)) dL_law_638 ?_
  refine lv_aload_n hx hb dL_law_639 rfl (lv_at hl 1 rfl) ?_
  refine lv_iload_n hx hb dL_law_640 rfl (lv_at hl 0 rfl) ?_
  refine lv_iconst (v := 2) hx hb dL_law_641 (by decide) ?_
  refine lv_iadd hx hb dL_law_642 ?_
  refine va_sld hx hb hX hbl hbA hM.2 (hin 2 (by decide)) dL_law_643 ?_
  refine lv_aload_n hx hb dL_law_644 rfl (lv_at hl 1 rfl) ?_
  refine lv_iload_n hx hb dL_law_645 rfl (lv_at hl 0 rfl) ?_
  refine lv_iconst (v := 3) hx hb dL_law_646 (by decide) ?_
  refine lv_iadd hx hb dL_law_647 ?_
  refine va_sld hx hb hX hbl hbA hM.2 (hin 3 (by decide)) dL_law_648 ?_
  refine wl_callVi (As := [.int (xs (x3 + 1).toNatClampNeg), .int (xs (x3 + 2).toNatClampNeg), .int (xs (x3 + 3).toNatClampNeg)]) (rest := []) hx hb hml hts hown hK hM wt_rc_X3 cl_69 hl_X3_counts rfl ⟨qz_b rfl, qz_b rfl⟩ ⟨rfl, rfl⟩ hl.1 rfl (qz_b rfl) dL_law_649 hcs (c_X3_counts h1) (fun H locs hM => ?_)
  refine lv_pop hx hb dL_law_652 rfl ?_
  refine lv_aload_n hx hb dL_law_653 rfl (lv_at hl 3 rfl) ?_
  refine lv_aload_n hx hb dL_law_654 rfl (lv_at hl 1 rfl) ?_
  refine lv_iload_n hx hb dL_law_655 rfl (lv_at hl 0 rfl) ?_
  refine lv_iconst (v := 1) hx hb dL_law_656 (by decide) ?_
  refine lv_iadd hx hb dL_law_657 ?_
  refine va_sld hx hb hX hbl hbA hM.2 (hin 1 (by decide)) dL_law_658 ?_
  refine lv_aload_n hx hb dL_law_659 rfl (lv_at hl 1 rfl) ?_
  refine lv_iload_n hx hb dL_law_660 rfl (lv_at hl 0 rfl) ?_
  refine lv_iconst (v := 2) hx hb dL_law_661 (by decide) ?_
  refine lv_iadd hx hb dL_law_662 ?_
  refine va_sld hx hb hX hbl hbA hM.2 (hin 2 (by decide)) dL_law_663 ?_
  refine lv_aload_n hx hb dL_law_664 rfl (lv_at hl 1 rfl) ?_
  refine lv_iload_n hx hb dL_law_665 rfl (lv_at hl 0 rfl) ?_
  refine lv_iconst (v := 3) hx hb dL_law_666 (by decide) ?_
  refine lv_iadd hx hb dL_law_667 ?_
  refine va_sld hx hb hX hbl hbA hM.2 (hin 3 (by decide)) dL_law_668 ?_
  refine wl_callVi (As := [.int (xs (x3 + 1).toNatClampNeg), .int (xs (x3 + 2).toNatClampNeg), .int (xs (x3 + 3).toNatClampNeg)]) (rest := []) hx hb hml hts hown hK hM wt_rc_X4 cl_73 hl_X4_counts rfl ⟨qz_b rfl, qz_b rfl⟩ ⟨rfl, rfl⟩ hl.1 rfl (qz_b rfl) dL_law_669 hcs (c_X4_counts h2) (fun H locs hM => ?_)
  refine lv_pop hx hb dL_law_672 rfl ?_
  refine lv_goto (tgt := 1946) hx hb dL_law_673 (by decide) ?_
  exact kk _ _ _ _ hI hM hl
set_option maxHeartbeats 4000000 in
set_option maxRecDepth 100000 in
theorem lw_case_14 {I : Mem → Prop} {F : Nat} (hok : wl_ok_14 I F) (hI : I σ) (C : wl_C p s m meth c b L xs D tI tII B) (hcs : cells ≤ room_1.cells ∧ slots ≤ room_1.slots) (hin : ∀ j : Int32, 0 ≤ j ∧ j ≤ 5 → vp_in (x3 + j) L) (hM : wt_St D tI tII B σ s H locs) (hl : lv_has ls 4 [(3, .int x3), (0, .ref b), (1, .ref (B + 0)), (2, .ref (B + 101))]) (kk : ∀ (σ2 : Mem) (H : Heap) (locs : List Loc) (ls : Array Slot), I σ2 → wt_St D tI tII B σ2 s H locs → lv_has ls 4 [(3, .int x3), (0, .ref b), (1, .ref (B + 0)), (2, .ref (B + 101))] → W p l e room_1 s m #[Value.ref b] below meth c H locs cells slots Q (F0 m 1946 ls [])) : W p l e room_1 s m #[Value.ref b] below meth c H locs cells slots Q (F0 m 676 ls []) := by
  obtain ⟨hx, hb, hts, hown, hml, hX, hbl, hbA, hK⟩ := C
  obtain ⟨r1, σ1, r2, σ2, h1, h2, hI⟩ := hok σ (xs (x3 + 1).toNatClampNeg) (xs (x3 + 2).toNatClampNeg) hI
  refine lv_aload_n hx hb dL_law_676 rfl (lv_at hl 2 rfl) ?_
  refine lv_aload_n hx hb dL_law_677 rfl (lv_at hl 1 rfl) ?_
  refine lv_iload_n hx hb dL_law_678 rfl (lv_at hl 0 rfl) ?_
  refine lv_iconst (v := 1) hx hb dL_law_679 (by decide) ?_
  refine lv_iadd hx hb dL_law_680 ?_
  refine va_sld hx hb hX hbl hbA hM.2 (hin 1 (by decide)) dL_law_681 ?_
  refine lv_aload_n hx hb dL_law_682 rfl (lv_at hl 1 rfl) ?_
  refine lv_iload_n hx hb dL_law_683 rfl (lv_at hl 0 rfl) ?_
  refine lv_iconst (v := 2) hx hb dL_law_684 (by decide) ?_
  refine lv_iadd hx hb dL_law_685 ?_
  refine va_sld hx hb hX hbl hbA hM.2 (hin 2 (by decide)) dL_law_686 ?_
  refine wl_callVi (As := [.int (xs (x3 + 1).toNatClampNeg), .int (xs (x3 + 2).toNatClampNeg)]) (rest := []) hx hb hml hts hown hK hM wt_rc_X3 cl_74 hl_X3_owner rfl ⟨qz_b rfl, qz_b rfl⟩ ⟨rfl, rfl⟩ hl.1 rfl (qz_b rfl) dL_law_687 hcs (c_X3_owner h1) (fun H locs hM => ?_)
  refine lv_pop hx hb dL_law_690 rfl ?_
  refine lv_aload_n hx hb dL_law_691 rfl (lv_at hl 3 rfl) ?_
  refine lv_aload_n hx hb dL_law_692 rfl (lv_at hl 1 rfl) ?_
  refine lv_iload_n hx hb dL_law_693 rfl (lv_at hl 0 rfl) ?_
  refine lv_iconst (v := 1) hx hb dL_law_694 (by decide) ?_
  refine lv_iadd hx hb dL_law_695 ?_
  refine va_sld hx hb hX hbl hbA hM.2 (hin 1 (by decide)) dL_law_696 ?_
  refine lv_aload_n hx hb dL_law_697 rfl (lv_at hl 1 rfl) ?_
  refine lv_iload_n hx hb dL_law_698 rfl (lv_at hl 0 rfl) ?_
  refine lv_iconst (v := 2) hx hb dL_law_699 (by decide) ?_
  refine lv_iadd hx hb dL_law_700 ?_
  refine va_sld hx hb hX hbl hbA hM.2 (hin 2 (by decide)) dL_law_701 ?_
  refine wl_callVi (As := [.int (xs (x3 + 1).toNatClampNeg), .int (xs (x3 + 2).toNatClampNeg)]) (rest := []) hx hb hml hts hown hK hM wt_rc_X4 cl_77 hl_X4_owner rfl ⟨qz_b rfl, qz_b rfl⟩ ⟨rfl, rfl⟩ hl.1 rfl (qz_b rfl) dL_law_702 hcs (c_X4_owner h2) (fun H locs hM => ?_)
  refine lv_pop hx hb dL_law_705 rfl ?_
  refine lv_goto (tgt := 1946) hx hb dL_law_706 (by decide) ?_
  exact kk _ _ _ _ hI hM hl
set_option maxHeartbeats 4000000 in
set_option maxRecDepth 100000 in
theorem lw_case_15 {I : Mem → Prop} {F : Nat} (hok : wl_ok_15 I F) (hI : I σ) (C : wl_C p s m meth c b L xs D tI tII B) (hcs : cells ≤ room_1.cells ∧ slots ≤ room_1.slots) (hin : ∀ j : Int32, 0 ≤ j ∧ j ≤ 5 → vp_in (x3 + j) L) (hM : wt_St D tI tII B σ s H locs) (hl : lv_has ls 4 [(3, .int x3), (0, .ref b), (1, .ref (B + 0)), (2, .ref (B + 101))]) (kk : ∀ (σ2 : Mem) (H : Heap) (locs : List Loc) (ls : Array Slot), I σ2 → wt_St D tI tII B σ2 s H locs → lv_has ls 4 [(3, .int x3), (0, .ref b), (1, .ref (B + 0)), (2, .ref (B + 101))] → W p l e room_1 s m #[Value.ref b] below meth c H locs cells slots Q (F0 m 1946 ls [])) : W p l e room_1 s m #[Value.ref b] below meth c H locs cells slots Q (F0 m 709 ls []) := by
  obtain ⟨hx, hb, hts, hown, hml, hX, hbl, hbA, hK⟩ := C
  obtain ⟨r1, σ1, r2, σ2, h1, h2, hI⟩ := hok σ (xs (x3 + 1).toNatClampNeg) (xs (x3 + 2).toNatClampNeg) (xs (x3 + 3).toNatClampNeg) hI
  refine lv_aload_n hx hb dL_law_709 rfl (lv_at hl 2 rfl) ?_
  refine lv_aload_n hx hb dL_law_710 rfl (lv_at hl 1 rfl) ?_
  refine lv_iload_n hx hb dL_law_711 rfl (lv_at hl 0 rfl) ?_
  refine lv_iconst (v := 1) hx hb dL_law_712 (by decide) ?_
  refine lv_iadd hx hb dL_law_713 ?_
  refine va_sld hx hb hX hbl hbA hM.2 (hin 1 (by decide)) dL_law_714 ?_
  refine lv_aload_n hx hb dL_law_715 rfl (lv_at hl 1 rfl) ?_
  refine lv_iload_n hx hb dL_law_716 rfl (lv_at hl 0 rfl) ?_
  refine lv_iconst (v := 2) hx hb dL_law_717 (by decide) ?_
  refine lv_iadd hx hb dL_law_718 ?_
  refine va_sld hx hb hX hbl hbA hM.2 (hin 2 (by decide)) dL_law_719 ?_
  refine lv_aload_n hx hb dL_law_720 rfl (lv_at hl 1 rfl) ?_
  refine lv_iload_n hx hb dL_law_721 rfl (lv_at hl 0 rfl) ?_
  refine lv_iconst (v := 3) hx hb dL_law_722 (by decide) ?_
  refine lv_iadd hx hb dL_law_723 ?_
  refine va_sld hx hb hX hbl hbA hM.2 (hin 3 (by decide)) dL_law_724 ?_
  refine wl_callVi (As := [.int (xs (x3 + 1).toNatClampNeg), .int (xs (x3 + 2).toNatClampNeg), .int (xs (x3 + 3).toNatClampNeg)]) (rest := []) hx hb hml hts hown hK hM wt_rc_X3 cl_78 hl_X3_owns rfl ⟨qz_b rfl, qz_b rfl⟩ ⟨rfl, rfl⟩ hl.1 rfl (qz_b rfl) dL_law_725 hcs (c_X3_owns h1) (fun H locs hM => ?_)
  refine lv_pop hx hb dL_law_728 rfl ?_
  refine lv_aload_n hx hb dL_law_729 rfl (lv_at hl 3 rfl) ?_
  refine lv_aload_n hx hb dL_law_730 rfl (lv_at hl 1 rfl) ?_
  refine lv_iload_n hx hb dL_law_731 rfl (lv_at hl 0 rfl) ?_
  refine lv_iconst (v := 1) hx hb dL_law_732 (by decide) ?_
  refine lv_iadd hx hb dL_law_733 ?_
  refine va_sld hx hb hX hbl hbA hM.2 (hin 1 (by decide)) dL_law_734 ?_
  refine lv_aload_n hx hb dL_law_735 rfl (lv_at hl 1 rfl) ?_
  refine lv_iload_n hx hb dL_law_736 rfl (lv_at hl 0 rfl) ?_
  refine lv_iconst (v := 2) hx hb dL_law_737 (by decide) ?_
  refine lv_iadd hx hb dL_law_738 ?_
  refine va_sld hx hb hX hbl hbA hM.2 (hin 2 (by decide)) dL_law_739 ?_
  refine lv_aload_n hx hb dL_law_740 rfl (lv_at hl 1 rfl) ?_
  refine lv_iload_n hx hb dL_law_741 rfl (lv_at hl 0 rfl) ?_
  refine lv_iconst (v := 3) hx hb dL_law_742 (by decide) ?_
  refine lv_iadd hx hb dL_law_743 ?_
  refine va_sld hx hb hX hbl hbA hM.2 (hin 3 (by decide)) dL_law_744 ?_
  refine wl_callVi (As := [.int (xs (x3 + 1).toNatClampNeg), .int (xs (x3 + 2).toNatClampNeg), .int (xs (x3 + 3).toNatClampNeg)]) (rest := []) hx hb hml hts hown hK hM wt_rc_X4 cl_81 hl_X4_owns rfl ⟨qz_b rfl, qz_b rfl⟩ ⟨rfl, rfl⟩ hl.1 rfl (qz_b rfl) dL_law_745 hcs (c_X4_owns h2) (fun H locs hM => ?_)
  refine lv_pop hx hb dL_law_748 rfl ?_
  refine lv_goto (tgt := 1946) hx hb dL_law_749 (by decide) ?_
  exact kk _ _ _ _ hI hM hl
set_option maxHeartbeats 4000000 in
set_option maxRecDepth 100000 in
theorem lw_case_16 {I : Mem → Prop} {F : Nat} (hok : wl_ok_16 I F) (hI : I σ) (C : wl_C p s m meth c b L xs D tI tII B) (hcs : cells ≤ room_1.cells ∧ slots ≤ room_1.slots) (hin : ∀ j : Int32, 0 ≤ j ∧ j ≤ 5 → vp_in (x3 + j) L) (hM : wt_St D tI tII B σ s H locs) (hl : lv_has ls 4 [(3, .int x3), (0, .ref b), (1, .ref (B + 0)), (2, .ref (B + 101))]) (kk : ∀ (σ2 : Mem) (H : Heap) (locs : List Loc) (ls : Array Slot), I σ2 → wt_St D tI tII B σ2 s H locs → lv_has ls 4 [(3, .int x3), (0, .ref b), (1, .ref (B + 0)), (2, .ref (B + 101))] → W p l e room_1 s m #[Value.ref b] below meth c H locs cells slots Q (F0 m 1946 ls [])) : W p l e room_1 s m #[Value.ref b] below meth c H locs cells slots Q (F0 m 752 ls []) := by
  obtain ⟨hx, hb, hts, hown, hml, hX, hbl, hbA, hK⟩ := C
  obtain ⟨r1, σ1, r2, σ2, h1, h2, hI⟩ := hok σ (xs (x3 + 1).toNatClampNeg) hI
  refine lv_aload_n hx hb dL_law_752 rfl (lv_at hl 2 rfl) ?_
  refine lv_aload_n hx hb dL_law_753 rfl (lv_at hl 1 rfl) ?_
  refine lv_iload_n hx hb dL_law_754 rfl (lv_at hl 0 rfl) ?_
  refine lv_iconst (v := 1) hx hb dL_law_755 (by decide) ?_
  refine lv_iadd hx hb dL_law_756 ?_
  refine va_sld hx hb hX hbl hbA hM.2 (hin 1 (by decide)) dL_law_757 ?_
  refine wl_callVi (As := [.int (xs (x3 + 1).toNatClampNeg)]) (rest := []) hx hb hml hts hown hK hM wt_rc_X3 cl_82 hl_X3_nobodys rfl ⟨qz_b rfl, qz_b rfl⟩ ⟨rfl, rfl⟩ hl.1 rfl (qz_b rfl) dL_law_758 hcs (c_X3_nobodys h1) (fun H locs hM => ?_)
  refine lv_pop hx hb dL_law_761 rfl ?_
  refine lv_aload_n hx hb dL_law_762 rfl (lv_at hl 3 rfl) ?_
  refine lv_aload_n hx hb dL_law_763 rfl (lv_at hl 1 rfl) ?_
  refine lv_iload_n hx hb dL_law_764 rfl (lv_at hl 0 rfl) ?_
  refine lv_iconst (v := 1) hx hb dL_law_765 (by decide) ?_
  refine lv_iadd hx hb dL_law_766 ?_
  refine va_sld hx hb hX hbl hbA hM.2 (hin 1 (by decide)) dL_law_767 ?_
  refine wl_callVi (As := [.int (xs (x3 + 1).toNatClampNeg)]) (rest := []) hx hb hml hts hown hK hM wt_rc_X4 cl_85 hl_X4_nobodys rfl ⟨qz_b rfl, qz_b rfl⟩ ⟨rfl, rfl⟩ hl.1 rfl (qz_b rfl) dL_law_768 hcs (c_X4_nobodys h2) (fun H locs hM => ?_)
  refine lv_pop hx hb dL_law_771 rfl ?_
  refine lv_goto (tgt := 1946) hx hb dL_law_772 (by decide) ?_
  exact kk _ _ _ _ hI hM hl
set_option maxHeartbeats 4000000 in
set_option maxRecDepth 100000 in
theorem lw_case_17 {I : Mem → Prop} {F : Nat} (hok : wl_ok_17 I F) (hI : I σ) (C : wl_C p s m meth c b L xs D tI tII B) (hcs : cells ≤ room_1.cells ∧ slots ≤ room_1.slots) (hin : ∀ j : Int32, 0 ≤ j ∧ j ≤ 5 → vp_in (x3 + j) L) (hM : wt_St D tI tII B σ s H locs) (hl : lv_has ls 4 [(3, .int x3), (0, .ref b), (1, .ref (B + 0)), (2, .ref (B + 101))]) (kk : ∀ (σ2 : Mem) (H : Heap) (locs : List Loc) (ls : Array Slot), I σ2 → wt_St D tI tII B σ2 s H locs → lv_has ls 4 [(3, .int x3), (0, .ref b), (1, .ref (B + 0)), (2, .ref (B + 101))] → W p l e room_1 s m #[Value.ref b] below meth c H locs cells slots Q (F0 m 1946 ls [])) : W p l e room_1 s m #[Value.ref b] below meth c H locs cells slots Q (F0 m 775 ls []) := by
  obtain ⟨hx, hb, hts, hown, hml, hX, hbl, hbA, hK⟩ := C
  obtain ⟨r1, σ1, r2, σ2, h1, h2, hI⟩ := hok σ (xs (x3 + 1).toNatClampNeg) (xs (x3 + 2).toNatClampNeg) hI
  refine lv_aload_n hx hb dL_law_775 rfl (lv_at hl 2 rfl) ?_
  refine lv_aload_n hx hb dL_law_776 rfl (lv_at hl 1 rfl) ?_
  refine lv_iload_n hx hb dL_law_777 rfl (lv_at hl 0 rfl) ?_
  refine lv_iconst (v := 1) hx hb dL_law_778 (by decide) ?_
  refine lv_iadd hx hb dL_law_779 ?_
  refine va_sld hx hb hX hbl hbA hM.2 (hin 1 (by decide)) dL_law_780 ?_
  refine lv_aload_n hx hb dL_law_781 rfl (lv_at hl 1 rfl) ?_
  refine lv_iload_n hx hb dL_law_782 rfl (lv_at hl 0 rfl) ?_
  refine lv_iconst (v := 2) hx hb dL_law_783 (by decide) ?_
  refine lv_iadd hx hb dL_law_784 ?_
  refine va_sld hx hb hX hbl hbA hM.2 (hin 2 (by decide)) dL_law_785 ?_
  refine wl_callVi (As := [.int (xs (x3 + 1).toNatClampNeg), .int (xs (x3 + 2).toNatClampNeg)]) (rest := []) hx hb hml hts hown hK hM wt_rc_X3 cl_86 hl_X3_from rfl ⟨qz_b rfl, qz_b rfl⟩ ⟨rfl, rfl⟩ hl.1 rfl (qz_b rfl) dL_law_786 hcs (c_X3_from h1) (fun H locs hM => ?_)
  refine lv_pop hx hb dL_law_789 rfl ?_
  refine lv_aload_n hx hb dL_law_790 rfl (lv_at hl 3 rfl) ?_
  refine lv_aload_n hx hb dL_law_791 rfl (lv_at hl 1 rfl) ?_
  refine lv_iload_n hx hb dL_law_792 rfl (lv_at hl 0 rfl) ?_
  refine lv_iconst (v := 1) hx hb dL_law_793 (by decide) ?_
  refine lv_iadd hx hb dL_law_794 ?_
  refine va_sld hx hb hX hbl hbA hM.2 (hin 1 (by decide)) dL_law_795 ?_
  refine lv_aload_n hx hb dL_law_796 rfl (lv_at hl 1 rfl) ?_
  refine lv_iload_n hx hb dL_law_797 rfl (lv_at hl 0 rfl) ?_
  refine lv_iconst (v := 2) hx hb dL_law_798 (by decide) ?_
  refine lv_iadd hx hb dL_law_799 ?_
  refine va_sld hx hb hX hbl hbA hM.2 (hin 2 (by decide)) dL_law_800 ?_
  refine wl_callVi (As := [.int (xs (x3 + 1).toNatClampNeg), .int (xs (x3 + 2).toNatClampNeg)]) (rest := []) hx hb hml hts hown hK hM wt_rc_X4 cl_89 hl_X4_from rfl ⟨qz_b rfl, qz_b rfl⟩ ⟨rfl, rfl⟩ hl.1 rfl (qz_b rfl) dL_law_801 hcs (c_X4_from h2) (fun H locs hM => ?_)
  refine lv_pop hx hb dL_law_804 rfl ?_
  refine lv_goto (tgt := 1946) hx hb dL_law_805 (by decide) ?_
  exact kk _ _ _ _ hI hM hl
set_option maxHeartbeats 4000000 in
set_option maxRecDepth 100000 in
theorem lw_case_18 {I : Mem → Prop} {F : Nat} (hok : wl_ok_18 I F) (hI : I σ) (C : wl_C p s m meth c b L xs D tI tII B) (hcs : cells ≤ room_1.cells ∧ slots ≤ room_1.slots) (hin : ∀ j : Int32, 0 ≤ j ∧ j ≤ 5 → vp_in (x3 + j) L) (hM : wt_St D tI tII B σ s H locs) (hl : lv_has ls 4 [(3, .int x3), (0, .ref b), (1, .ref (B + 0)), (2, .ref (B + 101))]) (kk : ∀ (σ2 : Mem) (H : Heap) (locs : List Loc) (ls : Array Slot), I σ2 → wt_St D tI tII B σ2 s H locs → lv_has ls 4 [(3, .int x3), (0, .ref b), (1, .ref (B + 0)), (2, .ref (B + 101))] → W p l e room_1 s m #[Value.ref b] below meth c H locs cells slots Q (F0 m 1946 ls [])) : W p l e room_1 s m #[Value.ref b] below meth c H locs cells slots Q (F0 m 808 ls []) := by
  obtain ⟨hx, hb, hts, hown, hml, hX, hbl, hbA, hK⟩ := C
  obtain ⟨r1, σ1, r2, σ2, h1, h2, hI⟩ := hok σ (xs (x3 + 1).toNatClampNeg) hI
  refine lv_aload_n hx hb dL_law_808 rfl (lv_at hl 2 rfl) ?_
  refine lv_aload_n hx hb dL_law_809 rfl (lv_at hl 1 rfl) ?_
  refine lv_iload_n hx hb dL_law_810 rfl (lv_at hl 0 rfl) ?_
  refine lv_iconst (v := 1) hx hb dL_law_811 (by decide) ?_
  refine lv_iadd hx hb dL_law_812 ?_
  refine va_sld hx hb hX hbl hbA hM.2 (hin 1 (by decide)) dL_law_813 ?_
  refine wl_callVi (As := [.int (xs (x3 + 1).toNatClampNeg)]) (rest := []) hx hb hml hts hown hK hM wt_rc_X3 cl_90 hl_X3_lost rfl ⟨qz_b rfl, qz_b rfl⟩ ⟨rfl, rfl⟩ hl.1 rfl (qz_b rfl) dL_law_814 hcs (c_X3_lost h1) (fun H locs hM => ?_)
  refine lv_pop hx hb dL_law_817 rfl ?_
  refine lv_aload_n hx hb dL_law_818 rfl (lv_at hl 3 rfl) ?_
  refine lv_aload_n hx hb dL_law_819 rfl (lv_at hl 1 rfl) ?_
  refine lv_iload_n hx hb dL_law_820 rfl (lv_at hl 0 rfl) ?_
  refine lv_iconst (v := 1) hx hb dL_law_821 (by decide) ?_
  refine lv_iadd hx hb dL_law_822 ?_
  refine va_sld hx hb hX hbl hbA hM.2 (hin 1 (by decide)) dL_law_823 ?_
  refine wl_callVi (As := [.int (xs (x3 + 1).toNatClampNeg)]) (rest := []) hx hb hml hts hown hK hM wt_rc_X4 cl_93 hl_X4_lost rfl ⟨qz_b rfl, qz_b rfl⟩ ⟨rfl, rfl⟩ hl.1 rfl (qz_b rfl) dL_law_824 hcs (c_X4_lost h2) (fun H locs hM => ?_)
  refine lv_pop hx hb dL_law_827 rfl ?_
  refine lv_goto (tgt := 1946) hx hb dL_law_828 (by decide) ?_
  exact kk _ _ _ _ hI hM hl
set_option maxHeartbeats 4000000 in
set_option maxRecDepth 100000 in
theorem lw_case_19 {I : Mem → Prop} {F : Nat} (hok : wl_ok_19 I F) (hI : I σ) (C : wl_C p s m meth c b L xs D tI tII B) (hcs : cells ≤ room_1.cells ∧ slots ≤ room_1.slots) (hin : ∀ j : Int32, 0 ≤ j ∧ j ≤ 5 → vp_in (x3 + j) L) (hM : wt_St D tI tII B σ s H locs) (hl : lv_has ls 4 [(3, .int x3), (0, .ref b), (1, .ref (B + 0)), (2, .ref (B + 101))]) (kk : ∀ (σ2 : Mem) (H : Heap) (locs : List Loc) (ls : Array Slot), I σ2 → wt_St D tI tII B σ2 s H locs → lv_has ls 4 [(3, .int x3), (0, .ref b), (1, .ref (B + 0)), (2, .ref (B + 101))] → W p l e room_1 s m #[Value.ref b] below meth c H locs cells slots Q (F0 m 1946 ls [])) : W p l e room_1 s m #[Value.ref b] below meth c H locs cells slots Q (F0 m 831 ls []) := by
  obtain ⟨hx, hb, hts, hown, hml, hX, hbl, hbA, hK⟩ := C
  obtain ⟨r1, σ1, r2, σ2, h1, h2, hI⟩ := hok σ (xs (x3 + 1).toNatClampNeg) (xs (x3 + 2).toNatClampNeg) hI
  refine lv_aload_n hx hb dL_law_831 rfl (lv_at hl 2 rfl) ?_
  refine lv_aload_n hx hb dL_law_832 rfl (lv_at hl 1 rfl) ?_
  refine lv_iload_n hx hb dL_law_833 rfl (lv_at hl 0 rfl) ?_
  refine lv_iconst (v := 1) hx hb dL_law_834 (by decide) ?_
  refine lv_iadd hx hb dL_law_835 ?_
  refine va_sld hx hb hX hbl hbA hM.2 (hin 1 (by decide)) dL_law_836 ?_
  refine lv_aload_n hx hb dL_law_837 rfl (lv_at hl 1 rfl) ?_
  refine lv_iload_n hx hb dL_law_838 rfl (lv_at hl 0 rfl) ?_
  refine lv_iconst (v := 2) hx hb dL_law_839 (by decide) ?_
  refine lv_iadd hx hb dL_law_840 ?_
  refine va_sld hx hb hX hbl hbA hM.2 (hin 2 (by decide)) dL_law_841 ?_
  refine wl_callVi (As := [.int (xs (x3 + 1).toNatClampNeg), .int (xs (x3 + 2).toNatClampNeg)]) (rest := []) hx hb hml hts hown hK hM wt_rc_X3 cl_94 hl_X3_richest rfl ⟨qz_b rfl, qz_b rfl⟩ ⟨rfl, rfl⟩ hl.1 rfl (qz_b rfl) dL_law_842 hcs (c_X3_richest h1) (fun H locs hM => ?_)
  refine lv_pop hx hb dL_law_845 rfl ?_
  refine lv_aload_n hx hb dL_law_846 rfl (lv_at hl 3 rfl) ?_
  refine lv_aload_n hx hb dL_law_847 rfl (lv_at hl 1 rfl) ?_
  refine lv_iload_n hx hb dL_law_848 rfl (lv_at hl 0 rfl) ?_
  refine lv_iconst (v := 1) hx hb dL_law_849 (by decide) ?_
  refine lv_iadd hx hb dL_law_850 ?_
  refine va_sld hx hb hX hbl hbA hM.2 (hin 1 (by decide)) dL_law_851 ?_
  refine lv_aload_n hx hb dL_law_852 rfl (lv_at hl 1 rfl) ?_
  refine lv_iload_n hx hb dL_law_853 rfl (lv_at hl 0 rfl) ?_
  refine lv_iconst (v := 2) hx hb dL_law_854 (by decide) ?_
  refine lv_iadd hx hb dL_law_855 ?_
  refine va_sld hx hb hX hbl hbA hM.2 (hin 2 (by decide)) dL_law_856 ?_
  refine wl_callVi (As := [.int (xs (x3 + 1).toNatClampNeg), .int (xs (x3 + 2).toNatClampNeg)]) (rest := []) hx hb hml hts hown hK hM wt_rc_X4 cl_97 hl_X4_richest rfl ⟨qz_b rfl, qz_b rfl⟩ ⟨rfl, rfl⟩ hl.1 rfl (qz_b rfl) dL_law_857 hcs (c_X4_richest h2) (fun H locs hM => ?_)
  refine lv_pop hx hb dL_law_860 rfl ?_
  refine lv_goto (tgt := 1946) hx hb dL_law_861 (by decide) ?_
  exact kk _ _ _ _ hI hM hl
set_option maxHeartbeats 4000000 in
set_option maxRecDepth 100000 in
theorem lw_case_20 {I : Mem → Prop} {F : Nat} (hok : wl_ok_20 I F) (hI : I σ) (C : wl_C p s m meth c b L xs D tI tII B) (hcs : cells ≤ room_1.cells ∧ slots ≤ room_1.slots) (hin : ∀ j : Int32, 0 ≤ j ∧ j ≤ 5 → vp_in (x3 + j) L) (hM : wt_St D tI tII B σ s H locs) (hl : lv_has ls 4 [(3, .int x3), (0, .ref b), (1, .ref (B + 0)), (2, .ref (B + 101))]) (kk : ∀ (σ2 : Mem) (H : Heap) (locs : List Loc) (ls : Array Slot), I σ2 → wt_St D tI tII B σ2 s H locs → lv_has ls 4 [(3, .int x3), (0, .ref b), (1, .ref (B + 0)), (2, .ref (B + 101))] → W p l e room_1 s m #[Value.ref b] below meth c H locs cells slots Q (F0 m 1946 ls [])) : W p l e room_1 s m #[Value.ref b] below meth c H locs cells slots Q (F0 m 864 ls []) := by
  obtain ⟨hx, hb, hts, hown, hml, hX, hbl, hbA, hK⟩ := C
  obtain ⟨r1, σ1, r2, σ2, h1, h2, hI⟩ := hok σ (xs (x3 + 1).toNatClampNeg) (xs (x3 + 2).toNatClampNeg) (xs (x3 + 3).toNatClampNeg) hI
  refine lv_aload_n hx hb dL_law_864 rfl (lv_at hl 2 rfl) ?_
  refine lv_aload_n hx hb dL_law_865 rfl (lv_at hl 1 rfl) ?_
  refine lv_iload_n hx hb dL_law_866 rfl (lv_at hl 0 rfl) ?_
  refine lv_iconst (v := 1) hx hb dL_law_867 (by decide) ?_
  refine lv_iadd hx hb dL_law_868 ?_
  refine va_sld hx hb hX hbl hbA hM.2 (hin 1 (by decide)) dL_law_869 ?_
  refine lv_aload_n hx hb dL_law_870 rfl (lv_at hl 1 rfl) ?_
  refine lv_iload_n hx hb dL_law_871 rfl (lv_at hl 0 rfl) ?_
  refine lv_iconst (v := 2) hx hb dL_law_872 (by decide) ?_
  refine lv_iadd hx hb dL_law_873 ?_
  refine va_sld hx hb hX hbl hbA hM.2 (hin 2 (by decide)) dL_law_874 ?_
  refine lv_aload_n hx hb dL_law_875 rfl (lv_at hl 1 rfl) ?_
  refine lv_iload_n hx hb dL_law_876 rfl (lv_at hl 0 rfl) ?_
  refine lv_iconst (v := 3) hx hb dL_law_877 (by decide) ?_
  refine lv_iadd hx hb dL_law_878 ?_
  refine va_sld hx hb hX hbl hbA hM.2 (hin 3 (by decide)) dL_law_879 ?_
  refine wl_callVi (As := [.int (xs (x3 + 1).toNatClampNeg), .int (xs (x3 + 2).toNatClampNeg), .int (xs (x3 + 3).toNatClampNeg)]) (rest := []) hx hb hml hts hown hK hM wt_rc_X3 cl_98 hl_X3_staredOut rfl ⟨qz_b rfl, qz_b rfl⟩ ⟨rfl, rfl⟩ hl.1 rfl (qz_b rfl) dL_law_880 hcs (c_X3_staredOut h1) (fun H locs hM => ?_)
  refine lv_pop hx hb dL_law_883 rfl ?_
  refine lv_aload_n hx hb dL_law_884 rfl (lv_at hl 3 rfl) ?_
  refine lv_aload_n hx hb dL_law_885 rfl (lv_at hl 1 rfl) ?_
  refine lv_iload_n hx hb dL_law_886 rfl (lv_at hl 0 rfl) ?_
  refine lv_iconst (v := 1) hx hb dL_law_887 (by decide) ?_
  refine lv_iadd hx hb dL_law_888 ?_
  refine va_sld hx hb hX hbl hbA hM.2 (hin 1 (by decide)) dL_law_889 ?_
  refine lv_aload_n hx hb dL_law_890 rfl (lv_at hl 1 rfl) ?_
  refine lv_iload_n hx hb dL_law_891 rfl (lv_at hl 0 rfl) ?_
  refine lv_iconst (v := 2) hx hb dL_law_892 (by decide) ?_
  refine lv_iadd hx hb dL_law_893 ?_
  refine va_sld hx hb hX hbl hbA hM.2 (hin 2 (by decide)) dL_law_894 ?_
  refine lv_aload_n hx hb dL_law_895 rfl (lv_at hl 1 rfl) ?_
  refine lv_iload_n hx hb dL_law_896 rfl (lv_at hl 0 rfl) ?_
  refine lv_iconst (v := 3) hx hb dL_law_897 (by decide) ?_
  refine lv_iadd hx hb dL_law_898 ?_
  refine va_sld hx hb hX hbl hbA hM.2 (hin 3 (by decide)) dL_law_899 ?_
  refine wl_callVi (As := [.int (xs (x3 + 1).toNatClampNeg), .int (xs (x3 + 2).toNatClampNeg), .int (xs (x3 + 3).toNatClampNeg)]) (rest := []) hx hb hml hts hown hK hM wt_rc_X4 cl_101 hl_X4_staredOut rfl ⟨qz_b rfl, qz_b rfl⟩ ⟨rfl, rfl⟩ hl.1 rfl (qz_b rfl) dL_law_900 hcs (c_X4_staredOut h2) (fun H locs hM => ?_)
  refine lv_pop hx hb dL_law_903 rfl ?_
  refine lv_goto (tgt := 1946) hx hb dL_law_904 (by decide) ?_
  exact kk _ _ _ _ hI hM hl
set_option maxHeartbeats 4000000 in
set_option maxRecDepth 100000 in
theorem lw_case_21 {I : Mem → Prop} {F : Nat} (hok : wl_ok_21 I F) (hI : I σ) (C : wl_C p s m meth c b L xs D tI tII B) (hcs : cells ≤ room_1.cells ∧ slots ≤ room_1.slots) (hin : ∀ j : Int32, 0 ≤ j ∧ j ≤ 5 → vp_in (x3 + j) L) (hM : wt_St D tI tII B σ s H locs) (hl : lv_has ls 4 [(3, .int x3), (0, .ref b), (1, .ref (B + 0)), (2, .ref (B + 101))]) (kk : ∀ (σ2 : Mem) (H : Heap) (locs : List Loc) (ls : Array Slot), I σ2 → wt_St D tI tII B σ2 s H locs → lv_has ls 4 [(3, .int x3), (0, .ref b), (1, .ref (B + 0)), (2, .ref (B + 101))] → W p l e room_1 s m #[Value.ref b] below meth c H locs cells slots Q (F0 m 1946 ls [])) : W p l e room_1 s m #[Value.ref b] below meth c H locs cells slots Q (F0 m 907 ls []) := by
  obtain ⟨hx, hb, hts, hown, hml, hX, hbl, hbA, hK⟩ := C
  obtain ⟨r1, σ1, r2, σ2, h1, h2, hI⟩ := hok σ (xs (x3 + 1).toNatClampNeg) (xs (x3 + 2).toNatClampNeg) (xs (x3 + 3).toNatClampNeg) hI
  refine lv_aload_n hx hb dL_law_907 rfl (lv_at hl 2 rfl) ?_
  refine lv_aload_n hx hb dL_law_908 rfl (lv_at hl 1 rfl) ?_
  refine lv_iload_n hx hb dL_law_909 rfl (lv_at hl 0 rfl) ?_
  refine lv_iconst (v := 1) hx hb dL_law_910 (by decide) ?_
  refine lv_iadd hx hb dL_law_911 ?_
  refine va_sld hx hb hX hbl hbA hM.2 (hin 1 (by decide)) dL_law_912 ?_
  refine lv_aload_n hx hb dL_law_913 rfl (lv_at hl 1 rfl) ?_
  refine lv_iload_n hx hb dL_law_914 rfl (lv_at hl 0 rfl) ?_
  refine lv_iconst (v := 2) hx hb dL_law_915 (by decide) ?_
  refine lv_iadd hx hb dL_law_916 ?_
  refine va_sld hx hb hX hbl hbA hM.2 (hin 2 (by decide)) dL_law_917 ?_
  refine lv_aload_n hx hb dL_law_918 rfl (lv_at hl 1 rfl) ?_
  refine lv_iload_n hx hb dL_law_919 rfl (lv_at hl 0 rfl) ?_
  refine lv_iconst (v := 3) hx hb dL_law_920 (by decide) ?_
  refine lv_iadd hx hb dL_law_921 ?_
  refine va_sld hx hb hX hbl hbA hM.2 (hin 3 (by decide)) dL_law_922 ?_
  refine wl_callVi (As := [.int (xs (x3 + 1).toNatClampNeg), .int (xs (x3 + 2).toNatClampNeg), .int (xs (x3 + 3).toNatClampNeg)]) (rest := []) hx hb hml hts hown hK hM wt_rc_X3 cl_102 hl_X3_moreHours rfl ⟨qz_b rfl, qz_b rfl⟩ ⟨rfl, rfl⟩ hl.1 rfl (qz_b rfl) dL_law_923 hcs (c_X3_moreHours h1) (fun H locs hM => ?_)
  refine lv_pop hx hb dL_law_926 rfl ?_
  refine lv_aload_n hx hb dL_law_927 rfl (lv_at hl 3 rfl) ?_
  refine lv_aload_n hx hb dL_law_928 rfl (lv_at hl 1 rfl) ?_
  refine lv_iload_n hx hb dL_law_929 rfl (lv_at hl 0 rfl) ?_
  refine lv_iconst (v := 1) hx hb dL_law_930 (by decide) ?_
  refine lv_iadd hx hb dL_law_931 ?_
  refine va_sld hx hb hX hbl hbA hM.2 (hin 1 (by decide)) dL_law_932 ?_
  refine lv_aload_n hx hb dL_law_933 rfl (lv_at hl 1 rfl) ?_
  refine lv_iload_n hx hb dL_law_934 rfl (lv_at hl 0 rfl) ?_
  refine lv_iconst (v := 2) hx hb dL_law_935 (by decide) ?_
  refine lv_iadd hx hb dL_law_936 ?_
  refine va_sld hx hb hX hbl hbA hM.2 (hin 2 (by decide)) dL_law_937 ?_
  refine lv_aload_n hx hb dL_law_938 rfl (lv_at hl 1 rfl) ?_
  refine lv_iload_n hx hb dL_law_939 rfl (lv_at hl 0 rfl) ?_
  refine lv_iconst (v := 3) hx hb dL_law_940 (by decide) ?_
  refine lv_iadd hx hb dL_law_941 ?_
  refine va_sld hx hb hX hbl hbA hM.2 (hin 3 (by decide)) dL_law_942 ?_
  refine wl_callVi (As := [.int (xs (x3 + 1).toNatClampNeg), .int (xs (x3 + 2).toNatClampNeg), .int (xs (x3 + 3).toNatClampNeg)]) (rest := []) hx hb hml hts hown hK hM wt_rc_X4 cl_105 hl_X4_moreHours rfl ⟨qz_b rfl, qz_b rfl⟩ ⟨rfl, rfl⟩ hl.1 rfl (qz_b rfl) dL_law_943 hcs (c_X4_moreHours h2) (fun H locs hM => ?_)
  refine lv_pop hx hb dL_law_946 rfl ?_
  refine lv_goto (tgt := 1946) hx hb dL_law_947 (by decide) ?_
  exact kk _ _ _ _ hI hM hl
set_option maxHeartbeats 4000000 in
set_option maxRecDepth 100000 in
theorem lw_case_22 {I : Mem → Prop} {F : Nat} (hok : wl_ok_22 I F) (hI : I σ) (C : wl_C p s m meth c b L xs D tI tII B) (hcs : cells ≤ room_1.cells ∧ slots ≤ room_1.slots) (hin : ∀ j : Int32, 0 ≤ j ∧ j ≤ 5 → vp_in (x3 + j) L) (hM : wt_St D tI tII B σ s H locs) (hl : lv_has ls 4 [(3, .int x3), (0, .ref b), (1, .ref (B + 0)), (2, .ref (B + 101))]) (kk : ∀ (σ2 : Mem) (H : Heap) (locs : List Loc) (ls : Array Slot), I σ2 → wt_St D tI tII B σ2 s H locs → lv_has ls 4 [(3, .int x3), (0, .ref b), (1, .ref (B + 0)), (2, .ref (B + 101))] → W p l e room_1 s m #[Value.ref b] below meth c H locs cells slots Q (F0 m 1946 ls [])) : W p l e room_1 s m #[Value.ref b] below meth c H locs cells slots Q (F0 m 950 ls []) := by
  obtain ⟨hx, hb, hts, hown, hml, hX, hbl, hbA, hK⟩ := C
  obtain ⟨r1, σ1, r2, σ2, h1, h2, hI⟩ := hok σ (xs (x3 + 1).toNatClampNeg) (xs (x3 + 2).toNatClampNeg) (xs (x3 + 3).toNatClampNeg) (xs (x3 + 4).toNatClampNeg) hI
  refine lv_aload_n hx hb dL_law_950 rfl (lv_at hl 2 rfl) ?_
  refine lv_aload_n hx hb dL_law_951 rfl (lv_at hl 1 rfl) ?_
  refine lv_iload_n hx hb dL_law_952 rfl (lv_at hl 0 rfl) ?_
  refine lv_iconst (v := 1) hx hb dL_law_953 (by decide) ?_
  refine lv_iadd hx hb dL_law_954 ?_
  refine va_sld hx hb hX hbl hbA hM.2 (hin 1 (by decide)) dL_law_955 ?_
  refine lv_aload_n hx hb dL_law_956 rfl (lv_at hl 1 rfl) ?_
  refine lv_iload_n hx hb dL_law_957 rfl (lv_at hl 0 rfl) ?_
  refine lv_iconst (v := 2) hx hb dL_law_958 (by decide) ?_
  refine lv_iadd hx hb dL_law_959 ?_
  refine va_sld hx hb hX hbl hbA hM.2 (hin 2 (by decide)) dL_law_960 ?_
  refine lv_aload_n hx hb dL_law_961 rfl (lv_at hl 1 rfl) ?_
  refine lv_iload_n hx hb dL_law_962 rfl (lv_at hl 0 rfl) ?_
  refine lv_iconst (v := 3) hx hb dL_law_963 (by decide) ?_
  refine lv_iadd hx hb dL_law_964 ?_
  refine va_sld hx hb hX hbl hbA hM.2 (hin 3 (by decide)) dL_law_965 ?_
  refine lv_aload_n hx hb dL_law_966 rfl (lv_at hl 1 rfl) ?_
  refine lv_iload_n hx hb dL_law_967 rfl (lv_at hl 0 rfl) ?_
  refine lv_iconst (v := 4) hx hb dL_law_968 (by decide) ?_
  refine lv_iadd hx hb dL_law_969 ?_
  refine va_sld hx hb hX hbl hbA hM.2 (hin 4 (by decide)) dL_law_970 ?_
  refine wl_callVi (As := [.int (xs (x3 + 1).toNatClampNeg), .int (xs (x3 + 2).toNatClampNeg), .int (xs (x3 + 3).toNatClampNeg), .int (xs (x3 + 4).toNatClampNeg)]) (rest := []) hx hb hml hts hown hK hM wt_rc_X3 cl_106 hl_X3_bestPane rfl ⟨qz_b rfl, qz_b rfl⟩ ⟨rfl, rfl⟩ hl.1 rfl (qz_b rfl) dL_law_971 hcs (c_X3_bestPane h1) (fun H locs hM => ?_)
  refine lv_pop hx hb dL_law_974 rfl ?_
  refine lv_aload_n hx hb dL_law_975 rfl (lv_at hl 3 rfl) ?_
  refine lv_aload_n hx hb dL_law_976 rfl (lv_at hl 1 rfl) ?_
  refine lv_iload_n hx hb dL_law_977 rfl (lv_at hl 0 rfl) ?_
  refine lv_iconst (v := 1) hx hb dL_law_978 (by decide) ?_
  refine lv_iadd hx hb dL_law_979 ?_
  refine va_sld hx hb hX hbl hbA hM.2 (hin 1 (by decide)) dL_law_980 ?_
  refine lv_aload_n hx hb dL_law_981 rfl (lv_at hl 1 rfl) ?_
  refine lv_iload_n hx hb dL_law_982 rfl (lv_at hl 0 rfl) ?_
  refine lv_iconst (v := 2) hx hb dL_law_983 (by decide) ?_
  refine lv_iadd hx hb dL_law_984 ?_
  refine va_sld hx hb hX hbl hbA hM.2 (hin 2 (by decide)) dL_law_985 ?_
  refine lv_aload_n hx hb dL_law_986 rfl (lv_at hl 1 rfl) ?_
  refine lv_iload_n hx hb dL_law_987 rfl (lv_at hl 0 rfl) ?_
  refine lv_iconst (v := 3) hx hb dL_law_988 (by decide) ?_
  refine lv_iadd hx hb dL_law_989 ?_
  refine va_sld hx hb hX hbl hbA hM.2 (hin 3 (by decide)) dL_law_990 ?_
  refine lv_aload_n hx hb dL_law_991 rfl (lv_at hl 1 rfl) ?_
  refine lv_iload_n hx hb dL_law_992 rfl (lv_at hl 0 rfl) ?_
  refine lv_iconst (v := 4) hx hb dL_law_993 (by decide) ?_
  refine lv_iadd hx hb dL_law_994 ?_
  refine va_sld hx hb hX hbl hbA hM.2 (hin 4 (by decide)) dL_law_995 ?_
  refine wl_callVi (As := [.int (xs (x3 + 1).toNatClampNeg), .int (xs (x3 + 2).toNatClampNeg), .int (xs (x3 + 3).toNatClampNeg), .int (xs (x3 + 4).toNatClampNeg)]) (rest := []) hx hb hml hts hown hK hM wt_rc_X4 cl_109 hl_X4_bestPane rfl ⟨qz_b rfl, qz_b rfl⟩ ⟨rfl, rfl⟩ hl.1 rfl (qz_b rfl) dL_law_996 hcs (c_X4_bestPane h2) (fun H locs hM => ?_)
  refine lv_pop hx hb dL_law_999 rfl ?_
  refine lv_goto (tgt := 1946) hx hb dL_law_1000 (by decide) ?_
  exact kk _ _ _ _ hI hM hl
set_option maxHeartbeats 4000000 in
set_option maxRecDepth 100000 in
theorem lw_case_23 {I : Mem → Prop} {F : Nat} (hok : wl_ok_23 I F) (hI : I σ) (C : wl_C p s m meth c b L xs D tI tII B) (hcs : cells ≤ room_1.cells ∧ slots ≤ room_1.slots) (hin : ∀ j : Int32, 0 ≤ j ∧ j ≤ 5 → vp_in (x3 + j) L) (hM : wt_St D tI tII B σ s H locs) (hl : lv_has ls 4 [(3, .int x3), (0, .ref b), (1, .ref (B + 0)), (2, .ref (B + 101))]) (kk : ∀ (σ2 : Mem) (H : Heap) (locs : List Loc) (ls : Array Slot), I σ2 → wt_St D tI tII B σ2 s H locs → lv_has ls 4 [(3, .int x3), (0, .ref b), (1, .ref (B + 0)), (2, .ref (B + 101))] → W p l e room_1 s m #[Value.ref b] below meth c H locs cells slots Q (F0 m 1946 ls [])) : W p l e room_1 s m #[Value.ref b] below meth c H locs cells slots Q (F0 m 1003 ls []) := by
  obtain ⟨hx, hb, hts, hown, hml, hX, hbl, hbA, hK⟩ := C
  obtain ⟨r1, σ1, r2, σ2, h1, h2, hI, he⟩ := hok σ (xs (x3 + 1).toNatClampNeg) (xs (x3 + 2).toNatClampNeg) hI
  refine lv_aload_n hx hb dL_law_1003 rfl (lv_at hl 2 rfl) ?_
  refine lv_aload_n hx hb dL_law_1004 rfl (lv_at hl 1 rfl) ?_
  refine lv_iload_n hx hb dL_law_1005 rfl (lv_at hl 0 rfl) ?_
  refine lv_iconst (v := 1) hx hb dL_law_1006 (by decide) ?_
  refine lv_iadd hx hb dL_law_1007 ?_
  refine va_sld hx hb hX hbl hbA hM.2 (hin 1 (by decide)) dL_law_1008 ?_
  refine lv_aload_n hx hb dL_law_1009 rfl (lv_at hl 1 rfl) ?_
  refine lv_iload_n hx hb dL_law_1010 rfl (lv_at hl 0 rfl) ?_
  refine lv_iconst (v := 2) hx hb dL_law_1011 (by decide) ?_
  refine lv_iadd hx hb dL_law_1012 ?_
  refine va_sld hx hb hX hbl hbA hM.2 (hin 2 (by decide)) dL_law_1013 ?_
  refine wl_callVi (As := [.int (xs (x3 + 1).toNatClampNeg), .int (xs (x3 + 2).toNatClampNeg)]) (rest := []) hx hb hml hts hown hK hM wt_rc_X3 cl_110 hl_X3_freeHours rfl ⟨qz_b rfl, qz_b rfl⟩ ⟨rfl, rfl⟩ hl.1 rfl (qz_b rfl) dL_law_1014 hcs (c_X3_freeHours h1) (fun H locs hM => ?_)
  refine lv_aload_n hx hb dL_law_1017 rfl (lv_at hl 3 rfl) ?_
  refine lv_aload_n hx hb dL_law_1018 rfl (lv_at hl 1 rfl) ?_
  refine lv_iload_n hx hb dL_law_1019 rfl (lv_at hl 0 rfl) ?_
  refine lv_iconst (v := 1) hx hb dL_law_1020 (by decide) ?_
  refine lv_iadd hx hb dL_law_1021 ?_
  refine va_sld hx hb hX hbl hbA hM.2 (hin 1 (by decide)) dL_law_1022 ?_
  refine lv_aload_n hx hb dL_law_1023 rfl (lv_at hl 1 rfl) ?_
  refine lv_iload_n hx hb dL_law_1024 rfl (lv_at hl 0 rfl) ?_
  refine lv_iconst (v := 2) hx hb dL_law_1025 (by decide) ?_
  refine lv_iadd hx hb dL_law_1026 ?_
  refine va_sld hx hb hX hbl hbA hM.2 (hin 2 (by decide)) dL_law_1027 ?_
  refine wl_callVi (As := [.int (xs (x3 + 1).toNatClampNeg), .int (xs (x3 + 2).toNatClampNeg)]) (rest := [.int r1]) hx hb hml hts hown hK hM wt_rc_X4 cl_113 hl_X4_freeHours rfl ⟨qz_b rfl, qz_b rfl⟩ ⟨rfl, rfl⟩ hl.1 rfl (qz_b rfl) dL_law_1028 hcs (c_X4_freeHours h2) (fun H locs hM => ?_)
  refine lv_icmp_eq (tgt := 1946) hx hb dL_law_1031 (by decide) (fun _ => ?_) (fun c9 => absurd he c9)
  exact kk _ _ _ _ hI hM hl
set_option maxHeartbeats 4000000 in
set_option maxRecDepth 100000 in
theorem lw_case_24 {I : Mem → Prop} {F : Nat} (hok : wl_ok_24 I F) (hI : I σ) (C : wl_C p s m meth c b L xs D tI tII B) (hcs : cells ≤ room_1.cells ∧ slots ≤ room_1.slots) (hin : ∀ j : Int32, 0 ≤ j ∧ j ≤ 5 → vp_in (x3 + j) L) (hM : wt_St D tI tII B σ s H locs) (hl : lv_has ls 4 [(3, .int x3), (0, .ref b), (1, .ref (B + 0)), (2, .ref (B + 101))]) (kk : ∀ (σ2 : Mem) (H : Heap) (locs : List Loc) (ls : Array Slot), I σ2 → wt_St D tI tII B σ2 s H locs → lv_has ls 4 [(3, .int x3), (0, .ref b), (1, .ref (B + 0)), (2, .ref (B + 101))] → W p l e room_1 s m #[Value.ref b] below meth c H locs cells slots Q (F0 m 1946 ls [])) : W p l e room_1 s m #[Value.ref b] below meth c H locs cells slots Q (F0 m 1036 ls []) := by
  obtain ⟨hx, hb, hts, hown, hml, hX, hbl, hbA, hK⟩ := C
  obtain ⟨r1, σ1, r2, σ2, h1, h2, hI⟩ := hok σ hI
  refine lv_aload_n hx hb dL_law_1036 rfl (lv_at hl 2 rfl) ?_
  refine wl_callVi (As := []) (rest := []) hx hb hml hts hown hK hM wt_rc_X3 cl_114 hl_X3_cover rfl ⟨qz_b rfl, qz_b rfl⟩ ⟨rfl, rfl⟩ hl.1 rfl (qz_b rfl) dL_law_1037 hcs (c_X3_cover h1) (fun H locs hM => ?_)
  refine lv_pop hx hb dL_law_1040 rfl ?_
  refine lv_aload_n hx hb dL_law_1041 rfl (lv_at hl 3 rfl) ?_
  refine wl_callVi (As := []) (rest := []) hx hb hml hts hown hK hM wt_rc_X4 cl_117 hl_X4_cover rfl ⟨qz_b rfl, qz_b rfl⟩ ⟨rfl, rfl⟩ hl.1 rfl (qz_b rfl) dL_law_1042 hcs (c_X4_cover h2) (fun H locs hM => ?_)
  refine lv_pop hx hb dL_law_1045 rfl ?_
  refine lv_goto (tgt := 1946) hx hb dL_law_1046 (by decide) ?_
  exact kk _ _ _ _ hI hM hl
set_option maxHeartbeats 4000000 in
set_option maxRecDepth 100000 in
theorem lw_case_25 {I : Mem → Prop} {F : Nat} (hok : wl_ok_25 I F) (hI : I σ) (C : wl_C p s m meth c b L xs D tI tII B) (hcs : cells ≤ room_1.cells ∧ slots ≤ room_1.slots) (hin : ∀ j : Int32, 0 ≤ j ∧ j ≤ 5 → vp_in (x3 + j) L) (hM : wt_St D tI tII B σ s H locs) (hl : lv_has ls 4 [(3, .int x3), (0, .ref b), (1, .ref (B + 0)), (2, .ref (B + 101))]) (kk : ∀ (σ2 : Mem) (H : Heap) (locs : List Loc) (ls : Array Slot), I σ2 → wt_St D tI tII B σ2 s H locs → lv_has ls 4 [(3, .int x3), (0, .ref b), (1, .ref (B + 0)), (2, .ref (B + 101))] → W p l e room_1 s m #[Value.ref b] below meth c H locs cells slots Q (F0 m 1946 ls [])) : W p l e room_1 s m #[Value.ref b] below meth c H locs cells slots Q (F0 m 1049 ls []) := by
  obtain ⟨hx, hb, hts, hown, hml, hX, hbl, hbA, hK⟩ := C
  obtain ⟨r1, σ1, r2, σ2, h1, h2, hI⟩ := hok σ (xs (x3 + 1).toNatClampNeg) hI
  refine lv_aload_n hx hb dL_law_1049 rfl (lv_at hl 2 rfl) ?_
  refine lv_aload_n hx hb dL_law_1050 rfl (lv_at hl 1 rfl) ?_
  refine lv_iload_n hx hb dL_law_1051 rfl (lv_at hl 0 rfl) ?_
  refine lv_iconst (v := 1) hx hb dL_law_1052 (by decide) ?_
  refine lv_iadd hx hb dL_law_1053 ?_
  refine va_sld hx hb hX hbl hbA hM.2 (hin 1 (by decide)) dL_law_1054 ?_
  refine wl_callVi (As := [.int (xs (x3 + 1).toNatClampNeg)]) (rest := []) hx hb hml hts hown hK hM wt_rc_X3 cl_118 hl_X3_shown rfl ⟨qz_b rfl, qz_b rfl⟩ ⟨rfl, rfl⟩ hl.1 rfl (qz_b rfl) dL_law_1055 hcs (c_X3_shown h1) (fun H locs hM => ?_)
  refine lv_pop hx hb dL_law_1058 rfl ?_
  refine lv_aload_n hx hb dL_law_1059 rfl (lv_at hl 3 rfl) ?_
  refine lv_aload_n hx hb dL_law_1060 rfl (lv_at hl 1 rfl) ?_
  refine lv_iload_n hx hb dL_law_1061 rfl (lv_at hl 0 rfl) ?_
  refine lv_iconst (v := 1) hx hb dL_law_1062 (by decide) ?_
  refine lv_iadd hx hb dL_law_1063 ?_
  refine va_sld hx hb hX hbl hbA hM.2 (hin 1 (by decide)) dL_law_1064 ?_
  refine wl_callVi (As := [.int (xs (x3 + 1).toNatClampNeg)]) (rest := []) hx hb hml hts hown hK hM wt_rc_X4 cl_121 hl_X4_shown rfl ⟨qz_b rfl, qz_b rfl⟩ ⟨rfl, rfl⟩ hl.1 rfl (qz_b rfl) dL_law_1065 hcs (c_X4_shown h2) (fun H locs hM => ?_)
  refine lv_pop hx hb dL_law_1068 rfl ?_
  refine lv_goto (tgt := 1946) hx hb dL_law_1069 (by decide) ?_
  exact kk _ _ _ _ hI hM hl
set_option maxHeartbeats 4000000 in
set_option maxRecDepth 100000 in
theorem lw_case_26 {I : Mem → Prop} {F : Nat} (hok : wl_ok_26 I F) (hI : I σ) (C : wl_C p s m meth c b L xs D tI tII B) (hcs : cells ≤ room_1.cells ∧ slots ≤ room_1.slots) (hin : ∀ j : Int32, 0 ≤ j ∧ j ≤ 5 → vp_in (x3 + j) L) (hM : wt_St D tI tII B σ s H locs) (hl : lv_has ls 4 [(3, .int x3), (0, .ref b), (1, .ref (B + 0)), (2, .ref (B + 101))]) (kk : ∀ (σ2 : Mem) (H : Heap) (locs : List Loc) (ls : Array Slot), I σ2 → wt_St D tI tII B σ2 s H locs → lv_has ls 4 [(3, .int x3), (0, .ref b), (1, .ref (B + 0)), (2, .ref (B + 101))] → W p l e room_1 s m #[Value.ref b] below meth c H locs cells slots Q (F0 m 1946 ls [])) : W p l e room_1 s m #[Value.ref b] below meth c H locs cells slots Q (F0 m 1072 ls []) := by
  obtain ⟨hx, hb, hts, hown, hml, hX, hbl, hbA, hK⟩ := C
  obtain ⟨r1, σ1, r2, σ2, h1, h2, hI⟩ := hok σ (xs (x3 + 1).toNatClampNeg) (xs (x3 + 2).toNatClampNeg) (xs (x3 + 3).toNatClampNeg) hI
  refine lv_aload_n hx hb dL_law_1072 rfl (lv_at hl 2 rfl) ?_
  refine lv_aload_n hx hb dL_law_1073 rfl (lv_at hl 1 rfl) ?_
  refine lv_iload_n hx hb dL_law_1074 rfl (lv_at hl 0 rfl) ?_
  refine lv_iconst (v := 1) hx hb dL_law_1075 (by decide) ?_
  refine lv_iadd hx hb dL_law_1076 ?_
  refine va_sld hx hb hX hbl hbA hM.2 (hin 1 (by decide)) dL_law_1077 ?_
  refine lv_aload_n hx hb dL_law_1078 rfl (lv_at hl 1 rfl) ?_
  refine lv_iload_n hx hb dL_law_1079 rfl (lv_at hl 0 rfl) ?_
  refine lv_iconst (v := 2) hx hb dL_law_1080 (by decide) ?_
  refine lv_iadd hx hb dL_law_1081 ?_
  refine va_sld hx hb hX hbl hbA hM.2 (hin 2 (by decide)) dL_law_1082 ?_
  refine lv_aload_n hx hb dL_law_1083 rfl (lv_at hl 1 rfl) ?_
  refine lv_iload_n hx hb dL_law_1084 rfl (lv_at hl 0 rfl) ?_
  refine lv_iconst (v := 3) hx hb dL_law_1085 (by decide) ?_
  refine lv_iadd hx hb dL_law_1086 ?_
  refine va_sld hx hb hX hbl hbA hM.2 (hin 3 (by decide)) dL_law_1087 ?_
  refine wl_callVi (As := [.int (xs (x3 + 1).toNatClampNeg), .int (xs (x3 + 2).toNatClampNeg), .int (xs (x3 + 3).toNatClampNeg)]) (rest := []) hx hb hml hts hown hK hM wt_rc_X3 cl_122 hl_X3_walls rfl ⟨qz_b rfl, qz_b rfl⟩ ⟨rfl, rfl⟩ hl.1 rfl (qz_b rfl) dL_law_1088 hcs (c_X3_walls h1) (fun H locs hM => ?_)
  refine lv_pop hx hb dL_law_1091 rfl ?_
  refine lv_aload_n hx hb dL_law_1092 rfl (lv_at hl 3 rfl) ?_
  refine lv_aload_n hx hb dL_law_1093 rfl (lv_at hl 1 rfl) ?_
  refine lv_iload_n hx hb dL_law_1094 rfl (lv_at hl 0 rfl) ?_
  refine lv_iconst (v := 1) hx hb dL_law_1095 (by decide) ?_
  refine lv_iadd hx hb dL_law_1096 ?_
  refine va_sld hx hb hX hbl hbA hM.2 (hin 1 (by decide)) dL_law_1097 ?_
  refine lv_aload_n hx hb dL_law_1098 rfl (lv_at hl 1 rfl) ?_
  refine lv_iload_n hx hb dL_law_1099 rfl (lv_at hl 0 rfl) ?_
  refine lv_iconst (v := 2) hx hb dL_law_1100 (by decide) ?_
  refine lv_iadd hx hb dL_law_1101 ?_
  refine va_sld hx hb hX hbl hbA hM.2 (hin 2 (by decide)) dL_law_1102 ?_
  refine lv_aload_n hx hb dL_law_1103 rfl (lv_at hl 1 rfl) ?_
  refine lv_iload_n hx hb dL_law_1104 rfl (lv_at hl 0 rfl) ?_
  refine lv_iconst (v := 3) hx hb dL_law_1105 (by decide) ?_
  refine lv_iadd hx hb dL_law_1106 ?_
  refine va_sld hx hb hX hbl hbA hM.2 (hin 3 (by decide)) dL_law_1107 ?_
  refine wl_callVi (As := [.int (xs (x3 + 1).toNatClampNeg), .int (xs (x3 + 2).toNatClampNeg), .int (xs (x3 + 3).toNatClampNeg)]) (rest := []) hx hb hml hts hown hK hM wt_rc_X4 cl_125 hl_X4_walls rfl ⟨qz_b rfl, qz_b rfl⟩ ⟨rfl, rfl⟩ hl.1 rfl (qz_b rfl) dL_law_1108 hcs (c_X4_walls h2) (fun H locs hM => ?_)
  refine lv_pop hx hb dL_law_1111 rfl ?_
  refine lv_goto (tgt := 1946) hx hb dL_law_1112 (by decide) ?_
  exact kk _ _ _ _ hI hM hl
end LWC
