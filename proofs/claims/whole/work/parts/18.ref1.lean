set_option maxHeartbeats 4000000 in
set_option maxRecDepth 100000 in
theorem sK8_ordered_357 {p : Program} {l : Launch} {e : Env} {s : State} {m : MethodId} {args : Array Value} {below : List Frame} {meth : Method} {c : Code} {G : tf_G} (X : tf_X G 16 "TradeFloorModel" cK8_ordered 10 (some .int) p s m args meth c) {r : Int32} {I9 : FI} {L9 : FL} (v1 : Int32) (v2 : Int32) (v3 : Int32) (v4 : Int32) (v5 : Int32) (v6 : Int32) (I : FI) (L : FL) (hf : fK8_ordered_357 v1 v2 v3 v4 v5 v6 I L = some (r, I9, L9)) {H : Heap} {locs : List Loc} {ls : Array Slot} (h : tf_H G 16 (rE G I L) s.heap H locs) (hl : lv_has ls 10 [(0, .ref (al G 0)), (1, .int v1), (2, .int v2), (3, .int v3), (4, .int v4), (5, .int v5), (6, .int v6)]) : W p l e (tf_rm 5 108) s m args below meth c H locs 0 0 (MQ below (tf_Q G 16 (rE G I9 L9) (some (.int r))) args s 0 0 (gA (al G) 16)) (F0 m 357 ls []) := by
  have hx := X.1
  have hb := X.2.1
  have hJ := X.2.2.2.2.2.2.2.2.2
  unfold fK8_ordered_357 at hf
  refine lv_aload_n hx hb dK8_ordered_357 rfl (lv_at hl 0 rfl) ?_
  refine lv_iload_n hx hb dK8_ordered_358 rfl (lv_at hl 2 rfl) ?_
  refine lv_iload_n hx hb dK8_ordered_359 rfl (lv_at hl 1 rfl) ?_
  refine lv_iload_n hx hb dK8_ordered_360 rfl (lv_at hl 3 rfl) ?_
  refine lv_iload hx hb dK8_ordered_361 (lv_at hl 4 rfl) ?_
  refine lv_iconst (v := 2) hx hb dK8_ordered_363 (by decide) ?_
  obtain ⟨r_2, I_3, L_4, h_1, hf⟩ := bq_some hf
  refine tf_callVi (As := [.int v2, .int v1, .int v3, .int v4, .int 2]) (rest := []) X h 0 (by decide) rfl rfl (mK8_fresh hJ h_1) bwK8_fresh w_458 ⟨Nat.le_of_ble_eq_true rfl, Nat.le_of_ble_eq_true rfl⟩ hl.1 rfl (Nat.le_of_ble_eq_true rfl) ⟨Nat.zero_le _, Nat.zero_le _⟩ dK8_ordered_364 (fun H locs h => ?_)
  refine lv_istore (lv' := [(9, .int r_2), (0, .ref (al G 0)), (1, .int v1), (2, .int v2), (3, .int v3), (4, .int v4), (5, .int v5), (6, .int v6)]) hx hb dK8_ordered_367 hl (by decide) rfl (fun ls hl => ?_)
  refine lv_aload_n hx hb dK8_ordered_369 rfl (lv_at hl 1 rfl) ?_
  refine lv_iload hx hb dK8_ordered_370 (lv_at hl 0 rfl) ?_
  refine lv_iload_n hx hb dK8_ordered_372 rfl (lv_at hl 4 rfl) ?_
  refine lv_iconst (v := 0) hx hb dK8_ordered_373 (by decide) ?_
  obtain ⟨I_6, L_7, h_5, hf⟩ := bv_some hf
  refine tf_callVv (As := [.int r_2, .int v3, .int 0]) (rest := []) X h 0 (by decide) rfl rfl (mK8_meets hJ h_5) bwK8_meets w_459 ⟨Nat.le_of_ble_eq_true rfl, Nat.le_of_ble_eq_true rfl⟩ hl.1 rfl (Nat.le_of_ble_eq_true rfl) ⟨Nat.zero_le _, Nat.zero_le _⟩ dK8_ordered_374 (fun H locs h => ?_)
  refine lv_aload_n hx hb dK8_ordered_377 rfl (lv_at hl 1 rfl) ?_
  refine gf8_left X h w_410 dK8_ordered_378 ?_
  refine lv_iload hx hb dK8_ordered_381 (lv_at hl 0 rfl) ?_
  obtain ⟨hi_8, hf⟩ := ck_some hf
  refine gar_8 X h (inb_in hi_8) dK8_ordered_383 ?_
  refine lv_if_le (tgt := 419) hx hb dK8_ordered_384 (by decide) (fun c_9 => ?_) (fun c_9 => ?_)
  · have hf := if_t hf c_9
    refine lv_iload hx hb dK8_ordered_419 (lv_at hl 0 rfl) ?_
    cases hf
    exact tf_iret X h dK8_ordered_421
  · have hf := if_f hf c_9
    refine lv_iload hx hb dK8_ordered_387 (lv_at hl 7 rfl) ?_
    refine lv_if_ne (tgt := 419) hx hb dK8_ordered_389 (by decide) (fun c_10 => ?_) (fun c_10 => ?_)
    · have hf := if_f hf c_10
      refine lv_iload hx hb dK8_ordered_419 (lv_at hl 0 rfl) ?_
      cases hf
      exact tf_iret X h dK8_ordered_421
    · have hf := if_t hf c_10
      refine lv_aload_n hx hb dK8_ordered_392 rfl (lv_at hl 1 rfl) ?_
      refine gf8_state X h w_407 dK8_ordered_393 ?_
      refine lv_iload hx hb dK8_ordered_396 (lv_at hl 0 rfl) ?_
      refine lv_iconst (v := 0) hx hb dK8_ordered_398 (by decide) ?_
      obtain ⟨hi_11, hf⟩ := ck_some hf
      obtain ⟨I_12, eI_12, hf⟩ := nm_some hf
      refine par_10 X h (inb_in hi_11) eI_12 dK8_ordered_399 (fun H locs h => ?_)
      refine lv_iload hx hb dK8_ordered_400 (lv_at hl 6 rfl) ?_
      refine lv_if_le (tgt := 419) hx hb dK8_ordered_402 (by decide) (fun c_13 => ?_) (fun c_13 => ?_)
      · have hf := if_t hf c_13
        refine lv_iload hx hb dK8_ordered_419 (lv_at hl 0 rfl) ?_
        cases hf
        exact tf_iret X h dK8_ordered_421
      · have hf := if_f hf c_13
        refine lv_aload_n hx hb dK8_ordered_405 rfl (lv_at hl 1 rfl) ?_
        refine gf8_ends X h w_428 dK8_ordered_406 ?_
        refine lv_iload hx hb dK8_ordered_409 (lv_at hl 0 rfl) ?_
        refine lv_aload_n hx hb dK8_ordered_411 rfl (lv_at hl 1 rfl) ?_
        refine gf8_now X h w_461 dK8_ordered_412 ?_
        refine lv_iload hx hb dK8_ordered_415 (lv_at hl 6 rfl) ?_
        refine lv_iadd hx hb dK8_ordered_417 ?_
        obtain ⟨hi_14, hf⟩ := ck_some hf
        obtain ⟨I_15, eI_15, hf⟩ := nm_some hf
        refine par_11 X h (inb_in hi_14) eI_15 dK8_ordered_418 (fun H locs h => ?_)
        refine lv_iload hx hb dK8_ordered_419 (lv_at hl 0 rfl) ?_
        cases hf
        exact tf_iret X h dK8_ordered_421
set_option maxHeartbeats 4000000 in
set_option maxRecDepth 100000 in
theorem sK8_ordered_339 {p : Program} {l : Launch} {e : Env} {s : State} {m : MethodId} {args : Array Value} {below : List Frame} {meth : Method} {c : Code} {G : tf_G} (X : tf_X G 16 "TradeFloorModel" cK8_ordered 10 (some .int) p s m args meth c) {r : Int32} {I9 : FI} {L9 : FL} (v1 : Int32) (v2 : Int32) (v3 : Int32) (v4 : Int32) (v5 : Int32) (v6 : Int32) (v8 : Int32) (I : FI) (L : FL) (hf : fK8_ordered_339 v1 v2 v3 v4 v5 v6 v8 I L = some (r, I9, L9)) {H : Heap} {locs : List Loc} {ls : Array Slot} (h : tf_H G 16 (rE G I L) s.heap H locs) (hl : lv_has ls 10 [(0, .ref (al G 0)), (1, .int v1), (2, .int v2), (3, .int v3), (4, .int v4), (5, .int v5), (6, .int v6), (8, .int v8)]) : W p l e (tf_rm 5 108) s m args below meth c H locs 0 0 (MQ below (tf_Q G 16 (rE G I9 L9) (some (.int r))) args s 0 0 (gA (al G) 16)) (F0 m 339 ls []) := by
  have hx := X.1
  have hb := X.2.1
  have hJ := X.2.2.2.2.2.2.2.2.2
  unfold fK8_ordered_339 at hf
  refine lv_iload hx hb dK8_ordered_339 (lv_at hl 7 rfl) ?_
  refine lv_if_eq (tgt := 357) hx hb dK8_ordered_341 (by decide) (fun c_1 => ?_) (fun c_1 => ?_)
  · have hf := if_t hf c_1
    exact sK8_ordered_357 X v1 v2 v3 v4 v5 v6 I L hf h (lv_sub hl [0, 1, 2, 3, 4, 5, 6] rfl)
  · have hf := if_f hf c_1
    refine lv_aload_n hx hb dK8_ordered_344 rfl (lv_at hl 0 rfl) ?_
    refine lv_iload_n hx hb dK8_ordered_345 rfl (lv_at hl 1 rfl) ?_
    refine lv_iload hx hb dK8_ordered_346 (lv_at hl 4 rfl) ?_
    obtain ⟨r_3, h_2, hf⟩ := bn_some hf
    refine tf_callVi (As := [.int v1, .int v4]) (rest := []) X h 0 (by decide) rfl rfl (mK8_match hJ h_2) bwK8_match w_439 ⟨Nat.le_of_ble_eq_true rfl, Nat.le_of_ble_eq_true rfl⟩ hl.1 rfl (Nat.le_of_ble_eq_true rfl) ⟨Nat.zero_le _, Nat.zero_le _⟩ dK8_ordered_348 (fun H locs h => ?_)
    refine lv_if_lt (tgt := 357) hx hb dK8_ordered_351 (by decide) (fun c_4 => ?_) (fun c_4 => ?_)
    · have hf := if_t hf c_4
      exact sK8_ordered_357 X v1 v2 v3 v4 v5 v6 I L hf h (lv_sub hl [0, 1, 2, 3, 4, 5, 6] rfl)
    · have hf := if_f hf c_4
      refine lv_bipush (v := (-17)) hx hb dK8_ordered_354 (by decide) ?_
      cases hf
      exact tf_iret X h dK8_ordered_356
set_option maxHeartbeats 4000000 in
set_option maxRecDepth 100000 in
theorem sK8_ordered_320 {p : Program} {l : Launch} {e : Env} {s : State} {m : MethodId} {args : Array Value} {below : List Frame} {meth : Method} {c : Code} {G : tf_G} (X : tf_X G 16 "TradeFloorModel" cK8_ordered 10 (some .int) p s m args meth c) {r : Int32} {I9 : FI} {L9 : FL} (v1 : Int32) (v2 : Int32) (v3 : Int32) (v4 : Int32) (v5 : Int32) (v6 : Int32) (v7 : Int32) (v8 : Int32) (I : FI) (L : FL) (hf : fK8_ordered_320 v1 v2 v3 v4 v5 v6 v7 v8 I L = some (r, I9, L9)) {H : Heap} {locs : List Loc} {ls : Array Slot} (h : tf_H G 16 (rE G I L) s.heap H locs) (hl : lv_has ls 10 [(0, .ref (al G 0)), (1, .int v1), (2, .int v2), (3, .int v3), (4, .int v4), (5, .int v5), (6, .int v6), (7, .int v7), (8, .int v8)]) : W p l e (tf_rm 5 108) s m args below meth c H locs 0 0 (MQ below (tf_Q G 16 (rE G I9 L9) (some (.int r))) args s 0 0 (gA (al G) 16)) (F0 m 320 ls []) := by
  have hx := X.1
  have hb := X.2.1
  have hJ := X.2.2.2.2.2.2.2.2.2
  unfold fK8_ordered_320 at hf
  refine lv_iload hx hb dK8_ordered_320 (lv_at hl 7 rfl) ?_
  refine lv_if_eq (tgt := 339) hx hb dK8_ordered_322 (by decide) (fun c_1 => ?_) (fun c_1 => ?_)
  · have hf := if_t hf c_1
    exact sK8_ordered_339 X v1 v2 v3 v4 v5 v6 v8 I L hf h (lv_sub hl [0, 1, 2, 3, 4, 5, 6, 8] rfl)
  · have hf := if_f hf c_1
    refine lv_aload_n hx hb dK8_ordered_325 rfl (lv_at hl 0 rfl) ?_
    refine lv_iload_n hx hb dK8_ordered_326 rfl (lv_at hl 2 rfl) ?_
    refine lv_iload_n hx hb dK8_ordered_327 rfl (lv_at hl 1 rfl) ?_
    refine lv_iload hx hb dK8_ordered_328 (lv_at hl 4 rfl) ?_
    obtain ⟨r_3, h_2, hf⟩ := bn_some hf
    refine tf_callVl (As := [.int v2, .int v1, .int v4]) (rest := []) X h 0 (by decide) rfl rfl (mK8_sum hJ h_2) bwK8_sum w_460 ⟨Nat.le_of_ble_eq_true rfl, Nat.le_of_ble_eq_true rfl⟩ hl.1 rfl (Nat.le_of_ble_eq_true rfl) ⟨Nat.zero_le _, Nat.zero_le _⟩ dK8_ordered_330 (fun H locs h => ?_)
    refine lv_iload_n hx hb dK8_ordered_333 rfl (lv_at hl 3 rfl) ?_
    refine lv_i2l hx hb dK8_ordered_334 rfl ?_
    refine W.lcmp hx hb dK8_ordered_335 ?_
    refine lv_if_lt (tgt := 354) hx hb dK8_ordered_336 (by decide) (fun c_4 => ?_) (fun c_4 => ?_)
    · have hf := if_t hf c_4
      refine lv_bipush (v := (-17)) hx hb dK8_ordered_354 (by decide) ?_
      cases hf
      exact tf_iret X h dK8_ordered_356
    · have hf := if_f hf c_4
      exact sK8_ordered_339 X v1 v2 v3 v4 v5 v6 v8 I L hf h (lv_sub hl [0, 1, 2, 3, 4, 5, 6, 8] rfl)
set_option maxHeartbeats 4000000 in
set_option maxRecDepth 100000 in
theorem sK8_ordered_272 {p : Program} {l : Launch} {e : Env} {s : State} {m : MethodId} {args : Array Value} {below : List Frame} {meth : Method} {c : Code} {G : tf_G} (X : tf_X G 16 "TradeFloorModel" cK8_ordered 10 (some .int) p s m args meth c) {r : Int32} {I9 : FI} {L9 : FL} (v1 : Int32) (v2 : Int32) (v3 : Int32) (v4 : Int32) (v5 : Int32) (v6 : Int32) (v7 : Int32) (v8 : Int32) (I : FI) (L : FL) (hf : fK8_ordered_272 v1 v2 v3 v4 v5 v6 v7 v8 I L = some (r, I9, L9)) {H : Heap} {locs : List Loc} {ls : Array Slot} (h : tf_H G 16 (rE G I L) s.heap H locs) (hl : lv_has ls 10 [(0, .ref (al G 0)), (1, .int v1), (2, .int v2), (3, .int v3), (4, .int v4), (5, .int v5), (6, .int v6), (7, .int v7), (8, .int v8)]) : W p l e (tf_rm 5 108) s m args below meth c H locs 0 0 (MQ below (tf_Q G 16 (rE G I9 L9) (some (.int r))) args s 0 0 (gA (al G) 16)) (F0 m 272 ls []) := by
  have hx := X.1
  have hb := X.2.1
  have hJ := X.2.2.2.2.2.2.2.2.2
  unfold fK8_ordered_272 at hf
  refine lv_aload_n hx hb dK8_ordered_272 rfl (lv_at hl 0 rfl) ?_
  refine gf8_orders X h w_406 dK8_ordered_273 ?_
  refine lv_bipush (v := 40) hx hb dK8_ordered_276 (by decide) ?_
  refine lv_icmp_ne (tgt := 284) hx hb dK8_ordered_278 (by decide) (fun c_1 => ?_) (fun c_1 => ?_)
  · have hf := if_f hf c_1
    refine lv_iload_n hx hb dK8_ordered_284 rfl (lv_at hl 1 rfl) ?_
    refine lv_if_ne (tgt := 306) hx hb dK8_ordered_285 (by decide) (fun c_2 => ?_) (fun c_2 => ?_)
    · have hf := if_f hf c_2
      refine lv_aload_n hx hb dK8_ordered_306 rfl (lv_at hl 0 rfl) ?_
      refine lv_iload_n hx hb dK8_ordered_307 rfl (lv_at hl 2 rfl) ?_
      obtain ⟨r_4, h_3, hf⟩ := bn_some hf
      refine tf_callVl (As := [.int v2]) (rest := []) X h 0 (by decide) rfl rfl (mK8_freeGoods hJ h_3) bwK8_freeGoods w_457 ⟨Nat.le_of_ble_eq_true rfl, Nat.le_of_ble_eq_true rfl⟩ hl.1 rfl (Nat.le_of_ble_eq_true rfl) ⟨Nat.zero_le _, Nat.zero_le _⟩ dK8_ordered_308 (fun H locs h => ?_)
      refine lv_iload_n hx hb dK8_ordered_311 rfl (lv_at hl 3 rfl) ?_
      refine lv_i2l hx hb dK8_ordered_312 rfl ?_
      refine W.lcmp hx hb dK8_ordered_313 ?_
      refine lv_if_ge (tgt := 320) hx hb dK8_ordered_314 (by decide) (fun c_5 => ?_) (fun c_5 => ?_)
      · have hf := if_t hf c_5
        exact sK8_ordered_320 X v1 v2 v3 v4 v5 v6 v7 v8 I L hf h hl
      · have hf := if_f hf c_5
        refine lv_bipush (v := (-16)) hx hb dK8_ordered_317 (by decide) ?_
        cases hf
        exact tf_iret X h dK8_ordered_319
    · have hf := if_t hf c_2
      refine lv_aload_n hx hb dK8_ordered_288 rfl (lv_at hl 0 rfl) ?_
      refine lv_iload_n hx hb dK8_ordered_289 rfl (lv_at hl 2 rfl) ?_
      obtain ⟨r_7, h_6, hf⟩ := bn_some hf
      refine tf_callVl (As := [.int v2]) (rest := []) X h 0 (by decide) rfl rfl (mK8_freeCash hJ h_6) bwK8_freeCash w_441 ⟨Nat.le_of_ble_eq_true rfl, Nat.le_of_ble_eq_true rfl⟩ hl.1 rfl (Nat.le_of_ble_eq_true rfl) ⟨Nat.zero_le _, Nat.zero_le _⟩ dK8_ordered_290 (fun H locs h => ?_)
      refine lv_iload_n hx hb dK8_ordered_293 rfl (lv_at hl 3 rfl) ?_
      refine lv_i2l hx hb dK8_ordered_294 rfl ?_
      refine lv_iload hx hb dK8_ordered_295 (lv_at hl 4 rfl) ?_
      refine lv_i2l hx hb dK8_ordered_297 rfl ?_
      refine lv_lmul hx hb dK8_ordered_298 ?_
      refine W.lcmp hx hb dK8_ordered_299 ?_
      refine lv_if_ge (tgt := 320) hx hb dK8_ordered_300 (by decide) (fun c_8 => ?_) (fun c_8 => ?_)
      · have hf := if_t hf c_8
        exact sK8_ordered_320 X v1 v2 v3 v4 v5 v6 v7 v8 I L hf h hl
      · have hf := if_f hf c_8
        refine lv_goto (tgt := 317) hx hb dK8_ordered_303 (by decide) ?_
        refine lv_bipush (v := (-16)) hx hb dK8_ordered_317 (by decide) ?_
        cases hf
        exact tf_iret X h dK8_ordered_319
  · have hf := if_t hf c_1
    refine lv_bipush (v := (-15)) hx hb dK8_ordered_281 (by decide) ?_
    cases hf
    exact tf_iret X h dK8_ordered_283
set_option maxHeartbeats 4000000 in
set_option maxRecDepth 100000 in
theorem sK8_ordered_246 {p : Program} {l : Launch} {e : Env} {s : State} {m : MethodId} {args : Array Value} {below : List Frame} {meth : Method} {c : Code} {G : tf_G} (X : tf_X G 16 "TradeFloorModel" cK8_ordered 10 (some .int) p s m args meth c) {r : Int32} {I9 : FI} {L9 : FL} (v1 : Int32) (v2 : Int32) (v3 : Int32) (v4 : Int32) (v5 : Int32) (v6 : Int32) (v7 : Int32) (v8 : Int32) (I : FI) (L : FL) (hf : fK8_ordered_246 v1 v2 v3 v4 v5 v6 v7 v8 I L = some (r, I9, L9)) {H : Heap} {locs : List Loc} {ls : Array Slot} (h : tf_H G 16 (rE G I L) s.heap H locs) (hl : lv_has ls 10 [(0, .ref (al G 0)), (1, .int v1), (2, .int v2), (3, .int v3), (4, .int v4), (5, .int v5), (6, .int v6), (7, .int v7), (8, .int v8)]) : W p l e (tf_rm 5 108) s m args below meth c H locs 0 0 (MQ below (tf_Q G 16 (rE G I9 L9) (some (.int r))) args s 0 0 (gA (al G) 16)) (F0 m 246 ls []) := by
  have hx := X.1
  have hb := X.2.1
  have hJ := X.2.2.2.2.2.2.2.2.2
  unfold fK8_ordered_246 at hf
  refine lv_aload_n hx hb dK8_ordered_246 rfl (lv_at hl 0 rfl) ?_
  refine gf8_words X h w_384 dK8_ordered_247 ?_
  refine lv_iconst (v := 5) hx hb dK8_ordered_250 (by decide) ?_
  refine lv_icmp_eq (tgt := 272) hx hb dK8_ordered_251 (by decide) (fun c_1 => ?_) (fun c_1 => ?_)
  · have hf := if_t hf c_1
    exact sK8_ordered_272 X v1 v2 v3 v4 v5 v6 v7 v8 I L hf h hl
  · have hf := if_f hf c_1
    refine lv_iload hx hb dK8_ordered_254 (lv_at hl 6 rfl) ?_
    refine lv_if_ne (tgt := 272) hx hb dK8_ordered_256 (by decide) (fun c_2 => ?_) (fun c_2 => ?_)
    · have hf := if_f hf c_2
      exact sK8_ordered_272 X v1 v2 v3 v4 v5 v6 v7 v8 I L hf h hl
    · have hf := if_t hf c_2
      refine lv_iload hx hb dK8_ordered_259 (lv_at hl 7 rfl) ?_
      refine lv_if_ne (tgt := 272) hx hb dK8_ordered_261 (by decide) (fun c_3 => ?_) (fun c_3 => ?_)
      · have hf := if_f hf c_3
        exact sK8_ordered_272 X v1 v2 v3 v4 v5 v6 v7 v8 I L hf h hl
      · have hf := if_t hf c_3
        refine lv_iload hx hb dK8_ordered_264 (lv_at hl 8 rfl) ?_
        refine lv_if_ne (tgt := 272) hx hb dK8_ordered_266 (by decide) (fun c_4 => ?_) (fun c_4 => ?_)
        · have hf := if_f hf c_4
          exact sK8_ordered_272 X v1 v2 v3 v4 v5 v6 v7 v8 I L hf h hl
        · have hf := if_t hf c_4
          refine lv_bipush (v := (-11)) hx hb dK8_ordered_269 (by decide) ?_
          cases hf
          exact tf_iret X h dK8_ordered_271
set_option maxHeartbeats 4000000 in
set_option maxRecDepth 100000 in
theorem sK8_ordered_206 {p : Program} {l : Launch} {e : Env} {s : State} {m : MethodId} {args : Array Value} {below : List Frame} {meth : Method} {c : Code} {G : tf_G} (X : tf_X G 16 "TradeFloorModel" cK8_ordered 10 (some .int) p s m args meth c) {r : Int32} {I9 : FI} {L9 : FL} (v1 : Int32) (v2 : Int32) (v3 : Int32) (v4 : Int32) (v5 : Int32) (v6 : Int32) (v7 : Int32) (u0 : Int32) (I : FI) (L : FL) (hf : fK8_ordered_206 v1 v2 v3 v4 v5 v6 v7 u0 I L = some (r, I9, L9)) {H : Heap} {locs : List Loc} {ls : Array Slot} (h : tf_H G 16 (rE G I L) s.heap H locs) (hl : lv_has ls 10 [(0, .ref (al G 0)), (1, .int v1), (2, .int v2), (3, .int v3), (4, .int v4), (5, .int v5), (6, .int v6), (7, .int v7)]) : W p l e (tf_rm 5 108) s m args below meth c H locs 0 0 (MQ below (tf_Q G 16 (rE G I9 L9) (some (.int r))) args s 0 0 (gA (al G) 16)) (F0 m 206 ls [.int u0]) := by
  have hx := X.1
  have hb := X.2.1
  have hJ := X.2.2.2.2.2.2.2.2.2
  unfold fK8_ordered_206 at hf
  refine lv_istore (lv' := [(8, .int u0), (0, .ref (al G 0)), (1, .int v1), (2, .int v2), (3, .int v3), (4, .int v4), (5, .int v5), (6, .int v6), (7, .int v7)]) hx hb dK8_ordered_206 hl (by decide) rfl (fun ls hl => ?_)
  refine lv_aload_n hx hb dK8_ordered_208 rfl (lv_at hl 1 rfl) ?_
  refine gf8_words X h w_384 dK8_ordered_209 ?_
  refine lv_bipush (v := 7) hx hb dK8_ordered_212 (by decide) ?_
  refine lv_icmp_ne (tgt := 246) hx hb dK8_ordered_214 (by decide) (fun c_1 => ?_) (fun c_1 => ?_)
  · have hf := if_f hf c_1
    exact sK8_ordered_246 X v1 v2 v3 v4 v5 v6 v7 u0 I L hf h (lv_sub hl [1, 2, 3, 4, 5, 6, 7, 8, 0] rfl)
  · have hf := if_t hf c_1
    refine lv_aload_n hx hb dK8_ordered_217 rfl (lv_at hl 1 rfl) ?_
    refine lv_iconst (v := 5) hx hb dK8_ordered_218 (by decide) ?_
    refine tf_ldcS X 25 (by decide) rfl rfl dK8_ordered_219 ?_
    obtain ⟨r_3, h_2, hf⟩ := bn_some hf
    refine tf_callVi (As := [.int 5, .ref (sK G 25)]) (rest := []) X h 0 (by decide) rfl rfl (mK8_is hJ h_2) bwK8_is w_456 ⟨Nat.le_of_ble_eq_true rfl, Nat.le_of_ble_eq_true rfl⟩ hl.1 rfl (Nat.le_of_ble_eq_true rfl) ⟨Nat.zero_le _, Nat.zero_le _⟩ dK8_ordered_221 (fun H locs h => ?_)
    refine lv_if_eq (tgt := 246) hx hb dK8_ordered_224 (by decide) (fun c_4 => ?_) (fun c_4 => ?_)
    · have hf := if_t hf c_4
      exact sK8_ordered_246 X v1 v2 v3 v4 v5 v6 v7 u0 I L hf h (lv_sub hl [1, 2, 3, 4, 5, 6, 7, 8, 0] rfl)
    · have hf := if_f hf c_4
      refine lv_aload_n hx hb dK8_ordered_227 rfl (lv_at hl 1 rfl) ?_
      refine lv_bipush (v := 6) hx hb dK8_ordered_228 (by decide) ?_
      refine lv_iconst (v := 1) hx hb dK8_ordered_230 (by decide) ?_
      refine lv_bipush (v := 99) hx hb dK8_ordered_231 (by decide) ?_
      obtain ⟨r_6, h_5, hf⟩ := bn_some hf
      refine tf_callVi (As := [.int 6, .int 1, .int 99]) (rest := []) X h 0 (by decide) rfl rfl (mK8_number hJ h_5) bwK8_number w_399 ⟨Nat.le_of_ble_eq_true rfl, Nat.le_of_ble_eq_true rfl⟩ hl.1 rfl (Nat.le_of_ble_eq_true rfl) ⟨Nat.zero_le _, Nat.zero_le _⟩ dK8_ordered_233 (fun H locs h => ?_)
      refine lv_istore (lv' := [(5, .int r_6), (8, .int u0), (0, .ref (al G 0)), (1, .int v1), (2, .int v2), (3, .int v3), (4, .int v4), (6, .int v6), (7, .int v7)]) hx hb dK8_ordered_236 hl (by decide) rfl (fun ls hl => ?_)
      refine lv_iload hx hb dK8_ordered_238 (lv_at hl 0 rfl) ?_
      refine lv_if_ge (tgt := 272) hx hb dK8_ordered_240 (by decide) (fun c_7 => ?_) (fun c_7 => ?_)
      · have hf := if_t hf c_7
        exact sK8_ordered_272 X v1 v2 v3 v4 r_6 v6 v7 u0 I L hf h (lv_sub hl [2, 3, 4, 5, 6, 0, 7, 8, 1] rfl)
      · have hf := if_f hf c_7
        refine lv_bipush (v := (-11)) hx hb dK8_ordered_243 (by decide) ?_
        cases hf
        exact tf_iret X h dK8_ordered_245
set_option maxHeartbeats 4000000 in
set_option maxRecDepth 100000 in
theorem sK8_ordered_205 {p : Program} {l : Launch} {e : Env} {s : State} {m : MethodId} {args : Array Value} {below : List Frame} {meth : Method} {c : Code} {G : tf_G} (X : tf_X G 16 "TradeFloorModel" cK8_ordered 10 (some .int) p s m args meth c) {r : Int32} {I9 : FI} {L9 : FL} (v1 : Int32) (v2 : Int32) (v3 : Int32) (v4 : Int32) (v5 : Int32) (v6 : Int32) (v7 : Int32) (I : FI) (L : FL) (hf : fK8_ordered_205 v1 v2 v3 v4 v5 v6 v7 I L = some (r, I9, L9)) {H : Heap} {locs : List Loc} {ls : Array Slot} (h : tf_H G 16 (rE G I L) s.heap H locs) (hl : lv_has ls 10 [(0, .ref (al G 0)), (1, .int v1), (2, .int v2), (3, .int v3), (4, .int v4), (5, .int v5), (6, .int v6), (7, .int v7)]) : W p l e (tf_rm 5 108) s m args below meth c H locs 0 0 (MQ below (tf_Q G 16 (rE G I9 L9) (some (.int r))) args s 0 0 (gA (al G) 16)) (F0 m 205 ls []) := by
  have hx := X.1
  have hb := X.2.1
  have hJ := X.2.2.2.2.2.2.2.2.2
  unfold fK8_ordered_205 at hf
  refine lv_iconst (v := 0) hx hb dK8_ordered_205 (by decide) ?_
  exact sK8_ordered_206 X v1 v2 v3 v4 v5 v6 v7 0 I L hf h hl
set_option maxHeartbeats 4000000 in
set_option maxRecDepth 100000 in
theorem sK8_ordered_180 {p : Program} {l : Launch} {e : Env} {s : State} {m : MethodId} {args : Array Value} {below : List Frame} {meth : Method} {c : Code} {G : tf_G} (X : tf_X G 16 "TradeFloorModel" cK8_ordered 10 (some .int) p s m args meth c) {r : Int32} {I9 : FI} {L9 : FL} (v1 : Int32) (v2 : Int32) (v3 : Int32) (v4 : Int32) (v5 : Int32) (v6 : Int32) (u0 : Int32) (I : FI) (L : FL) (hf : fK8_ordered_180 v1 v2 v3 v4 v5 v6 u0 I L = some (r, I9, L9)) {H : Heap} {locs : List Loc} {ls : Array Slot} (h : tf_H G 16 (rE G I L) s.heap H locs) (hl : lv_has ls 10 [(0, .ref (al G 0)), (1, .int v1), (2, .int v2), (3, .int v3), (4, .int v4), (5, .int v5), (6, .int v6)]) : W p l e (tf_rm 5 108) s m args below meth c H locs 0 0 (MQ below (tf_Q G 16 (rE G I9 L9) (some (.int r))) args s 0 0 (gA (al G) 16)) (F0 m 180 ls [.int u0]) := by
  have hx := X.1
  have hb := X.2.1
  have hJ := X.2.2.2.2.2.2.2.2.2
  unfold fK8_ordered_180 at hf
  refine lv_istore (lv' := [(7, .int u0), (0, .ref (al G 0)), (1, .int v1), (2, .int v2), (3, .int v3), (4, .int v4), (5, .int v5), (6, .int v6)]) hx hb dK8_ordered_180 hl (by decide) rfl (fun ls hl => ?_)
  refine lv_aload_n hx hb dK8_ordered_182 rfl (lv_at hl 1 rfl) ?_
  refine gf8_words X h w_384 dK8_ordered_183 ?_
  refine lv_bipush (v := 6) hx hb dK8_ordered_186 (by decide) ?_
  refine lv_icmp_ne (tgt := 205) hx hb dK8_ordered_188 (by decide) (fun c_1 => ?_) (fun c_1 => ?_)
  · have hf := if_f hf c_1
    exact sK8_ordered_205 X v1 v2 v3 v4 v5 v6 u0 I L hf h (lv_sub hl [1, 2, 3, 4, 5, 6, 7, 0] rfl)
  · have hf := if_t hf c_1
    refine lv_aload_n hx hb dK8_ordered_191 rfl (lv_at hl 1 rfl) ?_
    refine lv_iconst (v := 5) hx hb dK8_ordered_192 (by decide) ?_
    refine tf_ldcS X 24 (by decide) rfl rfl dK8_ordered_193 ?_
    obtain ⟨r_3, h_2, hf⟩ := bn_some hf
    refine tf_callVi (As := [.int 5, .ref (sK G 24)]) (rest := []) X h 0 (by decide) rfl rfl (mK8_is hJ h_2) bwK8_is w_456 ⟨Nat.le_of_ble_eq_true rfl, Nat.le_of_ble_eq_true rfl⟩ hl.1 rfl (Nat.le_of_ble_eq_true rfl) ⟨Nat.zero_le _, Nat.zero_le _⟩ dK8_ordered_195 (fun H locs h => ?_)
    refine lv_if_eq (tgt := 205) hx hb dK8_ordered_198 (by decide) (fun c_4 => ?_) (fun c_4 => ?_)
    · have hf := if_t hf c_4
      exact sK8_ordered_205 X v1 v2 v3 v4 v5 v6 u0 I L hf h (lv_sub hl [1, 2, 3, 4, 5, 6, 7, 0] rfl)
    · have hf := if_f hf c_4
      refine lv_iconst (v := 1) hx hb dK8_ordered_201 (by decide) ?_
      refine lv_goto (tgt := 206) hx hb dK8_ordered_202 (by decide) ?_
      exact sK8_ordered_206 X v1 v2 v3 v4 v5 v6 u0 1 I L hf h (lv_sub hl [1, 2, 3, 4, 5, 6, 7, 0] rfl)
set_option maxHeartbeats 4000000 in
set_option maxRecDepth 100000 in
theorem sK8_ordered_179 {p : Program} {l : Launch} {e : Env} {s : State} {m : MethodId} {args : Array Value} {below : List Frame} {meth : Method} {c : Code} {G : tf_G} (X : tf_X G 16 "TradeFloorModel" cK8_ordered 10 (some .int) p s m args meth c) {r : Int32} {I9 : FI} {L9 : FL} (v1 : Int32) (v2 : Int32) (v3 : Int32) (v4 : Int32) (v5 : Int32) (v6 : Int32) (I : FI) (L : FL) (hf : fK8_ordered_179 v1 v2 v3 v4 v5 v6 I L = some (r, I9, L9)) {H : Heap} {locs : List Loc} {ls : Array Slot} (h : tf_H G 16 (rE G I L) s.heap H locs) (hl : lv_has ls 10 [(0, .ref (al G 0)), (1, .int v1), (2, .int v2), (3, .int v3), (4, .int v4), (5, .int v5), (6, .int v6)]) : W p l e (tf_rm 5 108) s m args below meth c H locs 0 0 (MQ below (tf_Q G 16 (rE G I9 L9) (some (.int r))) args s 0 0 (gA (al G) 16)) (F0 m 179 ls []) := by
  have hx := X.1
  have hb := X.2.1
  have hJ := X.2.2.2.2.2.2.2.2.2
  unfold fK8_ordered_179 at hf
  refine lv_iconst (v := 0) hx hb dK8_ordered_179 (by decide) ?_
  exact sK8_ordered_180 X v1 v2 v3 v4 v5 v6 0 I L hf h hl
set_option maxHeartbeats 4000000 in
set_option maxRecDepth 100000 in
theorem sK8_ordered_154 {p : Program} {l : Launch} {e : Env} {s : State} {m : MethodId} {args : Array Value} {below : List Frame} {meth : Method} {c : Code} {G : tf_G} (X : tf_X G 16 "TradeFloorModel" cK8_ordered 10 (some .int) p s m args meth c) {r : Int32} {I9 : FI} {L9 : FL} (v1 : Int32) (v2 : Int32) (v3 : Int32) (v4 : Int32) (v5 : Int32) (u0 : Int32) (I : FI) (L : FL) (hf : fK8_ordered_154 v1 v2 v3 v4 v5 u0 I L = some (r, I9, L9)) {H : Heap} {locs : List Loc} {ls : Array Slot} (h : tf_H G 16 (rE G I L) s.heap H locs) (hl : lv_has ls 10 [(0, .ref (al G 0)), (1, .int v1), (2, .int v2), (3, .int v3), (4, .int v4), (5, .int v5)]) : W p l e (tf_rm 5 108) s m args below meth c H locs 0 0 (MQ below (tf_Q G 16 (rE G I9 L9) (some (.int r))) args s 0 0 (gA (al G) 16)) (F0 m 154 ls [.int u0]) := by
  have hx := X.1
  have hb := X.2.1
  have hJ := X.2.2.2.2.2.2.2.2.2
  unfold fK8_ordered_154 at hf
  refine lv_istore (lv' := [(6, .int u0), (0, .ref (al G 0)), (1, .int v1), (2, .int v2), (3, .int v3), (4, .int v4), (5, .int v5)]) hx hb dK8_ordered_154 hl (by decide) rfl (fun ls hl => ?_)
  refine lv_aload_n hx hb dK8_ordered_156 rfl (lv_at hl 1 rfl) ?_
  refine gf8_words X h w_384 dK8_ordered_157 ?_
  refine lv_bipush (v := 6) hx hb dK8_ordered_160 (by decide) ?_
  refine lv_icmp_ne (tgt := 179) hx hb dK8_ordered_162 (by decide) (fun c_1 => ?_) (fun c_1 => ?_)
  · have hf := if_f hf c_1
    exact sK8_ordered_179 X v1 v2 v3 v4 v5 u0 I L hf h (lv_sub hl [1, 2, 3, 4, 5, 6, 0] rfl)
  · have hf := if_t hf c_1
    refine lv_aload_n hx hb dK8_ordered_165 rfl (lv_at hl 1 rfl) ?_
    refine lv_iconst (v := 5) hx hb dK8_ordered_166 (by decide) ?_
    refine tf_ldcS X 23 (by decide) rfl rfl dK8_ordered_167 ?_
    obtain ⟨r_3, h_2, hf⟩ := bn_some hf
    refine tf_callVi (As := [.int 5, .ref (sK G 23)]) (rest := []) X h 0 (by decide) rfl rfl (mK8_is hJ h_2) bwK8_is w_456 ⟨Nat.le_of_ble_eq_true rfl, Nat.le_of_ble_eq_true rfl⟩ hl.1 rfl (Nat.le_of_ble_eq_true rfl) ⟨Nat.zero_le _, Nat.zero_le _⟩ dK8_ordered_169 (fun H locs h => ?_)
    refine lv_if_eq (tgt := 179) hx hb dK8_ordered_172 (by decide) (fun c_4 => ?_) (fun c_4 => ?_)
    · have hf := if_t hf c_4
      exact sK8_ordered_179 X v1 v2 v3 v4 v5 u0 I L hf h (lv_sub hl [1, 2, 3, 4, 5, 6, 0] rfl)
    · have hf := if_f hf c_4
      refine lv_iconst (v := 1) hx hb dK8_ordered_175 (by decide) ?_
      refine lv_goto (tgt := 180) hx hb dK8_ordered_176 (by decide) ?_
      exact sK8_ordered_180 X v1 v2 v3 v4 v5 u0 1 I L hf h (lv_sub hl [1, 2, 3, 4, 5, 6, 0] rfl)
set_option maxHeartbeats 4000000 in
set_option maxRecDepth 100000 in
theorem sK8_ordered_153 {p : Program} {l : Launch} {e : Env} {s : State} {m : MethodId} {args : Array Value} {below : List Frame} {meth : Method} {c : Code} {G : tf_G} (X : tf_X G 16 "TradeFloorModel" cK8_ordered 10 (some .int) p s m args meth c) {r : Int32} {I9 : FI} {L9 : FL} (v1 : Int32) (v2 : Int32) (v3 : Int32) (v4 : Int32) (v5 : Int32) (I : FI) (L : FL) (hf : fK8_ordered_153 v1 v2 v3 v4 v5 I L = some (r, I9, L9)) {H : Heap} {locs : List Loc} {ls : Array Slot} (h : tf_H G 16 (rE G I L) s.heap H locs) (hl : lv_has ls 10 [(0, .ref (al G 0)), (1, .int v1), (2, .int v2), (3, .int v3), (4, .int v4), (5, .int v5)]) : W p l e (tf_rm 5 108) s m args below meth c H locs 0 0 (MQ below (tf_Q G 16 (rE G I9 L9) (some (.int r))) args s 0 0 (gA (al G) 16)) (F0 m 153 ls []) := by
  have hx := X.1
  have hb := X.2.1
  have hJ := X.2.2.2.2.2.2.2.2.2
  unfold fK8_ordered_153 at hf
  refine lv_iconst (v := 0) hx hb dK8_ordered_153 (by decide) ?_
  exact sK8_ordered_154 X v1 v2 v3 v4 v5 0 I L hf h hl
set_option maxHeartbeats 4000000 in
set_option maxRecDepth 100000 in
theorem sK8_ordered_98 {p : Program} {l : Launch} {e : Env} {s : State} {m : MethodId} {args : Array Value} {below : List Frame} {meth : Method} {c : Code} {G : tf_G} (X : tf_X G 16 "TradeFloorModel" cK8_ordered 10 (some .int) p s m args meth c) {r : Int32} {I9 : FI} {L9 : FL} (v1 : Int32) (v2 : Int32) (v3 : Int32) (I : FI) (L : FL) (hf : fK8_ordered_98 v1 v2 v3 I L = some (r, I9, L9)) {H : Heap} {locs : List Loc} {ls : Array Slot} (h : tf_H G 16 (rE G I L) s.heap H locs) (hl : lv_has ls 10 [(0, .ref (al G 0)), (1, .int v1), (2, .int v2), (3, .int v3)]) : W p l e (tf_rm 5 108) s m args below meth c H locs 0 0 (MQ below (tf_Q G 16 (rE G I9 L9) (some (.int r))) args s 0 0 (gA (al G) 16)) (F0 m 98 ls []) := by
  have hx := X.1
  have hb := X.2.1
  have hJ := X.2.2.2.2.2.2.2.2.2
  unfold fK8_ordered_98 at hf
  refine lv_aload_n hx hb dK8_ordered_98 rfl (lv_at hl 0 rfl) ?_
  refine lv_iconst (v := 4) hx hb dK8_ordered_99 (by decide) ?_
  refine lv_iconst (v := 1) hx hb dK8_ordered_100 (by decide) ?_
  refine lv_sipush (v := 9999) hx hb dK8_ordered_101 (by decide) ?_
  obtain ⟨r_2, h_1, hf⟩ := bn_some hf
  refine tf_callVi (As := [.int 4, .int 1, .int 9999]) (rest := []) X h 0 (by decide) rfl rfl (mK8_number hJ h_1) bwK8_number w_399 ⟨Nat.le_of_ble_eq_true rfl, Nat.le_of_ble_eq_true rfl⟩ hl.1 rfl (Nat.le_of_ble_eq_true rfl) ⟨Nat.zero_le _, Nat.zero_le _⟩ dK8_ordered_104 (fun H locs h => ?_)
  refine lv_istore (lv' := [(4, .int r_2), (0, .ref (al G 0)), (1, .int v1), (2, .int v2), (3, .int v3)]) hx hb dK8_ordered_107 hl (by decide) rfl (fun ls hl => ?_)
  refine lv_iconst (v := 0) hx hb dK8_ordered_109 (by decide) ?_
  refine lv_istore (lv' := [(5, .int 0), (4, .int r_2), (0, .ref (al G 0)), (1, .int v1), (2, .int v2), (3, .int v3)]) hx hb dK8_ordered_110 hl (by decide) rfl (fun ls hl => ?_)
  refine lv_aload_n hx hb dK8_ordered_112 rfl (lv_at hl 2 rfl) ?_
  refine lv_iconst (v := 3) hx hb dK8_ordered_113 (by decide) ?_
  refine tf_ldcS X 21 (by decide) rfl rfl dK8_ordered_114 ?_
  obtain ⟨r_4, h_3, hf⟩ := bn_some hf
  refine tf_callVi (As := [.int 3, .ref (sK G 21)]) (rest := []) X h 0 (by decide) rfl rfl (mK8_is hJ h_3) bwK8_is w_456 ⟨Nat.le_of_ble_eq_true rfl, Nat.le_of_ble_eq_true rfl⟩ hl.1 rfl (Nat.le_of_ble_eq_true rfl) ⟨Nat.zero_le _, Nat.zero_le _⟩ dK8_ordered_116 (fun H locs h => ?_)
  refine lv_if_eq (tgt := 127) hx hb dK8_ordered_119 (by decide) (fun c_5 => ?_) (fun c_5 => ?_)
  · have hf := if_t hf c_5
    refine lv_bipush (v := (-11)) hx hb dK8_ordered_127 (by decide) ?_
    cases hf
    exact tf_iret X h dK8_ordered_129
  · have hf := if_f hf c_5
    refine lv_iload hx hb dK8_ordered_122 (lv_at hl 1 rfl) ?_
    refine lv_if_ge (tgt := 130) hx hb dK8_ordered_124 (by decide) (fun c_6 => ?_) (fun c_6 => ?_)
    · have hf := if_t hf c_6
      refine lv_aload_n hx hb dK8_ordered_130 rfl (lv_at hl 2 rfl) ?_
      refine gf8_words X h w_384 dK8_ordered_131 ?_
      refine lv_bipush (v := 6) hx hb dK8_ordered_134 (by decide) ?_
      refine lv_icmp_ne (tgt := 153) hx hb dK8_ordered_136 (by decide) (fun c_7 => ?_) (fun c_7 => ?_)
      · have hf := if_f hf c_7
        exact sK8_ordered_153 X v1 v2 v3 r_2 0 I L hf h (lv_sub hl [2, 3, 4, 5, 1, 0] rfl)
      · have hf := if_t hf c_7
        refine lv_aload_n hx hb dK8_ordered_139 rfl (lv_at hl 2 rfl) ?_
        refine lv_iconst (v := 5) hx hb dK8_ordered_140 (by decide) ?_
        refine tf_ldcS X 22 (by decide) rfl rfl dK8_ordered_141 ?_
        obtain ⟨r_9, h_8, hf⟩ := bn_some hf
        refine tf_callVi (As := [.int 5, .ref (sK G 22)]) (rest := []) X h 0 (by decide) rfl rfl (mK8_is hJ h_8) bwK8_is w_456 ⟨Nat.le_of_ble_eq_true rfl, Nat.le_of_ble_eq_true rfl⟩ hl.1 rfl (Nat.le_of_ble_eq_true rfl) ⟨Nat.zero_le _, Nat.zero_le _⟩ dK8_ordered_143 (fun H locs h => ?_)
        refine lv_if_eq (tgt := 153) hx hb dK8_ordered_146 (by decide) (fun c_10 => ?_) (fun c_10 => ?_)
        · have hf := if_t hf c_10
          exact sK8_ordered_153 X v1 v2 v3 r_2 0 I L hf h (lv_sub hl [2, 3, 4, 5, 1, 0] rfl)
        · have hf := if_f hf c_10
          refine lv_iconst (v := 1) hx hb dK8_ordered_149 (by decide) ?_
          refine lv_goto (tgt := 154) hx hb dK8_ordered_150 (by decide) ?_
          exact sK8_ordered_154 X v1 v2 v3 r_2 0 1 I L hf h (lv_sub hl [2, 3, 4, 5, 1, 0] rfl)
    · have hf := if_f hf c_6
      refine lv_bipush (v := (-11)) hx hb dK8_ordered_127 (by decide) ?_
      cases hf
      exact tf_iret X h dK8_ordered_129
set_option maxHeartbeats 4000000 in
set_option maxRecDepth 100000 in
theorem sK8_ordered_76 {p : Program} {l : Launch} {e : Env} {s : State} {m : MethodId} {args : Array Value} {below : List Frame} {meth : Method} {c : Code} {G : tf_G} (X : tf_X G 16 "TradeFloorModel" cK8_ordered 10 (some .int) p s m args meth c) {r : Int32} {I9 : FI} {L9 : FL} (v1 : Int32) (v2 : Int32) (v3 : Int32) (I : FI) (L : FL) (hf : fK8_ordered_76 v1 v2 v3 I L = some (r, I9, L9)) {H : Heap} {locs : List Loc} {ls : Array Slot} (h : tf_H G 16 (rE G I L) s.heap H locs) (hl : lv_has ls 10 [(0, .ref (al G 0)), (1, .int v1), (2, .int v2), (3, .int v3)]) : W p l e (tf_rm 5 108) s m args below meth c H locs 0 0 (MQ below (tf_Q G 16 (rE G I9 L9) (some (.int r))) args s 0 0 (gA (al G) 16)) (F0 m 76 ls []) := by
  have hx := X.1
  have hb := X.2.1
  have hJ := X.2.2.2.2.2.2.2.2.2
  unfold fK8_ordered_76 at hf
  refine lv_aload_n hx hb dK8_ordered_76 rfl (lv_at hl 0 rfl) ?_
  refine lv_iload_n hx hb dK8_ordered_77 rfl (lv_at hl 2 rfl) ?_
  refine lv_iload_n hx hb dK8_ordered_78 rfl (lv_at hl 1 rfl) ?_
  refine lv_iload_n hx hb dK8_ordered_79 rfl (lv_at hl 3 rfl) ?_
  refine lv_iconst (v := 0) hx hb dK8_ordered_80 (by decide) ?_
  refine lv_iconst (v := 2) hx hb dK8_ordered_81 (by decide) ?_
  obtain ⟨r_2, I_3, L_4, h_1, hf⟩ := bq_some hf
  refine tf_callVi (As := [.int v2, .int v1, .int v3, .int 0, .int 2]) (rest := []) X h 0 (by decide) rfl rfl (mK8_fresh hJ h_1) bwK8_fresh w_458 ⟨Nat.le_of_ble_eq_true rfl, Nat.le_of_ble_eq_true rfl⟩ hl.1 rfl (Nat.le_of_ble_eq_true rfl) ⟨Nat.zero_le _, Nat.zero_le _⟩ dK8_ordered_82 (fun H locs h => ?_)
  refine lv_istore (lv' := [(4, .int r_2), (0, .ref (al G 0)), (1, .int v1), (2, .int v2), (3, .int v3)]) hx hb dK8_ordered_85 hl (by decide) rfl (fun ls hl => ?_)
  refine lv_aload_n hx hb dK8_ordered_87 rfl (lv_at hl 1 rfl) ?_
  refine lv_iload hx hb dK8_ordered_88 (lv_at hl 0 rfl) ?_
  refine lv_iload_n hx hb dK8_ordered_90 rfl (lv_at hl 4 rfl) ?_
  refine lv_iconst (v := 1) hx hb dK8_ordered_91 (by decide) ?_
  obtain ⟨I_6, L_7, h_5, hf⟩ := bv_some hf
  refine tf_callVv (As := [.int r_2, .int v3, .int 1]) (rest := []) X h 0 (by decide) rfl rfl (mK8_meets hJ h_5) bwK8_meets w_459 ⟨Nat.le_of_ble_eq_true rfl, Nat.le_of_ble_eq_true rfl⟩ hl.1 rfl (Nat.le_of_ble_eq_true rfl) ⟨Nat.zero_le _, Nat.zero_le _⟩ dK8_ordered_92 (fun H locs h => ?_)
  refine lv_iload hx hb dK8_ordered_95 (lv_at hl 0 rfl) ?_
  cases hf
  exact tf_iret X h dK8_ordered_97
set_option maxHeartbeats 4000000 in
set_option maxRecDepth 100000 in
theorem sK8_ordered_0 {p : Program} {l : Launch} {e : Env} {s : State} {m : MethodId} {args : Array Value} {below : List Frame} {meth : Method} {c : Code} {G : tf_G} (X : tf_X G 16 "TradeFloorModel" cK8_ordered 10 (some .int) p s m args meth c) {r : Int32} {I9 : FI} {L9 : FL} (a1 : Int32) (I : FI) (L : FL) (hf : fK8_ordered a1 I L = some (r, I9, L9)) {H : Heap} {locs : List Loc} {ls : Array Slot} (h : tf_H G 16 (rE G I L) s.heap H locs) (hl : lv_has ls 10 [(0, .ref (al G 0)), (1, .int a1)]) : W p l e (tf_rm 5 108) s m args below meth c H locs 0 0 (MQ below (tf_Q G 16 (rE G I9 L9) (some (.int r))) args s 0 0 (gA (al G) 16)) (F0 m 0 ls []) := by
  have hx := X.1
  have hb := X.2.1
  have hJ := X.2.2.2.2.2.2.2.2.2
  unfold fK8_ordered at hf
  refine lv_aload_n hx hb dK8_ordered_0 rfl (lv_at hl 0 rfl) ?_
  refine lv_iconst (v := 1) hx hb dK8_ordered_1 (by decide) ?_
  obtain ⟨r_2, h_1, hf⟩ := bn_some hf
  refine tf_callVi (As := [.int 1]) (rest := []) X h 0 (by decide) rfl rfl (mK8_whose hJ h_1) bwK8_whose w_455 ⟨Nat.le_of_ble_eq_true rfl, Nat.le_of_ble_eq_true rfl⟩ hl.1 rfl (Nat.le_of_ble_eq_true rfl) ⟨Nat.zero_le _, Nat.zero_le _⟩ dK8_ordered_2 (fun H locs h => ?_)
  refine lv_istore_n (lv' := [(2, .int r_2), (0, .ref (al G 0)), (1, .int a1)]) hx hb dK8_ordered_5 rfl hl (by decide) rfl (fun ls hl => ?_)
  refine lv_aload_n hx hb dK8_ordered_6 rfl (lv_at hl 1 rfl) ?_
  refine lv_iconst (v := 2) hx hb dK8_ordered_7 (by decide) ?_
  refine lv_iconst (v := 1) hx hb dK8_ordered_8 (by decide) ?_
  refine lv_sipush (v := 9999) hx hb dK8_ordered_9 (by decide) ?_
  obtain ⟨r_4, h_3, hf⟩ := bn_some hf
  refine tf_callVi (As := [.int 2, .int 1, .int 9999]) (rest := []) X h 0 (by decide) rfl rfl (mK8_number hJ h_3) bwK8_number w_399 ⟨Nat.le_of_ble_eq_true rfl, Nat.le_of_ble_eq_true rfl⟩ hl.1 rfl (Nat.le_of_ble_eq_true rfl) ⟨Nat.zero_le _, Nat.zero_le _⟩ dK8_ordered_12 (fun H locs h => ?_)
  refine lv_istore_n (lv' := [(3, .int r_4), (2, .int r_2), (0, .ref (al G 0)), (1, .int a1)]) hx hb dK8_ordered_15 rfl hl (by decide) rfl (fun ls hl => ?_)
  refine lv_iload_n hx hb dK8_ordered_16 rfl (lv_at hl 1 rfl) ?_
  refine lv_if_lt (tgt := 24) hx hb dK8_ordered_17 (by decide) (fun c_5 => ?_) (fun c_5 => ?_)
  · have hf := if_t hf c_5
    refine lv_bipush (v := (-11)) hx hb dK8_ordered_24 (by decide) ?_
    cases hf
    exact tf_iret X h dK8_ordered_26
  · have hf := if_f hf c_5
    refine lv_iload_n hx hb dK8_ordered_20 rfl (lv_at hl 0 rfl) ?_
    refine lv_if_ge (tgt := 27) hx hb dK8_ordered_21 (by decide) (fun c_6 => ?_) (fun c_6 => ?_)
    · have hf := if_t hf c_6
      refine lv_aload_n hx hb dK8_ordered_27 rfl (lv_at hl 2 rfl) ?_
      refine gf8_words X h w_384 dK8_ordered_28 ?_
      refine lv_iconst (v := 4) hx hb dK8_ordered_31 (by decide) ?_
      refine lv_icmp_ne (tgt := 98) hx hb dK8_ordered_32 (by decide) (fun c_7 => ?_) (fun c_7 => ?_)
      · have hf := if_f hf c_7
        exact sK8_ordered_98 X a1 r_2 r_4 I L hf h (lv_sub hl [2, 3, 1, 0] rfl)
      · have hf := if_t hf c_7
        refine lv_aload_n hx hb dK8_ordered_35 rfl (lv_at hl 2 rfl) ?_
        refine lv_iconst (v := 3) hx hb dK8_ordered_36 (by decide) ?_
        refine tf_ldcS X 20 (by decide) rfl rfl dK8_ordered_37 ?_
        obtain ⟨r_9, h_8, hf⟩ := bn_some hf
        refine tf_callVi (As := [.int 3, .ref (sK G 20)]) (rest := []) X h 0 (by decide) rfl rfl (mK8_is hJ h_8) bwK8_is w_456 ⟨Nat.le_of_ble_eq_true rfl, Nat.le_of_ble_eq_true rfl⟩ hl.1 rfl (Nat.le_of_ble_eq_true rfl) ⟨Nat.zero_le _, Nat.zero_le _⟩ dK8_ordered_39 (fun H locs h => ?_)
        refine lv_if_eq (tgt := 98) hx hb dK8_ordered_42 (by decide) (fun c_10 => ?_) (fun c_10 => ?_)
        · have hf := if_t hf c_10
          exact sK8_ordered_98 X a1 r_2 r_4 I L hf h (lv_sub hl [2, 3, 1, 0] rfl)
        · have hf := if_f hf c_10
          refine lv_aload_n hx hb dK8_ordered_45 rfl (lv_at hl 2 rfl) ?_
          refine gf8_orders X h w_406 dK8_ordered_46 ?_
          refine lv_bipush (v := 40) hx hb dK8_ordered_49 (by decide) ?_
          refine lv_icmp_ne (tgt := 57) hx hb dK8_ordered_51 (by decide) (fun c_11 => ?_) (fun c_11 => ?_)
          · have hf := if_f hf c_11
            refine lv_iload_n hx hb dK8_ordered_57 rfl (lv_at hl 3 rfl) ?_
            refine lv_iconst (v := 1) hx hb dK8_ordered_58 (by decide) ?_
            refine lv_icmp_ne (tgt := 76) hx hb dK8_ordered_59 (by decide) (fun c_12 => ?_) (fun c_12 => ?_)
            · have hf := if_f hf c_12
              exact sK8_ordered_76 X a1 r_2 r_4 I L hf h (lv_sub hl [2, 3, 1, 0] rfl)
            · have hf := if_t hf c_12
              refine lv_aload_n hx hb dK8_ordered_62 rfl (lv_at hl 2 rfl) ?_
              refine lv_iload_n hx hb dK8_ordered_63 rfl (lv_at hl 1 rfl) ?_
              obtain ⟨r_14, h_13, hf⟩ := bn_some hf
              refine tf_callVl (As := [.int r_2]) (rest := []) X h 0 (by decide) rfl rfl (mK8_freeGoods hJ h_13) bwK8_freeGoods w_457 ⟨Nat.le_of_ble_eq_true rfl, Nat.le_of_ble_eq_true rfl⟩ hl.1 rfl (Nat.le_of_ble_eq_true rfl) ⟨Nat.zero_le _, Nat.zero_le _⟩ dK8_ordered_64 (fun H locs h => ?_)
              refine lv_iload_n hx hb dK8_ordered_67 rfl (lv_at hl 0 rfl) ?_
              refine lv_i2l hx hb dK8_ordered_68 rfl ?_
              refine W.lcmp hx hb dK8_ordered_69 ?_
              refine lv_if_ge (tgt := 76) hx hb dK8_ordered_70 (by decide) (fun c_15 => ?_) (fun c_15 => ?_)
              · have hf := if_t hf c_15
                exact sK8_ordered_76 X a1 r_2 r_4 I L hf h (lv_sub hl [2, 3, 1, 0] rfl)
              · have hf := if_f hf c_15
                refine lv_bipush (v := (-16)) hx hb dK8_ordered_73 (by decide) ?_
                cases hf
                exact tf_iret X h dK8_ordered_75
          · have hf := if_t hf c_11
            refine lv_bipush (v := (-15)) hx hb dK8_ordered_54 (by decide) ?_
            cases hf
            exact tf_iret X h dK8_ordered_56
    · have hf := if_f hf c_6
      refine lv_bipush (v := (-11)) hx hb dK8_ordered_24 (by decide) ?_
      cases hf
      exact tf_iret X h dK8_ordered_26
theorem mK8_ordered {l : Launch} {G : tf_G} (hJ : gJ (al G) 16) {r : Int32} {I9 : FI} {L9 : FL} {a1 : Int32} {I : FI} {L : FL} (hf : fK8_ordered a1 I L = some (r, I9, L9)) : tf_Met l G 16 yK8_ordered cK8_ordered 10 (some .int) 5 108 [.ref (al G 0), .int a1] (rE G I L) (rE G I9 L9) (some (.int r)) :=
  tf_enter (by decide +kernel) hJ (Nat.le_of_ble_eq_true rfl) (fun p e s m args below meth c ls X _ hl h => sK8_ordered_0 X a1 I L hf h hl)
theorem bwK8_ordered : tf_cv yK8_ordered cK8_ordered 10 (some .int) 1 := ⟨w_462, w_463, w_464, w_381, by decide +kernel, by decide +kernel, by decide +kernel⟩

set_option maxHeartbeats 4000000 in
set_option maxRecDepth 100000 in
theorem sK8_done_582 {p : Program} {l : Launch} {e : Env} {s : State} {m : MethodId} {args : Array Value} {below : List Frame} {meth : Method} {c : Code} {G : tf_G} (X : tf_X G 16 "TradeFloorModel" cK8_done 5 (some .int) p s m args meth c) {r : Int32} {I9 : FI} {L9 : FL} (k517 : Int32 → Int32 → Int32 → FI → FL → Option (Int32 × FI × FL)) (hk517 : ∀ (v1 : Int32) (v2 : Int32) (v3 : Int32) (I : FI) (L : FL), k517 v1 v2 v3 I L = some (r, I9, L9) → ∀ {H : Heap} {locs : List Loc} {ls : Array Slot}, tf_H G 16 (rE G I L) s.heap H locs → lv_has ls 5 [(0, .ref (al G 0)), (1, .int v1), (2, .int v2), (3, .int v3)] → W p l e (tf_rm 6 137) s m args below meth c H locs 0 0 (MQ below (tf_Q G 16 (rE G I9 L9) (some (.int r))) args s 0 0 (gA (al G) 16)) (F0 m 517 ls [])) (k535 : Int32 → Int32 → Int32 → Int32 → FI → FL → Option (Int32 × FI × FL)) (hk535 : ∀ (v1 : Int32) (v2 : Int32) (v3 : Int32) (v4 : Int32) (I : FI) (L : FL), k535 v1 v2 v3 v4 I L = some (r, I9, L9) → ∀ {H : Heap} {locs : List Loc} {ls : Array Slot}, tf_H G 16 (rE G I L) s.heap H locs → lv_has ls 5 [(0, .ref (al G 0)), (1, .int v1), (2, .int v2), (3, .int v3), (4, .int v4)] → W p l e (tf_rm 6 137) s m args below meth c H locs 0 0 (MQ below (tf_Q G 16 (rE G I9 L9) (some (.int r))) args s 0 0 (gA (al G) 16)) (F0 m 535 ls [])) (v1 : Int32) (v2 : Int32) (v3 : Int32) (v4 : Int32) (I : FI) (L : FL) (hf : fK8_done_582 k517 k535 v1 v2 v3 v4 I L = some (r, I9, L9)) {H : Heap} {locs : List Loc} {ls : Array Slot} (h : tf_H G 16 (rE G I L) s.heap H locs) (hl : lv_has ls 5 [(0, .ref (al G 0)), (1, .int v1), (2, .int v2), (3, .int v3), (4, .int v4)]) : W p l e (tf_rm 6 137) s m args below meth c H locs 0 0 (MQ below (tf_Q G 16 (rE G I9 L9) (some (.int r))) args s 0 0 (gA (al G) 16)) (F0 m 582 ls []) := by
  have hx := X.1
  have hb := X.2.1
  have hJ := X.2.2.2.2.2.2.2.2.2
  unfold fK8_done_582 at hf
  obtain ⟨x_1, ex_1, hf⟩ := nm_some hf
  refine lv_iinc (v := x_1) (lv' := [(4, .int x_1), (0, .ref (al G 0)), (1, .int v1), (2, .int v2), (3, .int v3)]) hx hb dK8_done_582 hl (k := 4) rfl (by rw [ex_1]; rfl) (by decide) rfl (fun ls hl => ?_)
  refine lv_goto (tgt := 535) hx hb dK8_done_585 (by decide) ?_
  exact hk535 v1 v2 v3 x_1 I L hf h (lv_sub hl [1, 2, 3, 4, 0] rfl)
set_option maxHeartbeats 4000000 in
set_option maxRecDepth 100000 in
theorem sK8_done_535 {p : Program} {l : Launch} {e : Env} {s : State} {m : MethodId} {args : Array Value} {below : List Frame} {meth : Method} {c : Code} {G : tf_G} (X : tf_X G 16 "TradeFloorModel" cK8_done 5 (some .int) p s m args meth c) {r : Int32} {I9 : FI} {L9 : FL} (k517 : Int32 → Int32 → Int32 → FI → FL → Option (Int32 × FI × FL)) (hk517 : ∀ (v1 : Int32) (v2 : Int32) (v3 : Int32) (I : FI) (L : FL), k517 v1 v2 v3 I L = some (r, I9, L9) → ∀ {H : Heap} {locs : List Loc} {ls : Array Slot}, tf_H G 16 (rE G I L) s.heap H locs → lv_has ls 5 [(0, .ref (al G 0)), (1, .int v1), (2, .int v2), (3, .int v3)] → W p l e (tf_rm 6 137) s m args below meth c H locs 0 0 (MQ below (tf_Q G 16 (rE G I9 L9) (some (.int r))) args s 0 0 (gA (al G) 16)) (F0 m 517 ls [])) (k535 : Int32 → Int32 → Int32 → Int32 → FI → FL → Option (Int32 × FI × FL)) (hk535 : ∀ (v1 : Int32) (v2 : Int32) (v3 : Int32) (v4 : Int32) (I : FI) (L : FL), k535 v1 v2 v3 v4 I L = some (r, I9, L9) → ∀ {H : Heap} {locs : List Loc} {ls : Array Slot}, tf_H G 16 (rE G I L) s.heap H locs → lv_has ls 5 [(0, .ref (al G 0)), (1, .int v1), (2, .int v2), (3, .int v3), (4, .int v4)] → W p l e (tf_rm 6 137) s m args below meth c H locs 0 0 (MQ below (tf_Q G 16 (rE G I9 L9) (some (.int r))) args s 0 0 (gA (al G) 16)) (F0 m 535 ls [])) (v1 : Int32) (v2 : Int32) (v3 : Int32) (v4 : Int32) (I : FI) (L : FL) (hf : bK8_done_535 k517 k535 v1 v2 v3 v4 I L = some (r, I9, L9)) {H : Heap} {locs : List Loc} {ls : Array Slot} (h : tf_H G 16 (rE G I L) s.heap H locs) (hl : lv_has ls 5 [(0, .ref (al G 0)), (1, .int v1), (2, .int v2), (3, .int v3), (4, .int v4)]) : W p l e (tf_rm 6 137) s m args below meth c H locs 0 0 (MQ below (tf_Q G 16 (rE G I9 L9) (some (.int r))) args s 0 0 (gA (al G) 16)) (F0 m 535 ls []) := by
  have hx := X.1
  have hb := X.2.1
  have hJ := X.2.2.2.2.2.2.2.2.2
  unfold bK8_done_535 at hf
  refine lv_iload hx hb dK8_done_535 (lv_at hl 4 rfl) ?_
  refine lv_aload_n hx hb dK8_done_537 rfl (lv_at hl 0 rfl) ?_
  refine gf8_orders X h w_406 dK8_done_538 ?_
  refine lv_icmp_ge (tgt := 588) hx hb dK8_done_541 (by decide) (fun c_1 => ?_) (fun c_1 => ?_)
  · have hf := if_t hf c_1
    obtain ⟨x_2, ex_2, hf⟩ := nm_some hf
    refine lv_iinc (v := x_2) (lv' := [(3, .int x_2), (0, .ref (al G 0)), (1, .int v1), (2, .int v2), (4, .int v4)]) hx hb dK8_done_588 hl (k := 3) rfl (by rw [ex_2]; rfl) (by decide) rfl (fun ls hl => ?_)
    refine lv_goto (tgt := 517) hx hb dK8_done_591 (by decide) ?_
    exact hk517 v1 v2 x_2 I L hf h (lv_sub hl [1, 2, 3, 0] rfl)
  · have hf := if_f hf c_1
    refine lv_aload_n hx hb dK8_done_544 rfl (lv_at hl 0 rfl) ?_
    refine gf8_state X h w_407 dK8_done_545 ?_
    refine lv_iload hx hb dK8_done_548 (lv_at hl 4 rfl) ?_
    obtain ⟨hi_3, hf⟩ := ck_some hf
    refine gar_10 X h (inb_in hi_3) dK8_done_550 ?_
    refine lv_if_ne (tgt := 582) hx hb dK8_done_551 (by decide) (fun c_4 => ?_) (fun c_4 => ?_)
    · have hf := if_f hf c_4
      exact sK8_done_582 X k517 hk517 k535 hk535 v1 v2 v3 v4 I L hf h hl
    · have hf := if_t hf c_4
      refine lv_aload_n hx hb dK8_done_554 rfl (lv_at hl 0 rfl) ?_
      refine gf8_ends X h w_428 dK8_done_555 ?_
      refine lv_iload hx hb dK8_done_558 (lv_at hl 4 rfl) ?_
      obtain ⟨hi_5, hf⟩ := ck_some hf
      refine gar_11 X h (inb_in hi_5) dK8_done_560 ?_
      refine lv_aload_n hx hb dK8_done_561 rfl (lv_at hl 0 rfl) ?_
      refine gf8_now X h w_461 dK8_done_562 ?_
      refine lv_icmp_eq (tgt := 571) hx hb dK8_done_565 (by decide) (fun c_6 => ?_) (fun c_6 => ?_)
      · have hf := if_t hf c_6
        refine lv_aload_n hx hb dK8_done_571 rfl (lv_at hl 0 rfl) ?_
        refine gf8_state X h w_407 dK8_done_572 ?_
        refine lv_iload hx hb dK8_done_575 (lv_at hl 4 rfl) ?_
        refine lv_iconst (v := 2) hx hb dK8_done_577 (by decide) ?_
        obtain ⟨hi_7, hf⟩ := ck_some hf
        obtain ⟨I_8, eI_8, hf⟩ := nm_some hf
        refine par_10 X h (inb_in hi_7) eI_8 dK8_done_578 (fun H locs h => ?_)
        obtain ⟨x_9, ex_9, hf⟩ := nm_some hf
        refine lv_iinc (v := x_9) (lv' := [(2, .int x_9), (0, .ref (al G 0)), (1, .int v1), (3, .int v3), (4, .int v4)]) hx hb dK8_done_579 hl (k := 2) rfl (by rw [ex_9]; rfl) (by decide) rfl (fun ls hl => ?_)
        exact sK8_done_582 X k517 hk517 k535 hk535 v1 x_9 v3 v4 I_8 L hf h (lv_sub hl [1, 2, 0, 3, 4] rfl)
      · have hf := if_f hf c_6
        refine lv_goto (tgt := 582) hx hb dK8_done_568 (by decide) ?_
        exact sK8_done_582 X k517 hk517 k535 hk535 v1 v2 v3 v4 I L hf h hl
theorem lK8_done_535 {p : Program} {l : Launch} {e : Env} {s : State} {m : MethodId} {args : Array Value} {below : List Frame} {meth : Method} {c : Code} {G : tf_G} (X : tf_X G 16 "TradeFloorModel" cK8_done 5 (some .int) p s m args meth c) {r : Int32} {I9 : FI} {L9 : FL} (k517 : Int32 → Int32 → Int32 → FI → FL → Option (Int32 × FI × FL)) (hk517 : ∀ (v1 : Int32) (v2 : Int32) (v3 : Int32) (I : FI) (L : FL), k517 v1 v2 v3 I L = some (r, I9, L9) → ∀ {H : Heap} {locs : List Loc} {ls : Array Slot}, tf_H G 16 (rE G I L) s.heap H locs → lv_has ls 5 [(0, .ref (al G 0)), (1, .int v1), (2, .int v2), (3, .int v3)] → W p l e (tf_rm 6 137) s m args below meth c H locs 0 0 (MQ below (tf_Q G 16 (rE G I9 L9) (some (.int r))) args s 0 0 (gA (al G) 16)) (F0 m 517 ls [])) : ∀ (n : Nat), ∀ (v1 : Int32) (v2 : Int32) (v3 : Int32) (v4 : Int32) (I : FI) (L : FL), fK8_done_535 k517 n v1 v2 v3 v4 I L = some (r, I9, L9) → ∀ {H : Heap} {locs : List Loc} {ls : Array Slot}, tf_H G 16 (rE G I L) s.heap H locs → lv_has ls 5 [(0, .ref (al G 0)), (1, .int v1), (2, .int v2), (3, .int v3), (4, .int v4)] → W p l e (tf_rm 6 137) s m args below meth c H locs 0 0 (MQ below (tf_Q G 16 (rE G I9 L9) (some (.int r))) args s 0 0 (gA (al G) 16)) (F0 m 535 ls []) := by
  intro n
  induction n with
  | zero =>
    intro v1 v2 v3 v4 I L hf
    exact absurd hf (by simp [fK8_done_535])
  | succ n ih =>
    intro v1 v2 v3 v4 I L hf H locs ls h hl
    exact sK8_done_535 X k517 hk517 (fK8_done_535 k517 n) ih v1 v2 v3 v4 I L hf h hl
set_option maxHeartbeats 4000000 in
set_option maxRecDepth 100000 in
theorem sK8_done_517 {p : Program} {l : Launch} {e : Env} {s : State} {m : MethodId} {args : Array Value} {below : List Frame} {meth : Method} {c : Code} {G : tf_G} (X : tf_X G 16 "TradeFloorModel" cK8_done 5 (some .int) p s m args meth c) {r : Int32} {I9 : FI} {L9 : FL} (k517 : Int32 → Int32 → Int32 → FI → FL → Option (Int32 × FI × FL)) (hk517 : ∀ (v1 : Int32) (v2 : Int32) (v3 : Int32) (I : FI) (L : FL), k517 v1 v2 v3 I L = some (r, I9, L9) → ∀ {H : Heap} {locs : List Loc} {ls : Array Slot}, tf_H G 16 (rE G I L) s.heap H locs → lv_has ls 5 [(0, .ref (al G 0)), (1, .int v1), (2, .int v2), (3, .int v3)] → W p l e (tf_rm 6 137) s m args below meth c H locs 0 0 (MQ below (tf_Q G 16 (rE G I9 L9) (some (.int r))) args s 0 0 (gA (al G) 16)) (F0 m 517 ls [])) (v1 : Int32) (v2 : Int32) (v3 : Int32) (I : FI) (L : FL) (hf : bK8_done_517 k517 v1 v2 v3 I L = some (r, I9, L9)) {H : Heap} {locs : List Loc} {ls : Array Slot} (h : tf_H G 16 (rE G I L) s.heap H locs) (hl : lv_has ls 5 [(0, .ref (al G 0)), (1, .int v1), (2, .int v2), (3, .int v3)]) : W p l e (tf_rm 6 137) s m args below meth c H locs 0 0 (MQ below (tf_Q G 16 (rE G I9 L9) (some (.int r))) args s 0 0 (gA (al G) 16)) (F0 m 517 ls []) := by
  have hx := X.1
  have hb := X.2.1
  have hJ := X.2.2.2.2.2.2.2.2.2
  unfold bK8_done_517 at hf
  refine lv_iload_n hx hb dK8_done_517 rfl (lv_at hl 3 rfl) ?_
  refine lv_iload_n hx hb dK8_done_518 rfl (lv_at hl 1 rfl) ?_
  refine lv_icmp_ge (tgt := 594) hx hb dK8_done_519 (by decide) (fun c_1 => ?_) (fun c_1 => ?_)
  · have hf := if_t hf c_1
    refine lv_iload_n hx hb dK8_done_594 rfl (lv_at hl 2 rfl) ?_
    cases hf
    exact tf_iret X h dK8_done_595
  · have hf := if_f hf c_1
    refine lv_aload_n hx hb dK8_done_522 rfl (lv_at hl 0 rfl) ?_
    refine lv_dup hx hb dK8_done_523 rfl ?_
    refine gf8_now X h w_461 dK8_done_524 ?_
    refine lv_iconst (v := 1) hx hb dK8_done_527 (by decide) ?_
    refine lv_iadd hx hb dK8_done_528 ?_
    obtain ⟨I_2, eI_2, hf⟩ := nm_some hf
    refine pf8_now X h eI_2 w_461 dK8_done_529 (fun H locs h => ?_)
    refine lv_iconst (v := 0) hx hb dK8_done_532 (by decide) ?_
    refine lv_istore (lv' := [(4, .int 0), (0, .ref (al G 0)), (1, .int v1), (2, .int v2), (3, .int v3)]) hx hb dK8_done_533 hl (by decide) rfl (fun ls hl => ?_)
    exact lK8_done_535 X k517 hk517 FU v1 v2 v3 0 I_2 L hf h (lv_sub hl [1, 2, 3, 4, 0] rfl)
theorem lK8_done_517 {p : Program} {l : Launch} {e : Env} {s : State} {m : MethodId} {args : Array Value} {below : List Frame} {meth : Method} {c : Code} {G : tf_G} (X : tf_X G 16 "TradeFloorModel" cK8_done 5 (some .int) p s m args meth c) {r : Int32} {I9 : FI} {L9 : FL} : ∀ (n : Nat), ∀ (v1 : Int32) (v2 : Int32) (v3 : Int32) (I : FI) (L : FL), fK8_done_517 n v1 v2 v3 I L = some (r, I9, L9) → ∀ {H : Heap} {locs : List Loc} {ls : Array Slot}, tf_H G 16 (rE G I L) s.heap H locs → lv_has ls 5 [(0, .ref (al G 0)), (1, .int v1), (2, .int v2), (3, .int v3)] → W p l e (tf_rm 6 137) s m args below meth c H locs 0 0 (MQ below (tf_Q G 16 (rE G I9 L9) (some (.int r))) args s 0 0 (gA (al G) 16)) (F0 m 517 ls []) := by
  intro n
  induction n with
  | zero =>
    intro v1 v2 v3 I L hf
    exact absurd hf (by simp [fK8_done_517])
  | succ n ih =>
    intro v1 v2 v3 I L hf H locs ls h hl
    exact sK8_done_517 X (fK8_done_517 n) ih v1 v2 v3 I L hf h hl
set_option maxHeartbeats 4000000 in
set_option maxRecDepth 100000 in
theorem sK8_done_373 {p : Program} {l : Launch} {e : Env} {s : State} {m : MethodId} {args : Array Value} {below : List Frame} {meth : Method} {c : Code} {G : tf_G} (X : tf_X G 16 "TradeFloorModel" cK8_done 5 (some .int) p s m args meth c) {r : Int32} {I9 : FI} {L9 : FL} (v1 : Int32) (v2 : Int32) (v3 : Int32) (v4 : Int32) (u0 : Int32) (u1 : Int32) (I : FI) (L : FL) (hf : fK8_done_373 v1 v2 v3 v4 u0 u1 I L = some (r, I9, L9)) {H : Heap} {locs : List Loc} {ls : Array Slot} (h : tf_H G 16 (rE G I L) s.heap H locs) (hl : lv_has ls 5 [(0, .ref (al G 0)), (1, .int v1), (2, .int v2), (3, .int v3), (4, .int v4)]) : W p l e (tf_rm 6 137) s m args below meth c H locs 0 0 (MQ below (tf_Q G 16 (rE G I9 L9) (some (.int r))) args s 0 0 (gA (al G) 16)) (F0 m 373 ls [.int u0, .int u1]) := by
  have hx := X.1
  have hb := X.2.1
  have hJ := X.2.2.2.2.2.2.2.2.2
  unfold fK8_done_373 at hf
  refine lv_icmp_ne (tgt := 389) hx hb dK8_done_373 (by decide) (fun c_1 => ?_) (fun c_1 => ?_)
  · have hf := if_f hf c_1
    refine lv_bipush (v := (-11)) hx hb dK8_done_389 (by decide) ?_
    cases hf
    exact tf_iret X h dK8_done_391
  · have hf := if_t hf c_1
    refine lv_iload_n hx hb dK8_done_376 rfl (lv_at hl 2 rfl) ?_
    refine lv_if_lt (tgt := 389) hx hb dK8_done_377 (by decide) (fun c_2 => ?_) (fun c_2 => ?_)
    · have hf := if_t hf c_2
      refine lv_bipush (v := (-11)) hx hb dK8_done_389 (by decide) ?_
      cases hf
      exact tf_iret X h dK8_done_391
    · have hf := if_f hf c_2
      refine lv_iload_n hx hb dK8_done_380 rfl (lv_at hl 3 rfl) ?_
      refine lv_if_lt (tgt := 389) hx hb dK8_done_381 (by decide) (fun c_3 => ?_) (fun c_3 => ?_)
      · have hf := if_t hf c_3
        refine lv_bipush (v := (-11)) hx hb dK8_done_389 (by decide) ?_
        cases hf
        exact tf_iret X h dK8_done_391
      · have hf := if_f hf c_3
        refine lv_iload hx hb dK8_done_384 (lv_at hl 4 rfl) ?_
        refine lv_if_ge (tgt := 392) hx hb dK8_done_386 (by decide) (fun c_4 => ?_) (fun c_4 => ?_)
        · have hf := if_t hf c_4
          refine lv_iload_n hx hb dK8_done_392 rfl (lv_at hl 3 rfl) ?_
          refine lv_aload_n hx hb dK8_done_393 rfl (lv_at hl 0 rfl) ?_
          refine gf8_orders X h w_406 dK8_done_394 ?_
          refine lv_icmp_lt (tgt := 403) hx hb dK8_done_397 (by decide) (fun c_5 => ?_) (fun c_5 => ?_)
          · have hf := if_t hf c_5
            refine lv_aload_n hx hb dK8_done_403 rfl (lv_at hl 0 rfl) ?_
            refine gf8_who X h w_408 dK8_done_404 ?_
            refine lv_iload_n hx hb dK8_done_407 rfl (lv_at hl 3 rfl) ?_
            obtain ⟨hi_6, hf⟩ := ck_some hf
            refine gar_6 X h (inb_in hi_6) dK8_done_408 ?_
            refine lv_iload_n hx hb dK8_done_409 rfl (lv_at hl 2 rfl) ?_
            refine lv_icmp_eq (tgt := 416) hx hb dK8_done_410 (by decide) (fun c_7 => ?_) (fun c_7 => ?_)
            · have hf := if_t hf c_7
              refine lv_aload_n hx hb dK8_done_416 rfl (lv_at hl 0 rfl) ?_
              refine gf8_state X h w_407 dK8_done_417 ?_
              refine lv_iload_n hx hb dK8_done_420 rfl (lv_at hl 3 rfl) ?_
              obtain ⟨hi_8, hf⟩ := ck_some hf
              refine gar_10 X h (inb_in hi_8) dK8_done_421 ?_
              refine lv_iconst (v := 2) hx hb dK8_done_422 (by decide) ?_
              refine lv_icmp_ne (tgt := 429) hx hb dK8_done_423 (by decide) (fun c_9 => ?_) (fun c_9 => ?_)
              · have hf := if_f hf c_9
                refine lv_iload_n hx hb dK8_done_429 rfl (lv_at hl 1 rfl) ?_
                refine lv_if_ne (tgt := 447) hx hb dK8_done_430 (by decide) (fun c_10 => ?_) (fun c_10 => ?_)
                · have hf := if_f hf c_10
                  refine lv_iload hx hb dK8_done_447 (lv_at hl 4 rfl) ?_
                  refine lv_aload_n hx hb dK8_done_449 rfl (lv_at hl 0 rfl) ?_
                  refine gf8_left X h w_410 dK8_done_450 ?_
                  refine lv_iload_n hx hb dK8_done_453 rfl (lv_at hl 3 rfl) ?_
                  obtain ⟨hi_11, hf⟩ := ck_some hf
                  refine gar_8 X h (inb_in hi_11) dK8_done_454 ?_
                  refine lv_icmp_lt (tgt := 461) hx hb dK8_done_455 (by decide) (fun c_12 => ?_) (fun c_12 => ?_)
                  · have hf := if_t hf c_12
                    refine lv_aload_n hx hb dK8_done_461 rfl (lv_at hl 0 rfl) ?_
                    refine gf8_left X h w_410 dK8_done_462 ?_
                    refine lv_iload_n hx hb dK8_done_465 rfl (lv_at hl 3 rfl) ?_
                    refine lv_dup2_11 hx hb dK8_done_466 rfl rfl ?_
                    obtain ⟨hi_13, hf⟩ := ck_some hf
                    refine gar_8 X h (inb_in hi_13) dK8_done_467 ?_
                    refine lv_iload hx hb dK8_done_468 (lv_at hl 4 rfl) ?_
                    refine lv_isub hx hb dK8_done_470 ?_
                    obtain ⟨hi_14, hf⟩ := ck_some hf
                    obtain ⟨I_15, eI_15, hf⟩ := nm_some hf
                    refine par_8 X h (inb_in hi_14) eI_15 dK8_done_471 (fun H locs h => ?_)
                    refine lv_aload_n hx hb dK8_done_472 rfl (lv_at hl 0 rfl) ?_
                    refine gf8_left X h w_410 dK8_done_473 ?_
                    refine lv_iload_n hx hb dK8_done_476 rfl (lv_at hl 3 rfl) ?_
                    obtain ⟨hi_16, hf⟩ := ck_some hf
                    refine gar_8 X h (inb_in hi_16) dK8_done_477 ?_
                    cases hf
                    exact tf_iret X h dK8_done_478
                  · have hf := if_f hf c_12
                    refine lv_bipush (v := (-11)) hx hb dK8_done_458 (by decide) ?_
                    cases hf
                    exact tf_iret X h dK8_done_460
                · have hf := if_t hf c_10
                  refine lv_aload_n hx hb dK8_done_433 rfl (lv_at hl 0 rfl) ?_
                  refine gf8_state X h w_407 dK8_done_434 ?_
                  refine lv_iload_n hx hb dK8_done_437 rfl (lv_at hl 3 rfl) ?_
                  refine lv_iconst (v := 2) hx hb dK8_done_438 (by decide) ?_
                  obtain ⟨hi_17, hf⟩ := ck_some hf
                  obtain ⟨I_18, eI_18, hf⟩ := nm_some hf
                  refine par_10 X h (inb_in hi_17) eI_18 dK8_done_439 (fun H locs h => ?_)
                  refine lv_aload_n hx hb dK8_done_440 rfl (lv_at hl 0 rfl) ?_
                  refine gf8_left X h w_410 dK8_done_441 ?_
                  refine lv_iload_n hx hb dK8_done_444 rfl (lv_at hl 3 rfl) ?_
                  obtain ⟨hi_19, hf⟩ := ck_some hf
                  refine gar_8 X h (inb_in hi_19) dK8_done_445 ?_
                  cases hf
                  exact tf_iret X h dK8_done_446
              · have hf := if_t hf c_9
                refine lv_bipush (v := (-14)) hx hb dK8_done_426 (by decide) ?_
                cases hf
                exact tf_iret X h dK8_done_428
            · have hf := if_f hf c_7
              refine lv_bipush (v := (-13)) hx hb dK8_done_413 (by decide) ?_
              cases hf
              exact tf_iret X h dK8_done_415
          · have hf := if_f hf c_5
            refine lv_bipush (v := (-12)) hx hb dK8_done_400 (by decide) ?_
            cases hf
            exact tf_iret X h dK8_done_402
        · have hf := if_f hf c_4
          refine lv_bipush (v := (-11)) hx hb dK8_done_389 (by decide) ?_
          cases hf
          exact tf_iret X h dK8_done_391
set_option maxHeartbeats 4000000 in
set_option maxRecDepth 100000 in
theorem sK8_done_358 {p : Program} {l : Launch} {e : Env} {s : State} {m : MethodId} {args : Array Value} {below : List Frame} {meth : Method} {c : Code} {G : tf_G} (X : tf_X G 16 "TradeFloorModel" cK8_done 5 (some .int) p s m args meth c) {r : Int32} {I9 : FI} {L9 : FL} (v1 : Int32) (v2 : Int32) (v3 : Int32) (u0 : Int32) (I : FI) (L : FL) (hf : fK8_done_358 v1 v2 v3 u0 I L = some (r, I9, L9)) {H : Heap} {locs : List Loc} {ls : Array Slot} (h : tf_H G 16 (rE G I L) s.heap H locs) (hl : lv_has ls 5 [(0, .ref (al G 0)), (1, .int v1), (2, .int v2), (3, .int v3)]) : W p l e (tf_rm 6 137) s m args below meth c H locs 0 0 (MQ below (tf_Q G 16 (rE G I9 L9) (some (.int r))) args s 0 0 (gA (al G) 16)) (F0 m 358 ls [.int u0]) := by
  have hx := X.1
  have hb := X.2.1
  have hJ := X.2.2.2.2.2.2.2.2.2
  unfold fK8_done_358 at hf
  refine lv_istore (lv' := [(4, .int u0), (0, .ref (al G 0)), (1, .int v1), (2, .int v2), (3, .int v3)]) hx hb dK8_done_358 hl (by decide) rfl (fun ls hl => ?_)
  refine lv_aload_n hx hb dK8_done_360 rfl (lv_at hl 1 rfl) ?_
  refine gf8_words X h w_384 dK8_done_361 ?_
  refine lv_iload_n hx hb dK8_done_364 rfl (lv_at hl 2 rfl) ?_
  refine lv_if_eq (tgt := 372) hx hb dK8_done_365 (by decide) (fun c_1 => ?_) (fun c_1 => ?_)
  · have hf := if_t hf c_1
    refine lv_iconst (v := 3) hx hb dK8_done_372 (by decide) ?_
    exact sK8_done_373 X v1 v2 v3 u0 3 (I 12 0) I L hf h (lv_sub hl [1, 2, 3, 4, 0] rfl)
  · have hf := if_f hf c_1
    refine lv_iconst (v := 4) hx hb dK8_done_368 (by decide) ?_
    refine lv_goto (tgt := 373) hx hb dK8_done_369 (by decide) ?_
    exact sK8_done_373 X v1 v2 v3 u0 4 (I 12 0) I L hf h (lv_sub hl [1, 2, 3, 4, 0] rfl)
set_option maxHeartbeats 4000000 in
set_option maxRecDepth 100000 in
theorem sK8_done_325 {p : Program} {l : Launch} {e : Env} {s : State} {m : MethodId} {args : Array Value} {below : List Frame} {meth : Method} {c : Code} {G : tf_G} (X : tf_X G 16 "TradeFloorModel" cK8_done 5 (some .int) p s m args meth c) {r : Int32} {I9 : FI} {L9 : FL} (I : FI) (L : FL) (hf : fK8_done_325 I L = some (r, I9, L9)) {H : Heap} {locs : List Loc} {ls : Array Slot} (h : tf_H G 16 (rE G I L) s.heap H locs) (hl : lv_has ls 5 [(0, .ref (al G 0))]) : W p l e (tf_rm 6 137) s m args below meth c H locs 0 0 (MQ below (tf_Q G 16 (rE G I9 L9) (some (.int r))) args s 0 0 (gA (al G) 16)) (F0 m 325 ls []) := by
  have hx := X.1
  have hb := X.2.1
  have hJ := X.2.2.2.2.2.2.2.2.2
  unfold fK8_done_325 at hf
  refine lv_aload_n hx hb dK8_done_325 rfl (lv_at hl 0 rfl) ?_
  refine lv_iconst (v := 0) hx hb dK8_done_326 (by decide) ?_
  refine tf_ldcS X 28 (by decide) rfl rfl dK8_done_327 ?_
  obtain ⟨r_2, h_1, hf⟩ := bn_some hf
  refine tf_callVi (As := [.int 0, .ref (sK G 28)]) (rest := []) X h 0 (by decide) rfl rfl (mK8_is hJ h_1) bwK8_is w_456 ⟨Nat.le_of_ble_eq_true rfl, Nat.le_of_ble_eq_true rfl⟩ hl.1 rfl (Nat.le_of_ble_eq_true rfl) ⟨Nat.zero_le _, Nat.zero_le _⟩ dK8_done_329 (fun H locs h => ?_)
  refine lv_istore_n (lv' := [(1, .int r_2), (0, .ref (al G 0))]) hx hb dK8_done_332 rfl hl (by decide) rfl (fun ls hl => ?_)
  refine lv_aload_n hx hb dK8_done_333 rfl (lv_at hl 1 rfl) ?_
  refine lv_iconst (v := 1) hx hb dK8_done_334 (by decide) ?_
  obtain ⟨r_4, h_3, hf⟩ := bn_some hf
  refine tf_callVi (As := [.int 1]) (rest := []) X h 0 (by decide) rfl rfl (mK8_whose hJ h_3) bwK8_whose w_455 ⟨Nat.le_of_ble_eq_true rfl, Nat.le_of_ble_eq_true rfl⟩ hl.1 rfl (Nat.le_of_ble_eq_true rfl) ⟨Nat.zero_le _, Nat.zero_le _⟩ dK8_done_335 (fun H locs h => ?_)
  refine lv_istore_n (lv' := [(2, .int r_4), (1, .int r_2), (0, .ref (al G 0))]) hx hb dK8_done_338 rfl hl (by decide) rfl (fun ls hl => ?_)
  refine lv_aload_n hx hb dK8_done_339 rfl (lv_at hl 2 rfl) ?_
  refine lv_iconst (v := 2) hx hb dK8_done_340 (by decide) ?_
  obtain ⟨r_6, h_5, hf⟩ := bn_some hf
  refine tf_callVi (As := [.int 2]) (rest := []) X h 0 (by decide) rfl rfl (mK8_any hJ h_5) bwK8_any w_465 ⟨Nat.le_of_ble_eq_true rfl, Nat.le_of_ble_eq_true rfl⟩ hl.1 rfl (Nat.le_of_ble_eq_true rfl) ⟨Nat.zero_le _, Nat.zero_le _⟩ dK8_done_341 (fun H locs h => ?_)
  refine lv_istore_n (lv' := [(3, .int r_6), (2, .int r_4), (1, .int r_2), (0, .ref (al G 0))]) hx hb dK8_done_344 rfl hl (by decide) rfl (fun ls hl => ?_)
  refine lv_iload_n hx hb dK8_done_345 rfl (lv_at hl 2 rfl) ?_
  refine lv_if_eq (tgt := 357) hx hb dK8_done_346 (by decide) (fun c_7 => ?_) (fun c_7 => ?_)
  · have hf := if_t hf c_7
    refine lv_iconst (v := 0) hx hb dK8_done_357 (by decide) ?_
    exact sK8_done_358 X r_2 r_4 r_6 0 I L hf h (lv_sub hl [3, 2, 1, 0] rfl)
  · have hf := if_f hf c_7
    refine lv_aload_n hx hb dK8_done_349 rfl (lv_at hl 3 rfl) ?_
    refine lv_iconst (v := 3) hx hb dK8_done_350 (by decide) ?_
    obtain ⟨r_9, h_8, hf⟩ := bn_some hf
    refine tf_callVi (As := [.int 3]) (rest := []) X h 0 (by decide) rfl rfl (mK8_any hJ h_8) bwK8_any w_465 ⟨Nat.le_of_ble_eq_true rfl, Nat.le_of_ble_eq_true rfl⟩ hl.1 rfl (Nat.le_of_ble_eq_true rfl) ⟨Nat.zero_le _, Nat.zero_le _⟩ dK8_done_351 (fun H locs h => ?_)
    refine lv_goto (tgt := 358) hx hb dK8_done_354 (by decide) ?_
    exact sK8_done_358 X r_2 r_4 r_6 r_9 I L hf h (lv_sub hl [3, 2, 1, 0] rfl)
set_option maxHeartbeats 4000000 in
set_option maxRecDepth 100000 in
theorem sK8_done_241 {p : Program} {l : Launch} {e : Env} {s : State} {m : MethodId} {args : Array Value} {below : List Frame} {meth : Method} {c : Code} {G : tf_G} (X : tf_X G 16 "TradeFloorModel" cK8_done 5 (some .int) p s m args meth c) {r : Int32} {I9 : FI} {L9 : FL} (v1 : Int32) (v2 : Int32) (v3 : Int32) (u0 : Int32) (I : FI) (L : FL) (hf : fK8_done_241 v1 v2 v3 u0 I L = some (r, I9, L9)) {H : Heap} {locs : List Loc} {ls : Array Slot} (h : tf_H G 16 (rE G I L) s.heap H locs) (hl : lv_has ls 5 [(0, .ref (al G 0)), (1, .int v1), (2, .int v2), (3, .int v3)]) : W p l e (tf_rm 6 137) s m args below meth c H locs 0 0 (MQ below (tf_Q G 16 (rE G I9 L9) (some (.int r))) args s 0 0 (gA (al G) 16)) (F0 m 241 ls [.int u0]) := by
  have hx := X.1
  have hb := X.2.1
  have hJ := X.2.2.2.2.2.2.2.2.2
  unfold fK8_done_241 at hf
  refine lv_istore (lv' := [(4, .int u0), (0, .ref (al G 0)), (1, .int v1), (2, .int v2), (3, .int v3)]) hx hb dK8_done_241 hl (by decide) rfl (fun ls hl => ?_)
  refine lv_aload_n hx hb dK8_done_243 rfl (lv_at hl 1 rfl) ?_
  refine gf8_words X h w_384 dK8_done_244 ?_
  refine lv_bipush (v := 6) hx hb dK8_done_247 (by decide) ?_
  refine lv_icmp_ne (tgt := 279) hx hb dK8_done_249 (by decide) (fun c_1 => ?_) (fun c_1 => ?_)
  · have hf := if_f hf c_1
    refine lv_bipush (v := (-11)) hx hb dK8_done_279 (by decide) ?_
    cases hf
    exact tf_iret X h dK8_done_281
  · have hf := if_t hf c_1
    refine lv_iload hx hb dK8_done_252 (lv_at hl 0 rfl) ?_
    refine lv_if_lt (tgt := 279) hx hb dK8_done_254 (by decide) (fun c_2 => ?_) (fun c_2 => ?_)
    · have hf := if_t hf c_2
      refine lv_bipush (v := (-11)) hx hb dK8_done_279 (by decide) ?_
      cases hf
      exact tf_iret X h dK8_done_281
    · have hf := if_f hf c_2
      refine lv_iload_n hx hb dK8_done_257 rfl (lv_at hl 2 rfl) ?_
      refine lv_if_lt (tgt := 279) hx hb dK8_done_258 (by decide) (fun c_3 => ?_) (fun c_3 => ?_)
      · have hf := if_t hf c_3
        refine lv_bipush (v := (-11)) hx hb dK8_done_279 (by decide) ?_
        cases hf
        exact tf_iret X h dK8_done_281
      · have hf := if_f hf c_3
        refine lv_iload_n hx hb dK8_done_261 rfl (lv_at hl 3 rfl) ?_
        refine lv_if_lt (tgt := 279) hx hb dK8_done_262 (by decide) (fun c_4 => ?_) (fun c_4 => ?_)
        · have hf := if_t hf c_4
          refine lv_bipush (v := (-11)) hx hb dK8_done_279 (by decide) ?_
          cases hf
          exact tf_iret X h dK8_done_281
        · have hf := if_f hf c_4
          refine lv_aload_n hx hb dK8_done_265 rfl (lv_at hl 1 rfl) ?_
          refine lv_iconst (v := 4) hx hb dK8_done_266 (by decide) ?_
          refine tf_ldcS X 21 (by decide) rfl rfl dK8_done_267 ?_
          obtain ⟨r_6, h_5, hf⟩ := bn_some hf
          refine tf_callVi (As := [.int 4, .ref (sK G 21)]) (rest := []) X h 0 (by decide) rfl rfl (mK8_is hJ h_5) bwK8_is w_456 ⟨Nat.le_of_ble_eq_true rfl, Nat.le_of_ble_eq_true rfl⟩ hl.1 rfl (Nat.le_of_ble_eq_true rfl) ⟨Nat.zero_le _, Nat.zero_le _⟩ dK8_done_269 (fun H locs h => ?_)
          refine lv_if_eq (tgt := 279) hx hb dK8_done_272 (by decide) (fun c_7 => ?_) (fun c_7 => ?_)
          · have hf := if_t hf c_7
            refine lv_bipush (v := (-11)) hx hb dK8_done_279 (by decide) ?_
            cases hf
            exact tf_iret X h dK8_done_281
          · have hf := if_f hf c_7
            refine lv_iload_n hx hb dK8_done_275 rfl (lv_at hl 4 rfl) ?_
            refine lv_if_ge (tgt := 282) hx hb dK8_done_276 (by decide) (fun c_8 => ?_) (fun c_8 => ?_)
            · have hf := if_t hf c_8
              refine lv_aload_n hx hb dK8_done_282 rfl (lv_at hl 1 rfl) ?_
              refine gf8_orders X h w_406 dK8_done_283 ?_
              refine lv_bipush (v := 40) hx hb dK8_done_286 (by decide) ?_
              refine lv_icmp_ne (tgt := 294) hx hb dK8_done_288 (by decide) (fun c_9 => ?_) (fun c_9 => ?_)
              · have hf := if_f hf c_9
                refine lv_aload_n hx hb dK8_done_294 rfl (lv_at hl 1 rfl) ?_
                refine lv_iload_n hx hb dK8_done_295 rfl (lv_at hl 2 rfl) ?_
                refine lv_iload hx hb dK8_done_296 (lv_at hl 0 rfl) ?_
                refine lv_iload_n hx hb dK8_done_298 rfl (lv_at hl 3 rfl) ?_
                refine lv_iload_n hx hb dK8_done_299 rfl (lv_at hl 4 rfl) ?_
                refine lv_iconst (v := 1) hx hb dK8_done_300 (by decide) ?_
                obtain ⟨r_11, I_12, L_13, h_10, hf⟩ := bq_some hf
                refine tf_callVi (As := [.int v1, .int u0, .int v2, .int v3, .int 1]) (rest := []) X h 0 (by decide) rfl rfl (mK8_fresh hJ h_10) bwK8_fresh w_458 ⟨Nat.le_of_ble_eq_true rfl, Nat.le_of_ble_eq_true rfl⟩ hl.1 rfl (Nat.le_of_ble_eq_true rfl) ⟨Nat.zero_le _, Nat.zero_le _⟩ dK8_done_301 (fun H locs h => ?_)
                cases hf
                exact tf_iret X h dK8_done_304
              · have hf := if_t hf c_9
                refine lv_bipush (v := (-15)) hx hb dK8_done_291 (by decide) ?_
                cases hf
                exact tf_iret X h dK8_done_293
            · have hf := if_f hf c_8
              refine lv_bipush (v := (-11)) hx hb dK8_done_279 (by decide) ?_
              cases hf
              exact tf_iret X h dK8_done_281
set_option maxHeartbeats 4000000 in
set_option maxRecDepth 100000 in
theorem sK8_done_172 {p : Program} {l : Launch} {e : Env} {s : State} {m : MethodId} {args : Array Value} {below : List Frame} {meth : Method} {c : Code} {G : tf_G} (X : tf_X G 16 "TradeFloorModel" cK8_done 5 (some .int) p s m args meth c) {r : Int32} {I9 : FI} {L9 : FL} (u0 : Int32) (I : FI) (L : FL) (hf : fK8_done_172 u0 I L = some (r, I9, L9)) {H : Heap} {locs : List Loc} {ls : Array Slot} (h : tf_H G 16 (rE G I L) s.heap H locs) (hl : lv_has ls 5 []) : W p l e (tf_rm 6 137) s m args below meth c H locs 0 0 (MQ below (tf_Q G 16 (rE G I9 L9) (some (.int r))) args s 0 0 (gA (al G) 16)) (F0 m 172 ls [.int u0, .ref (al G 0)]) := by
  have hx := X.1
  have hb := X.2.1
  have hJ := X.2.2.2.2.2.2.2.2.2
  unfold fK8_done_172 at hf
  obtain ⟨r_2, I_3, L_4, h_1, hf⟩ := bq_some hf
  refine tf_callVi (As := [.int u0]) (rest := []) X h 0 (by decide) rfl rfl (mK8_ordered hJ h_1) bwK8_ordered w_466 ⟨Nat.le_of_ble_eq_true rfl, Nat.le_of_ble_eq_true rfl⟩ hl.1 rfl (Nat.le_of_ble_eq_true rfl) ⟨Nat.zero_le _, Nat.zero_le _⟩ dK8_done_172 (fun H locs h => ?_)
  cases hf
  exact tf_iret X h dK8_done_175
set_option maxHeartbeats 4000000 in
set_option maxRecDepth 100000 in
theorem sK8_done_156 {p : Program} {l : Launch} {e : Env} {s : State} {m : MethodId} {args : Array Value} {below : List Frame} {meth : Method} {c : Code} {G : tf_G} (X : tf_X G 16 "TradeFloorModel" cK8_done 5 (some .int) p s m args meth c) {r : Int32} {I9 : FI} {L9 : FL} (I : FI) (L : FL) (hf : fK8_done_156 I L = some (r, I9, L9)) {H : Heap} {locs : List Loc} {ls : Array Slot} (h : tf_H G 16 (rE G I L) s.heap H locs) (hl : lv_has ls 5 [(0, .ref (al G 0))]) : W p l e (tf_rm 6 137) s m args below meth c H locs 0 0 (MQ below (tf_Q G 16 (rE G I9 L9) (some (.int r))) args s 0 0 (gA (al G) 16)) (F0 m 156 ls []) := by
  have hx := X.1
  have hb := X.2.1
  have hJ := X.2.2.2.2.2.2.2.2.2
  unfold fK8_done_156 at hf
  refine lv_aload_n hx hb dK8_done_156 rfl (lv_at hl 0 rfl) ?_
  refine lv_aload_n hx hb dK8_done_157 rfl (lv_at hl 0 rfl) ?_
  refine lv_iconst (v := 0) hx hb dK8_done_158 (by decide) ?_
  refine tf_ldcS X 18 (by decide) rfl rfl dK8_done_159 ?_
  obtain ⟨r_2, h_1, hf⟩ := bn_some hf
  refine tf_callVi (As := [.int 0, .ref (sK G 18)]) (rest := [.ref (al G 0)]) X h 0 (by decide) rfl rfl (mK8_is hJ h_1) bwK8_is w_456 ⟨Nat.le_of_ble_eq_true rfl, Nat.le_of_ble_eq_true rfl⟩ hl.1 rfl (Nat.le_of_ble_eq_true rfl) ⟨Nat.zero_le _, Nat.zero_le _⟩ dK8_done_161 (fun H locs h => ?_)
  refine lv_if_eq (tgt := 171) hx hb dK8_done_164 (by decide) (fun c_3 => ?_) (fun c_3 => ?_)
  · have hf := if_t hf c_3
    refine lv_iconst (v := 1) hx hb dK8_done_171 (by decide) ?_
    exact sK8_done_172 X 1 I L hf h (lv_sub hl [] rfl)
  · have hf := if_f hf c_3
    refine lv_iconst (v := 0) hx hb dK8_done_167 (by decide) ?_
    refine lv_goto (tgt := 172) hx hb dK8_done_168 (by decide) ?_
    exact sK8_done_172 X 0 I L hf h (lv_sub hl [] rfl)
set_option maxHeartbeats 4000000 in
set_option maxRecDepth 100000 in
theorem sK8_done_30 {p : Program} {l : Launch} {e : Env} {s : State} {m : MethodId} {args : Array Value} {below : List Frame} {meth : Method} {c : Code} {G : tf_G} (X : tf_X G 16 "TradeFloorModel" cK8_done 5 (some .int) p s m args meth c) {r : Int32} {I9 : FI} {L9 : FL} (I : FI) (L : FL) (hf : fK8_done_30 I L = some (r, I9, L9)) {H : Heap} {locs : List Loc} {ls : Array Slot} (h : tf_H G 16 (rE G I L) s.heap H locs) (hl : lv_has ls 5 [(0, .ref (al G 0))]) : W p l e (tf_rm 6 137) s m args below meth c H locs 0 0 (MQ below (tf_Q G 16 (rE G I9 L9) (some (.int r))) args s 0 0 (gA (al G) 16)) (F0 m 30 ls []) := by
  have hx := X.1
  have hb := X.2.1
  have hJ := X.2.2.2.2.2.2.2.2.2
  unfold fK8_done_30 at hf
  refine lv_aload_n hx hb dK8_done_30 rfl (lv_at hl 0 rfl) ?_
  refine lv_iconst (v := 1) hx hb dK8_done_31 (by decide) ?_
  obtain ⟨r_2, h_1, hf⟩ := bn_some hf
  refine tf_callVi (As := [.int 1]) (rest := []) X h 0 (by decide) rfl rfl (mK8_whose hJ h_1) bwK8_whose w_455 ⟨Nat.le_of_ble_eq_true rfl, Nat.le_of_ble_eq_true rfl⟩ hl.1 rfl (Nat.le_of_ble_eq_true rfl) ⟨Nat.zero_le _, Nat.zero_le _⟩ dK8_done_32 (fun H locs h => ?_)
  refine lv_istore_n (lv' := [(1, .int r_2), (0, .ref (al G 0))]) hx hb dK8_done_35 rfl hl (by decide) rfl (fun ls hl => ?_)
  refine lv_aload_n hx hb dK8_done_36 rfl (lv_at hl 1 rfl) ?_
  refine lv_iconst (v := 2) hx hb dK8_done_37 (by decide) ?_
  obtain ⟨r_4, h_3, hf⟩ := bn_some hf
  refine tf_callVi (As := [.int 2]) (rest := []) X h 0 (by decide) rfl rfl (mK8_any hJ h_3) bwK8_any w_465 ⟨Nat.le_of_ble_eq_true rfl, Nat.le_of_ble_eq_true rfl⟩ hl.1 rfl (Nat.le_of_ble_eq_true rfl) ⟨Nat.zero_le _, Nat.zero_le _⟩ dK8_done_38 (fun H locs h => ?_)
  refine lv_istore_n (lv' := [(2, .int r_4), (1, .int r_2), (0, .ref (al G 0))]) hx hb dK8_done_41 rfl hl (by decide) rfl (fun ls hl => ?_)
  refine lv_aload_n hx hb dK8_done_42 rfl (lv_at hl 2 rfl) ?_
  refine gf8_words X h w_384 dK8_done_43 ?_
  refine lv_iconst (v := 3) hx hb dK8_done_46 (by decide) ?_
  refine lv_icmp_ne (tgt := 58) hx hb dK8_done_47 (by decide) (fun c_5 => ?_) (fun c_5 => ?_)
  · have hf := if_f hf c_5
    refine lv_bipush (v := (-11)) hx hb dK8_done_58 (by decide) ?_
    cases hf
    exact tf_iret X h dK8_done_60
  · have hf := if_t hf c_5
    refine lv_iload_n hx hb dK8_done_50 rfl (lv_at hl 1 rfl) ?_
    refine lv_if_lt (tgt := 58) hx hb dK8_done_51 (by decide) (fun c_6 => ?_) (fun c_6 => ?_)
    · have hf := if_t hf c_6
      refine lv_bipush (v := (-11)) hx hb dK8_done_58 (by decide) ?_
      cases hf
      exact tf_iret X h dK8_done_60
    · have hf := if_f hf c_6
      refine lv_iload_n hx hb dK8_done_54 rfl (lv_at hl 0 rfl) ?_
      refine lv_if_ge (tgt := 61) hx hb dK8_done_55 (by decide) (fun c_7 => ?_) (fun c_7 => ?_)
      · have hf := if_t hf c_7
        refine lv_aload_n hx hb dK8_done_61 rfl (lv_at hl 2 rfl) ?_
        refine lv_iconst (v := 0) hx hb dK8_done_62 (by decide) ?_
        refine tf_ldcS X 15 (by decide) rfl rfl dK8_done_63 ?_
        obtain ⟨r_9, h_8, hf⟩ := bn_some hf
        refine tf_callVi (As := [.int 0, .ref (sK G 15)]) (rest := []) X h 0 (by decide) rfl rfl (mK8_is hJ h_8) bwK8_is w_456 ⟨Nat.le_of_ble_eq_true rfl, Nat.le_of_ble_eq_true rfl⟩ hl.1 rfl (Nat.le_of_ble_eq_true rfl) ⟨Nat.zero_le _, Nat.zero_le _⟩ dK8_done_65 (fun H locs h => ?_)
        refine lv_if_eq (tgt := 85) hx hb dK8_done_68 (by decide) (fun c_10 => ?_) (fun c_10 => ?_)
        · have hf := if_t hf c_10
          refine lv_aload_n hx hb dK8_done_85 rfl (lv_at hl 2 rfl) ?_
          refine lv_iconst (v := 0) hx hb dK8_done_86 (by decide) ?_
          refine tf_ldcS X 16 (by decide) rfl rfl dK8_done_87 ?_
          obtain ⟨r_12, h_11, hf⟩ := bn_some hf
          refine tf_callVi (As := [.int 0, .ref (sK G 16)]) (rest := []) X h 0 (by decide) rfl rfl (mK8_is hJ h_11) bwK8_is w_456 ⟨Nat.le_of_ble_eq_true rfl, Nat.le_of_ble_eq_true rfl⟩ hl.1 rfl (Nat.le_of_ble_eq_true rfl) ⟨Nat.zero_le _, Nat.zero_le _⟩ dK8_done_89 (fun H locs h => ?_)
          refine lv_if_eq (tgt := 109) hx hb dK8_done_92 (by decide) (fun c_13 => ?_) (fun c_13 => ?_)
          · have hf := if_t hf c_13
            refine lv_aload_n hx hb dK8_done_109 rfl (lv_at hl 2 rfl) ?_
            refine lv_iload_n hx hb dK8_done_110 rfl (lv_at hl 1 rfl) ?_
            obtain ⟨r_15, h_14, hf⟩ := bn_some hf
            refine tf_callVl (As := [.int r_2]) (rest := []) X h 0 (by decide) rfl rfl (mK8_freeCash hJ h_14) bwK8_freeCash w_441 ⟨Nat.le_of_ble_eq_true rfl, Nat.le_of_ble_eq_true rfl⟩ hl.1 rfl (Nat.le_of_ble_eq_true rfl) ⟨Nat.zero_le _, Nat.zero_le _⟩ dK8_done_111 (fun H locs h => ?_)
            refine lv_iload_n hx hb dK8_done_114 rfl (lv_at hl 0 rfl) ?_
            refine lv_i2l hx hb dK8_done_115 rfl ?_
            refine W.lcmp hx hb dK8_done_116 ?_
            refine lv_if_ge (tgt := 123) hx hb dK8_done_117 (by decide) (fun c_16 => ?_) (fun c_16 => ?_)
            · have hf := if_t hf c_16
              refine lv_aload_n hx hb dK8_done_123 rfl (lv_at hl 2 rfl) ?_
              refine gf8_cash X h w_415 dK8_done_124 ?_
              refine lv_iload_n hx hb dK8_done_127 rfl (lv_at hl 1 rfl) ?_
              refine lv_dup2_11 hx hb dK8_done_128 rfl rfl ?_
              obtain ⟨hi_17, hf⟩ := ck_some hf
              refine gar_4 X h (inb_in hi_17) dK8_done_129 ?_
              refine lv_iload_n hx hb dK8_done_130 rfl (lv_at hl 0 rfl) ?_
              refine lv_i2l hx hb dK8_done_131 rfl ?_
              refine lv_lsub hx hb dK8_done_132 ?_
              obtain ⟨hi_18, hf⟩ := ck_some hf
              obtain ⟨L_19, eL_19, hf⟩ := nm_some hf
              refine par_4 X h (inb_in hi_18) eL_19 dK8_done_133 (fun H locs h => ?_)
              refine lv_iload_n hx hb dK8_done_134 rfl (lv_at hl 0 rfl) ?_
              cases hf
              exact tf_iret X h dK8_done_135
            · have hf := if_f hf c_16
              refine lv_bipush (v := (-16)) hx hb dK8_done_120 (by decide) ?_
              cases hf
              exact tf_iret X h dK8_done_122
          · have hf := if_f hf c_13
            refine lv_aload_n hx hb dK8_done_95 rfl (lv_at hl 2 rfl) ?_
            refine gf8_goods X h w_423 dK8_done_96 ?_
            refine lv_iload_n hx hb dK8_done_99 rfl (lv_at hl 1 rfl) ?_
            refine lv_dup2_11 hx hb dK8_done_100 rfl rfl ?_
            obtain ⟨hi_20, hf⟩ := ck_some hf
            refine gar_5 X h (inb_in hi_20) dK8_done_101 ?_
            refine lv_iload_n hx hb dK8_done_102 rfl (lv_at hl 0 rfl) ?_
            refine lv_i2l hx hb dK8_done_103 rfl ?_
            refine lv_ladd hx hb dK8_done_104 ?_
            obtain ⟨hi_21, hf⟩ := ck_some hf
            obtain ⟨L_22, eL_22, hf⟩ := nm_some hf
            refine par_5 X h (inb_in hi_21) eL_22 dK8_done_105 (fun H locs h => ?_)
            refine lv_goto (tgt := 134) hx hb dK8_done_106 (by decide) ?_
            refine lv_iload_n hx hb dK8_done_134 rfl (lv_at hl 0 rfl) ?_
            cases hf
            exact tf_iret X h dK8_done_135
        · have hf := if_f hf c_10
          refine lv_aload_n hx hb dK8_done_71 rfl (lv_at hl 2 rfl) ?_
          refine gf8_cash X h w_415 dK8_done_72 ?_
          refine lv_iload_n hx hb dK8_done_75 rfl (lv_at hl 1 rfl) ?_
          refine lv_dup2_11 hx hb dK8_done_76 rfl rfl ?_
          obtain ⟨hi_23, hf⟩ := ck_some hf
          refine gar_4 X h (inb_in hi_23) dK8_done_77 ?_
          refine lv_iload_n hx hb dK8_done_78 rfl (lv_at hl 0 rfl) ?_
          refine lv_i2l hx hb dK8_done_79 rfl ?_
          refine lv_ladd hx hb dK8_done_80 ?_
          obtain ⟨hi_24, hf⟩ := ck_some hf
          obtain ⟨L_25, eL_25, hf⟩ := nm_some hf
          refine par_4 X h (inb_in hi_24) eL_25 dK8_done_81 (fun H locs h => ?_)
          refine lv_goto (tgt := 134) hx hb dK8_done_82 (by decide) ?_
          refine lv_iload_n hx hb dK8_done_134 rfl (lv_at hl 0 rfl) ?_
          cases hf
          exact tf_iret X h dK8_done_135
      · have hf := if_f hf c_7
        refine lv_bipush (v := (-11)) hx hb dK8_done_58 (by decide) ?_
        cases hf
        exact tf_iret X h dK8_done_60
set_option maxHeartbeats 4000000 in
set_option maxRecDepth 100000 in
theorem sK8_done_0 {p : Program} {l : Launch} {e : Env} {s : State} {m : MethodId} {args : Array Value} {below : List Frame} {meth : Method} {c : Code} {G : tf_G} (X : tf_X G 16 "TradeFloorModel" cK8_done 5 (some .int) p s m args meth c) {r : Int32} {I9 : FI} {L9 : FL} (I : FI) (L : FL) (hf : fK8_done I L = some (r, I9, L9)) {H : Heap} {locs : List Loc} {ls : Array Slot} (h : tf_H G 16 (rE G I L) s.heap H locs) (hl : lv_has ls 5 [(0, .ref (al G 0))]) : W p l e (tf_rm 6 137) s m args below meth c H locs 0 0 (MQ below (tf_Q G 16 (rE G I9 L9) (some (.int r))) args s 0 0 (gA (al G) 16)) (F0 m 0 ls []) := by
  have hx := X.1
  have hb := X.2.1
  have hJ := X.2.2.2.2.2.2.2.2.2
  unfold fK8_done at hf
  refine lv_aload_n hx hb dK8_done_0 rfl (lv_at hl 0 rfl) ?_
  refine lv_iconst (v := 0) hx hb dK8_done_1 (by decide) ?_
  refine tf_ldcS X 15 (by decide) rfl rfl dK8_done_2 ?_
  obtain ⟨r_2, h_1, hf⟩ := bn_some hf
  refine tf_callVi (As := [.int 0, .ref (sK G 15)]) (rest := []) X h 0 (by decide) rfl rfl (mK8_is hJ h_1) bwK8_is w_456 ⟨Nat.le_of_ble_eq_true rfl, Nat.le_of_ble_eq_true rfl⟩ hl.1 rfl (Nat.le_of_ble_eq_true rfl) ⟨Nat.zero_le _, Nat.zero_le _⟩ dK8_done_4 (fun H locs h => ?_)
  refine lv_if_ne (tgt := 30) hx hb dK8_done_7 (by decide) (fun c_3 => ?_) (fun c_3 => ?_)
  · have hf := if_f hf c_3
    exact sK8_done_30 X I L hf h hl
  · have hf := if_t hf c_3
    refine lv_aload_n hx hb dK8_done_10 rfl (lv_at hl 0 rfl) ?_
    refine lv_iconst (v := 0) hx hb dK8_done_11 (by decide) ?_
    refine tf_ldcS X 16 (by decide) rfl rfl dK8_done_12 ?_
    obtain ⟨r_5, h_4, hf⟩ := bn_some hf
    refine tf_callVi (As := [.int 0, .ref (sK G 16)]) (rest := []) X h 0 (by decide) rfl rfl (mK8_is hJ h_4) bwK8_is w_456 ⟨Nat.le_of_ble_eq_true rfl, Nat.le_of_ble_eq_true rfl⟩ hl.1 rfl (Nat.le_of_ble_eq_true rfl) ⟨Nat.zero_le _, Nat.zero_le _⟩ dK8_done_14 (fun H locs h => ?_)
    refine lv_if_ne (tgt := 30) hx hb dK8_done_17 (by decide) (fun c_6 => ?_) (fun c_6 => ?_)
    · have hf := if_f hf c_6
      exact sK8_done_30 X I L hf h hl
    · have hf := if_t hf c_6
      refine lv_aload_n hx hb dK8_done_20 rfl (lv_at hl 0 rfl) ?_
      refine lv_iconst (v := 0) hx hb dK8_done_21 (by decide) ?_
      refine tf_ldcS X 17 (by decide) rfl rfl dK8_done_22 ?_
      obtain ⟨r_8, h_7, hf⟩ := bn_some hf
      refine tf_callVi (As := [.int 0, .ref (sK G 17)]) (rest := []) X h 0 (by decide) rfl rfl (mK8_is hJ h_7) bwK8_is w_456 ⟨Nat.le_of_ble_eq_true rfl, Nat.le_of_ble_eq_true rfl⟩ hl.1 rfl (Nat.le_of_ble_eq_true rfl) ⟨Nat.zero_le _, Nat.zero_le _⟩ dK8_done_24 (fun H locs h => ?_)
      refine lv_if_eq (tgt := 136) hx hb dK8_done_27 (by decide) (fun c_9 => ?_) (fun c_9 => ?_)
      · have hf := if_t hf c_9
        refine lv_aload_n hx hb dK8_done_136 rfl (lv_at hl 0 rfl) ?_
        refine lv_iconst (v := 0) hx hb dK8_done_137 (by decide) ?_
        refine tf_ldcS X 18 (by decide) rfl rfl dK8_done_138 ?_
        obtain ⟨r_11, h_10, hf⟩ := bn_some hf
        refine tf_callVi (As := [.int 0, .ref (sK G 18)]) (rest := []) X h 0 (by decide) rfl rfl (mK8_is hJ h_10) bwK8_is w_456 ⟨Nat.le_of_ble_eq_true rfl, Nat.le_of_ble_eq_true rfl⟩ hl.1 rfl (Nat.le_of_ble_eq_true rfl) ⟨Nat.zero_le _, Nat.zero_le _⟩ dK8_done_140 (fun H locs h => ?_)
        refine lv_if_ne (tgt := 156) hx hb dK8_done_143 (by decide) (fun c_12 => ?_) (fun c_12 => ?_)
        · have hf := if_f hf c_12
          exact sK8_done_156 X I L hf h hl
        · have hf := if_t hf c_12
          refine lv_aload_n hx hb dK8_done_146 rfl (lv_at hl 0 rfl) ?_
          refine lv_iconst (v := 0) hx hb dK8_done_147 (by decide) ?_
          refine tf_ldcS X 19 (by decide) rfl rfl dK8_done_148 ?_
          obtain ⟨r_14, h_13, hf⟩ := bn_some hf
          refine tf_callVi (As := [.int 0, .ref (sK G 19)]) (rest := []) X h 0 (by decide) rfl rfl (mK8_is hJ h_13) bwK8_is w_456 ⟨Nat.le_of_ble_eq_true rfl, Nat.le_of_ble_eq_true rfl⟩ hl.1 rfl (Nat.le_of_ble_eq_true rfl) ⟨Nat.zero_le _, Nat.zero_le _⟩ dK8_done_150 (fun H locs h => ?_)
          refine lv_if_eq (tgt := 176) hx hb dK8_done_153 (by decide) (fun c_15 => ?_) (fun c_15 => ?_)
          · have hf := if_t hf c_15
            refine lv_aload_n hx hb dK8_done_176 rfl (lv_at hl 0 rfl) ?_
            refine lv_iconst (v := 0) hx hb dK8_done_177 (by decide) ?_
            refine tf_ldcS X 26 (by decide) rfl rfl dK8_done_178 ?_
            obtain ⟨r_17, h_16, hf⟩ := bn_some hf
            refine tf_callVi (As := [.int 0, .ref (sK G 26)]) (rest := []) X h 0 (by decide) rfl rfl (mK8_is hJ h_16) bwK8_is w_456 ⟨Nat.le_of_ble_eq_true rfl, Nat.le_of_ble_eq_true rfl⟩ hl.1 rfl (Nat.le_of_ble_eq_true rfl) ⟨Nat.zero_le _, Nat.zero_le _⟩ dK8_done_180 (fun H locs h => ?_)
            refine lv_if_eq (tgt := 305) hx hb dK8_done_183 (by decide) (fun c_18 => ?_) (fun c_18 => ?_)
            · have hf := if_t hf c_18
              refine lv_aload_n hx hb dK8_done_305 rfl (lv_at hl 0 rfl) ?_
              refine lv_iconst (v := 0) hx hb dK8_done_306 (by decide) ?_
              refine tf_ldcS X 27 (by decide) rfl rfl dK8_done_307 ?_
              obtain ⟨r_20, h_19, hf⟩ := bn_some hf
              refine tf_callVi (As := [.int 0, .ref (sK G 27)]) (rest := []) X h 0 (by decide) rfl rfl (mK8_is hJ h_19) bwK8_is w_456 ⟨Nat.le_of_ble_eq_true rfl, Nat.le_of_ble_eq_true rfl⟩ hl.1 rfl (Nat.le_of_ble_eq_true rfl) ⟨Nat.zero_le _, Nat.zero_le _⟩ dK8_done_309 (fun H locs h => ?_)
              refine lv_if_ne (tgt := 325) hx hb dK8_done_312 (by decide) (fun c_21 => ?_) (fun c_21 => ?_)
              · have hf := if_f hf c_21
                exact sK8_done_325 X I L hf h hl
              · have hf := if_t hf c_21
                refine lv_aload_n hx hb dK8_done_315 rfl (lv_at hl 0 rfl) ?_
                refine lv_iconst (v := 0) hx hb dK8_done_316 (by decide) ?_
                refine tf_ldcS X 28 (by decide) rfl rfl dK8_done_317 ?_
                obtain ⟨r_23, h_22, hf⟩ := bn_some hf
                refine tf_callVi (As := [.int 0, .ref (sK G 28)]) (rest := []) X h 0 (by decide) rfl rfl (mK8_is hJ h_22) bwK8_is w_456 ⟨Nat.le_of_ble_eq_true rfl, Nat.le_of_ble_eq_true rfl⟩ hl.1 rfl (Nat.le_of_ble_eq_true rfl) ⟨Nat.zero_le _, Nat.zero_le _⟩ dK8_done_319 (fun H locs h => ?_)
                refine lv_if_eq (tgt := 479) hx hb dK8_done_322 (by decide) (fun c_24 => ?_) (fun c_24 => ?_)
                · have hf := if_t hf c_24
                  refine lv_aload_n hx hb dK8_done_479 rfl (lv_at hl 0 rfl) ?_
                  refine lv_iconst (v := 0) hx hb dK8_done_480 (by decide) ?_
                  refine tf_ldcS X 29 (by decide) rfl rfl dK8_done_481 ?_
                  obtain ⟨r_26, h_25, hf⟩ := bn_some hf
                  refine tf_callVi (As := [.int 0, .ref (sK G 29)]) (rest := []) X h 0 (by decide) rfl rfl (mK8_is hJ h_25) bwK8_is w_456 ⟨Nat.le_of_ble_eq_true rfl, Nat.le_of_ble_eq_true rfl⟩ hl.1 rfl (Nat.le_of_ble_eq_true rfl) ⟨Nat.zero_le _, Nat.zero_le _⟩ dK8_done_483 (fun H locs h => ?_)
                  refine lv_if_eq (tgt := 596) hx hb dK8_done_486 (by decide) (fun c_27 => ?_) (fun c_27 => ?_)
                  · have hf := if_t hf c_27
                    refine lv_bipush (v := (-11)) hx hb dK8_done_596 (by decide) ?_
                    cases hf
                    exact tf_iret X h dK8_done_598
                  · have hf := if_f hf c_27
                    refine lv_aload_n hx hb dK8_done_489 rfl (lv_at hl 0 rfl) ?_
                    refine lv_iconst (v := 1) hx hb dK8_done_490 (by decide) ?_
                    refine lv_iconst (v := 1) hx hb dK8_done_491 (by decide) ?_
                    refine lv_bipush (v := 99) hx hb dK8_done_492 (by decide) ?_
                    obtain ⟨r_29, h_28, hf⟩ := bn_some hf
                    refine tf_callVi (As := [.int 1, .int 1, .int 99]) (rest := []) X h 0 (by decide) rfl rfl (mK8_number hJ h_28) bwK8_number w_399 ⟨Nat.le_of_ble_eq_true rfl, Nat.le_of_ble_eq_true rfl⟩ hl.1 rfl (Nat.le_of_ble_eq_true rfl) ⟨Nat.zero_le _, Nat.zero_le _⟩ dK8_done_494 (fun H locs h => ?_)
                    refine lv_istore_n (lv' := [(1, .int r_29), (0, .ref (al G 0))]) hx hb dK8_done_497 rfl hl (by decide) rfl (fun ls hl => ?_)
                    refine lv_iconst (v := 0) hx hb dK8_done_498 (by decide) ?_
                    refine lv_istore_n (lv' := [(2, .int 0), (1, .int r_29), (0, .ref (al G 0))]) hx hb dK8_done_499 rfl hl (by decide) rfl (fun ls hl => ?_)
                    refine lv_aload_n hx hb dK8_done_500 rfl (lv_at hl 2 rfl) ?_
                    refine gf8_words X h w_384 dK8_done_501 ?_
                    refine lv_iconst (v := 2) hx hb dK8_done_504 (by decide) ?_
                    refine lv_icmp_ne (tgt := 512) hx hb dK8_done_505 (by decide) (fun c_30 => ?_) (fun c_30 => ?_)
                    · have hf := if_f hf c_30
                      refine lv_bipush (v := (-11)) hx hb dK8_done_512 (by decide) ?_
                      cases hf
                      exact tf_iret X h dK8_done_514
                    · have hf := if_t hf c_30
                      refine lv_iload_n hx hb dK8_done_508 rfl (lv_at hl 1 rfl) ?_
                      refine lv_if_ge (tgt := 515) hx hb dK8_done_509 (by decide) (fun c_31 => ?_) (fun c_31 => ?_)
                      · have hf := if_t hf c_31
                        refine lv_iconst (v := 0) hx hb dK8_done_515 (by decide) ?_
                        refine lv_istore_n (lv' := [(3, .int 0), (2, .int 0), (1, .int r_29), (0, .ref (al G 0))]) hx hb dK8_done_516 rfl hl (by decide) rfl (fun ls hl => ?_)
                        exact lK8_done_517 X FU r_29 0 0 I L hf h (lv_sub hl [3, 2, 1, 0] rfl)
                      · have hf := if_f hf c_31
                        refine lv_bipush (v := (-11)) hx hb dK8_done_512 (by decide) ?_
                        cases hf
                        exact tf_iret X h dK8_done_514
                · have hf := if_f hf c_24
                  exact sK8_done_325 X I L hf h hl
            · have hf := if_f hf c_18
              refine lv_aload_n hx hb dK8_done_186 rfl (lv_at hl 0 rfl) ?_
              refine lv_iconst (v := 2) hx hb dK8_done_187 (by decide) ?_
              obtain ⟨r_33, h_32, hf⟩ := bn_some hf
              refine tf_callVi (As := [.int 2]) (rest := []) X h 0 (by decide) rfl rfl (mK8_whose hJ h_32) bwK8_whose w_455 ⟨Nat.le_of_ble_eq_true rfl, Nat.le_of_ble_eq_true rfl⟩ hl.1 rfl (Nat.le_of_ble_eq_true rfl) ⟨Nat.zero_le _, Nat.zero_le _⟩ dK8_done_188 (fun H locs h => ?_)
              refine lv_istore_n (lv' := [(1, .int r_33), (0, .ref (al G 0))]) hx hb dK8_done_191 rfl hl (by decide) rfl (fun ls hl => ?_)
              refine lv_aload_n hx hb dK8_done_192 rfl (lv_at hl 1 rfl) ?_
              refine lv_iconst (v := 3) hx hb dK8_done_193 (by decide) ?_
              refine lv_iconst (v := 1) hx hb dK8_done_194 (by decide) ?_
              refine lv_sipush (v := 9999) hx hb dK8_done_195 (by decide) ?_
              obtain ⟨r_35, h_34, hf⟩ := bn_some hf
              refine tf_callVi (As := [.int 3, .int 1, .int 9999]) (rest := []) X h 0 (by decide) rfl rfl (mK8_number hJ h_34) bwK8_number w_399 ⟨Nat.le_of_ble_eq_true rfl, Nat.le_of_ble_eq_true rfl⟩ hl.1 rfl (Nat.le_of_ble_eq_true rfl) ⟨Nat.zero_le _, Nat.zero_le _⟩ dK8_done_198 (fun H locs h => ?_)
              refine lv_istore_n (lv' := [(2, .int r_35), (1, .int r_33), (0, .ref (al G 0))]) hx hb dK8_done_201 rfl hl (by decide) rfl (fun ls hl => ?_)
              refine lv_aload_n hx hb dK8_done_202 rfl (lv_at hl 2 rfl) ?_
              refine lv_iconst (v := 5) hx hb dK8_done_203 (by decide) ?_
              refine lv_iconst (v := 1) hx hb dK8_done_204 (by decide) ?_
              refine lv_sipush (v := 9999) hx hb dK8_done_205 (by decide) ?_
              obtain ⟨r_37, h_36, hf⟩ := bn_some hf
              refine tf_callVi (As := [.int 5, .int 1, .int 9999]) (rest := []) X h 0 (by decide) rfl rfl (mK8_number hJ h_36) bwK8_number w_399 ⟨Nat.le_of_ble_eq_true rfl, Nat.le_of_ble_eq_true rfl⟩ hl.1 rfl (Nat.le_of_ble_eq_true rfl) ⟨Nat.zero_le _, Nat.zero_le _⟩ dK8_done_208 (fun H locs h => ?_)
              refine lv_istore_n (lv' := [(3, .int r_37), (2, .int r_35), (1, .int r_33), (0, .ref (al G 0))]) hx hb dK8_done_211 rfl hl (by decide) rfl (fun ls hl => ?_)
              refine lv_aload_n hx hb dK8_done_212 rfl (lv_at hl 3 rfl) ?_
              refine lv_iconst (v := 1) hx hb dK8_done_213 (by decide) ?_
              refine tf_ldcS X 18 (by decide) rfl rfl dK8_done_214 ?_
              obtain ⟨r_39, h_38, hf⟩ := bn_some hf
              refine tf_callVi (As := [.int 1, .ref (sK G 18)]) (rest := []) X h 0 (by decide) rfl rfl (mK8_is hJ h_38) bwK8_is w_456 ⟨Nat.le_of_ble_eq_true rfl, Nat.le_of_ble_eq_true rfl⟩ hl.1 rfl (Nat.le_of_ble_eq_true rfl) ⟨Nat.zero_le _, Nat.zero_le _⟩ dK8_done_216 (fun H locs h => ?_)
              refine lv_if_eq (tgt := 226) hx hb dK8_done_219 (by decide) (fun c_40 => ?_) (fun c_40 => ?_)
              · have hf := if_t hf c_40
                refine lv_aload_n hx hb dK8_done_226 rfl (lv_at hl 3 rfl) ?_
                refine lv_iconst (v := 1) hx hb dK8_done_227 (by decide) ?_
                refine tf_ldcS X 19 (by decide) rfl rfl dK8_done_228 ?_
                obtain ⟨r_42, h_41, hf⟩ := bn_some hf
                refine tf_callVi (As := [.int 1, .ref (sK G 19)]) (rest := []) X h 0 (by decide) rfl rfl (mK8_is hJ h_41) bwK8_is w_456 ⟨Nat.le_of_ble_eq_true rfl, Nat.le_of_ble_eq_true rfl⟩ hl.1 rfl (Nat.le_of_ble_eq_true rfl) ⟨Nat.zero_le _, Nat.zero_le _⟩ dK8_done_230 (fun H locs h => ?_)
                refine lv_if_eq (tgt := 240) hx hb dK8_done_233 (by decide) (fun c_43 => ?_) (fun c_43 => ?_)
                · have hf := if_t hf c_43
                  refine lv_iconst (v := (-1)) hx hb dK8_done_240 (by decide) ?_
                  exact sK8_done_241 X r_33 r_35 r_37 (-1) I L hf h (lv_sub hl [3, 2, 1, 0] rfl)
                · have hf := if_f hf c_43
                  refine lv_iconst (v := 1) hx hb dK8_done_236 (by decide) ?_
                  refine lv_goto (tgt := 241) hx hb dK8_done_237 (by decide) ?_
                  exact sK8_done_241 X r_33 r_35 r_37 1 I L hf h (lv_sub hl [3, 2, 1, 0] rfl)
              · have hf := if_f hf c_40
                refine lv_iconst (v := 0) hx hb dK8_done_222 (by decide) ?_
                refine lv_goto (tgt := 241) hx hb dK8_done_223 (by decide) ?_
                exact sK8_done_241 X r_33 r_35 r_37 0 I L hf h (lv_sub hl [3, 2, 1, 0] rfl)
          · have hf := if_f hf c_15
            exact sK8_done_156 X I L hf h hl
      · have hf := if_f hf c_9
        exact sK8_done_30 X I L hf h hl
theorem mK8_done {l : Launch} {G : tf_G} (hJ : gJ (al G) 16) {r : Int32} {I9 : FI} {L9 : FL} {I : FI} {L : FL} (hf : fK8_done I L = some (r, I9, L9)) : tf_Met l G 16 yK8_done cK8_done 5 (some .int) 6 137 [.ref (al G 0)] (rE G I L) (rE G I9 L9) (some (.int r)) :=
  tf_enter (by decide +kernel) hJ (Nat.le_of_ble_eq_true rfl) (fun p e s m args below meth c ls X _ hl h => sK8_done_0 X I L hf h hl)
theorem bwK8_done : tf_cv yK8_done cK8_done 5 (some .int) 0 := ⟨w_467, w_468, w_469, w_381, by decide +kernel, by decide +kernel, by decide +kernel⟩

set_option maxHeartbeats 4000000 in
set_option maxRecDepth 100000 in
theorem sK8_waking_67 {p : Program} {l : Launch} {e : Env} {s : State} {m : MethodId} {args : Array Value} {below : List Frame} {meth : Method} {c : Code} {G : tf_G} (X : tf_X G 16 "TradeFloorModel" cK8_waking 2 (some .int) p s m args meth c) {r : Int32} (k2 : Int32 → FI → FL → Option (Int32)) (hk2 : ∀ (v1 : Int32) (I : FI) (L : FL), k2 v1 I L = some r → ∀ {H : Heap} {locs : List Loc} {ls : Array Slot}, tf_H G 16 (rE G I L) s.heap H locs → lv_has ls 2 [(0, .ref (al G 0)), (1, .int v1)] → W p l e (tf_rm 0 0) s m args below meth c H locs 0 0 (MQ below (tf_Q G 16 (rE G I L) (some (.int r))) args s 0 0 (gA (al G) 16)) (F0 m 2 ls [])) (v1 : Int32) (I : FI) (L : FL) (hf : fK8_waking_67 k2 v1 I L = some r) {H : Heap} {locs : List Loc} {ls : Array Slot} (h : tf_H G 16 (rE G I L) s.heap H locs) (hl : lv_has ls 2 [(0, .ref (al G 0)), (1, .int v1)]) : W p l e (tf_rm 0 0) s m args below meth c H locs 0 0 (MQ below (tf_Q G 16 (rE G I L) (some (.int r))) args s 0 0 (gA (al G) 16)) (F0 m 67 ls []) := by
  have hx := X.1
  have hb := X.2.1
  have hJ := X.2.2.2.2.2.2.2.2.2
  unfold fK8_waking_67 at hf
  obtain ⟨x_1, ex_1, hf⟩ := nm_some hf
  refine lv_iinc (v := x_1) (lv' := [(1, .int x_1), (0, .ref (al G 0))]) hx hb dK8_waking_67 hl (k := 1) rfl (by rw [ex_1]; rfl) (by decide) rfl (fun ls hl => ?_)
  refine lv_goto (tgt := 2) hx hb dK8_waking_70 (by decide) ?_
  exact hk2 x_1 I L hf h (lv_sub hl [1, 0] rfl)
set_option maxHeartbeats 4000000 in
set_option maxRecDepth 100000 in
theorem sK8_waking_2 {p : Program} {l : Launch} {e : Env} {s : State} {m : MethodId} {args : Array Value} {below : List Frame} {meth : Method} {c : Code} {G : tf_G} (X : tf_X G 16 "TradeFloorModel" cK8_waking 2 (some .int) p s m args meth c) {r : Int32} (k2 : Int32 → FI → FL → Option (Int32)) (hk2 : ∀ (v1 : Int32) (I : FI) (L : FL), k2 v1 I L = some r → ∀ {H : Heap} {locs : List Loc} {ls : Array Slot}, tf_H G 16 (rE G I L) s.heap H locs → lv_has ls 2 [(0, .ref (al G 0)), (1, .int v1)] → W p l e (tf_rm 0 0) s m args below meth c H locs 0 0 (MQ below (tf_Q G 16 (rE G I L) (some (.int r))) args s 0 0 (gA (al G) 16)) (F0 m 2 ls [])) (v1 : Int32) (I : FI) (L : FL) (hf : bK8_waking_2 k2 v1 I L = some r) {H : Heap} {locs : List Loc} {ls : Array Slot} (h : tf_H G 16 (rE G I L) s.heap H locs) (hl : lv_has ls 2 [(0, .ref (al G 0)), (1, .int v1)]) : W p l e (tf_rm 0 0) s m args below meth c H locs 0 0 (MQ below (tf_Q G 16 (rE G I L) (some (.int r))) args s 0 0 (gA (al G) 16)) (F0 m 2 ls []) := by
  have hx := X.1
  have hb := X.2.1
  have hJ := X.2.2.2.2.2.2.2.2.2
  unfold bK8_waking_2 at hf
  refine lv_iload_n hx hb dK8_waking_2 rfl (lv_at hl 1 rfl) ?_
  refine lv_aload_n hx hb dK8_waking_3 rfl (lv_at hl 0 rfl) ?_
  refine gf8_orders X h w_406 dK8_waking_4 ?_
  refine lv_icmp_ge (tgt := 73) hx hb dK8_waking_7 (by decide) (fun c_1 => ?_) (fun c_1 => ?_)
  · have hf := if_t hf c_1
    refine lv_iconst (v := (-1)) hx hb dK8_waking_73 (by decide) ?_
    cases hf
    exact tf_iret X h dK8_waking_74
  · have hf := if_f hf c_1
    refine lv_aload_n hx hb dK8_waking_10 rfl (lv_at hl 0 rfl) ?_
    refine gf8_state X h w_407 dK8_waking_11 ?_
    refine lv_iload_n hx hb dK8_waking_14 rfl (lv_at hl 1 rfl) ?_
    obtain ⟨hi_2, hf⟩ := ck_some hf
    refine gar_10 X h (inb_in hi_2) dK8_waking_15 ?_
    refine lv_iconst (v := 1) hx hb dK8_waking_16 (by decide) ?_
    refine lv_icmp_ne (tgt := 67) hx hb dK8_waking_17 (by decide) (fun c_3 => ?_) (fun c_3 => ?_)
    · have hf := if_f hf c_3
      exact sK8_waking_67 X k2 hk2 v1 I L hf h hl
    · have hf := if_t hf c_3
      refine lv_aload_n hx hb dK8_waking_20 rfl (lv_at hl 0 rfl) ?_
      refine gf8_last X h w_444 dK8_waking_21 ?_
      refine lv_if_eq (tgt := 67) hx hb dK8_waking_24 (by decide) (fun c_4 => ?_) (fun c_4 => ?_)
      · have hf := if_t hf c_4
        exact sK8_waking_67 X k2 hk2 v1 I L hf h hl
      · have hf := if_f hf c_4
        refine lv_aload_n hx hb dK8_waking_27 rfl (lv_at hl 0 rfl) ?_
        refine gf8_side X h w_409 dK8_waking_28 ?_
        refine lv_iload_n hx hb dK8_waking_31 rfl (lv_at hl 1 rfl) ?_
        obtain ⟨hi_5, hf⟩ := ck_some hf
        refine gar_7 X h (inb_in hi_5) dK8_waking_32 ?_
        refine lv_if_ne (tgt := 52) hx hb dK8_waking_33 (by decide) (fun c_6 => ?_) (fun c_6 => ?_)
        · have hf := if_f hf c_6
          refine lv_aload_n hx hb dK8_waking_52 rfl (lv_at hl 0 rfl) ?_
          refine gf8_last X h w_444 dK8_waking_53 ?_
          refine lv_aload_n hx hb dK8_waking_56 rfl (lv_at hl 0 rfl) ?_
          refine gf8_price X h w_411 dK8_waking_57 ?_
          refine lv_iload_n hx hb dK8_waking_60 rfl (lv_at hl 1 rfl) ?_
          obtain ⟨hi_7, hf⟩ := ck_some hf
          refine gar_9 X h (inb_in hi_7) dK8_waking_61 ?_
          refine lv_icmp_gt (tgt := 67) hx hb dK8_waking_62 (by decide) (fun c_8 => ?_) (fun c_8 => ?_)
          · have hf := if_t hf c_8
            exact sK8_waking_67 X k2 hk2 v1 I L hf h hl
          · have hf := if_f hf c_8
            refine lv_iload_n hx hb dK8_waking_65 rfl (lv_at hl 1 rfl) ?_
            cases hf
            exact tf_iret X h dK8_waking_66
        · have hf := if_t hf c_6
          refine lv_aload_n hx hb dK8_waking_36 rfl (lv_at hl 0 rfl) ?_
          refine gf8_last X h w_444 dK8_waking_37 ?_
          refine lv_aload_n hx hb dK8_waking_40 rfl (lv_at hl 0 rfl) ?_
          refine gf8_price X h w_411 dK8_waking_41 ?_
          refine lv_iload_n hx hb dK8_waking_44 rfl (lv_at hl 1 rfl) ?_
          obtain ⟨hi_9, hf⟩ := ck_some hf
          refine gar_9 X h (inb_in hi_9) dK8_waking_45 ?_
          refine lv_icmp_lt (tgt := 67) hx hb dK8_waking_46 (by decide) (fun c_10 => ?_) (fun c_10 => ?_)
          · have hf := if_t hf c_10
            exact sK8_waking_67 X k2 hk2 v1 I L hf h hl
          · have hf := if_f hf c_10
            refine lv_goto (tgt := 65) hx hb dK8_waking_49 (by decide) ?_
            refine lv_iload_n hx hb dK8_waking_65 rfl (lv_at hl 1 rfl) ?_
            cases hf
            exact tf_iret X h dK8_waking_66
theorem lK8_waking_2 {p : Program} {l : Launch} {e : Env} {s : State} {m : MethodId} {args : Array Value} {below : List Frame} {meth : Method} {c : Code} {G : tf_G} (X : tf_X G 16 "TradeFloorModel" cK8_waking 2 (some .int) p s m args meth c) {r : Int32} : ∀ (n : Nat), ∀ (v1 : Int32) (I : FI) (L : FL), fK8_waking_2 n v1 I L = some r → ∀ {H : Heap} {locs : List Loc} {ls : Array Slot}, tf_H G 16 (rE G I L) s.heap H locs → lv_has ls 2 [(0, .ref (al G 0)), (1, .int v1)] → W p l e (tf_rm 0 0) s m args below meth c H locs 0 0 (MQ below (tf_Q G 16 (rE G I L) (some (.int r))) args s 0 0 (gA (al G) 16)) (F0 m 2 ls []) := by
  intro n
  induction n with
  | zero =>
    intro v1 I L hf
    exact absurd hf (by simp [fK8_waking_2])
  | succ n ih =>
    intro v1 I L hf H locs ls h hl
    exact sK8_waking_2 X (fK8_waking_2 n) ih v1 I L hf h hl
set_option maxHeartbeats 4000000 in
set_option maxRecDepth 100000 in
theorem sK8_waking_0 {p : Program} {l : Launch} {e : Env} {s : State} {m : MethodId} {args : Array Value} {below : List Frame} {meth : Method} {c : Code} {G : tf_G} (X : tf_X G 16 "TradeFloorModel" cK8_waking 2 (some .int) p s m args meth c) {r : Int32} (I : FI) (L : FL) (hf : fK8_waking I L = some r) {H : Heap} {locs : List Loc} {ls : Array Slot} (h : tf_H G 16 (rE G I L) s.heap H locs) (hl : lv_has ls 2 [(0, .ref (al G 0))]) : W p l e (tf_rm 0 0) s m args below meth c H locs 0 0 (MQ below (tf_Q G 16 (rE G I L) (some (.int r))) args s 0 0 (gA (al G) 16)) (F0 m 0 ls []) := by
  have hx := X.1
  have hb := X.2.1
  have hJ := X.2.2.2.2.2.2.2.2.2
  unfold fK8_waking at hf
  refine lv_iconst (v := 0) hx hb dK8_waking_0 (by decide) ?_
  refine lv_istore_n (lv' := [(1, .int 0), (0, .ref (al G 0))]) hx hb dK8_waking_1 rfl hl (by decide) rfl (fun ls hl => ?_)
  exact lK8_waking_2 X FU 0 I L hf h (lv_sub hl [1, 0] rfl)
theorem mK8_waking {l : Launch} {G : tf_G} (hJ : gJ (al G) 16) {r : Int32} {I : FI} {L : FL} (hf : fK8_waking I L = some r) : tf_Met l G 16 yK8_waking cK8_waking 2 (some .int) 0 0 [.ref (al G 0)] (rE G I L) (rE G I L) (some (.int r)) :=
  tf_enter (by decide +kernel) hJ (Nat.le_of_ble_eq_true rfl) (fun p e s m args below meth c ls X _ hl h => sK8_waking_0 X I L hf h hl)
theorem bwK8_waking : tf_cv yK8_waking cK8_waking 2 (some .int) 0 := ⟨w_470, w_471, w_472, w_381, by decide +kernel, by decide +kernel, by decide +kernel⟩

set_option maxHeartbeats 4000000 in
set_option maxRecDepth 100000 in
theorem sK8_line_81 {p : Program} {l : Launch} {e : Env} {s : State} {m : MethodId} {args : Array Value} {below : List Frame} {meth : Method} {c : Code} {G : tf_G} (X : tf_X G 16 "TradeFloorModel" cK8_line 4 (some .int) p s m args meth c) {r : Int32} {I9 : FI} {L9 : FL} (k43 : Int32 → Int32 → FI → FL → Option (Int32 × FI × FL)) (hk43 : ∀ (v1 : Int32) (v2 : Int32) (I : FI) (L : FL), k43 v1 v2 I L = some (r, I9, L9) → ∀ {H : Heap} {locs : List Loc} {ls : Array Slot}, tf_H G 16 (rE G I L) s.heap H locs → lv_has ls 4 [(0, .ref (al G 0)), (1, .int v1), (2, .int v2)] → W p l e (tf_rm 7 161) s m args below meth c H locs 0 0 (MQ below (tf_Q G 16 (rE G I9 L9) (some (.int r))) args s 0 0 (gA (al G) 16)) (F0 m 43 ls [])) (v1 : Int32) (v2 : Int32) (v3 : Int32) (I : FI) (L : FL) (hf : fK8_line_81 k43 v1 v2 v3 I L = some (r, I9, L9)) {H : Heap} {locs : List Loc} {ls : Array Slot} (h : tf_H G 16 (rE G I L) s.heap H locs) (hl : lv_has ls 4 [(0, .ref (al G 0)), (1, .int v1), (2, .int v2), (3, .int v3)]) : W p l e (tf_rm 7 161) s m args below meth c H locs 0 0 (MQ below (tf_Q G 16 (rE G I9 L9) (some (.int r))) args s 0 0 (gA (al G) 16)) (F0 m 81 ls []) := by
  have hx := X.1
  have hb := X.2.1
  have hJ := X.2.2.2.2.2.2.2.2.2
  unfold fK8_line_81 at hf
  refine lv_aload_n hx hb dK8_line_81 rfl (lv_at hl 0 rfl) ?_
  refine gf8_state X h w_407 dK8_line_82 ?_
  refine lv_iload_n hx hb dK8_line_85 rfl (lv_at hl 2 rfl) ?_
  refine lv_iconst (v := 2) hx hb dK8_line_86 (by decide) ?_
  obtain ⟨hi_1, hf⟩ := ck_some hf
  obtain ⟨I_2, eI_2, hf⟩ := nm_some hf
  refine par_10 X h (inb_in hi_1) eI_2 dK8_line_87 (fun H locs h => ?_)
  refine lv_aload_n hx hb dK8_line_88 rfl (lv_at hl 0 rfl) ?_
  refine lv_iload_n hx hb dK8_line_89 rfl (lv_at hl 2 rfl) ?_
  refine lv_iload_n hx hb dK8_line_90 rfl (lv_at hl 3 rfl) ?_
  refine lv_iconst (v := 1) hx hb dK8_line_91 (by decide) ?_
  obtain ⟨I_4, L_5, h_3, hf⟩ := bv_some hf
  refine tf_callVv (As := [.int v2, .int v3, .int 1]) (rest := []) X h 0 (by decide) rfl rfl (mK8_meets hJ h_3) bwK8_meets w_459 ⟨Nat.le_of_ble_eq_true rfl, Nat.le_of_ble_eq_true rfl⟩ hl.1 rfl (Nat.le_of_ble_eq_true rfl) ⟨Nat.zero_le _, Nat.zero_le _⟩ dK8_line_92 (fun H locs h => ?_)
  refine lv_aload_n hx hb dK8_line_95 rfl (lv_at hl 0 rfl) ?_
  obtain ⟨r_7, h_6, hf⟩ := bn_some hf
  refine tf_callVi (As := []) (rest := []) X h 0 (by decide) rfl rfl (mK8_waking hJ h_6) bwK8_waking w_475 ⟨Nat.le_of_ble_eq_true rfl, Nat.le_of_ble_eq_true rfl⟩ hl.1 rfl (Nat.le_of_ble_eq_true rfl) ⟨Nat.zero_le _, Nat.zero_le _⟩ dK8_line_96 (fun H locs h => ?_)
  refine lv_istore_n (lv' := [(2, .int r_7), (0, .ref (al G 0)), (1, .int v1), (3, .int v3)]) hx hb dK8_line_99 rfl hl (by decide) rfl (fun ls hl => ?_)
  refine lv_goto (tgt := 43) hx hb dK8_line_100 (by decide) ?_
  exact hk43 v1 r_7 I_4 L_5 hf h (lv_sub hl [1, 2, 0] rfl)
set_option maxHeartbeats 4000000 in
set_option maxRecDepth 100000 in
theorem sK8_line_43 {p : Program} {l : Launch} {e : Env} {s : State} {m : MethodId} {args : Array Value} {below : List Frame} {meth : Method} {c : Code} {G : tf_G} (X : tf_X G 16 "TradeFloorModel" cK8_line 4 (some .int) p s m args meth c) {r : Int32} {I9 : FI} {L9 : FL} (k43 : Int32 → Int32 → FI → FL → Option (Int32 × FI × FL)) (hk43 : ∀ (v1 : Int32) (v2 : Int32) (I : FI) (L : FL), k43 v1 v2 I L = some (r, I9, L9) → ∀ {H : Heap} {locs : List Loc} {ls : Array Slot}, tf_H G 16 (rE G I L) s.heap H locs → lv_has ls 4 [(0, .ref (al G 0)), (1, .int v1), (2, .int v2)] → W p l e (tf_rm 7 161) s m args below meth c H locs 0 0 (MQ below (tf_Q G 16 (rE G I9 L9) (some (.int r))) args s 0 0 (gA (al G) 16)) (F0 m 43 ls [])) (v1 : Int32) (v2 : Int32) (I : FI) (L : FL) (hf : bK8_line_43 k43 v1 v2 I L = some (r, I9, L9)) {H : Heap} {locs : List Loc} {ls : Array Slot} (h : tf_H G 16 (rE G I L) s.heap H locs) (hl : lv_has ls 4 [(0, .ref (al G 0)), (1, .int v1), (2, .int v2)]) : W p l e (tf_rm 7 161) s m args below meth c H locs 0 0 (MQ below (tf_Q G 16 (rE G I9 L9) (some (.int r))) args s 0 0 (gA (al G) 16)) (F0 m 43 ls []) := by
  have hx := X.1
  have hb := X.2.1
  have hJ := X.2.2.2.2.2.2.2.2.2
  unfold bK8_line_43 at hf
  refine lv_iload_n hx hb dK8_line_43 rfl (lv_at hl 2 rfl) ?_
  refine lv_if_lt (tgt := 103) hx hb dK8_line_44 (by decide) (fun c_1 => ?_) (fun c_1 => ?_)
  · have hf := if_t hf c_1
    refine lv_iload_n hx hb dK8_line_103 rfl (lv_at hl 1 rfl) ?_
    cases hf
    exact tf_iret X h dK8_line_104
  · have hf := if_f hf c_1
    refine lv_aload_n hx hb dK8_line_47 rfl (lv_at hl 0 rfl) ?_
    refine gf8_left X h w_410 dK8_line_48 ?_
    refine lv_iload_n hx hb dK8_line_51 rfl (lv_at hl 2 rfl) ?_
    obtain ⟨hi_2, hf⟩ := ck_some hf
    refine gar_8 X h (inb_in hi_2) dK8_line_52 ?_
    refine lv_topi (fun x_3 ex_3 => ?_)
    have hf := nm_at hf ex_3
    refine lv_istore_n (lv' := [(3, .int x_3), (0, .ref (al G 0)), (1, .int v1), (2, .int v2)]) hx hb dK8_line_53 rfl hl (by decide) rfl (fun ls hl => ?_)
    refine lv_aload_n hx hb dK8_line_54 rfl (lv_at hl 1 rfl) ?_
    refine gf8_side X h w_409 dK8_line_55 ?_
    refine lv_iload_n hx hb dK8_line_58 rfl (lv_at hl 3 rfl) ?_
    obtain ⟨hi_4, hf⟩ := ck_some hf
    refine gar_7 X h (inb_in hi_4) dK8_line_59 ?_
    refine lv_iconst (v := 1) hx hb dK8_line_60 (by decide) ?_
    refine lv_icmp_ne (tgt := 81) hx hb dK8_line_61 (by decide) (fun c_5 => ?_) (fun c_5 => ?_)
    · have hf := if_f hf c_5
      exact sK8_line_81 X k43 hk43 v1 v2 x_3 I L hf h (lv_sub hl [1, 2, 3, 0] rfl)
    · have hf := if_t hf c_5
      refine lv_iload_n hx hb dK8_line_64 rfl (lv_at hl 0 rfl) ?_
      refine lv_i2l hx hb dK8_line_65 rfl ?_
      refine lv_aload_n hx hb dK8_line_66 rfl (lv_at hl 1 rfl) ?_
      refine lv_aload_n hx hb dK8_line_67 rfl (lv_at hl 1 rfl) ?_
      refine gf8_who X h w_408 dK8_line_68 ?_
      refine lv_iload_n hx hb dK8_line_71 rfl (lv_at hl 3 rfl) ?_
      obtain ⟨hi_6, hf⟩ := ck_some hf
      refine gar_6 X h (inb_in hi_6) dK8_line_72 ?_
      obtain ⟨r_8, h_7, hf⟩ := bn_some hf
      refine tf_callVl (As := [.int (I 0 v2.toNatClampNeg)]) (rest := [.long x_3.toInt64]) X h 0 (by decide) rfl rfl (mK8_freeGoods hJ h_7) bwK8_freeGoods w_457 ⟨Nat.le_of_ble_eq_true rfl, Nat.le_of_ble_eq_true rfl⟩ hl.1 rfl (Nat.le_of_ble_eq_true rfl) ⟨Nat.zero_le _, Nat.zero_le _⟩ dK8_line_73 (fun H locs h => ?_)
      refine va_mmin_long hx hb (by rw [X.2.2.2.1]; exact hl.1.symm) X.2.2.2.2.1 (X.2.2.2.2.2.2.1 _ w_442) (X.2.2.2.2.2.2.1 _ w_198) (X.2.2.2.2.2.2.1 _ w_199) (X.2.2.2.2.2.2.1 _ w_200) (Nat.le_of_ble_eq_true rfl) (Nat.le_of_ble_eq_true rfl) (Nat.zero_le _) (Nat.zero_le _) dK8_line_76 ?_
      refine lv_l2i hx hb dK8_line_79 rfl ?_
      refine lv_topi (fun x_9 ex_9 => ?_)
      have hf := nm_at hf ex_9
      refine lv_istore_n (lv' := [(3, .int x_9), (0, .ref (al G 0)), (1, .int v1), (2, .int v2)]) hx hb dK8_line_80 rfl hl (by decide) rfl (fun ls hl => ?_)
      exact sK8_line_81 X k43 hk43 v1 v2 x_9 I L hf h (lv_sub hl [1, 2, 3, 0] rfl)
theorem lK8_line_43 {p : Program} {l : Launch} {e : Env} {s : State} {m : MethodId} {args : Array Value} {below : List Frame} {meth : Method} {c : Code} {G : tf_G} (X : tf_X G 16 "TradeFloorModel" cK8_line 4 (some .int) p s m args meth c) {r : Int32} {I9 : FI} {L9 : FL} : ∀ (n : Nat), ∀ (v1 : Int32) (v2 : Int32) (I : FI) (L : FL), fK8_line_43 n v1 v2 I L = some (r, I9, L9) → ∀ {H : Heap} {locs : List Loc} {ls : Array Slot}, tf_H G 16 (rE G I L) s.heap H locs → lv_has ls 4 [(0, .ref (al G 0)), (1, .int v1), (2, .int v2)] → W p l e (tf_rm 7 161) s m args below meth c H locs 0 0 (MQ below (tf_Q G 16 (rE G I9 L9) (some (.int r))) args s 0 0 (gA (al G) 16)) (F0 m 43 ls []) := by
  intro n
  induction n with
  | zero =>
    intro v1 v2 I L hf
    exact absurd hf (by simp [fK8_line_43])
  | succ n ih =>
    intro v1 v2 I L hf H locs ls h hl
    exact sK8_line_43 X (fK8_line_43 n) ih v1 v2 I L hf h hl
set_option maxHeartbeats 4000000 in
set_option maxRecDepth 100000 in
theorem sK8_line_16 {p : Program} {l : Launch} {e : Env} {s : State} {m : MethodId} {args : Array Value} {below : List Frame} {meth : Method} {c : Code} {G : tf_G} (X : tf_X G 16 "TradeFloorModel" cK8_line 4 (some .int) p s m args meth c) {r : Int32} {I9 : FI} {L9 : FL} (u0 : Int32) (I : FI) (L : FL) (hf : fK8_line_16 u0 I L = some (r, I9, L9)) {H : Heap} {locs : List Loc} {ls : Array Slot} (h : tf_H G 16 (rE G I L) s.heap H locs) (hl : lv_has ls 4 [(0, .ref (al G 0))]) : W p l e (tf_rm 7 161) s m args below meth c H locs 0 0 (MQ below (tf_Q G 16 (rE G I9 L9) (some (.int r))) args s 0 0 (gA (al G) 16)) (F0 m 16 ls [.int u0]) := by
  have hx := X.1
  have hb := X.2.1
  have hJ := X.2.2.2.2.2.2.2.2.2
  unfold fK8_line_16 at hf
  refine lv_istore_n (lv' := [(1, .int u0), (0, .ref (al G 0))]) hx hb dK8_line_16 rfl hl (by decide) rfl (fun ls hl => ?_)
  refine lv_aload_n hx hb dK8_line_17 rfl (lv_at hl 1 rfl) ?_
  refine lv_iconst (v := 0) hx hb dK8_line_18 (by decide) ?_
  obtain ⟨I_1, eI_1, hf⟩ := nm_some hf
  refine pf8_size X h eI_1 w_378 dK8_line_19 (fun H locs h => ?_)
  refine lv_iload_n hx hb dK8_line_22 rfl (lv_at hl 0 rfl) ?_
  refine lv_if_ge (tgt := 38) hx hb dK8_line_23 (by decide) (fun c_2 => ?_) (fun c_2 => ?_)
  · have hf := if_t hf c_2
    refine lv_aload_n hx hb dK8_line_38 rfl (lv_at hl 1 rfl) ?_
    obtain ⟨r_4, h_3, hf⟩ := bn_some hf
    refine tf_callVi (As := []) (rest := []) X h 0 (by decide) rfl rfl (mK8_waking hJ h_3) bwK8_waking w_475 ⟨Nat.le_of_ble_eq_true rfl, Nat.le_of_ble_eq_true rfl⟩ hl.1 rfl (Nat.le_of_ble_eq_true rfl) ⟨Nat.zero_le _, Nat.zero_le _⟩ dK8_line_39 (fun H locs h => ?_)
    refine lv_istore_n (lv' := [(2, .int r_4), (1, .int u0), (0, .ref (al G 0))]) hx hb dK8_line_42 rfl hl (by decide) rfl (fun ls hl => ?_)
    exact lK8_line_43 X FU u0 r_4 I_1 L hf h (lv_sub hl [2, 1, 0] rfl)
  · have hf := if_f hf c_2
    refine lv_aload_n hx hb dK8_line_26 rfl (lv_at hl 1 rfl) ?_
    refine lv_dup hx hb dK8_line_27 rfl ?_
    refine gf8_refusals X h w_476 dK8_line_28 ?_
    refine lv_iconst (v := 1) hx hb dK8_line_31 (by decide) ?_
    refine lv_iadd hx hb dK8_line_32 ?_
    obtain ⟨I_5, eI_5, hf⟩ := nm_some hf
    refine pf8_refusals X h eI_5 w_476 dK8_line_33 (fun H locs h => ?_)
    refine lv_iload_n hx hb dK8_line_36 rfl (lv_at hl 0 rfl) ?_
    cases hf
    exact tf_iret X h dK8_line_37
set_option maxHeartbeats 4000000 in
set_option maxRecDepth 100000 in
theorem sK8_line_0 {p : Program} {l : Launch} {e : Env} {s : State} {m : MethodId} {args : Array Value} {below : List Frame} {meth : Method} {c : Code} {G : tf_G} (X : tf_X G 16 "TradeFloorModel" cK8_line 4 (some .int) p s m args meth c) {r : Int32} {I9 : FI} {L9 : FL} (I : FI) (L : FL) (hf : fK8_line I L = some (r, I9, L9)) {H : Heap} {locs : List Loc} {ls : Array Slot} (h : tf_H G 16 (rE G I L) s.heap H locs) (hl : lv_has ls 4 [(0, .ref (al G 0))]) : W p l e (tf_rm 7 161) s m args below meth c H locs 0 0 (MQ below (tf_Q G 16 (rE G I9 L9) (some (.int r))) args s 0 0 (gA (al G) 16)) (F0 m 0 ls []) := by
  have hx := X.1
  have hb := X.2.1
  have hJ := X.2.2.2.2.2.2.2.2.2
  unfold fK8_line at hf
  refine lv_aload_n hx hb dK8_line_0 rfl (lv_at hl 0 rfl) ?_
  obtain ⟨r_2, I_3, L_4, h_1, hf⟩ := bq_some hf
  refine tf_callVi (As := []) (rest := []) X h 0 (by decide) rfl rfl (mK8_taken hJ h_1) bwK8_taken w_473 ⟨Nat.le_of_ble_eq_true rfl, Nat.le_of_ble_eq_true rfl⟩ hl.1 rfl (Nat.le_of_ble_eq_true rfl) ⟨Nat.zero_le _, Nat.zero_le _⟩ dK8_line_1 (fun H locs h => ?_)
  refine lv_if_eq (tgt := 14) hx hb dK8_line_4 (by decide) (fun c_5 => ?_) (fun c_5 => ?_)
  · have hf := if_t hf c_5
    refine lv_bipush (v := (-11)) hx hb dK8_line_14 (by decide) ?_
    exact sK8_line_16 X (-11) I_3 L_4 hf h hl
  · have hf := if_f hf c_5
    refine lv_aload_n hx hb dK8_line_7 rfl (lv_at hl 0 rfl) ?_
    obtain ⟨r_7, I_8, L_9, h_6, hf⟩ := bq_some hf
    refine tf_callVi (As := []) (rest := []) X h 0 (by decide) rfl rfl (mK8_done hJ h_6) bwK8_done w_474 ⟨Nat.le_of_ble_eq_true rfl, Nat.le_of_ble_eq_true rfl⟩ hl.1 rfl (Nat.le_of_ble_eq_true rfl) ⟨Nat.zero_le _, Nat.zero_le _⟩ dK8_line_8 (fun H locs h => ?_)
    refine lv_goto (tgt := 16) hx hb dK8_line_11 (by decide) ?_
    exact sK8_line_16 X r_7 I_8 L_9 hf h hl
theorem mK8_line {l : Launch} {G : tf_G} (hJ : gJ (al G) 16) {r : Int32} {I9 : FI} {L9 : FL} {I : FI} {L : FL} (hf : fK8_line I L = some (r, I9, L9)) : tf_Met l G 16 yK8_line cK8_line 4 (some .int) 7 161 [.ref (al G 0)] (rE G I L) (rE G I9 L9) (some (.int r)) :=
  tf_enter (by decide +kernel) hJ (Nat.le_of_ble_eq_true rfl) (fun p e s m args below meth c ls X _ hl h => sK8_line_0 X I L hf h hl)
theorem bwK8_line : tf_cv yK8_line cK8_line 4 (some .int) 0 := ⟨w_477, w_478, w_479, w_381, by decide +kernel, by decide +kernel, by decide +kernel⟩

set_option maxHeartbeats 4000000 in
set_option maxRecDepth 100000 in
theorem sK8_order_0 {p : Program} {l : Launch} {e : Env} {s : State} {m : MethodId} {args : Array Value} {below : List Frame} {meth : Method} {c : Code} {G : tf_G} (X : tf_X G 16 "TradeFloorModel" cK8_order 3 (some .int) p s m args meth c) {r : Int32} (a1 : Int32) (a2 : Int32) (I : FI) (L : FL) (hf : fK8_order a1 a2 I L = some r) {H : Heap} {locs : List Loc} {ls : Array Slot} (h : tf_H G 16 (rE G I L) s.heap H locs) (hl : lv_has ls 3 [(0, .ref (al G 0)), (1, .int a1), (2, .int a2)]) : W p l e (tf_rm 0 0) s m args below meth c H locs 0 0 (MQ below (tf_Q G 16 (rE G I L) (some (.int r))) args s 0 0 (gA (al G) 16)) (F0 m 0 ls []) := by
  have hx := X.1
  have hb := X.2.1
  have hJ := X.2.2.2.2.2.2.2.2.2
  unfold fK8_order at hf
  refine lv_iload_n hx hb dK8_order_0 rfl (lv_at hl 1 rfl) ?_
  refine lv_if_lt (tgt := 21) hx hb dK8_order_1 (by decide) (fun c_1 => ?_) (fun c_1 => ?_)
  · have hf := if_t hf c_1
    refine lv_iconst (v := (-1)) hx hb dK8_order_21 (by decide) ?_
    cases hf
    exact tf_iret X h dK8_order_22
  · have hf := if_f hf c_1
    refine lv_iload_n hx hb dK8_order_4 rfl (lv_at hl 1 rfl) ?_
    refine lv_aload_n hx hb dK8_order_5 rfl (lv_at hl 0 rfl) ?_
    refine gf8_orders X h w_406 dK8_order_6 ?_
    refine lv_icmp_ge (tgt := 21) hx hb dK8_order_9 (by decide) (fun c_2 => ?_) (fun c_2 => ?_)
    · have hf := if_t hf c_2
      refine lv_iconst (v := (-1)) hx hb dK8_order_21 (by decide) ?_
      cases hf
      exact tf_iret X h dK8_order_22
    · have hf := if_f hf c_2
      refine lv_iload_n hx hb dK8_order_12 rfl (lv_at hl 2 rfl) ?_
      refine lv_if_lt (tgt := 21) hx hb dK8_order_13 (by decide) (fun c_3 => ?_) (fun c_3 => ?_)
      · have hf := if_t hf c_3
        refine lv_iconst (v := (-1)) hx hb dK8_order_21 (by decide) ?_
        cases hf
        exact tf_iret X h dK8_order_22
      · have hf := if_f hf c_3
        refine lv_iload_n hx hb dK8_order_16 rfl (lv_at hl 2 rfl) ?_
        refine lv_iconst (v := 5) hx hb dK8_order_17 (by decide) ?_
        refine lv_icmp_le (tgt := 23) hx hb dK8_order_18 (by decide) (fun c_4 => ?_) (fun c_4 => ?_)
        · have hf := if_t hf c_4
          refine lv_iload_n hx hb dK8_order_23 rfl (lv_at hl 2 rfl) ?_
          refine lv_if_ne (tgt := 36) hx hb dK8_order_24 (by decide) (fun c_5 => ?_) (fun c_5 => ?_)
          · have hf := if_f hf c_5
            refine lv_iload_n hx hb dK8_order_36 rfl (lv_at hl 2 rfl) ?_
            refine lv_iconst (v := 1) hx hb dK8_order_37 (by decide) ?_
            refine lv_icmp_ne (tgt := 50) hx hb dK8_order_38 (by decide) (fun c_6 => ?_) (fun c_6 => ?_)
            · have hf := if_f hf c_6
              refine lv_iload_n hx hb dK8_order_50 rfl (lv_at hl 2 rfl) ?_
              refine lv_iconst (v := 2) hx hb dK8_order_51 (by decide) ?_
              refine lv_icmp_ne (tgt := 64) hx hb dK8_order_52 (by decide) (fun c_7 => ?_) (fun c_7 => ?_)
              · have hf := if_f hf c_7
                refine lv_iload_n hx hb dK8_order_64 rfl (lv_at hl 2 rfl) ?_
                refine lv_iconst (v := 3) hx hb dK8_order_65 (by decide) ?_
                refine lv_icmp_ne (tgt := 78) hx hb dK8_order_66 (by decide) (fun c_8 => ?_) (fun c_8 => ?_)
                · have hf := if_f hf c_8
                  refine lv_iload_n hx hb dK8_order_78 rfl (lv_at hl 2 rfl) ?_
                  refine lv_iconst (v := 4) hx hb dK8_order_79 (by decide) ?_
                  refine lv_icmp_ne (tgt := 92) hx hb dK8_order_80 (by decide) (fun c_9 => ?_) (fun c_9 => ?_)
                  · have hf := if_f hf c_9
                    refine lv_aload_n hx hb dK8_order_92 rfl (lv_at hl 0 rfl) ?_
                    refine gf8_ends X h w_428 dK8_order_93 ?_
                    refine lv_iload_n hx hb dK8_order_96 rfl (lv_at hl 1 rfl) ?_
                    obtain ⟨hi_10, hf⟩ := ck_some hf
                    refine gar_11 X h (inb_in hi_10) dK8_order_97 ?_
                    cases hf
                    exact tf_iret X h dK8_order_98
                  · have hf := if_t hf c_9
                    refine lv_aload_n hx hb dK8_order_83 rfl (lv_at hl 0 rfl) ?_
                    refine gf8_state X h w_407 dK8_order_84 ?_
                    refine lv_iload_n hx hb dK8_order_87 rfl (lv_at hl 1 rfl) ?_
                    obtain ⟨hi_11, hf⟩ := ck_some hf
                    refine gar_10 X h (inb_in hi_11) dK8_order_88 ?_
                    refine lv_goto (tgt := 98) hx hb dK8_order_89 (by decide) ?_
                    cases hf
                    exact tf_iret X h dK8_order_98
                · have hf := if_t hf c_8
                  refine lv_aload_n hx hb dK8_order_69 rfl (lv_at hl 0 rfl) ?_
                  refine gf8_price X h w_411 dK8_order_70 ?_
                  refine lv_iload_n hx hb dK8_order_73 rfl (lv_at hl 1 rfl) ?_
                  obtain ⟨hi_12, hf⟩ := ck_some hf
                  refine gar_9 X h (inb_in hi_12) dK8_order_74 ?_
                  refine lv_goto (tgt := 98) hx hb dK8_order_75 (by decide) ?_
                  cases hf
                  exact tf_iret X h dK8_order_98
              · have hf := if_t hf c_7
                refine lv_aload_n hx hb dK8_order_55 rfl (lv_at hl 0 rfl) ?_
                refine gf8_left X h w_410 dK8_order_56 ?_
                refine lv_iload_n hx hb dK8_order_59 rfl (lv_at hl 1 rfl) ?_
                obtain ⟨hi_13, hf⟩ := ck_some hf
                refine gar_8 X h (inb_in hi_13) dK8_order_60 ?_
                refine lv_goto (tgt := 98) hx hb dK8_order_61 (by decide) ?_
                cases hf
                exact tf_iret X h dK8_order_98
            · have hf := if_t hf c_6
              refine lv_aload_n hx hb dK8_order_41 rfl (lv_at hl 0 rfl) ?_
              refine gf8_side X h w_409 dK8_order_42 ?_
              refine lv_iload_n hx hb dK8_order_45 rfl (lv_at hl 1 rfl) ?_
              obtain ⟨hi_14, hf⟩ := ck_some hf
              refine gar_7 X h (inb_in hi_14) dK8_order_46 ?_
              refine lv_goto (tgt := 98) hx hb dK8_order_47 (by decide) ?_
              cases hf
              exact tf_iret X h dK8_order_98
          · have hf := if_t hf c_5
            refine lv_aload_n hx hb dK8_order_27 rfl (lv_at hl 0 rfl) ?_
            refine gf8_who X h w_408 dK8_order_28 ?_
            refine lv_iload_n hx hb dK8_order_31 rfl (lv_at hl 1 rfl) ?_
            obtain ⟨hi_15, hf⟩ := ck_some hf
            refine gar_6 X h (inb_in hi_15) dK8_order_32 ?_
            refine lv_goto (tgt := 98) hx hb dK8_order_33 (by decide) ?_
            cases hf
            exact tf_iret X h dK8_order_98
        · have hf := if_f hf c_4
          refine lv_iconst (v := (-1)) hx hb dK8_order_21 (by decide) ?_
          cases hf
          exact tf_iret X h dK8_order_22
theorem mK8_order {l : Launch} {G : tf_G} (hJ : gJ (al G) 16) {r : Int32} {a1 : Int32} {a2 : Int32} {I : FI} {L : FL} (hf : fK8_order a1 a2 I L = some r) : tf_Met l G 16 yK8_order cK8_order 3 (some .int) 0 0 [.ref (al G 0), .int a1, .int a2] (rE G I L) (rE G I L) (some (.int r)) :=
  tf_enter (by decide +kernel) hJ (Nat.le_of_ble_eq_true rfl) (fun p e s m args below meth c ls X _ hl h => sK8_order_0 X a1 a2 I L hf h hl)
theorem bwK8_order : tf_cv yK8_order cK8_order 3 (some .int) 2 := ⟨w_480, w_481, w_482, w_381, by decide +kernel, by decide +kernel, by decide +kernel⟩

set_option maxHeartbeats 4000000 in
set_option maxRecDepth 100000 in
theorem sK8_trader_114 {p : Program} {l : Launch} {e : Env} {s : State} {m : MethodId} {args : Array Value} {below : List Frame} {meth : Method} {c : Code} {G : tf_G} (X : tf_X G 16 "TradeFloorModel" cK8_trader 6 (some .long) p s m args meth c) {r : Int64} (k79 : Int32 → Int64 → Int32 → FI → FL → Option (Int64)) (hk79 : ∀ (v1 : Int32) (v3 : Int64) (v5 : Int32) (I : FI) (L : FL), k79 v1 v3 v5 I L = some r → ∀ {H : Heap} {locs : List Loc} {ls : Array Slot}, tf_H G 16 (rE G I L) s.heap H locs → lv_has ls 6 [(0, .ref (al G 0)), (1, .int v1), (3, .long v3), (5, .int v5)] → W p l e (tf_rm 1 24) s m args below meth c H locs 0 0 (MQ below (tf_Q G 16 (rE G I L) (some (.long r))) args s 0 0 (gA (al G) 16)) (F0 m 79 ls [])) (v1 : Int32) (v3 : Int64) (v5 : Int32) (I : FI) (L : FL) (hf : fK8_trader_114 k79 v1 v3 v5 I L = some r) {H : Heap} {locs : List Loc} {ls : Array Slot} (h : tf_H G 16 (rE G I L) s.heap H locs) (hl : lv_has ls 6 [(0, .ref (al G 0)), (1, .int v1), (3, .long v3), (5, .int v5)]) : W p l e (tf_rm 1 24) s m args below meth c H locs 0 0 (MQ below (tf_Q G 16 (rE G I L) (some (.long r))) args s 0 0 (gA (al G) 16)) (F0 m 114 ls []) := by
  have hx := X.1
  have hb := X.2.1
  have hJ := X.2.2.2.2.2.2.2.2.2
  unfold fK8_trader_114 at hf
  obtain ⟨x_1, ex_1, hf⟩ := nm_some hf
  refine lv_iinc (v := x_1) (lv' := [(5, .int x_1), (0, .ref (al G 0)), (1, .int v1), (3, .long v3)]) hx hb dK8_trader_114 hl (k := 3) rfl (by rw [ex_1]; rfl) (by decide) rfl (fun ls hl => ?_)
  refine lv_goto (tgt := 79) hx hb dK8_trader_117 (by decide) ?_
  exact hk79 v1 v3 x_1 I L hf h (lv_sub hl [1, 2, 3, 0] rfl)
set_option maxHeartbeats 4000000 in
set_option maxRecDepth 100000 in
theorem sK8_trader_79 {p : Program} {l : Launch} {e : Env} {s : State} {m : MethodId} {args : Array Value} {below : List Frame} {meth : Method} {c : Code} {G : tf_G} (X : tf_X G 16 "TradeFloorModel" cK8_trader 6 (some .long) p s m args meth c) {r : Int64} (k79 : Int32 → Int64 → Int32 → FI → FL → Option (Int64)) (hk79 : ∀ (v1 : Int32) (v3 : Int64) (v5 : Int32) (I : FI) (L : FL), k79 v1 v3 v5 I L = some r → ∀ {H : Heap} {locs : List Loc} {ls : Array Slot}, tf_H G 16 (rE G I L) s.heap H locs → lv_has ls 6 [(0, .ref (al G 0)), (1, .int v1), (3, .long v3), (5, .int v5)] → W p l e (tf_rm 1 24) s m args below meth c H locs 0 0 (MQ below (tf_Q G 16 (rE G I L) (some (.long r))) args s 0 0 (gA (al G) 16)) (F0 m 79 ls [])) (v1 : Int32) (v3 : Int64) (v5 : Int32) (I : FI) (L : FL) (hf : bK8_trader_79 k79 v1 v3 v5 I L = some r) {H : Heap} {locs : List Loc} {ls : Array Slot} (h : tf_H G 16 (rE G I L) s.heap H locs) (hl : lv_has ls 6 [(0, .ref (al G 0)), (1, .int v1), (3, .long v3), (5, .int v5)]) : W p l e (tf_rm 1 24) s m args below meth c H locs 0 0 (MQ below (tf_Q G 16 (rE G I L) (some (.long r))) args s 0 0 (gA (al G) 16)) (F0 m 79 ls []) := by
  have hx := X.1
  have hb := X.2.1
  have hJ := X.2.2.2.2.2.2.2.2.2
  unfold bK8_trader_79 at hf
  refine lv_iload hx hb dK8_trader_79 (lv_at hl 3 rfl) ?_
  refine lv_aload_n hx hb dK8_trader_81 rfl (lv_at hl 0 rfl) ?_
  refine gf8_orders X h w_406 dK8_trader_82 ?_
  refine lv_icmp_ge (tgt := 120) hx hb dK8_trader_85 (by decide) (fun c_1 => ?_) (fun c_1 => ?_)
  · have hf := if_t hf c_1
    refine lv_lload_n hx hb dK8_trader_120 rfl (lv_at hl 2 rfl) ?_
    cases hf
    exact tf_lret X h dK8_trader_121
  · have hf := if_f hf c_1
    refine lv_aload_n hx hb dK8_trader_88 rfl (lv_at hl 0 rfl) ?_
    refine gf8_who X h w_408 dK8_trader_89 ?_
    refine lv_iload hx hb dK8_trader_92 (lv_at hl 3 rfl) ?_
    obtain ⟨hi_2, hf⟩ := ck_some hf
    refine gar_6 X h (inb_in hi_2) dK8_trader_94 ?_
    refine lv_iload_n hx hb dK8_trader_95 rfl (lv_at hl 1 rfl) ?_
    refine lv_icmp_ne (tgt := 114) hx hb dK8_trader_96 (by decide) (fun c_3 => ?_) (fun c_3 => ?_)
    · have hf := if_f hf c_3
      exact sK8_trader_114 X k79 hk79 v1 v3 v5 I L hf h hl
    · have hf := if_t hf c_3
      refine lv_aload_n hx hb dK8_trader_99 rfl (lv_at hl 0 rfl) ?_
      refine gf8_state X h w_407 dK8_trader_100 ?_
      refine lv_iload hx hb dK8_trader_103 (lv_at hl 3 rfl) ?_
      obtain ⟨hi_4, hf⟩ := ck_some hf
      refine gar_10 X h (inb_in hi_4) dK8_trader_105 ?_
      refine lv_iconst (v := 2) hx hb dK8_trader_106 (by decide) ?_
      refine lv_icmp_eq (tgt := 114) hx hb dK8_trader_107 (by decide) (fun c_5 => ?_) (fun c_5 => ?_)
      · have hf := if_t hf c_5
        exact sK8_trader_114 X k79 hk79 v1 v3 v5 I L hf h hl
      · have hf := if_f hf c_5
        refine lv_lload_n hx hb dK8_trader_110 rfl (lv_at hl 2 rfl) ?_
        refine lv_lconst (v := 1) hx hb dK8_trader_111 (by decide) ?_
        refine lv_ladd hx hb dK8_trader_112 ?_
        refine lv_topl (fun x_6 ex_6 => ?_)
        have hf := nm_at hf ex_6
        refine lv_lstore_n (lv' := [(3, .long x_6), (0, .ref (al G 0)), (1, .int v1), (5, .int v5)]) hx hb dK8_trader_113 rfl hl (by decide) rfl (fun ls hl => ?_)
        exact sK8_trader_114 X k79 hk79 v1 x_6 v5 I L hf h (lv_sub hl [1, 2, 0, 3] rfl)
theorem lK8_trader_79 {p : Program} {l : Launch} {e : Env} {s : State} {m : MethodId} {args : Array Value} {below : List Frame} {meth : Method} {c : Code} {G : tf_G} (X : tf_X G 16 "TradeFloorModel" cK8_trader 6 (some .long) p s m args meth c) {r : Int64} : ∀ (n : Nat), ∀ (v1 : Int32) (v3 : Int64) (v5 : Int32) (I : FI) (L : FL), fK8_trader_79 n v1 v3 v5 I L = some r → ∀ {H : Heap} {locs : List Loc} {ls : Array Slot}, tf_H G 16 (rE G I L) s.heap H locs → lv_has ls 6 [(0, .ref (al G 0)), (1, .int v1), (3, .long v3), (5, .int v5)] → W p l e (tf_rm 1 24) s m args below meth c H locs 0 0 (MQ below (tf_Q G 16 (rE G I L) (some (.long r))) args s 0 0 (gA (al G) 16)) (F0 m 79 ls []) := by
  intro n
  induction n with
  | zero =>
    intro v1 v3 v5 I L hf
    exact absurd hf (by simp [fK8_trader_79])
  | succ n ih =>
    intro v1 v3 v5 I L hf H locs ls h hl
    exact sK8_trader_79 X (fK8_trader_79 n) ih v1 v3 v5 I L hf h hl
set_option maxHeartbeats 4000000 in
set_option maxRecDepth 100000 in
theorem sK8_trader_0 {p : Program} {l : Launch} {e : Env} {s : State} {m : MethodId} {args : Array Value} {below : List Frame} {meth : Method} {c : Code} {G : tf_G} (X : tf_X G 16 "TradeFloorModel" cK8_trader 6 (some .long) p s m args meth c) {r : Int64} (a1 : Int32) (a2 : Int32) (I : FI) (L : FL) (hf : fK8_trader a1 a2 I L = some r) {H : Heap} {locs : List Loc} {ls : Array Slot} (h : tf_H G 16 (rE G I L) s.heap H locs) (hl : lv_has ls 6 [(0, .ref (al G 0)), (1, .int a1), (2, .int a2)]) : W p l e (tf_rm 1 24) s m args below meth c H locs 0 0 (MQ below (tf_Q G 16 (rE G I L) (some (.long r))) args s 0 0 (gA (al G) 16)) (F0 m 0 ls []) := by
  have hx := X.1
  have hb := X.2.1
  have hJ := X.2.2.2.2.2.2.2.2.2
  unfold fK8_trader at hf
  refine lv_iload_n hx hb dK8_trader_0 rfl (lv_at hl 1 rfl) ?_
  refine lv_if_lt (tgt := 19) hx hb dK8_trader_1 (by decide) (fun c_1 => ?_) (fun c_1 => ?_)
  · have hf := if_t hf c_1
    refine lv_ldc2 (v := (-1)) hx hb X.2.2.2.2.1 (X.2.2.2.2.2.2.1 _ w_483) dK8_trader_19 ?_
    cases hf
    exact tf_lret X h dK8_trader_22
  · have hf := if_f hf c_1
    refine lv_iload_n hx hb dK8_trader_4 rfl (lv_at hl 1 rfl) ?_
    refine lv_bipush (v := 8) hx hb dK8_trader_5 (by decide) ?_
    refine lv_icmp_ge (tgt := 19) hx hb dK8_trader_7 (by decide) (fun c_2 => ?_) (fun c_2 => ?_)
    · have hf := if_t hf c_2
      refine lv_ldc2 (v := (-1)) hx hb X.2.2.2.2.1 (X.2.2.2.2.2.2.1 _ w_483) dK8_trader_19 ?_
      cases hf
      exact tf_lret X h dK8_trader_22
    · have hf := if_f hf c_2
      refine lv_iload_n hx hb dK8_trader_10 rfl (lv_at hl 2 rfl) ?_
      refine lv_if_lt (tgt := 19) hx hb dK8_trader_11 (by decide) (fun c_3 => ?_) (fun c_3 => ?_)
      · have hf := if_t hf c_3
        refine lv_ldc2 (v := (-1)) hx hb X.2.2.2.2.1 (X.2.2.2.2.2.2.1 _ w_483) dK8_trader_19 ?_
        cases hf
        exact tf_lret X h dK8_trader_22
      · have hf := if_f hf c_3
        refine lv_iload_n hx hb dK8_trader_14 rfl (lv_at hl 2 rfl) ?_
        refine lv_iconst (v := 4) hx hb dK8_trader_15 (by decide) ?_
        refine lv_icmp_le (tgt := 23) hx hb dK8_trader_16 (by decide) (fun c_4 => ?_) (fun c_4 => ?_)
        · have hf := if_t hf c_4
          refine lv_iload_n hx hb dK8_trader_23 rfl (lv_at hl 2 rfl) ?_
          refine lv_iconst (v := 4) hx hb dK8_trader_24 (by decide) ?_
          refine lv_icmp_ge (tgt := 74) hx hb dK8_trader_25 (by decide) (fun c_5 => ?_) (fun c_5 => ?_)
          · have hf := if_t hf c_5
            refine lv_lconst (v := 0) hx hb dK8_trader_74 (by decide) ?_
            refine lv_lstore_n (lv' := [(3, .long 0), (0, .ref (al G 0)), (1, .int a1), (2, .int a2)]) hx hb dK8_trader_75 rfl hl (by decide) rfl (fun ls hl => ?_)
            refine lv_iconst (v := 0) hx hb dK8_trader_76 (by decide) ?_
            refine lv_istore (lv' := [(5, .int 0), (3, .long 0), (0, .ref (al G 0)), (1, .int a1), (2, .int a2)]) hx hb dK8_trader_77 hl (by decide) rfl (fun ls hl => ?_)
            exact lK8_trader_79 X FU a1 0 0 I L hf h (lv_sub hl [2, 3, 1, 0] rfl)
          · have hf := if_f hf c_5
            refine lv_iload_n hx hb dK8_trader_28 rfl (lv_at hl 2 rfl) ?_
            refine lv_if_ne (tgt := 41) hx hb dK8_trader_29 (by decide) (fun c_6 => ?_) (fun c_6 => ?_)
            · have hf := if_f hf c_6
              refine lv_iload_n hx hb dK8_trader_41 rfl (lv_at hl 2 rfl) ?_
              refine lv_iconst (v := 1) hx hb dK8_trader_42 (by decide) ?_
              refine lv_icmp_ne (tgt := 55) hx hb dK8_trader_43 (by decide) (fun c_7 => ?_) (fun c_7 => ?_)
              · have hf := if_f hf c_7
                refine lv_iload_n hx hb dK8_trader_55 rfl (lv_at hl 2 rfl) ?_
                refine lv_iconst (v := 2) hx hb dK8_trader_56 (by decide) ?_
                refine lv_icmp_ne (tgt := 68) hx hb dK8_trader_57 (by decide) (fun c_8 => ?_) (fun c_8 => ?_)
                · have hf := if_f hf c_8
                  refine lv_aload_n hx hb dK8_trader_68 rfl (lv_at hl 0 rfl) ?_
                  refine lv_iload_n hx hb dK8_trader_69 rfl (lv_at hl 1 rfl) ?_
                  obtain ⟨r_10, h_9, hf⟩ := bn_some hf
                  refine tf_callVl (As := [.int a1]) (rest := []) X h 0 (by decide) rfl rfl (mK8_heldGoods hJ h_9) bwK8_heldGoods w_424 ⟨Nat.le_of_ble_eq_true rfl, Nat.le_of_ble_eq_true rfl⟩ hl.1 rfl (Nat.le_of_ble_eq_true rfl) ⟨Nat.zero_le _, Nat.zero_le _⟩ dK8_trader_70 (fun H locs h => ?_)
                  cases hf
                  exact tf_lret X h dK8_trader_73
                · have hf := if_t hf c_8
                  refine lv_aload_n hx hb dK8_trader_60 rfl (lv_at hl 0 rfl) ?_
                  refine lv_iload_n hx hb dK8_trader_61 rfl (lv_at hl 1 rfl) ?_
                  obtain ⟨r_12, h_11, hf⟩ := bn_some hf
                  refine tf_callVl (As := [.int a1]) (rest := []) X h 0 (by decide) rfl rfl (mK8_heldCash hJ h_11) bwK8_heldCash w_416 ⟨Nat.le_of_ble_eq_true rfl, Nat.le_of_ble_eq_true rfl⟩ hl.1 rfl (Nat.le_of_ble_eq_true rfl) ⟨Nat.zero_le _, Nat.zero_le _⟩ dK8_trader_62 (fun H locs h => ?_)
                  refine lv_goto (tgt := 73) hx hb dK8_trader_65 (by decide) ?_
                  cases hf
                  exact tf_lret X h dK8_trader_73
              · have hf := if_t hf c_7
                refine lv_aload_n hx hb dK8_trader_46 rfl (lv_at hl 0 rfl) ?_
                refine gf8_goods X h w_423 dK8_trader_47 ?_
                refine lv_iload_n hx hb dK8_trader_50 rfl (lv_at hl 1 rfl) ?_
                obtain ⟨hi_13, hf⟩ := ck_some hf
                refine gar_5 X h (inb_in hi_13) dK8_trader_51 ?_
                refine lv_goto (tgt := 73) hx hb dK8_trader_52 (by decide) ?_
                cases hf
                exact tf_lret X h dK8_trader_73
            · have hf := if_t hf c_6
              refine lv_aload_n hx hb dK8_trader_32 rfl (lv_at hl 0 rfl) ?_
              refine gf8_cash X h w_415 dK8_trader_33 ?_
              refine lv_iload_n hx hb dK8_trader_36 rfl (lv_at hl 1 rfl) ?_
              obtain ⟨hi_14, hf⟩ := ck_some hf
              refine gar_4 X h (inb_in hi_14) dK8_trader_37 ?_
              refine lv_goto (tgt := 73) hx hb dK8_trader_38 (by decide) ?_
              cases hf
              exact tf_lret X h dK8_trader_73
        · have hf := if_f hf c_4
          refine lv_ldc2 (v := (-1)) hx hb X.2.2.2.2.1 (X.2.2.2.2.2.2.1 _ w_483) dK8_trader_19 ?_
          cases hf
          exact tf_lret X h dK8_trader_22
theorem mK8_trader {l : Launch} {G : tf_G} (hJ : gJ (al G) 16) {r : Int64} {a1 : Int32} {a2 : Int32} {I : FI} {L : FL} (hf : fK8_trader a1 a2 I L = some r) : tf_Met l G 16 yK8_trader cK8_trader 6 (some .long) 1 24 [.ref (al G 0), .int a1, .int a2] (rE G I L) (rE G I L) (some (.long r)) :=
  tf_enter (by decide +kernel) hJ (Nat.le_of_ble_eq_true rfl) (fun p e s m args below meth c ls X _ hl h => sK8_trader_0 X a1 a2 I L hf h hl)
theorem bwK8_trader : tf_cv yK8_trader cK8_trader 6 (some .long) 2 := ⟨w_484, w_485, w_486, w_381, by decide +kernel, by decide +kernel, by decide +kernel⟩
