set_option maxHeartbeats 4000000 in
set_option maxRecDepth 100000 in
theorem sK7_feed_0 {p : Program} {l : Launch} {e : Env} {s : State} {m : MethodId} {args : Array Value} {below : List Frame} {meth : Method} {c : Code} {G : tf_G} (X : tf_X G 63 "TradeFloor" cK7_feed 2 (some .int) p s m args meth c) {r : Int32} {I9 : FI} {L9 : FL} (a1 : Int32) (I : FI) (L : FL) (hf : fK7_feed a1 I L = some (r, I9, L9)) {H : Heap} {locs : List Loc} {ls : Array Slot} (h : tf_H G 63 (cE G I L) s.heap H locs) (hl : lv_has ls 2 [(0, .ref (al G 0)), (1, .int a1)]) : W p l e (tf_rm 2 45) s m args below meth c H locs 0 0 (MQ below (tf_Q G 63 (cE G I9 L9) (some (.int r))) args s 0 0 (gA (al G) 63)) (F0 m 0 ls []) := by
  have hx := X.1
  have hb := X.2.1
  have hJ := X.2.2.2.2.2.2.2.2.2
  unfold fK7_feed at hf
  refine lv_aload_n hx hb dK7_feed_0 rfl (lv_at hl 0 rfl) ?_
  refine gf7_tape X h w_320 dK7_feed_1 ?_
  refine lv_iload_n hx hb dK7_feed_4 rfl (lv_at hl 1 rfl) ?_
  obtain ⟨r_2, I_3, L_4, h_1, hf⟩ := bq_some hf
  refine tf_callVi (As := [.int a1]) (rest := []) X h 1 (by decide) rfl rfl (mK5_add hJ h_1) bwK5_add w_321 ⟨Nat.le_of_ble_eq_true rfl, Nat.le_of_ble_eq_true rfl⟩ hl.1 rfl (Nat.le_of_ble_eq_true rfl) ⟨Nat.zero_le _, Nat.zero_le _⟩ dK7_feed_5 (fun H locs h => ?_)
  cases hf
  exact tf_iret X h dK7_feed_8
theorem mK7_feed {l : Launch} {G : tf_G} (hJ : gJ (al G) 63) {r : Int32} {I9 : FI} {L9 : FL} {a1 : Int32} {I : FI} {L : FL} (hf : fK7_feed a1 I L = some (r, I9, L9)) : tf_Met l G 63 yK7_feed cK7_feed 2 (some .int) 2 45 [.ref (al G 0), .int a1] (cE G I L) (cE G I9 L9) (some (.int r)) :=
  tf_enter (by decide +kernel) hJ (Nat.le_of_ble_eq_true rfl) (fun p e s m args below meth c ls X _ hl h => sK7_feed_0 X a1 I L hf h hl)
theorem bwK7_feed : tf_cv yK7_feed cK7_feed 2 (some .int) 1 := ⟨w_322, w_324, w_325, w_323, by decide +kernel, by decide +kernel, by decide +kernel⟩

set_option maxHeartbeats 4000000 in
set_option maxRecDepth 100000 in
theorem sK7_line_0 {p : Program} {l : Launch} {e : Env} {s : State} {m : MethodId} {args : Array Value} {below : List Frame} {meth : Method} {c : Code} {G : tf_G} (X : tf_X G 63 "TradeFloor" cK7_line 2 (some .int) p s m args meth c) {r : Int32} {I9 : FI} {L9 : FL} (I : FI) (L : FL) (hf : fK7_line I L = some (r, I9, L9)) {H : Heap} {locs : List Loc} {ls : Array Slot} (h : tf_H G 63 (cE G I L) s.heap H locs) (hl : lv_has ls 2 [(0, .ref (al G 0))]) : W p l e (tf_rm 8 172) s m args below meth c H locs 0 0 (MQ below (tf_Q G 63 (cE G I9 L9) (some (.int r))) args s 0 0 (gA (al G) 63)) (F0 m 0 ls []) := by
  have hx := X.1
  have hb := X.2.1
  have hJ := X.2.2.2.2.2.2.2.2.2
  unfold fK7_line at hf
  refine lv_aload_n hx hb dK7_line_0 rfl (lv_at hl 0 rfl) ?_
  refine gf7_command X h w_326 dK7_line_1 ?_
  refine lv_aload_n hx hb dK7_line_4 rfl (lv_at hl 0 rfl) ?_
  refine gf7_tape X h w_320 dK7_line_5 ?_
  obtain ⟨I_2, L_3, h_1, hf⟩ := bv_some hf
  refine tf_callVv (As := [.ref (al G 1)]) (rest := []) X h 5 (by decide) rfl rfl (mK1_read hJ h_1) bwK1_read w_327 ⟨Nat.le_of_ble_eq_true rfl, Nat.le_of_ble_eq_true rfl⟩ hl.1 rfl (Nat.le_of_ble_eq_true rfl) ⟨Nat.zero_le _, Nat.zero_le _⟩ dK7_line_8 (fun H locs h => ?_)
  refine lv_aload_n hx hb dK7_line_11 rfl (lv_at hl 0 rfl) ?_
  refine gf7_tape X h w_320 dK7_line_12 ?_
  obtain ⟨I_5, L_6, h_4, hf⟩ := bv_some hf
  refine tf_callVv (As := []) (rest := []) X h 1 (by decide) rfl rfl (mK5_clear hJ h_4) bwK5_clear w_328 ⟨Nat.le_of_ble_eq_true rfl, Nat.le_of_ble_eq_true rfl⟩ hl.1 rfl (Nat.le_of_ble_eq_true rfl) ⟨Nat.zero_le _, Nat.zero_le _⟩ dK7_line_15 (fun H locs h => ?_)
  refine lv_aload_n hx hb dK7_line_18 rfl (lv_at hl 0 rfl) ?_
  refine gf7_exchange X h w_329 dK7_line_19 ?_
  refine lv_aload_n hx hb dK7_line_22 rfl (lv_at hl 0 rfl) ?_
  refine gf7_command X h w_326 dK7_line_23 ?_
  obtain ⟨r_8, I_9, L_10, h_7, hf⟩ := bq_some hf
  refine tf_callVi (As := [.ref (al G 5)]) (rest := []) X h 6 (by decide) rfl rfl (mK2_perform hJ h_7) bwK2_perform w_330 ⟨Nat.le_of_ble_eq_true rfl, Nat.le_of_ble_eq_true rfl⟩ hl.1 rfl (Nat.le_of_ble_eq_true rfl) ⟨Nat.zero_le _, Nat.zero_le _⟩ dK7_line_26 (fun H locs h => ?_)
  refine lv_istore_n (lv' := [(1, .int r_8), (0, .ref (al G 0))]) hx hb dK7_line_29 rfl hl (by decide) rfl (fun ls hl => ?_)
  refine lv_iload_n hx hb dK7_line_30 rfl (lv_at hl 0 rfl) ?_
  refine lv_if_ge (tgt := 47) hx hb dK7_line_31 (by decide) (fun c_11 => ?_) (fun c_11 => ?_)
  · have hf := if_t hf c_11
    refine lv_aload_n hx hb dK7_line_47 rfl (lv_at hl 1 rfl) ?_
    refine gf7_exchange X h w_329 dK7_line_48 ?_
    obtain ⟨I_13, L_14, h_12, hf⟩ := bv_some hf
    refine tf_callVv (As := []) (rest := []) X h 6 (by decide) rfl rfl (mK2_wakeStops hJ h_12) bwK2_wakeStops w_331 ⟨Nat.le_of_ble_eq_true rfl, Nat.le_of_ble_eq_true rfl⟩ hl.1 rfl (Nat.le_of_ble_eq_true rfl) ⟨Nat.zero_le _, Nat.zero_le _⟩ dK7_line_51 (fun H locs h => ?_)
    refine lv_iload_n hx hb dK7_line_54 rfl (lv_at hl 0 rfl) ?_
    cases hf
    exact tf_iret X h dK7_line_55
  · have hf := if_f hf c_11
    refine lv_aload_n hx hb dK7_line_34 rfl (lv_at hl 1 rfl) ?_
    refine lv_dup hx hb dK7_line_35 rfl ?_
    refine gf7_refusals X h w_332 dK7_line_36 ?_
    refine lv_iconst (v := 1) hx hb dK7_line_39 (by decide) ?_
    refine lv_iadd hx hb dK7_line_40 ?_
    obtain ⟨I_15, eI_15, hf⟩ := nm_some hf
    refine pf7_refusals X h eI_15 w_332 dK7_line_41 (fun H locs h => ?_)
    refine lv_goto (tgt := 54) hx hb dK7_line_44 (by decide) ?_
    refine lv_iload_n hx hb dK7_line_54 rfl (lv_at hl 0 rfl) ?_
    cases hf
    exact tf_iret X h dK7_line_55
theorem mK7_line {l : Launch} {G : tf_G} (hJ : gJ (al G) 63) {r : Int32} {I9 : FI} {L9 : FL} {I : FI} {L : FL} (hf : fK7_line I L = some (r, I9, L9)) : tf_Met l G 63 yK7_line cK7_line 2 (some .int) 8 172 [.ref (al G 0)] (cE G I L) (cE G I9 L9) (some (.int r)) :=
  tf_enter (by decide +kernel) hJ (Nat.le_of_ble_eq_true rfl) (fun p e s m args below meth c ls X _ hl h => sK7_line_0 X I L hf h hl)
theorem bwK7_line : tf_cv yK7_line cK7_line 2 (some .int) 0 := ⟨w_333, w_334, w_335, w_323, by decide +kernel, by decide +kernel, by decide +kernel⟩

set_option maxHeartbeats 4000000 in
set_option maxRecDepth 100000 in
theorem sK7_order_0 {p : Program} {l : Launch} {e : Env} {s : State} {m : MethodId} {args : Array Value} {below : List Frame} {meth : Method} {c : Code} {G : tf_G} (X : tf_X G 63 "TradeFloor" cK7_order 4 (some .int) p s m args meth c) {r : Int32} (a1 : Int32) (a2 : Int32) (I : FI) (L : FL) (hf : fK7_order a1 a2 I L = some r) {H : Heap} {locs : List Loc} {ls : Array Slot} (h : tf_H G 63 (cE G I L) s.heap H locs) (hl : lv_has ls 4 [(0, .ref (al G 0)), (1, .int a1), (2, .int a2)]) : W p l e (tf_rm 1 21) s m args below meth c H locs 0 0 (MQ below (tf_Q G 63 (cE G I L) (some (.int r))) args s 0 0 (gA (al G) 63)) (F0 m 0 ls []) := by
  have hx := X.1
  have hb := X.2.1
  have hJ := X.2.2.2.2.2.2.2.2.2
  unfold fK7_order at hf
  refine lv_aload_n hx hb dK7_order_0 rfl (lv_at hl 0 rfl) ?_
  refine gf7_exchange X h w_329 dK7_order_1 ?_
  refine gf2_orders X h w_336 dK7_order_4 ?_
  refine lv_iload_n hx hb dK7_order_7 rfl (lv_at hl 1 rfl) ?_
  obtain ⟨r_2, h_1, hf⟩ := bn_some hf
  refine tf_callVi (As := [.int a1]) (rest := []) X h 8 (by decide) rfl rfl (mK4_has hJ h_1) bwK4_has w_337 ⟨Nat.le_of_ble_eq_true rfl, Nat.le_of_ble_eq_true rfl⟩ hl.1 rfl (Nat.le_of_ble_eq_true rfl) ⟨Nat.zero_le _, Nat.zero_le _⟩ dK7_order_8 (fun H locs h => ?_)
  refine lv_if_ne (tgt := 16) hx hb dK7_order_11 (by decide) (fun c_3 => ?_) (fun c_3 => ?_)
  · have hf := if_f hf c_3
    refine lv_aload_n hx hb dK7_order_16 rfl (lv_at hl 0 rfl) ?_
    refine gf7_exchange X h w_329 dK7_order_17 ?_
    refine gf2_orders X h w_336 dK7_order_20 ?_
    refine gf4_rows X h w_338 dK7_order_23 ?_
    refine lv_iload_n hx hb dK7_order_26 rfl (lv_at hl 1 rfl) ?_
    obtain ⟨o_5, qo_5, hi_4, hf⟩ := g40_some hf
    refine gac_9 X h o_5 qo_5 hi_4 dK7_order_27 ?_
    refine lv_astore_n (lv' := [(3, .ref (al G (o_5.val + 23))), (0, .ref (al G 0)), (1, .int a1), (2, .int a2)]) hx hb dK7_order_28 rfl hl (by decide) rfl (fun ls hl => ?_)
    refine lv_iload_n hx hb dK7_order_29 rfl (lv_at hl 3 rfl) ?_
    rcases Decidable.em (a2 = 0) with c_6 | c_6
    · have hf := if_t hf c_6
      refine lv_tableIn (off := 38) (tgt := 68) hx hb dK7_order_30 (by rw [c_6]; decide) (by rw [c_6]; decide) (by rw [c_6]; rfl) (by decide) ?_
      refine lv_aload_n hx hb dK7_order_68 rfl (lv_at hl 0 rfl) ?_
      refine gf3_owner X h o_5 w_339 dK7_order_69 ?_
      cases hf
      exact tf_iret X h dK7_order_72
    · have hf := if_f hf c_6
      rcases Decidable.em (a2 = 1) with c_7 | c_7
      · have hf := if_t hf c_7
        refine lv_tableIn (off := 43) (tgt := 73) hx hb dK7_order_30 (by rw [c_7]; decide) (by rw [c_7]; decide) (by rw [c_7]; rfl) (by decide) ?_
        refine lv_aload_n hx hb dK7_order_73 rfl (lv_at hl 0 rfl) ?_
        refine gf3_side X h o_5 w_340 dK7_order_74 ?_
        cases hf
        exact tf_iret X h dK7_order_77
      · have hf := if_f hf c_7
        rcases Decidable.em (a2 = 2) with c_8 | c_8
        · have hf := if_t hf c_8
          refine lv_tableIn (off := 48) (tgt := 78) hx hb dK7_order_30 (by rw [c_8]; decide) (by rw [c_8]; decide) (by rw [c_8]; rfl) (by decide) ?_
          refine lv_aload_n hx hb dK7_order_78 rfl (lv_at hl 0 rfl) ?_
          refine gf3_left X h o_5 w_341 dK7_order_79 ?_
          cases hf
          exact tf_iret X h dK7_order_82
        · have hf := if_f hf c_8
          rcases Decidable.em (a2 = 3) with c_9 | c_9
          · have hf := if_t hf c_9
            refine lv_tableIn (off := 53) (tgt := 83) hx hb dK7_order_30 (by rw [c_9]; decide) (by rw [c_9]; decide) (by rw [c_9]; rfl) (by decide) ?_
            refine lv_aload_n hx hb dK7_order_83 rfl (lv_at hl 0 rfl) ?_
            refine gf3_price X h o_5 w_342 dK7_order_84 ?_
            cases hf
            exact tf_iret X h dK7_order_87
          · have hf := if_f hf c_9
            rcases Decidable.em (a2 = 4) with c_10 | c_10
            · have hf := if_t hf c_10
              refine lv_tableIn (off := 58) (tgt := 88) hx hb dK7_order_30 (by rw [c_10]; decide) (by rw [c_10]; decide) (by rw [c_10]; rfl) (by decide) ?_
              refine lv_aload_n hx hb dK7_order_88 rfl (lv_at hl 0 rfl) ?_
              refine gf3_state X h o_5 w_343 dK7_order_89 ?_
              cases hf
              exact tf_iret X h dK7_order_92
            · have hf := if_f hf c_10
              rcases Decidable.em (a2 = 5) with c_11 | c_11
              · have hf := if_t hf c_11
                refine lv_tableIn (off := 63) (tgt := 93) hx hb dK7_order_30 (by rw [c_11]; decide) (by rw [c_11]; decide) (by rw [c_11]; rfl) (by decide) ?_
                refine lv_aload_n hx hb dK7_order_93 rfl (lv_at hl 0 rfl) ?_
                refine gf3_end X h o_5 w_344 dK7_order_94 ?_
                cases hf
                exact tf_iret X h dK7_order_97
              · have hf := if_f hf c_11
                refine lv_tableOut (tgt := 98) hx hb dK7_order_30 (by have n0 := lv_neT (a := 0) c_6 (by decide) ; have n1 := lv_neT (a := 1) c_7 (by decide) ; have n2 := lv_neT (a := 2) c_8 (by decide) ; have n3 := lv_neT (a := 3) c_9 (by decide) ; have n4 := lv_neT (a := 4) c_10 (by decide) ; have n5 := lv_neT (a := 5) c_11 (by decide) ; omega) (by decide) ?_
                refine lv_iconst (v := (-1)) hx hb dK7_order_98 (by decide) ?_
                cases hf
                exact tf_iret X h dK7_order_99
  · have hf := if_t hf c_3
    refine lv_iconst (v := (-1)) hx hb dK7_order_14 (by decide) ?_
    cases hf
    exact tf_iret X h dK7_order_15
theorem mK7_order {l : Launch} {G : tf_G} (hJ : gJ (al G) 63) {r : Int32} {a1 : Int32} {a2 : Int32} {I : FI} {L : FL} (hf : fK7_order a1 a2 I L = some r) : tf_Met l G 63 yK7_order cK7_order 4 (some .int) 1 21 [.ref (al G 0), .int a1, .int a2] (cE G I L) (cE G I L) (some (.int r)) :=
  tf_enter (by decide +kernel) hJ (Nat.le_of_ble_eq_true rfl) (fun p e s m args below meth c ls X _ hl h => sK7_order_0 X a1 a2 I L hf h hl)
theorem bwK7_order : tf_cv yK7_order cK7_order 4 (some .int) 2 := ⟨w_345, w_346, w_347, w_323, by decide +kernel, by decide +kernel, by decide +kernel⟩

set_option maxHeartbeats 4000000 in
set_option maxRecDepth 100000 in
theorem sK7_trader_0 {p : Program} {l : Launch} {e : Env} {s : State} {m : MethodId} {args : Array Value} {below : List Frame} {meth : Method} {c : Code} {G : tf_G} (X : tf_X G 63 "TradeFloor" cK7_trader 4 (some .long) p s m args meth c) {r : Int64} (a1 : Int32) (a2 : Int32) (I : FI) (L : FL) (hf : fK7_trader a1 a2 I L = some r) {H : Heap} {locs : List Loc} {ls : Array Slot} (h : tf_H G 63 (cE G I L) s.heap H locs) (hl : lv_has ls 4 [(0, .ref (al G 0)), (1, .int a1), (2, .int a2)]) : W p l e (tf_rm 1 23) s m args below meth c H locs 0 0 (MQ below (tf_Q G 63 (cE G I L) (some (.long r))) args s 0 0 (gA (al G) 63)) (F0 m 0 ls []) := by
  have hx := X.1
  have hb := X.2.1
  have hJ := X.2.2.2.2.2.2.2.2.2
  unfold fK7_trader at hf
  refine lv_iload_n hx hb dK7_trader_0 rfl (lv_at hl 1 rfl) ?_
  refine lv_if_lt (tgt := 10) hx hb dK7_trader_1 (by decide) (fun c_1 => ?_) (fun c_1 => ?_)
  · have hf := if_t hf c_1
    refine lv_ldc2 (v := (-1)) hx hb X.2.2.2.2.1 (X.2.2.2.2.2.2.1 _ w_348) dK7_trader_10 ?_
    cases hf
    exact tf_lret X h dK7_trader_13
  · have hf := if_f hf c_1
    refine lv_iload_n hx hb dK7_trader_4 rfl (lv_at hl 1 rfl) ?_
    refine lv_bipush (v := 8) hx hb dK7_trader_5 (by decide) ?_
    refine lv_icmp_lt (tgt := 14) hx hb dK7_trader_7 (by decide) (fun c_2 => ?_) (fun c_2 => ?_)
    · have hf := if_t hf c_2
      refine lv_aload_n hx hb dK7_trader_14 rfl (lv_at hl 0 rfl) ?_
      refine gf7_exchange X h w_329 dK7_trader_15 ?_
      refine gf2_accounts X h w_349 dK7_trader_18 ?_
      refine lv_iload_n hx hb dK7_trader_21 rfl (lv_at hl 1 rfl) ?_
      obtain ⟨o_4, qo_4, hi_3, hf⟩ := g8_some hf
      refine gac_7 X h o_4 qo_4 hi_3 dK7_trader_22 ?_
      refine lv_astore_n (lv' := [(3, .ref (al G (o_4.val + 15))), (0, .ref (al G 0)), (1, .int a1), (2, .int a2)]) hx hb dK7_trader_23 rfl hl (by decide) rfl (fun ls hl => ?_)
      refine lv_iload_n hx hb dK7_trader_24 rfl (lv_at hl 3 rfl) ?_
      rcases Decidable.em (a2 = 0) with c_5 | c_5
      · have hf := if_t hf c_5
        refine lv_tableIn (off := 35) (tgt := 60) hx hb dK7_trader_25 (by rw [c_5]; decide) (by rw [c_5]; decide) (by rw [c_5]; rfl) (by decide) ?_
        refine lv_aload_n hx hb dK7_trader_60 rfl (lv_at hl 0 rfl) ?_
        refine gf0_cash X h o_4 w_350 dK7_trader_61 ?_
        cases hf
        exact tf_lret X h dK7_trader_64
      · have hf := if_f hf c_5
        rcases Decidable.em (a2 = 1) with c_6 | c_6
        · have hf := if_t hf c_6
          refine lv_tableIn (off := 40) (tgt := 65) hx hb dK7_trader_25 (by rw [c_6]; decide) (by rw [c_6]; decide) (by rw [c_6]; rfl) (by decide) ?_
          refine lv_aload_n hx hb dK7_trader_65 rfl (lv_at hl 0 rfl) ?_
          refine gf0_goods X h o_4 w_351 dK7_trader_66 ?_
          cases hf
          exact tf_lret X h dK7_trader_69
        · have hf := if_f hf c_6
          rcases Decidable.em (a2 = 2) with c_7 | c_7
          · have hf := if_t hf c_7
            refine lv_tableIn (off := 45) (tgt := 70) hx hb dK7_trader_25 (by rw [c_7]; decide) (by rw [c_7]; decide) (by rw [c_7]; rfl) (by decide) ?_
            refine lv_aload_n hx hb dK7_trader_70 rfl (lv_at hl 0 rfl) ?_
            refine gf0_heldCash X h o_4 w_352 dK7_trader_71 ?_
            cases hf
            exact tf_lret X h dK7_trader_74
          · have hf := if_f hf c_7
            rcases Decidable.em (a2 = 3) with c_8 | c_8
            · have hf := if_t hf c_8
              refine lv_tableIn (off := 50) (tgt := 75) hx hb dK7_trader_25 (by rw [c_8]; decide) (by rw [c_8]; decide) (by rw [c_8]; rfl) (by decide) ?_
              refine lv_aload_n hx hb dK7_trader_75 rfl (lv_at hl 0 rfl) ?_
              refine gf0_heldGoods X h o_4 w_353 dK7_trader_76 ?_
              cases hf
              exact tf_lret X h dK7_trader_79
            · have hf := if_f hf c_8
              rcases Decidable.em (a2 = 4) with c_9 | c_9
              · have hf := if_t hf c_9
                refine lv_tableIn (off := 55) (tgt := 80) hx hb dK7_trader_25 (by rw [c_9]; decide) (by rw [c_9]; decide) (by rw [c_9]; rfl) (by decide) ?_
                refine lv_aload_n hx hb dK7_trader_80 rfl (lv_at hl 1 rfl) ?_
                refine gf7_exchange X h w_329 dK7_trader_81 ?_
                refine gf2_orders X h w_336 dK7_trader_84 ?_
                refine lv_iload_n hx hb dK7_trader_87 rfl (lv_at hl 2 rfl) ?_
                obtain ⟨r_11, h_10, hf⟩ := bn_some hf
                refine tf_callVi (As := [.int a1]) (rest := []) X h 8 (by decide) rfl rfl (mK4_waitingOf hJ h_10) bwK4_waitingOf w_354 ⟨Nat.le_of_ble_eq_true rfl, Nat.le_of_ble_eq_true rfl⟩ hl.1 rfl (Nat.le_of_ble_eq_true rfl) ⟨Nat.zero_le _, Nat.zero_le _⟩ dK7_trader_88 (fun H locs h => ?_)
                refine lv_i2l hx hb dK7_trader_91 rfl ?_
                cases hf
                exact tf_lret X h dK7_trader_92
              · have hf := if_f hf c_9
                refine lv_tableOut (tgt := 93) hx hb dK7_trader_25 (by have n0 := lv_neT (a := 0) c_5 (by decide) ; have n1 := lv_neT (a := 1) c_6 (by decide) ; have n2 := lv_neT (a := 2) c_7 (by decide) ; have n3 := lv_neT (a := 3) c_8 (by decide) ; have n4 := lv_neT (a := 4) c_9 (by decide) ; omega) (by decide) ?_
                refine lv_ldc2 (v := (-1)) hx hb X.2.2.2.2.1 (X.2.2.2.2.2.2.1 _ w_348) dK7_trader_93 ?_
                cases hf
                exact tf_lret X h dK7_trader_96
    · have hf := if_f hf c_2
      refine lv_ldc2 (v := (-1)) hx hb X.2.2.2.2.1 (X.2.2.2.2.2.2.1 _ w_348) dK7_trader_10 ?_
      cases hf
      exact tf_lret X h dK7_trader_13
theorem mK7_trader {l : Launch} {G : tf_G} (hJ : gJ (al G) 63) {r : Int64} {a1 : Int32} {a2 : Int32} {I : FI} {L : FL} (hf : fK7_trader a1 a2 I L = some r) : tf_Met l G 63 yK7_trader cK7_trader 4 (some .long) 1 23 [.ref (al G 0), .int a1, .int a2] (cE G I L) (cE G I L) (some (.long r)) :=
  tf_enter (by decide +kernel) hJ (Nat.le_of_ble_eq_true rfl) (fun p e s m args below meth c ls X _ hl h => sK7_trader_0 X a1 a2 I L hf h hl)
theorem bwK7_trader : tf_cv yK7_trader cK7_trader 4 (some .long) 2 := ⟨w_355, w_356, w_357, w_323, by decide +kernel, by decide +kernel, by decide +kernel⟩

set_option maxHeartbeats 4000000 in
set_option maxRecDepth 100000 in
theorem sK7_level_11 {p : Program} {l : Launch} {e : Env} {s : State} {m : MethodId} {args : Array Value} {below : List Frame} {meth : Method} {c : Code} {G : tf_G} (X : tf_X G 63 "TradeFloor" cK7_level 5 (some .int) p s m args meth c) {r : Int32} (v1 : Int32) (v2 : Int32) (v3 : Int32) (I : FI) (L : FL) (hf : fK7_level_11 v1 v2 v3 I L = some r) {H : Heap} {locs : List Loc} {ls : Array Slot} (h : tf_H G 63 (cE G I L) s.heap H locs) (hl : lv_has ls 5 [(0, .ref (al G 0)), (1, .int v1), (2, .int v2), (3, .int v3)]) : W p l e (tf_rm 3 72) s m args below meth c H locs 0 0 (MQ below (tf_Q G 63 (cE G I L) (some (.int r))) args s 0 0 (gA (al G) 63)) (F0 m 11 ls []) := by
  have hx := X.1
  have hb := X.2.1
  have hJ := X.2.2.2.2.2.2.2.2.2
  unfold fK7_level_11 at hf
  refine lv_aload_n hx hb dK7_level_11 rfl (lv_at hl 0 rfl) ?_
  refine gf7_exchange X h w_329 dK7_level_12 ?_
  refine gf2_orders X h w_336 dK7_level_15 ?_
  refine lv_iload_n hx hb dK7_level_18 rfl (lv_at hl 1 rfl) ?_
  refine lv_iload_n hx hb dK7_level_19 rfl (lv_at hl 2 rfl) ?_
  obtain ⟨r_2, h_1, hf⟩ := bn_some hf
  refine tf_callVi (As := [.int v1, .int v2]) (rest := []) X h 8 (by decide) rfl rfl (mK4_priceAt hJ h_1) bwK4_priceAt w_358 ⟨Nat.le_of_ble_eq_true rfl, Nat.le_of_ble_eq_true rfl⟩ hl.1 rfl (Nat.le_of_ble_eq_true rfl) ⟨Nat.zero_le _, Nat.zero_le _⟩ dK7_level_20 (fun H locs h => ?_)
  refine lv_istore (lv' := [(4, .int r_2), (0, .ref (al G 0)), (1, .int v1), (2, .int v2), (3, .int v3)]) hx hb dK7_level_23 hl (by decide) rfl (fun ls hl => ?_)
  refine lv_iload hx hb dK7_level_25 (lv_at hl 0 rfl) ?_
  refine lv_iconst (v := (-1)) hx hb dK7_level_27 (by decide) ?_
  refine lv_icmp_ne (tgt := 33) hx hb dK7_level_28 (by decide) (fun c_3 => ?_) (fun c_3 => ?_)
  · have hf := if_f hf c_3
    refine lv_iload_n hx hb dK7_level_33 rfl (lv_at hl 4 rfl) ?_
    rcases Decidable.em (v3 = 0) with c_4 | c_4
    · have hf := if_t hf c_4
      refine lv_tableIn (off := 26) (tgt := 60) hx hb dK7_level_34 (by rw [c_4]; decide) (by rw [c_4]; decide) (by rw [c_4]; rfl) (by decide) ?_
      refine lv_iload hx hb dK7_level_60 (lv_at hl 0 rfl) ?_
      cases hf
      exact tf_iret X h dK7_level_62
    · have hf := if_f hf c_4
      rcases Decidable.em (v3 = 1) with c_5 | c_5
      · have hf := if_t hf c_5
        refine lv_tableIn (off := 29) (tgt := 63) hx hb dK7_level_34 (by rw [c_5]; decide) (by rw [c_5]; decide) (by rw [c_5]; rfl) (by decide) ?_
        refine lv_aload_n hx hb dK7_level_63 rfl (lv_at hl 1 rfl) ?_
        refine gf7_exchange X h w_329 dK7_level_64 ?_
        refine gf2_orders X h w_336 dK7_level_67 ?_
        refine lv_iload_n hx hb dK7_level_70 rfl (lv_at hl 2 rfl) ?_
        refine lv_iload hx hb dK7_level_71 (lv_at hl 0 rfl) ?_
        obtain ⟨r_7, h_6, hf⟩ := bn_some hf
        refine tf_callVi (As := [.int v1, .int r_2]) (rest := []) X h 8 (by decide) rfl rfl (mK4_leftAt hJ h_6) bwK4_leftAt w_359 ⟨Nat.le_of_ble_eq_true rfl, Nat.le_of_ble_eq_true rfl⟩ hl.1 rfl (Nat.le_of_ble_eq_true rfl) ⟨Nat.zero_le _, Nat.zero_le _⟩ dK7_level_73 (fun H locs h => ?_)
        cases hf
        exact tf_iret X h dK7_level_76
      · have hf := if_f hf c_5
        rcases Decidable.em (v3 = 2) with c_8 | c_8
        · have hf := if_t hf c_8
          refine lv_tableIn (off := 43) (tgt := 77) hx hb dK7_level_34 (by rw [c_8]; decide) (by rw [c_8]; decide) (by rw [c_8]; rfl) (by decide) ?_
          refine lv_aload_n hx hb dK7_level_77 rfl (lv_at hl 1 rfl) ?_
          refine gf7_exchange X h w_329 dK7_level_78 ?_
          refine gf2_orders X h w_336 dK7_level_81 ?_
          refine lv_iload_n hx hb dK7_level_84 rfl (lv_at hl 2 rfl) ?_
          refine lv_iload hx hb dK7_level_85 (lv_at hl 0 rfl) ?_
          obtain ⟨r_10, h_9, hf⟩ := bn_some hf
          refine tf_callVi (As := [.int v1, .int r_2]) (rest := []) X h 8 (by decide) rfl rfl (mK4_ordersAt hJ h_9) bwK4_ordersAt w_360 ⟨Nat.le_of_ble_eq_true rfl, Nat.le_of_ble_eq_true rfl⟩ hl.1 rfl (Nat.le_of_ble_eq_true rfl) ⟨Nat.zero_le _, Nat.zero_le _⟩ dK7_level_87 (fun H locs h => ?_)
          cases hf
          exact tf_iret X h dK7_level_90
        · have hf := if_f hf c_8
          refine lv_tableOut (tgt := 91) hx hb dK7_level_34 (by have n0 := lv_neT (a := 0) c_4 (by decide) ; have n1 := lv_neT (a := 1) c_5 (by decide) ; have n2 := lv_neT (a := 2) c_8 (by decide) ; omega) (by decide) ?_
          refine lv_iconst (v := (-1)) hx hb dK7_level_91 (by decide) ?_
          cases hf
          exact tf_iret X h dK7_level_92
  · have hf := if_t hf c_3
    refine lv_iconst (v := (-1)) hx hb dK7_level_31 (by decide) ?_
    cases hf
    exact tf_iret X h dK7_level_32
set_option maxHeartbeats 4000000 in
set_option maxRecDepth 100000 in
theorem sK7_level_0 {p : Program} {l : Launch} {e : Env} {s : State} {m : MethodId} {args : Array Value} {below : List Frame} {meth : Method} {c : Code} {G : tf_G} (X : tf_X G 63 "TradeFloor" cK7_level 5 (some .int) p s m args meth c) {r : Int32} (a1 : Int32) (a2 : Int32) (a3 : Int32) (I : FI) (L : FL) (hf : fK7_level a1 a2 a3 I L = some r) {H : Heap} {locs : List Loc} {ls : Array Slot} (h : tf_H G 63 (cE G I L) s.heap H locs) (hl : lv_has ls 5 [(0, .ref (al G 0)), (1, .int a1), (2, .int a2), (3, .int a3)]) : W p l e (tf_rm 3 72) s m args below meth c H locs 0 0 (MQ below (tf_Q G 63 (cE G I L) (some (.int r))) args s 0 0 (gA (al G) 63)) (F0 m 0 ls []) := by
  have hx := X.1
  have hb := X.2.1
  have hJ := X.2.2.2.2.2.2.2.2.2
  unfold fK7_level at hf
  refine lv_iload_n hx hb dK7_level_0 rfl (lv_at hl 1 rfl) ?_
  refine lv_if_eq (tgt := 11) hx hb dK7_level_1 (by decide) (fun c_1 => ?_) (fun c_1 => ?_)
  · have hf := if_t hf c_1
    exact sK7_level_11 X a1 a2 a3 I L hf h hl
  · have hf := if_f hf c_1
    refine lv_iload_n hx hb dK7_level_4 rfl (lv_at hl 1 rfl) ?_
    refine lv_iconst (v := 1) hx hb dK7_level_5 (by decide) ?_
    refine lv_icmp_eq (tgt := 11) hx hb dK7_level_6 (by decide) (fun c_2 => ?_) (fun c_2 => ?_)
    · have hf := if_t hf c_2
      exact sK7_level_11 X a1 a2 a3 I L hf h hl
    · have hf := if_f hf c_2
      refine lv_iconst (v := (-1)) hx hb dK7_level_9 (by decide) ?_
      cases hf
      exact tf_iret X h dK7_level_10
theorem mK7_level {l : Launch} {G : tf_G} (hJ : gJ (al G) 63) {r : Int32} {a1 : Int32} {a2 : Int32} {a3 : Int32} {I : FI} {L : FL} (hf : fK7_level a1 a2 a3 I L = some r) : tf_Met l G 63 yK7_level cK7_level 5 (some .int) 3 72 [.ref (al G 0), .int a1, .int a2, .int a3] (cE G I L) (cE G I L) (some (.int r)) :=
  tf_enter (by decide +kernel) hJ (Nat.le_of_ble_eq_true rfl) (fun p e s m args below meth c ls X _ hl h => sK7_level_0 X a1 a2 a3 I L hf h hl)
theorem bwK7_level : tf_cv yK7_level cK7_level 5 (some .int) 3 := ⟨w_361, w_362, w_363, w_323, by decide +kernel, by decide +kernel, by decide +kernel⟩

set_option maxHeartbeats 4000000 in
set_option maxRecDepth 100000 in
theorem sK7_trade_0 {p : Program} {l : Launch} {e : Env} {s : State} {m : MethodId} {args : Array Value} {below : List Frame} {meth : Method} {c : Code} {G : tf_G} (X : tf_X G 63 "TradeFloor" cK7_trade 3 (some .int) p s m args meth c) {r : Int32} (a1 : Int32) (a2 : Int32) (I : FI) (L : FL) (hf : fK7_trade a1 a2 I L = some r) {H : Heap} {locs : List Loc} {ls : Array Slot} (h : tf_H G 63 (cE G I L) s.heap H locs) (hl : lv_has ls 3 [(0, .ref (al G 0)), (1, .int a1), (2, .int a2)]) : W p l e (tf_rm 1 23) s m args below meth c H locs 0 0 (MQ below (tf_Q G 63 (cE G I L) (some (.int r))) args s 0 0 (gA (al G) 63)) (F0 m 0 ls []) := by
  have hx := X.1
  have hb := X.2.1
  have hJ := X.2.2.2.2.2.2.2.2.2
  unfold fK7_trade at hf
  refine lv_aload_n hx hb dK7_trade_0 rfl (lv_at hl 0 rfl) ?_
  refine gf7_exchange X h w_329 dK7_trade_1 ?_
  refine gf2_trades X h w_364 dK7_trade_4 ?_
  refine lv_iload_n hx hb dK7_trade_7 rfl (lv_at hl 1 rfl) ?_
  refine lv_iload_n hx hb dK7_trade_8 rfl (lv_at hl 2 rfl) ?_
  obtain ⟨r_2, h_1, hf⟩ := bn_some hf
  refine tf_callVi (As := [.int a1, .int a2]) (rest := []) X h 10 (by decide) rfl rfl (mK6_look hJ h_1) bwK6_look w_365 ⟨Nat.le_of_ble_eq_true rfl, Nat.le_of_ble_eq_true rfl⟩ hl.1 rfl (Nat.le_of_ble_eq_true rfl) ⟨Nat.zero_le _, Nat.zero_le _⟩ dK7_trade_9 (fun H locs h => ?_)
  cases hf
  exact tf_iret X h dK7_trade_12
theorem mK7_trade {l : Launch} {G : tf_G} (hJ : gJ (al G) 63) {r : Int32} {a1 : Int32} {a2 : Int32} {I : FI} {L : FL} (hf : fK7_trade a1 a2 I L = some r) : tf_Met l G 63 yK7_trade cK7_trade 3 (some .int) 1 23 [.ref (al G 0), .int a1, .int a2] (cE G I L) (cE G I L) (some (.int r)) :=
  tf_enter (by decide +kernel) hJ (Nat.le_of_ble_eq_true rfl) (fun p e s m args below meth c ls X _ hl h => sK7_trade_0 X a1 a2 I L hf h hl)
theorem bwK7_trade : tf_cv yK7_trade cK7_trade 3 (some .int) 2 := ⟨w_366, w_367, w_368, w_323, by decide +kernel, by decide +kernel, by decide +kernel⟩

set_option maxHeartbeats 4000000 in
set_option maxRecDepth 100000 in
theorem sK7_count_0 {p : Program} {l : Launch} {e : Env} {s : State} {m : MethodId} {args : Array Value} {below : List Frame} {meth : Method} {c : Code} {G : tf_G} (X : tf_X G 63 "TradeFloor" cK7_count 2 (some .int) p s m args meth c) {r : Int32} (a1 : Int32) (I : FI) (L : FL) (hf : fK7_count a1 I L = some r) {H : Heap} {locs : List Loc} {ls : Array Slot} (h : tf_H G 63 (cE G I L) s.heap H locs) (hl : lv_has ls 2 [(0, .ref (al G 0)), (1, .int a1)]) : W p l e (tf_rm 1 22) s m args below meth c H locs 0 0 (MQ below (tf_Q G 63 (cE G I L) (some (.int r))) args s 0 0 (gA (al G) 63)) (F0 m 0 ls []) := by
  have hx := X.1
  have hb := X.2.1
  have hJ := X.2.2.2.2.2.2.2.2.2
  unfold fK7_count at hf
  refine lv_iload_n hx hb dK7_count_0 rfl (lv_at hl 1 rfl) ?_
  rcases Decidable.em (a1 = 0) with c_1 | c_1
  · have hf := if_t hf c_1
    refine lv_tableIn (off := 43) (tgt := 44) hx hb dK7_count_1 (by rw [c_1]; decide) (by rw [c_1]; decide) (by rw [c_1]; rfl) (by decide) ?_
    refine lv_aload_n hx hb dK7_count_44 rfl (lv_at hl 0 rfl) ?_
    refine gf7_exchange X h w_329 dK7_count_45 ?_
    refine gf2_orders X h w_336 dK7_count_48 ?_
    refine gf4_size X h w_369 dK7_count_51 ?_
    cases hf
    exact tf_iret X h dK7_count_54
  · have hf := if_f hf c_1
    rcases Decidable.em (a1 = 1) with c_2 | c_2
    · have hf := if_t hf c_2
      refine lv_tableIn (off := 54) (tgt := 55) hx hb dK7_count_1 (by rw [c_2]; decide) (by rw [c_2]; decide) (by rw [c_2]; rfl) (by decide) ?_
      refine lv_aload_n hx hb dK7_count_55 rfl (lv_at hl 0 rfl) ?_
      refine gf7_exchange X h w_329 dK7_count_56 ?_
      refine gf2_trades X h w_364 dK7_count_59 ?_
      refine gf6_made X h w_370 dK7_count_62 ?_
      cases hf
      exact tf_iret X h dK7_count_65
    · have hf := if_f hf c_2
      rcases Decidable.em (a1 = 2) with c_3 | c_3
      · have hf := if_t hf c_3
        refine lv_tableIn (off := 65) (tgt := 66) hx hb dK7_count_1 (by rw [c_3]; decide) (by rw [c_3]; decide) (by rw [c_3]; rfl) (by decide) ?_
        refine lv_aload_n hx hb dK7_count_66 rfl (lv_at hl 0 rfl) ?_
        refine gf7_refusals X h w_332 dK7_count_67 ?_
        cases hf
        exact tf_iret X h dK7_count_70
      · have hf := if_f hf c_3
        rcases Decidable.em (a1 = 3) with c_4 | c_4
        · have hf := if_t hf c_4
          refine lv_tableIn (off := 70) (tgt := 71) hx hb dK7_count_1 (by rw [c_4]; decide) (by rw [c_4]; decide) (by rw [c_4]; rfl) (by decide) ?_
          refine lv_aload_n hx hb dK7_count_71 rfl (lv_at hl 0 rfl) ?_
          refine gf7_exchange X h w_329 dK7_count_72 ?_
          refine gf2_last X h w_371 dK7_count_75 ?_
          cases hf
          exact tf_iret X h dK7_count_78
        · have hf := if_f hf c_4
          rcases Decidable.em (a1 = 4) with c_5 | c_5
          · have hf := if_t hf c_5
            refine lv_tableIn (off := 78) (tgt := 79) hx hb dK7_count_1 (by rw [c_5]; decide) (by rw [c_5]; decide) (by rw [c_5]; rfl) (by decide) ?_
            refine lv_aload_n hx hb dK7_count_79 rfl (lv_at hl 0 rfl) ?_
            refine gf7_exchange X h w_329 dK7_count_80 ?_
            refine gf2_now X h w_372 dK7_count_83 ?_
            cases hf
            exact tf_iret X h dK7_count_86
          · have hf := if_f hf c_5
            rcases Decidable.em (a1 = 5) with c_6 | c_6
            · have hf := if_t hf c_6
              refine lv_tableIn (off := 86) (tgt := 87) hx hb dK7_count_1 (by rw [c_6]; decide) (by rw [c_6]; decide) (by rw [c_6]; rfl) (by decide) ?_
              refine lv_aload_n hx hb dK7_count_87 rfl (lv_at hl 0 rfl) ?_
              refine gf7_tape X h w_320 dK7_count_88 ?_
              refine gf5_size X h w_373 dK7_count_91 ?_
              cases hf
              exact tf_iret X h dK7_count_94
            · have hf := if_f hf c_6
              rcases Decidable.em (a1 = 6) with c_7 | c_7
              · have hf := if_t hf c_7
                refine lv_tableIn (off := 94) (tgt := 95) hx hb dK7_count_1 (by rw [c_7]; decide) (by rw [c_7]; decide) (by rw [c_7]; rfl) (by decide) ?_
                refine lv_aload_n hx hb dK7_count_95 rfl (lv_at hl 0 rfl) ?_
                refine gf7_exchange X h w_329 dK7_count_96 ?_
                refine gf2_orders X h w_336 dK7_count_99 ?_
                obtain ⟨r_9, h_8, hf⟩ := bn_some hf
                refine tf_callVi (As := []) (rest := []) X h 8 (by decide) rfl rfl (mK4_sleepingStops hJ h_8) bwK4_sleepingStops w_374 ⟨Nat.le_of_ble_eq_true rfl, Nat.le_of_ble_eq_true rfl⟩ hl.1 rfl (Nat.le_of_ble_eq_true rfl) ⟨Nat.zero_le _, Nat.zero_le _⟩ dK7_count_102 (fun H locs h => ?_)
                cases hf
                exact tf_iret X h dK7_count_105
              · have hf := if_f hf c_7
                refine lv_tableOut (tgt := 106) hx hb dK7_count_1 (by have n0 := lv_neT (a := 0) c_1 (by decide) ; have n1 := lv_neT (a := 1) c_2 (by decide) ; have n2 := lv_neT (a := 2) c_3 (by decide) ; have n3 := lv_neT (a := 3) c_4 (by decide) ; have n4 := lv_neT (a := 4) c_5 (by decide) ; have n5 := lv_neT (a := 5) c_6 (by decide) ; have n6 := lv_neT (a := 6) c_7 (by decide) ; omega) (by decide) ?_
                refine lv_iconst (v := (-1)) hx hb dK7_count_106 (by decide) ?_
                cases hf
                exact tf_iret X h dK7_count_107
theorem mK7_count {l : Launch} {G : tf_G} (hJ : gJ (al G) 63) {r : Int32} {a1 : Int32} {I : FI} {L : FL} (hf : fK7_count a1 I L = some r) : tf_Met l G 63 yK7_count cK7_count 2 (some .int) 1 22 [.ref (al G 0), .int a1] (cE G I L) (cE G I L) (some (.int r)) :=
  tf_enter (by decide +kernel) hJ (Nat.le_of_ble_eq_true rfl) (fun p e s m args below meth c ls X _ hl h => sK7_count_0 X a1 I L hf h hl)
theorem bwK7_count : tf_cv yK7_count cK7_count 2 (some .int) 1 := ⟨w_375, w_376, w_377, w_323, by decide +kernel, by decide +kernel, by decide +kernel⟩
