set_option maxHeartbeats 4000000 in
set_option maxRecDepth 100000 in
theorem sK8_feed_82 {p : Program} {l : Launch} {e : Env} {s : State} {m : MethodId} {args : Array Value} {below : List Frame} {meth : Method} {c : Code} {G : tf_G} (X : tf_X G 16 "TradeFloorModel" cK8_feed 4 (some .int) p s m args meth c) {r : Int32} {I9 : FI} {L9 : FL} (k45 : Int32 → Int32 → FI → FL → Option (Int32 × FI × FL)) (hk45 : ∀ (v1 : Int32) (v3 : Int32) (I : FI) (L : FL), k45 v1 v3 I L = some (r, I9, L9) → ∀ {H : Heap} {locs : List Loc} {ls : Array Slot}, tf_H G 16 (rE G I L) s.heap H locs → lv_has ls 4 [(0, .ref (al G 0)), (1, .int v1), (3, .int v3)] → W p l e (tf_rm 0 0) s m args below meth c H locs 0 0 (MQ below (tf_Q G 16 (rE G I9 L9) (some (.int r))) args s 0 0 (gA (al G) 16)) (F0 m 45 ls [])) (v1 : Int32) (v3 : Int32) (I : FI) (L : FL) (hf : fK8_feed_82 k45 v1 v3 I L = some (r, I9, L9)) {H : Heap} {locs : List Loc} {ls : Array Slot} (h : tf_H G 16 (rE G I L) s.heap H locs) (hl : lv_has ls 4 [(0, .ref (al G 0)), (1, .int v1), (3, .int v3)]) : W p l e (tf_rm 0 0) s m args below meth c H locs 0 0 (MQ below (tf_Q G 16 (rE G I9 L9) (some (.int r))) args s 0 0 (gA (al G) 16)) (F0 m 82 ls []) := by
  have hx := X.1
  have hb := X.2.1
  have hJ := X.2.2.2.2.2.2.2.2.2
  unfold fK8_feed_82 at hf
  obtain ⟨x_1, ex_1, hf⟩ := nm_some hf
  refine lv_iinc (v := x_1) (lv' := [(3, .int x_1), (0, .ref (al G 0)), (1, .int v1)]) hx hb dK8_feed_82 hl (k := 2) rfl (by rw [ex_1]; rfl) (by decide) rfl (fun ls hl => ?_)
  refine lv_goto (tgt := 45) hx hb dK8_feed_85 (by decide) ?_
  exact hk45 v1 x_1 I L hf h (lv_sub hl [1, 2, 0] rfl)
set_option maxHeartbeats 4000000 in
set_option maxRecDepth 100000 in
theorem sK8_feed_45 {p : Program} {l : Launch} {e : Env} {s : State} {m : MethodId} {args : Array Value} {below : List Frame} {meth : Method} {c : Code} {G : tf_G} (X : tf_X G 16 "TradeFloorModel" cK8_feed 4 (some .int) p s m args meth c) {r : Int32} {I9 : FI} {L9 : FL} (k45 : Int32 → Int32 → FI → FL → Option (Int32 × FI × FL)) (hk45 : ∀ (v1 : Int32) (v3 : Int32) (I : FI) (L : FL), k45 v1 v3 I L = some (r, I9, L9) → ∀ {H : Heap} {locs : List Loc} {ls : Array Slot}, tf_H G 16 (rE G I L) s.heap H locs → lv_has ls 4 [(0, .ref (al G 0)), (1, .int v1), (3, .int v3)] → W p l e (tf_rm 0 0) s m args below meth c H locs 0 0 (MQ below (tf_Q G 16 (rE G I9 L9) (some (.int r))) args s 0 0 (gA (al G) 16)) (F0 m 45 ls [])) (v1 : Int32) (v3 : Int32) (I : FI) (L : FL) (hf : bK8_feed_45 k45 v1 v3 I L = some (r, I9, L9)) {H : Heap} {locs : List Loc} {ls : Array Slot} (h : tf_H G 16 (rE G I L) s.heap H locs) (hl : lv_has ls 4 [(0, .ref (al G 0)), (1, .int v1), (3, .int v3)]) : W p l e (tf_rm 0 0) s m args below meth c H locs 0 0 (MQ below (tf_Q G 16 (rE G I9 L9) (some (.int r))) args s 0 0 (gA (al G) 16)) (F0 m 45 ls []) := by
  have hx := X.1
  have hb := X.2.1
  have hJ := X.2.2.2.2.2.2.2.2.2
  unfold bK8_feed_45 at hf
  refine lv_iload_n hx hb dK8_feed_45 rfl (lv_at hl 2 rfl) ?_
  refine lv_if_lt (tgt := 88) hx hb dK8_feed_46 (by decide) (fun c_1 => ?_) (fun c_1 => ?_)
  · have hf := if_t hf c_1
    refine lv_aload_n hx hb dK8_feed_88 rfl (lv_at hl 0 rfl) ?_
    refine gf8_size X h w_378 dK8_feed_89 ?_
    cases hf
    exact tf_iret X h dK8_feed_92
  · have hf := if_f hf c_1
    refine lv_iload_n hx hb dK8_feed_49 rfl (lv_at hl 1 rfl) ?_
    refine lv_iload_n hx hb dK8_feed_50 rfl (lv_at hl 2 rfl) ?_
    refine lv_iushr hx hb dK8_feed_51 rfl ?_
    refine lv_sipush (v := 255) hx hb dK8_feed_52 (by decide) ?_
    refine lv_iand hx hb dK8_feed_55 ?_
    refine lv_if_eq (tgt := 82) hx hb dK8_feed_56 (by decide) (fun c_2 => ?_) (fun c_2 => ?_)
    · have hf := if_t hf c_2
      exact sK8_feed_82 X k45 hk45 v1 v3 I L hf h hl
    · have hf := if_f hf c_2
      refine lv_aload_n hx hb dK8_feed_59 rfl (lv_at hl 0 rfl) ?_
      refine gf8_tape X h w_379 dK8_feed_60 ?_
      refine lv_aload_n hx hb dK8_feed_63 rfl (lv_at hl 0 rfl) ?_
      refine lv_dup hx hb dK8_feed_64 rfl ?_
      refine gf8_size X h w_378 dK8_feed_65 ?_
      refine lv_dup_x1 hx hb dK8_feed_68 rfl rfl ?_
      refine lv_iconst (v := 1) hx hb dK8_feed_69 (by decide) ?_
      refine lv_iadd hx hb dK8_feed_70 ?_
      obtain ⟨I_3, eI_3, hf⟩ := nm_some hf
      refine pf8_size X h eI_3 w_378 dK8_feed_71 (fun H locs h => ?_)
      refine lv_iload_n hx hb dK8_feed_74 rfl (lv_at hl 1 rfl) ?_
      refine lv_iload_n hx hb dK8_feed_75 rfl (lv_at hl 2 rfl) ?_
      refine lv_iushr hx hb dK8_feed_76 rfl ?_
      refine lv_sipush (v := 255) hx hb dK8_feed_77 (by decide) ?_
      refine lv_iand hx hb dK8_feed_80 ?_
      obtain ⟨hi_4, hf⟩ := ck_some hf
      obtain ⟨I_5, eI_5, hf⟩ := nm_some hf
      refine par_1 X h (inb_in hi_4) eI_5 dK8_feed_81 (fun H locs h => ?_)
      exact sK8_feed_82 X k45 hk45 v1 v3 I_5 L hf h hl
theorem lK8_feed_45 {p : Program} {l : Launch} {e : Env} {s : State} {m : MethodId} {args : Array Value} {below : List Frame} {meth : Method} {c : Code} {G : tf_G} (X : tf_X G 16 "TradeFloorModel" cK8_feed 4 (some .int) p s m args meth c) {r : Int32} {I9 : FI} {L9 : FL} : ∀ (n : Nat), ∀ (v1 : Int32) (v3 : Int32) (I : FI) (L : FL), fK8_feed_45 n v1 v3 I L = some (r, I9, L9) → ∀ {H : Heap} {locs : List Loc} {ls : Array Slot}, tf_H G 16 (rE G I L) s.heap H locs → lv_has ls 4 [(0, .ref (al G 0)), (1, .int v1), (3, .int v3)] → W p l e (tf_rm 0 0) s m args below meth c H locs 0 0 (MQ below (tf_Q G 16 (rE G I9 L9) (some (.int r))) args s 0 0 (gA (al G) 16)) (F0 m 45 ls []) := by
  intro n
  induction n with
  | zero =>
    intro v1 v3 I L hf
    exact absurd hf (by simp [fK8_feed_45])
  | succ n ih =>
    intro v1 v3 I L hf H locs ls h hl
    exact sK8_feed_45 X (fK8_feed_45 n) ih v1 v3 I L hf h hl
set_option maxHeartbeats 4000000 in
set_option maxRecDepth 100000 in
theorem sK8_feed_22 {p : Program} {l : Launch} {e : Env} {s : State} {m : MethodId} {args : Array Value} {below : List Frame} {meth : Method} {c : Code} {G : tf_G} (X : tf_X G 16 "TradeFloorModel" cK8_feed 4 (some .int) p s m args meth c) {r : Int32} {I9 : FI} {L9 : FL} (k5 : Int32 → Int32 → Int32 → FI → FL → Option (Int32 × FI × FL)) (hk5 : ∀ (v1 : Int32) (v2 : Int32) (v3 : Int32) (I : FI) (L : FL), k5 v1 v2 v3 I L = some (r, I9, L9) → ∀ {H : Heap} {locs : List Loc} {ls : Array Slot}, tf_H G 16 (rE G I L) s.heap H locs → lv_has ls 4 [(0, .ref (al G 0)), (1, .int v1), (2, .int v2), (3, .int v3)] → W p l e (tf_rm 0 0) s m args below meth c H locs 0 0 (MQ below (tf_Q G 16 (rE G I9 L9) (some (.int r))) args s 0 0 (gA (al G) 16)) (F0 m 5 ls [])) (v1 : Int32) (v2 : Int32) (v3 : Int32) (I : FI) (L : FL) (hf : fK8_feed_22 k5 v1 v2 v3 I L = some (r, I9, L9)) {H : Heap} {locs : List Loc} {ls : Array Slot} (h : tf_H G 16 (rE G I L) s.heap H locs) (hl : lv_has ls 4 [(0, .ref (al G 0)), (1, .int v1), (2, .int v2), (3, .int v3)]) : W p l e (tf_rm 0 0) s m args below meth c H locs 0 0 (MQ below (tf_Q G 16 (rE G I9 L9) (some (.int r))) args s 0 0 (gA (al G) 16)) (F0 m 22 ls []) := by
  have hx := X.1
  have hb := X.2.1
  have hJ := X.2.2.2.2.2.2.2.2.2
  unfold fK8_feed_22 at hf
  obtain ⟨x_1, ex_1, hf⟩ := nm_some hf
  refine lv_iinc (v := x_1) (lv' := [(3, .int x_1), (0, .ref (al G 0)), (1, .int v1), (2, .int v2)]) hx hb dK8_feed_22 hl (k := 3) rfl (by rw [ex_1]; rfl) (by decide) rfl (fun ls hl => ?_)
  refine lv_goto (tgt := 5) hx hb dK8_feed_25 (by decide) ?_
  exact hk5 v1 v2 x_1 I L hf h (lv_sub hl [1, 2, 3, 0] rfl)
set_option maxHeartbeats 4000000 in
set_option maxRecDepth 100000 in
theorem sK8_feed_5 {p : Program} {l : Launch} {e : Env} {s : State} {m : MethodId} {args : Array Value} {below : List Frame} {meth : Method} {c : Code} {G : tf_G} (X : tf_X G 16 "TradeFloorModel" cK8_feed 4 (some .int) p s m args meth c) {r : Int32} {I9 : FI} {L9 : FL} (k5 : Int32 → Int32 → Int32 → FI → FL → Option (Int32 × FI × FL)) (hk5 : ∀ (v1 : Int32) (v2 : Int32) (v3 : Int32) (I : FI) (L : FL), k5 v1 v2 v3 I L = some (r, I9, L9) → ∀ {H : Heap} {locs : List Loc} {ls : Array Slot}, tf_H G 16 (rE G I L) s.heap H locs → lv_has ls 4 [(0, .ref (al G 0)), (1, .int v1), (2, .int v2), (3, .int v3)] → W p l e (tf_rm 0 0) s m args below meth c H locs 0 0 (MQ below (tf_Q G 16 (rE G I9 L9) (some (.int r))) args s 0 0 (gA (al G) 16)) (F0 m 5 ls [])) (v1 : Int32) (v2 : Int32) (v3 : Int32) (I : FI) (L : FL) (hf : bK8_feed_5 k5 v1 v2 v3 I L = some (r, I9, L9)) {H : Heap} {locs : List Loc} {ls : Array Slot} (h : tf_H G 16 (rE G I L) s.heap H locs) (hl : lv_has ls 4 [(0, .ref (al G 0)), (1, .int v1), (2, .int v2), (3, .int v3)]) : W p l e (tf_rm 0 0) s m args below meth c H locs 0 0 (MQ below (tf_Q G 16 (rE G I9 L9) (some (.int r))) args s 0 0 (gA (al G) 16)) (F0 m 5 ls []) := by
  have hx := X.1
  have hb := X.2.1
  have hJ := X.2.2.2.2.2.2.2.2.2
  unfold bK8_feed_5 at hf
  refine lv_iload_n hx hb dK8_feed_5 rfl (lv_at hl 3 rfl) ?_
  refine lv_if_lt (tgt := 28) hx hb dK8_feed_6 (by decide) (fun c_1 => ?_) (fun c_1 => ?_)
  · have hf := if_t hf c_1
    refine lv_aload_n hx hb dK8_feed_28 rfl (lv_at hl 0 rfl) ?_
    refine gf8_size X h w_378 dK8_feed_29 ?_
    refine lv_iload_n hx hb dK8_feed_32 rfl (lv_at hl 2 rfl) ?_
    refine lv_iadd hx hb dK8_feed_33 ?_
    refine lv_bipush (v := 40) hx hb dK8_feed_34 (by decide) ?_
    refine lv_icmp_le (tgt := 42) hx hb dK8_feed_36 (by decide) (fun c_2 => ?_) (fun c_2 => ?_)
    · have hf := if_t hf c_2
      refine lv_bipush (v := 24) hx hb dK8_feed_42 (by decide) ?_
      refine lv_istore_n (lv' := [(3, .int 24), (0, .ref (al G 0)), (1, .int v1), (2, .int v2)]) hx hb dK8_feed_44 rfl hl (by decide) rfl (fun ls hl => ?_)
      exact lK8_feed_45 X FU v1 24 I L hf h (lv_sub hl [1, 2, 0] rfl)
    · have hf := if_f hf c_2
      refine lv_bipush (v := (-3)) hx hb dK8_feed_39 (by decide) ?_
      cases hf
      exact tf_iret X h dK8_feed_41
  · have hf := if_f hf c_1
    refine lv_iload_n hx hb dK8_feed_9 rfl (lv_at hl 1 rfl) ?_
    refine lv_iload_n hx hb dK8_feed_10 rfl (lv_at hl 3 rfl) ?_
    refine lv_iushr hx hb dK8_feed_11 rfl ?_
    refine lv_sipush (v := 255) hx hb dK8_feed_12 (by decide) ?_
    refine lv_iand hx hb dK8_feed_15 ?_
    refine lv_if_eq (tgt := 22) hx hb dK8_feed_16 (by decide) (fun c_3 => ?_) (fun c_3 => ?_)
    · have hf := if_t hf c_3
      exact sK8_feed_22 X k5 hk5 v1 v2 v3 I L hf h hl
    · have hf := if_f hf c_3
      obtain ⟨x_4, ex_4, hf⟩ := nm_some hf
      refine lv_iinc (v := x_4) (lv' := [(2, .int x_4), (0, .ref (al G 0)), (1, .int v1), (3, .int v3)]) hx hb dK8_feed_19 hl (k := 2) rfl (by rw [ex_4]; rfl) (by decide) rfl (fun ls hl => ?_)
      exact sK8_feed_22 X k5 hk5 v1 x_4 v3 I L hf h (lv_sub hl [1, 2, 0, 3] rfl)
theorem lK8_feed_5 {p : Program} {l : Launch} {e : Env} {s : State} {m : MethodId} {args : Array Value} {below : List Frame} {meth : Method} {c : Code} {G : tf_G} (X : tf_X G 16 "TradeFloorModel" cK8_feed 4 (some .int) p s m args meth c) {r : Int32} {I9 : FI} {L9 : FL} : ∀ (n : Nat), ∀ (v1 : Int32) (v2 : Int32) (v3 : Int32) (I : FI) (L : FL), fK8_feed_5 n v1 v2 v3 I L = some (r, I9, L9) → ∀ {H : Heap} {locs : List Loc} {ls : Array Slot}, tf_H G 16 (rE G I L) s.heap H locs → lv_has ls 4 [(0, .ref (al G 0)), (1, .int v1), (2, .int v2), (3, .int v3)] → W p l e (tf_rm 0 0) s m args below meth c H locs 0 0 (MQ below (tf_Q G 16 (rE G I9 L9) (some (.int r))) args s 0 0 (gA (al G) 16)) (F0 m 5 ls []) := by
  intro n
  induction n with
  | zero =>
    intro v1 v2 v3 I L hf
    exact absurd hf (by simp [fK8_feed_5])
  | succ n ih =>
    intro v1 v2 v3 I L hf H locs ls h hl
    exact sK8_feed_5 X (fK8_feed_5 n) ih v1 v2 v3 I L hf h hl
set_option maxHeartbeats 4000000 in
set_option maxRecDepth 100000 in
theorem sK8_feed_0 {p : Program} {l : Launch} {e : Env} {s : State} {m : MethodId} {args : Array Value} {below : List Frame} {meth : Method} {c : Code} {G : tf_G} (X : tf_X G 16 "TradeFloorModel" cK8_feed 4 (some .int) p s m args meth c) {r : Int32} {I9 : FI} {L9 : FL} (a1 : Int32) (I : FI) (L : FL) (hf : fK8_feed a1 I L = some (r, I9, L9)) {H : Heap} {locs : List Loc} {ls : Array Slot} (h : tf_H G 16 (rE G I L) s.heap H locs) (hl : lv_has ls 4 [(0, .ref (al G 0)), (1, .int a1)]) : W p l e (tf_rm 0 0) s m args below meth c H locs 0 0 (MQ below (tf_Q G 16 (rE G I9 L9) (some (.int r))) args s 0 0 (gA (al G) 16)) (F0 m 0 ls []) := by
  have hx := X.1
  have hb := X.2.1
  have hJ := X.2.2.2.2.2.2.2.2.2
  unfold fK8_feed at hf
  refine lv_iconst (v := 0) hx hb dK8_feed_0 (by decide) ?_
  refine lv_istore_n (lv' := [(2, .int 0), (0, .ref (al G 0)), (1, .int a1)]) hx hb dK8_feed_1 rfl hl (by decide) rfl (fun ls hl => ?_)
  refine lv_bipush (v := 24) hx hb dK8_feed_2 (by decide) ?_
  refine lv_istore_n (lv' := [(3, .int 24), (2, .int 0), (0, .ref (al G 0)), (1, .int a1)]) hx hb dK8_feed_4 rfl hl (by decide) rfl (fun ls hl => ?_)
  exact lK8_feed_5 X FU a1 0 24 I L hf h (lv_sub hl [2, 3, 1, 0] rfl)
theorem mK8_feed {l : Launch} {G : tf_G} (hJ : gJ (al G) 16) {r : Int32} {I9 : FI} {L9 : FL} {a1 : Int32} {I : FI} {L : FL} (hf : fK8_feed a1 I L = some (r, I9, L9)) : tf_Met l G 16 yK8_feed cK8_feed 4 (some .int) 0 0 [.ref (al G 0), .int a1] (rE G I L) (rE G I9 L9) (some (.int r)) :=
  tf_enter (by decide +kernel) hJ (Nat.le_of_ble_eq_true rfl) (fun p e s m args below meth c ls X _ hl h => sK8_feed_0 X a1 I L hf h hl)
theorem bwK8_feed : tf_cv yK8_feed cK8_feed 4 (some .int) 1 := ⟨w_380, w_382, w_383, w_381, by decide +kernel, by decide +kernel, by decide +kernel⟩

set_option maxHeartbeats 4000000 in
set_option maxRecDepth 100000 in
theorem sK8_taken_34 {p : Program} {l : Launch} {e : Env} {s : State} {m : MethodId} {args : Array Value} {below : List Frame} {meth : Method} {c : Code} {G : tf_G} (X : tf_X G 16 "TradeFloorModel" cK8_taken 3 (some .boolean) p s m args meth c) {r : Int32} {I9 : FI} {L9 : FL} (k7 : Int32 → FI → FL → Option (Int32 × FI × FL)) (hk7 : ∀ (v1 : Int32) (I : FI) (L : FL), k7 v1 I L = some (r, I9, L9) → ∀ {H : Heap} {locs : List Loc} {ls : Array Slot}, tf_H G 16 (rE G I L) s.heap H locs → lv_has ls 3 [(0, .ref (al G 0)), (1, .int v1)] → W p l e (tf_rm 0 0) s m args below meth c H locs 0 0 (MQ below (tf_Q G 16 (rE G I9 L9) (some (.int r))) args s 0 0 (gA (al G) 16)) (F0 m 7 ls [])) (k9 : Int32 → Int32 → FI → FL → Option (Int32 × FI × FL)) (hk9 : ∀ (v1 : Int32) (v2 : Int32) (I : FI) (L : FL), k9 v1 v2 I L = some (r, I9, L9) → ∀ {H : Heap} {locs : List Loc} {ls : Array Slot}, tf_H G 16 (rE G I L) s.heap H locs → lv_has ls 3 [(0, .ref (al G 0)), (1, .int v1), (2, .int v2)] → W p l e (tf_rm 0 0) s m args below meth c H locs 0 0 (MQ below (tf_Q G 16 (rE G I9 L9) (some (.int r))) args s 0 0 (gA (al G) 16)) (F0 m 9 ls [])) (v1 : Int32) (v2 : Int32) (I : FI) (L : FL) (hf : fK8_taken_34 k7 k9 v1 v2 I L = some (r, I9, L9)) {H : Heap} {locs : List Loc} {ls : Array Slot} (h : tf_H G 16 (rE G I L) s.heap H locs) (hl : lv_has ls 3 [(0, .ref (al G 0)), (1, .int v1), (2, .int v2)]) : W p l e (tf_rm 0 0) s m args below meth c H locs 0 0 (MQ below (tf_Q G 16 (rE G I9 L9) (some (.int r))) args s 0 0 (gA (al G) 16)) (F0 m 34 ls []) := by
  have hx := X.1
  have hb := X.2.1
  have hJ := X.2.2.2.2.2.2.2.2.2
  unfold fK8_taken_34 at hf
  refine lv_iload_n hx hb dK8_taken_34 rfl (lv_at hl 2 rfl) ?_
  refine lv_iload_n hx hb dK8_taken_35 rfl (lv_at hl 1 rfl) ?_
  refine lv_icmp_eq (tgt := 48) hx hb dK8_taken_36 (by decide) (fun c_1 => ?_) (fun c_1 => ?_)
  · have hf := if_t hf c_1
    refine lv_iconst (v := 0) hx hb dK8_taken_48 (by decide) ?_
    cases hf
    exact tf_zret X h rfl dK8_taken_49
  · have hf := if_f hf c_1
    refine lv_aload_n hx hb dK8_taken_39 rfl (lv_at hl 0 rfl) ?_
    refine gf8_words X h w_384 dK8_taken_40 ?_
    refine lv_bipush (v := 12) hx hb dK8_taken_43 (by decide) ?_
    refine lv_icmp_ne (tgt := 50) hx hb dK8_taken_45 (by decide) (fun c_2 => ?_) (fun c_2 => ?_)
    · have hf := if_f hf c_2
      refine lv_aload_n hx hb dK8_taken_50 rfl (lv_at hl 0 rfl) ?_
      refine gf8_from X h w_385 dK8_taken_51 ?_
      refine lv_aload_n hx hb dK8_taken_54 rfl (lv_at hl 0 rfl) ?_
      refine gf8_words X h w_384 dK8_taken_55 ?_
      refine lv_iload_n hx hb dK8_taken_58 rfl (lv_at hl 1 rfl) ?_
      obtain ⟨hi_3, hf⟩ := ck_some hf
      obtain ⟨I_4, eI_4, hf⟩ := nm_some hf
      refine par_2 X h (inb_in hi_3) eI_4 dK8_taken_59 (fun H locs h => ?_)
      refine lv_aload_n hx hb dK8_taken_60 rfl (lv_at hl 0 rfl) ?_
      refine gf8_to X h w_386 dK8_taken_61 ?_
      refine lv_aload_n hx hb dK8_taken_64 rfl (lv_at hl 0 rfl) ?_
      refine lv_dup hx hb dK8_taken_65 rfl ?_
      refine gf8_words X h w_384 dK8_taken_66 ?_
      refine lv_dup_x1 hx hb dK8_taken_69 rfl rfl ?_
      refine lv_iconst (v := 1) hx hb dK8_taken_70 (by decide) ?_
      refine lv_iadd hx hb dK8_taken_71 ?_
      obtain ⟨I_5, eI_5, hf⟩ := nm_some hf
      refine pf8_words X h eI_5 w_384 dK8_taken_72 (fun H locs h => ?_)
      refine lv_iload_n hx hb dK8_taken_75 rfl (lv_at hl 2 rfl) ?_
      obtain ⟨hi_6, hf⟩ := ck_some hf
      obtain ⟨I_7, eI_7, hf⟩ := nm_some hf
      refine par_3 X h (inb_in hi_6) eI_7 dK8_taken_76 (fun H locs h => ?_)
      refine lv_iload_n hx hb dK8_taken_77 rfl (lv_at hl 2 rfl) ?_
      refine lv_aload_n hx hb dK8_taken_78 rfl (lv_at hl 0 rfl) ?_
      refine gf8_size X h w_378 dK8_taken_79 ?_
      refine lv_icmp_ne (tgt := 87) hx hb dK8_taken_82 (by decide) (fun c_8 => ?_) (fun c_8 => ?_)
      · have hf := if_f hf c_8
        refine lv_iload_n hx hb dK8_taken_87 rfl (lv_at hl 2 rfl) ?_
        refine lv_iconst (v := 1) hx hb dK8_taken_88 (by decide) ?_
        refine lv_iadd hx hb dK8_taken_89 ?_
        refine lv_topi (fun x_9 ex_9 => ?_)
        have hf := nm_at hf ex_9
        refine lv_istore_n (lv' := [(1, .int x_9), (0, .ref (al G 0)), (2, .int v2)]) hx hb dK8_taken_90 rfl hl (by decide) rfl (fun ls hl => ?_)
        refine lv_goto (tgt := 7) hx hb dK8_taken_91 (by decide) ?_
        exact hk7 x_9 I_7 L hf h (lv_sub hl [1, 0] rfl)
      · have hf := if_t hf c_8
        refine lv_iconst (v := 1) hx hb dK8_taken_85 (by decide) ?_
        cases hf
        exact tf_zret X h rfl dK8_taken_86
    · have hf := if_t hf c_2
      refine lv_iconst (v := 0) hx hb dK8_taken_48 (by decide) ?_
      cases hf
      exact tf_zret X h rfl dK8_taken_49
set_option maxHeartbeats 4000000 in
set_option maxRecDepth 100000 in
theorem sK8_taken_9 {p : Program} {l : Launch} {e : Env} {s : State} {m : MethodId} {args : Array Value} {below : List Frame} {meth : Method} {c : Code} {G : tf_G} (X : tf_X G 16 "TradeFloorModel" cK8_taken 3 (some .boolean) p s m args meth c) {r : Int32} {I9 : FI} {L9 : FL} (k7 : Int32 → FI → FL → Option (Int32 × FI × FL)) (hk7 : ∀ (v1 : Int32) (I : FI) (L : FL), k7 v1 I L = some (r, I9, L9) → ∀ {H : Heap} {locs : List Loc} {ls : Array Slot}, tf_H G 16 (rE G I L) s.heap H locs → lv_has ls 3 [(0, .ref (al G 0)), (1, .int v1)] → W p l e (tf_rm 0 0) s m args below meth c H locs 0 0 (MQ below (tf_Q G 16 (rE G I9 L9) (some (.int r))) args s 0 0 (gA (al G) 16)) (F0 m 7 ls [])) (k9 : Int32 → Int32 → FI → FL → Option (Int32 × FI × FL)) (hk9 : ∀ (v1 : Int32) (v2 : Int32) (I : FI) (L : FL), k9 v1 v2 I L = some (r, I9, L9) → ∀ {H : Heap} {locs : List Loc} {ls : Array Slot}, tf_H G 16 (rE G I L) s.heap H locs → lv_has ls 3 [(0, .ref (al G 0)), (1, .int v1), (2, .int v2)] → W p l e (tf_rm 0 0) s m args below meth c H locs 0 0 (MQ below (tf_Q G 16 (rE G I9 L9) (some (.int r))) args s 0 0 (gA (al G) 16)) (F0 m 9 ls [])) (v1 : Int32) (v2 : Int32) (I : FI) (L : FL) (hf : bK8_taken_9 k7 k9 v1 v2 I L = some (r, I9, L9)) {H : Heap} {locs : List Loc} {ls : Array Slot} (h : tf_H G 16 (rE G I L) s.heap H locs) (hl : lv_has ls 3 [(0, .ref (al G 0)), (1, .int v1), (2, .int v2)]) : W p l e (tf_rm 0 0) s m args below meth c H locs 0 0 (MQ below (tf_Q G 16 (rE G I9 L9) (some (.int r))) args s 0 0 (gA (al G) 16)) (F0 m 9 ls []) := by
  have hx := X.1
  have hb := X.2.1
  have hJ := X.2.2.2.2.2.2.2.2.2
  unfold bK8_taken_9 at hf
  refine lv_iload_n hx hb dK8_taken_9 rfl (lv_at hl 2 rfl) ?_
  refine lv_aload_n hx hb dK8_taken_10 rfl (lv_at hl 0 rfl) ?_
  refine gf8_size X h w_378 dK8_taken_11 ?_
  refine lv_icmp_ge (tgt := 34) hx hb dK8_taken_14 (by decide) (fun c_1 => ?_) (fun c_1 => ?_)
  · have hf := if_t hf c_1
    exact sK8_taken_34 X k7 hk7 k9 hk9 v1 v2 I L hf h hl
  · have hf := if_f hf c_1
    refine lv_aload_n hx hb dK8_taken_17 rfl (lv_at hl 0 rfl) ?_
    refine gf8_tape X h w_379 dK8_taken_18 ?_
    refine lv_iload_n hx hb dK8_taken_21 rfl (lv_at hl 2 rfl) ?_
    obtain ⟨hi_2, hf⟩ := ck_some hf
    refine gar_1 X h (inb_in hi_2) dK8_taken_22 ?_
    refine lv_bipush (v := 32) hx hb dK8_taken_23 (by decide) ?_
    refine lv_icmp_eq (tgt := 34) hx hb dK8_taken_25 (by decide) (fun c_3 => ?_) (fun c_3 => ?_)
    · have hf := if_t hf c_3
      exact sK8_taken_34 X k7 hk7 k9 hk9 v1 v2 I L hf h hl
    · have hf := if_f hf c_3
      obtain ⟨x_4, ex_4, hf⟩ := nm_some hf
      refine lv_iinc (v := x_4) (lv' := [(2, .int x_4), (0, .ref (al G 0)), (1, .int v1)]) hx hb dK8_taken_28 hl (k := 2) rfl (by rw [ex_4]; rfl) (by decide) rfl (fun ls hl => ?_)
      refine lv_goto (tgt := 9) hx hb dK8_taken_31 (by decide) ?_
      exact hk9 v1 x_4 I L hf h (lv_sub hl [1, 2, 0] rfl)
theorem lK8_taken_9 {p : Program} {l : Launch} {e : Env} {s : State} {m : MethodId} {args : Array Value} {below : List Frame} {meth : Method} {c : Code} {G : tf_G} (X : tf_X G 16 "TradeFloorModel" cK8_taken 3 (some .boolean) p s m args meth c) {r : Int32} {I9 : FI} {L9 : FL} (k7 : Int32 → FI → FL → Option (Int32 × FI × FL)) (hk7 : ∀ (v1 : Int32) (I : FI) (L : FL), k7 v1 I L = some (r, I9, L9) → ∀ {H : Heap} {locs : List Loc} {ls : Array Slot}, tf_H G 16 (rE G I L) s.heap H locs → lv_has ls 3 [(0, .ref (al G 0)), (1, .int v1)] → W p l e (tf_rm 0 0) s m args below meth c H locs 0 0 (MQ below (tf_Q G 16 (rE G I9 L9) (some (.int r))) args s 0 0 (gA (al G) 16)) (F0 m 7 ls [])) : ∀ (n : Nat), ∀ (v1 : Int32) (v2 : Int32) (I : FI) (L : FL), fK8_taken_9 k7 n v1 v2 I L = some (r, I9, L9) → ∀ {H : Heap} {locs : List Loc} {ls : Array Slot}, tf_H G 16 (rE G I L) s.heap H locs → lv_has ls 3 [(0, .ref (al G 0)), (1, .int v1), (2, .int v2)] → W p l e (tf_rm 0 0) s m args below meth c H locs 0 0 (MQ below (tf_Q G 16 (rE G I9 L9) (some (.int r))) args s 0 0 (gA (al G) 16)) (F0 m 9 ls []) := by
  intro n
  induction n with
  | zero =>
    intro v1 v2 I L hf
    exact absurd hf (by simp [fK8_taken_9])
  | succ n ih =>
    intro v1 v2 I L hf H locs ls h hl
    exact sK8_taken_9 X k7 hk7 (fK8_taken_9 k7 n) ih v1 v2 I L hf h hl
set_option maxHeartbeats 4000000 in
set_option maxRecDepth 100000 in
theorem sK8_taken_7 {p : Program} {l : Launch} {e : Env} {s : State} {m : MethodId} {args : Array Value} {below : List Frame} {meth : Method} {c : Code} {G : tf_G} (X : tf_X G 16 "TradeFloorModel" cK8_taken 3 (some .boolean) p s m args meth c) {r : Int32} {I9 : FI} {L9 : FL} (k7 : Int32 → FI → FL → Option (Int32 × FI × FL)) (hk7 : ∀ (v1 : Int32) (I : FI) (L : FL), k7 v1 I L = some (r, I9, L9) → ∀ {H : Heap} {locs : List Loc} {ls : Array Slot}, tf_H G 16 (rE G I L) s.heap H locs → lv_has ls 3 [(0, .ref (al G 0)), (1, .int v1)] → W p l e (tf_rm 0 0) s m args below meth c H locs 0 0 (MQ below (tf_Q G 16 (rE G I9 L9) (some (.int r))) args s 0 0 (gA (al G) 16)) (F0 m 7 ls [])) (v1 : Int32) (I : FI) (L : FL) (hf : bK8_taken_7 k7 v1 I L = some (r, I9, L9)) {H : Heap} {locs : List Loc} {ls : Array Slot} (h : tf_H G 16 (rE G I L) s.heap H locs) (hl : lv_has ls 3 [(0, .ref (al G 0)), (1, .int v1)]) : W p l e (tf_rm 0 0) s m args below meth c H locs 0 0 (MQ below (tf_Q G 16 (rE G I9 L9) (some (.int r))) args s 0 0 (gA (al G) 16)) (F0 m 7 ls []) := by
  have hx := X.1
  have hb := X.2.1
  have hJ := X.2.2.2.2.2.2.2.2.2
  unfold bK8_taken_7 at hf
  refine lv_iload_n hx hb dK8_taken_7 rfl (lv_at hl 1 rfl) ?_
  refine lv_istore_n (lv' := [(2, .int v1), (0, .ref (al G 0)), (1, .int v1)]) hx hb dK8_taken_8 rfl hl (by decide) rfl (fun ls hl => ?_)
  exact lK8_taken_9 X k7 hk7 FU v1 v1 I L hf h (lv_sub hl [1, 2, 0] rfl)
theorem lK8_taken_7 {p : Program} {l : Launch} {e : Env} {s : State} {m : MethodId} {args : Array Value} {below : List Frame} {meth : Method} {c : Code} {G : tf_G} (X : tf_X G 16 "TradeFloorModel" cK8_taken 3 (some .boolean) p s m args meth c) {r : Int32} {I9 : FI} {L9 : FL} : ∀ (n : Nat), ∀ (v1 : Int32) (I : FI) (L : FL), fK8_taken_7 n v1 I L = some (r, I9, L9) → ∀ {H : Heap} {locs : List Loc} {ls : Array Slot}, tf_H G 16 (rE G I L) s.heap H locs → lv_has ls 3 [(0, .ref (al G 0)), (1, .int v1)] → W p l e (tf_rm 0 0) s m args below meth c H locs 0 0 (MQ below (tf_Q G 16 (rE G I9 L9) (some (.int r))) args s 0 0 (gA (al G) 16)) (F0 m 7 ls []) := by
  intro n
  induction n with
  | zero =>
    intro v1 I L hf
    exact absurd hf (by simp [fK8_taken_7])
  | succ n ih =>
    intro v1 I L hf H locs ls h hl
    exact sK8_taken_7 X (fK8_taken_7 n) ih v1 I L hf h hl
set_option maxHeartbeats 4000000 in
set_option maxRecDepth 100000 in
theorem sK8_taken_0 {p : Program} {l : Launch} {e : Env} {s : State} {m : MethodId} {args : Array Value} {below : List Frame} {meth : Method} {c : Code} {G : tf_G} (X : tf_X G 16 "TradeFloorModel" cK8_taken 3 (some .boolean) p s m args meth c) {r : Int32} {I9 : FI} {L9 : FL} (I : FI) (L : FL) (hf : fK8_taken I L = some (r, I9, L9)) {H : Heap} {locs : List Loc} {ls : Array Slot} (h : tf_H G 16 (rE G I L) s.heap H locs) (hl : lv_has ls 3 [(0, .ref (al G 0))]) : W p l e (tf_rm 0 0) s m args below meth c H locs 0 0 (MQ below (tf_Q G 16 (rE G I9 L9) (some (.int r))) args s 0 0 (gA (al G) 16)) (F0 m 0 ls []) := by
  have hx := X.1
  have hb := X.2.1
  have hJ := X.2.2.2.2.2.2.2.2.2
  unfold fK8_taken at hf
  refine lv_aload_n hx hb dK8_taken_0 rfl (lv_at hl 0 rfl) ?_
  refine lv_iconst (v := 0) hx hb dK8_taken_1 (by decide) ?_
  obtain ⟨I_1, eI_1, hf⟩ := nm_some hf
  refine pf8_words X h eI_1 w_384 dK8_taken_2 (fun H locs h => ?_)
  refine lv_iconst (v := 0) hx hb dK8_taken_5 (by decide) ?_
  refine lv_istore_n (lv' := [(1, .int 0), (0, .ref (al G 0))]) hx hb dK8_taken_6 rfl hl (by decide) rfl (fun ls hl => ?_)
  exact lK8_taken_7 X FU 0 I_1 L hf h (lv_sub hl [1, 0] rfl)
theorem mK8_taken {l : Launch} {G : tf_G} (hJ : gJ (al G) 16) {r : Int32} {I9 : FI} {L9 : FL} {I : FI} {L : FL} (hf : fK8_taken I L = some (r, I9, L9)) : tf_Met l G 16 yK8_taken cK8_taken 3 (some .boolean) 0 0 [.ref (al G 0)] (rE G I L) (rE G I9 L9) (some (.int r)) :=
  tf_enter (by decide +kernel) hJ (Nat.le_of_ble_eq_true rfl) (fun p e s m args below meth c ls X _ hl h => sK8_taken_0 X I L hf h hl)
theorem bwK8_taken : tf_cv yK8_taken cK8_taken 3 (some .boolean) 0 := ⟨w_387, w_388, w_389, w_381, by decide +kernel, by decide +kernel, by decide +kernel⟩

set_option maxHeartbeats 4000000 in
set_option maxRecDepth 100000 in
theorem sK8_is_32 {p : Program} {l : Launch} {e : Env} {s : State} {m : MethodId} {args : Array Value} {below : List Frame} {meth : Method} {c : Code} {G : tf_G} (X : tf_X G 16 "TradeFloorModel" cK8_is 4 (some .boolean) p s m args meth c) {r : Int32} (k32 : Int32 → Nat → Int32 → FI → FL → Option (Int32)) (hk32 : ∀ (v1 : Int32) (v2 : Nat) (v3 : Int32) (I : FI) (L : FL), k32 v1 v2 v3 I L = some r → ∀ {H : Heap} {locs : List Loc} {ls : Array Slot}, tf_H G 16 (rE G I L) s.heap H locs → lv_has ls 4 [(0, .ref (al G 0)), (1, .int v1), (2, .ref (sK G v2)), (3, .int v3)] → W p l e (tf_rm 4 85) s m args below meth c H locs 0 0 (MQ below (tf_Q G 16 (rE G I L) (some (.int r))) args s 0 0 (gA (al G) 16)) (F0 m 32 ls [])) (v1 : Int32) (v2 : Nat) (v3 : Int32) (I : FI) (L : FL) (hf : bK8_is_32 k32 v1 v2 v3 I L = some r) {H : Heap} {locs : List Loc} {ls : Array Slot} (h : tf_H G 16 (rE G I L) s.heap H locs) (hl : lv_has ls 4 [(0, .ref (al G 0)), (1, .int v1), (2, .ref (sK G v2)), (3, .int v3)]) : W p l e (tf_rm 4 85) s m args below meth c H locs 0 0 (MQ below (tf_Q G 16 (rE G I L) (some (.int r))) args s 0 0 (gA (al G) 16)) (F0 m 32 ls []) := by
  have hx := X.1
  have hb := X.2.1
  have hJ := X.2.2.2.2.2.2.2.2.2
  unfold bK8_is_32 at hf
  refine lv_iload_n hx hb dK8_is_32 rfl (lv_at hl 3 rfl) ?_
  refine lv_aload_n hx hb dK8_is_33 rfl (lv_at hl 2 rfl) ?_
  obtain ⟨hs_1, hf⟩ := ck_some hf
  refine tf_len X h (of_decide_eq_true hs_1) w_390 ⟨Nat.le_of_ble_eq_true rfl, Nat.le_of_ble_eq_true rfl⟩ hl.1 (Nat.le_of_ble_eq_true rfl) dK8_is_34 (fun H locs h => ?_)
  refine lv_icmp_ge (tgt := 69) hx hb dK8_is_37 (by decide) (fun c_2 => ?_) (fun c_2 => ?_)
  · have hf := if_t hf c_2
    refine lv_iconst (v := 1) hx hb dK8_is_69 (by decide) ?_
    cases hf
    exact tf_zret X h rfl dK8_is_70
  · have hf := if_f hf c_2
    refine lv_aload_n hx hb dK8_is_40 rfl (lv_at hl 0 rfl) ?_
    refine gf8_tape X h w_379 dK8_is_41 ?_
    refine lv_aload_n hx hb dK8_is_44 rfl (lv_at hl 0 rfl) ?_
    refine gf8_from X h w_385 dK8_is_45 ?_
    refine lv_iload_n hx hb dK8_is_48 rfl (lv_at hl 1 rfl) ?_
    obtain ⟨hi_3, hf⟩ := ck_some hf
    refine gar_2 X h (inb_in hi_3) dK8_is_49 ?_
    refine lv_iload_n hx hb dK8_is_50 rfl (lv_at hl 3 rfl) ?_
    refine lv_iadd hx hb dK8_is_51 ?_
    obtain ⟨hi_4, hf⟩ := ck_some hf
    refine gar_1 X h (inb_in hi_4) dK8_is_52 ?_
    refine lv_aload_n hx hb dK8_is_53 rfl (lv_at hl 2 rfl) ?_
    refine lv_iload_n hx hb dK8_is_54 rfl (lv_at hl 3 rfl) ?_
    obtain ⟨hs_5, hf⟩ := ck_some hf
    obtain ⟨hs_6, hf⟩ := ck_some hf
    refine tf_chr X h (of_decide_eq_true hs_5) (inb_in hs_6) w_391 ⟨Nat.le_of_ble_eq_true rfl, Nat.le_of_ble_eq_true rfl⟩ hl.1 (Nat.le_of_ble_eq_true rfl) dK8_is_55 (fun H locs h => ?_)
    refine lv_icmp_eq (tgt := 63) hx hb dK8_is_58 (by decide) (fun c_7 => ?_) (fun c_7 => ?_)
    · have hf := if_t hf c_7
      obtain ⟨x_8, ex_8, hf⟩ := nm_some hf
      refine lv_iinc (v := x_8) (lv' := [(3, .int x_8), (0, .ref (al G 0)), (1, .int v1), (2, .ref (sK G v2))]) hx hb dK8_is_63 hl (k := 3) rfl (by rw [ex_8]; rfl) (by decide) rfl (fun ls hl => ?_)
      refine lv_goto (tgt := 32) hx hb dK8_is_66 (by decide) ?_
      exact hk32 v1 v2 x_8 I L hf h (lv_sub hl [1, 2, 3, 0] rfl)
    · have hf := if_f hf c_7
      refine lv_iconst (v := 0) hx hb dK8_is_61 (by decide) ?_
      cases hf
      exact tf_zret X h rfl dK8_is_62
theorem lK8_is_32 {p : Program} {l : Launch} {e : Env} {s : State} {m : MethodId} {args : Array Value} {below : List Frame} {meth : Method} {c : Code} {G : tf_G} (X : tf_X G 16 "TradeFloorModel" cK8_is 4 (some .boolean) p s m args meth c) {r : Int32} : ∀ (n : Nat), ∀ (v1 : Int32) (v2 : Nat) (v3 : Int32) (I : FI) (L : FL), fK8_is_32 n v1 v2 v3 I L = some r → ∀ {H : Heap} {locs : List Loc} {ls : Array Slot}, tf_H G 16 (rE G I L) s.heap H locs → lv_has ls 4 [(0, .ref (al G 0)), (1, .int v1), (2, .ref (sK G v2)), (3, .int v3)] → W p l e (tf_rm 4 85) s m args below meth c H locs 0 0 (MQ below (tf_Q G 16 (rE G I L) (some (.int r))) args s 0 0 (gA (al G) 16)) (F0 m 32 ls []) := by
  intro n
  induction n with
  | zero =>
    intro v1 v2 v3 I L hf
    exact absurd hf (by simp [fK8_is_32])
  | succ n ih =>
    intro v1 v2 v3 I L hf H locs ls h hl
    exact sK8_is_32 X (fK8_is_32 n) ih v1 v2 v3 I L hf h hl
set_option maxHeartbeats 4000000 in
set_option maxRecDepth 100000 in
theorem sK8_is_0 {p : Program} {l : Launch} {e : Env} {s : State} {m : MethodId} {args : Array Value} {below : List Frame} {meth : Method} {c : Code} {G : tf_G} (X : tf_X G 16 "TradeFloorModel" cK8_is 4 (some .boolean) p s m args meth c) {r : Int32} (a1 : Int32) (a2 : Nat) (I : FI) (L : FL) (hf : fK8_is a1 a2 I L = some r) {H : Heap} {locs : List Loc} {ls : Array Slot} (h : tf_H G 16 (rE G I L) s.heap H locs) (hl : lv_has ls 4 [(0, .ref (al G 0)), (1, .int a1), (2, .ref (sK G a2))]) : W p l e (tf_rm 4 85) s m args below meth c H locs 0 0 (MQ below (tf_Q G 16 (rE G I L) (some (.int r))) args s 0 0 (gA (al G) 16)) (F0 m 0 ls []) := by
  have hx := X.1
  have hb := X.2.1
  have hJ := X.2.2.2.2.2.2.2.2.2
  unfold fK8_is at hf
  refine lv_iload_n hx hb dK8_is_0 rfl (lv_at hl 1 rfl) ?_
  refine lv_aload_n hx hb dK8_is_1 rfl (lv_at hl 0 rfl) ?_
  refine gf8_words X h w_384 dK8_is_2 ?_
  refine lv_icmp_ge (tgt := 28) hx hb dK8_is_5 (by decide) (fun c_1 => ?_) (fun c_1 => ?_)
  · have hf := if_t hf c_1
    refine lv_iconst (v := 0) hx hb dK8_is_28 (by decide) ?_
    cases hf
    exact tf_zret X h rfl dK8_is_29
  · have hf := if_f hf c_1
    refine lv_aload_n hx hb dK8_is_8 rfl (lv_at hl 0 rfl) ?_
    refine gf8_to X h w_386 dK8_is_9 ?_
    refine lv_iload_n hx hb dK8_is_12 rfl (lv_at hl 1 rfl) ?_
    obtain ⟨hi_2, hf⟩ := ck_some hf
    refine gar_3 X h (inb_in hi_2) dK8_is_13 ?_
    refine lv_aload_n hx hb dK8_is_14 rfl (lv_at hl 0 rfl) ?_
    refine gf8_from X h w_385 dK8_is_15 ?_
    refine lv_iload_n hx hb dK8_is_18 rfl (lv_at hl 1 rfl) ?_
    obtain ⟨hi_3, hf⟩ := ck_some hf
    refine gar_2 X h (inb_in hi_3) dK8_is_19 ?_
    refine lv_isub hx hb dK8_is_20 ?_
    refine lv_aload_n hx hb dK8_is_21 rfl (lv_at hl 2 rfl) ?_
    obtain ⟨hs_4, hf⟩ := ck_some hf
    refine tf_len X h (of_decide_eq_true hs_4) w_390 ⟨Nat.le_of_ble_eq_true rfl, Nat.le_of_ble_eq_true rfl⟩ hl.1 (Nat.le_of_ble_eq_true rfl) dK8_is_22 (fun H locs h => ?_)
    refine lv_icmp_eq (tgt := 30) hx hb dK8_is_25 (by decide) (fun c_5 => ?_) (fun c_5 => ?_)
    · have hf := if_t hf c_5
      refine lv_iconst (v := 0) hx hb dK8_is_30 (by decide) ?_
      refine lv_istore_n (lv' := [(3, .int 0), (0, .ref (al G 0)), (1, .int a1), (2, .ref (sK G a2))]) hx hb dK8_is_31 rfl hl (by decide) rfl (fun ls hl => ?_)
      exact lK8_is_32 X FU a1 a2 0 I L hf h (lv_sub hl [1, 2, 3, 0] rfl)
    · have hf := if_f hf c_5
      refine lv_iconst (v := 0) hx hb dK8_is_28 (by decide) ?_
      cases hf
      exact tf_zret X h rfl dK8_is_29
theorem mK8_is {l : Launch} {G : tf_G} (hJ : gJ (al G) 16) {r : Int32} {a1 : Int32} {a2 : Nat} {I : FI} {L : FL} (hf : fK8_is a1 a2 I L = some r) : tf_Met l G 16 yK8_is cK8_is 4 (some .boolean) 4 85 [.ref (al G 0), .int a1, .ref (sK G a2)] (rE G I L) (rE G I L) (some (.int r)) :=
  tf_enter (by decide +kernel) hJ (Nat.le_of_ble_eq_true rfl) (fun p e s m args below meth c ls X _ hl h => sK8_is_0 X a1 a2 I L hf h hl)
theorem bwK8_is : tf_cv yK8_is cK8_is 4 (some .boolean) 2 := ⟨w_392, w_393, w_394, w_381, by decide +kernel, by decide +kernel, by decide +kernel⟩

set_option maxHeartbeats 4000000 in
set_option maxRecDepth 100000 in
theorem sK8_number_112 {p : Program} {l : Launch} {e : Env} {s : State} {m : MethodId} {args : Array Value} {below : List Frame} {meth : Method} {c : Code} {G : tf_G} (X : tf_X G 16 "TradeFloorModel" cK8_number 6 (some .int) p s m args meth c) {r : Int32} (I : FI) (L : FL) (hf : fK8_number_112 I L = some r) {H : Heap} {locs : List Loc} {ls : Array Slot} (h : tf_H G 16 (rE G I L) s.heap H locs) (hl : lv_has ls 6 []) : W p l e (tf_rm 0 0) s m args below meth c H locs 0 0 (MQ below (tf_Q G 16 (rE G I L) (some (.int r))) args s 0 0 (gA (al G) 16)) (F0 m 112 ls []) := by
  have hx := X.1
  have hb := X.2.1
  have hJ := X.2.2.2.2.2.2.2.2.2
  unfold fK8_number_112 at hf
  refine lv_iconst (v := (-1)) hx hb dK8_number_112 (by decide) ?_
  refine lv_goto (tgt := 118) hx hb dK8_number_113 (by decide) ?_
  cases hf
  exact tf_iret X h dK8_number_118
set_option maxHeartbeats 4000000 in
set_option maxRecDepth 100000 in
theorem sK8_number_39 {p : Program} {l : Launch} {e : Env} {s : State} {m : MethodId} {args : Array Value} {below : List Frame} {meth : Method} {c : Code} {G : tf_G} (X : tf_X G 16 "TradeFloorModel" cK8_number 6 (some .int) p s m args meth c) {r : Int32} (k39 : Int32 → Int32 → Int32 → Int32 → Int32 → FI → FL → Option (Int32)) (hk39 : ∀ (v1 : Int32) (v2 : Int32) (v3 : Int32) (v4 : Int32) (v5 : Int32) (I : FI) (L : FL), k39 v1 v2 v3 v4 v5 I L = some r → ∀ {H : Heap} {locs : List Loc} {ls : Array Slot}, tf_H G 16 (rE G I L) s.heap H locs → lv_has ls 6 [(0, .ref (al G 0)), (1, .int v1), (2, .int v2), (3, .int v3), (4, .int v4), (5, .int v5)] → W p l e (tf_rm 0 0) s m args below meth c H locs 0 0 (MQ below (tf_Q G 16 (rE G I L) (some (.int r))) args s 0 0 (gA (al G) 16)) (F0 m 39 ls [])) (v1 : Int32) (v2 : Int32) (v3 : Int32) (v4 : Int32) (v5 : Int32) (I : FI) (L : FL) (hf : bK8_number_39 k39 v1 v2 v3 v4 v5 I L = some r) {H : Heap} {locs : List Loc} {ls : Array Slot} (h : tf_H G 16 (rE G I L) s.heap H locs) (hl : lv_has ls 6 [(0, .ref (al G 0)), (1, .int v1), (2, .int v2), (3, .int v3), (4, .int v4), (5, .int v5)]) : W p l e (tf_rm 0 0) s m args below meth c H locs 0 0 (MQ below (tf_Q G 16 (rE G I L) (some (.int r))) args s 0 0 (gA (al G) 16)) (F0 m 39 ls []) := by
  have hx := X.1
  have hb := X.2.1
  have hJ := X.2.2.2.2.2.2.2.2.2
  unfold bK8_number_39 at hf
  refine lv_iload hx hb dK8_number_39 (lv_at hl 5 rfl) ?_
  refine lv_aload_n hx hb dK8_number_41 rfl (lv_at hl 0 rfl) ?_
  refine gf8_to X h w_386 dK8_number_42 ?_
  refine lv_iload_n hx hb dK8_number_45 rfl (lv_at hl 1 rfl) ?_
  obtain ⟨hi_1, hf⟩ := ck_some hf
  refine gar_3 X h (inb_in hi_1) dK8_number_46 ?_
  refine lv_icmp_ge (tgt := 100) hx hb dK8_number_47 (by decide) (fun c_2 => ?_) (fun c_2 => ?_)
  · have hf := if_t hf c_2
    refine lv_iload hx hb dK8_number_100 (lv_at hl 4 rfl) ?_
    refine lv_iload_n hx hb dK8_number_102 rfl (lv_at hl 2 rfl) ?_
    refine lv_icmp_lt (tgt := 112) hx hb dK8_number_103 (by decide) (fun c_3 => ?_) (fun c_3 => ?_)
    · have hf := if_t hf c_3
      exact sK8_number_112 X I L hf h (lv_sub hl [] rfl)
    · have hf := if_f hf c_3
      refine lv_iload hx hb dK8_number_106 (lv_at hl 4 rfl) ?_
      refine lv_iload_n hx hb dK8_number_108 rfl (lv_at hl 3 rfl) ?_
      refine lv_icmp_le (tgt := 116) hx hb dK8_number_109 (by decide) (fun c_4 => ?_) (fun c_4 => ?_)
      · have hf := if_t hf c_4
        refine lv_iload hx hb dK8_number_116 (lv_at hl 4 rfl) ?_
        cases hf
        exact tf_iret X h dK8_number_118
      · have hf := if_f hf c_4
        exact sK8_number_112 X I L hf h (lv_sub hl [] rfl)
  · have hf := if_f hf c_2
    refine lv_aload_n hx hb dK8_number_50 rfl (lv_at hl 0 rfl) ?_
    refine gf8_tape X h w_379 dK8_number_51 ?_
    refine lv_iload hx hb dK8_number_54 (lv_at hl 5 rfl) ?_
    obtain ⟨hi_5, hf⟩ := ck_some hf
    refine gar_1 X h (inb_in hi_5) dK8_number_56 ?_
    refine lv_bipush (v := 48) hx hb dK8_number_57 (by decide) ?_
    refine lv_icmp_lt (tgt := 74) hx hb dK8_number_59 (by decide) (fun c_6 => ?_) (fun c_6 => ?_)
    · have hf := if_t hf c_6
      refine lv_iconst (v := (-1)) hx hb dK8_number_74 (by decide) ?_
      cases hf
      exact tf_iret X h dK8_number_75
    · have hf := if_f hf c_6
      refine lv_aload_n hx hb dK8_number_62 rfl (lv_at hl 0 rfl) ?_
      refine gf8_tape X h w_379 dK8_number_63 ?_
      refine lv_iload hx hb dK8_number_66 (lv_at hl 5 rfl) ?_
      obtain ⟨hi_7, hf⟩ := ck_some hf
      refine gar_1 X h (inb_in hi_7) dK8_number_68 ?_
      refine lv_bipush (v := 57) hx hb dK8_number_69 (by decide) ?_
      refine lv_icmp_le (tgt := 76) hx hb dK8_number_71 (by decide) (fun c_8 => ?_) (fun c_8 => ?_)
      · have hf := if_t hf c_8
        refine lv_bipush (v := 10) hx hb dK8_number_76 (by decide) ?_
        refine lv_iload hx hb dK8_number_78 (lv_at hl 4 rfl) ?_
        refine lv_imul hx hb dK8_number_80 ?_
        refine lv_aload_n hx hb dK8_number_81 rfl (lv_at hl 0 rfl) ?_
        refine gf8_tape X h w_379 dK8_number_82 ?_
        refine lv_iload hx hb dK8_number_85 (lv_at hl 5 rfl) ?_
        obtain ⟨hi_9, hf⟩ := ck_some hf
        refine gar_1 X h (inb_in hi_9) dK8_number_87 ?_
        refine lv_iadd hx hb dK8_number_88 ?_
        refine lv_bipush (v := 48) hx hb dK8_number_89 (by decide) ?_
        refine lv_isub hx hb dK8_number_91 ?_
        refine lv_topi (fun x_10 ex_10 => ?_)
        have hf := nm_at hf ex_10
        refine lv_istore (lv' := [(4, .int x_10), (0, .ref (al G 0)), (1, .int v1), (2, .int v2), (3, .int v3), (5, .int v5)]) hx hb dK8_number_92 hl (by decide) rfl (fun ls hl => ?_)
        obtain ⟨x_11, ex_11, hf⟩ := nm_some hf
        refine lv_iinc (v := x_11) (lv' := [(5, .int x_11), (4, .int x_10), (0, .ref (al G 0)), (1, .int v1), (2, .int v2), (3, .int v3)]) hx hb dK8_number_94 hl (k := 5) rfl (by rw [ex_11]; rfl) (by decide) rfl (fun ls hl => ?_)
        refine lv_goto (tgt := 39) hx hb dK8_number_97 (by decide) ?_
        exact hk39 v1 v2 v3 x_10 x_11 I L hf h (lv_sub hl [2, 3, 4, 5, 1, 0] rfl)
      · have hf := if_f hf c_8
        refine lv_iconst (v := (-1)) hx hb dK8_number_74 (by decide) ?_
        cases hf
        exact tf_iret X h dK8_number_75
theorem lK8_number_39 {p : Program} {l : Launch} {e : Env} {s : State} {m : MethodId} {args : Array Value} {below : List Frame} {meth : Method} {c : Code} {G : tf_G} (X : tf_X G 16 "TradeFloorModel" cK8_number 6 (some .int) p s m args meth c) {r : Int32} : ∀ (n : Nat), ∀ (v1 : Int32) (v2 : Int32) (v3 : Int32) (v4 : Int32) (v5 : Int32) (I : FI) (L : FL), fK8_number_39 n v1 v2 v3 v4 v5 I L = some r → ∀ {H : Heap} {locs : List Loc} {ls : Array Slot}, tf_H G 16 (rE G I L) s.heap H locs → lv_has ls 6 [(0, .ref (al G 0)), (1, .int v1), (2, .int v2), (3, .int v3), (4, .int v4), (5, .int v5)] → W p l e (tf_rm 0 0) s m args below meth c H locs 0 0 (MQ below (tf_Q G 16 (rE G I L) (some (.int r))) args s 0 0 (gA (al G) 16)) (F0 m 39 ls []) := by
  intro n
  induction n with
  | zero =>
    intro v1 v2 v3 v4 v5 I L hf
    exact absurd hf (by simp [fK8_number_39])
  | succ n ih =>
    intro v1 v2 v3 v4 v5 I L hf H locs ls h hl
    exact sK8_number_39 X (fK8_number_39 n) ih v1 v2 v3 v4 v5 I L hf h hl
set_option maxHeartbeats 4000000 in
set_option maxRecDepth 100000 in
theorem sK8_number_0 {p : Program} {l : Launch} {e : Env} {s : State} {m : MethodId} {args : Array Value} {below : List Frame} {meth : Method} {c : Code} {G : tf_G} (X : tf_X G 16 "TradeFloorModel" cK8_number 6 (some .int) p s m args meth c) {r : Int32} (a1 : Int32) (a2 : Int32) (a3 : Int32) (I : FI) (L : FL) (hf : fK8_number a1 a2 a3 I L = some r) {H : Heap} {locs : List Loc} {ls : Array Slot} (h : tf_H G 16 (rE G I L) s.heap H locs) (hl : lv_has ls 6 [(0, .ref (al G 0)), (1, .int a1), (2, .int a2), (3, .int a3)]) : W p l e (tf_rm 0 0) s m args below meth c H locs 0 0 (MQ below (tf_Q G 16 (rE G I L) (some (.int r))) args s 0 0 (gA (al G) 16)) (F0 m 0 ls []) := by
  have hx := X.1
  have hb := X.2.1
  have hJ := X.2.2.2.2.2.2.2.2.2
  unfold fK8_number at hf
  refine lv_iload_n hx hb dK8_number_0 rfl (lv_at hl 1 rfl) ?_
  refine lv_aload_n hx hb dK8_number_1 rfl (lv_at hl 0 rfl) ?_
  refine gf8_words X h w_384 dK8_number_2 ?_
  refine lv_icmp_ge (tgt := 26) hx hb dK8_number_5 (by decide) (fun c_1 => ?_) (fun c_1 => ?_)
  · have hf := if_t hf c_1
    refine lv_iconst (v := (-1)) hx hb dK8_number_26 (by decide) ?_
    cases hf
    exact tf_iret X h dK8_number_27
  · have hf := if_f hf c_1
    refine lv_aload_n hx hb dK8_number_8 rfl (lv_at hl 0 rfl) ?_
    refine gf8_to X h w_386 dK8_number_9 ?_
    refine lv_iload_n hx hb dK8_number_12 rfl (lv_at hl 1 rfl) ?_
    obtain ⟨hi_2, hf⟩ := ck_some hf
    refine gar_3 X h (inb_in hi_2) dK8_number_13 ?_
    refine lv_aload_n hx hb dK8_number_14 rfl (lv_at hl 0 rfl) ?_
    refine gf8_from X h w_385 dK8_number_15 ?_
    refine lv_iload_n hx hb dK8_number_18 rfl (lv_at hl 1 rfl) ?_
    obtain ⟨hi_3, hf⟩ := ck_some hf
    refine gar_2 X h (inb_in hi_3) dK8_number_19 ?_
    refine lv_isub hx hb dK8_number_20 ?_
    refine lv_bipush (v := 7) hx hb dK8_number_21 (by decide) ?_
    refine lv_icmp_le (tgt := 28) hx hb dK8_number_23 (by decide) (fun c_4 => ?_) (fun c_4 => ?_)
    · have hf := if_t hf c_4
      refine lv_iconst (v := 0) hx hb dK8_number_28 (by decide) ?_
      refine lv_istore (lv' := [(4, .int 0), (0, .ref (al G 0)), (1, .int a1), (2, .int a2), (3, .int a3)]) hx hb dK8_number_29 hl (by decide) rfl (fun ls hl => ?_)
      refine lv_aload_n hx hb dK8_number_31 rfl (lv_at hl 1 rfl) ?_
      refine gf8_from X h w_385 dK8_number_32 ?_
      refine lv_iload_n hx hb dK8_number_35 rfl (lv_at hl 2 rfl) ?_
      obtain ⟨hi_5, hf⟩ := ck_some hf
      refine gar_2 X h (inb_in hi_5) dK8_number_36 ?_
      refine lv_topi (fun x_6 ex_6 => ?_)
      have hf := nm_at hf ex_6
      refine lv_istore (lv' := [(5, .int x_6), (4, .int 0), (0, .ref (al G 0)), (1, .int a1), (2, .int a2), (3, .int a3)]) hx hb dK8_number_37 hl (by decide) rfl (fun ls hl => ?_)
      exact lK8_number_39 X FU a1 a2 a3 0 x_6 I L hf h (lv_sub hl [2, 3, 4, 5, 1, 0] rfl)
    · have hf := if_f hf c_4
      refine lv_iconst (v := (-1)) hx hb dK8_number_26 (by decide) ?_
      cases hf
      exact tf_iret X h dK8_number_27
theorem mK8_number {l : Launch} {G : tf_G} (hJ : gJ (al G) 16) {r : Int32} {a1 : Int32} {a2 : Int32} {a3 : Int32} {I : FI} {L : FL} (hf : fK8_number a1 a2 a3 I L = some r) : tf_Met l G 16 yK8_number cK8_number 6 (some .int) 0 0 [.ref (al G 0), .int a1, .int a2, .int a3] (rE G I L) (rE G I L) (some (.int r)) :=
  tf_enter (by decide +kernel) hJ (Nat.le_of_ble_eq_true rfl) (fun p e s m args below meth c ls X _ hl h => sK8_number_0 X a1 a2 a3 I L hf h hl)
theorem bwK8_number : tf_cv yK8_number cK8_number 6 (some .int) 3 := ⟨w_395, w_396, w_397, w_381, by decide +kernel, by decide +kernel, by decide +kernel⟩

set_option maxHeartbeats 4000000 in
set_option maxRecDepth 100000 in
theorem sK8_any_0 {p : Program} {l : Launch} {e : Env} {s : State} {m : MethodId} {args : Array Value} {below : List Frame} {meth : Method} {c : Code} {G : tf_G} (X : tf_X G 16 "TradeFloorModel" cK8_any 2 (some .int) p s m args meth c) {r : Int32} (a1 : Int32) (I : FI) (L : FL) (hf : fK8_any a1 I L = some r) {H : Heap} {locs : List Loc} {ls : Array Slot} (h : tf_H G 16 (rE G I L) s.heap H locs) (hl : lv_has ls 2 [(0, .ref (al G 0)), (1, .int a1)]) : W p l e (tf_rm 1 25) s m args below meth c H locs 0 0 (MQ below (tf_Q G 16 (rE G I L) (some (.int r))) args s 0 0 (gA (al G) 16)) (F0 m 0 ls []) := by
  have hx := X.1
  have hb := X.2.1
  have hJ := X.2.2.2.2.2.2.2.2.2
  unfold fK8_any at hf
  refine lv_aload_n hx hb dK8_any_0 rfl (lv_at hl 0 rfl) ?_
  refine lv_iload_n hx hb dK8_any_1 rfl (lv_at hl 1 rfl) ?_
  refine lv_iconst (v := 0) hx hb dK8_any_2 (by decide) ?_
  refine lv_ldc (v := 9999999) hx hb X.2.2.2.2.1 (X.2.2.2.2.2.2.1 _ w_398) dK8_any_3 ?_
  obtain ⟨r_2, h_1, hf⟩ := bn_some hf
  refine tf_callVi (As := [.int a1, .int 0, .int 9999999]) (rest := []) X h 0 (by decide) rfl rfl (mK8_number hJ h_1) bwK8_number w_399 ⟨Nat.le_of_ble_eq_true rfl, Nat.le_of_ble_eq_true rfl⟩ hl.1 rfl (Nat.le_of_ble_eq_true rfl) ⟨Nat.zero_le _, Nat.zero_le _⟩ dK8_any_5 (fun H locs h => ?_)
  cases hf
  exact tf_iret X h dK8_any_8
theorem mK8_any {l : Launch} {G : tf_G} (hJ : gJ (al G) 16) {r : Int32} {a1 : Int32} {I : FI} {L : FL} (hf : fK8_any a1 I L = some r) : tf_Met l G 16 yK8_any cK8_any 2 (some .int) 1 25 [.ref (al G 0), .int a1] (rE G I L) (rE G I L) (some (.int r)) :=
  tf_enter (by decide +kernel) hJ (Nat.le_of_ble_eq_true rfl) (fun p e s m args below meth c ls X _ hl h => sK8_any_0 X a1 I L hf h hl)
theorem bwK8_any : tf_cv yK8_any cK8_any 2 (some .int) 1 := ⟨w_400, w_401, w_402, w_381, by decide +kernel, by decide +kernel, by decide +kernel⟩

set_option maxHeartbeats 4000000 in
set_option maxRecDepth 100000 in
theorem sK8_whose_0 {p : Program} {l : Launch} {e : Env} {s : State} {m : MethodId} {args : Array Value} {below : List Frame} {meth : Method} {c : Code} {G : tf_G} (X : tf_X G 16 "TradeFloorModel" cK8_whose 2 (some .int) p s m args meth c) {r : Int32} (a1 : Int32) (I : FI) (L : FL) (hf : fK8_whose a1 I L = some r) {H : Heap} {locs : List Loc} {ls : Array Slot} (h : tf_H G 16 (rE G I L) s.heap H locs) (hl : lv_has ls 2 [(0, .ref (al G 0)), (1, .int a1)]) : W p l e (tf_rm 1 25) s m args below meth c H locs 0 0 (MQ below (tf_Q G 16 (rE G I L) (some (.int r))) args s 0 0 (gA (al G) 16)) (F0 m 0 ls []) := by
  have hx := X.1
  have hb := X.2.1
  have hJ := X.2.2.2.2.2.2.2.2.2
  unfold fK8_whose at hf
  refine lv_aload_n hx hb dK8_whose_0 rfl (lv_at hl 0 rfl) ?_
  refine lv_iload_n hx hb dK8_whose_1 rfl (lv_at hl 1 rfl) ?_
  refine lv_iconst (v := 0) hx hb dK8_whose_2 (by decide) ?_
  refine lv_bipush (v := 7) hx hb dK8_whose_3 (by decide) ?_
  obtain ⟨r_2, h_1, hf⟩ := bn_some hf
  refine tf_callVi (As := [.int a1, .int 0, .int 7]) (rest := []) X h 0 (by decide) rfl rfl (mK8_number hJ h_1) bwK8_number w_399 ⟨Nat.le_of_ble_eq_true rfl, Nat.le_of_ble_eq_true rfl⟩ hl.1 rfl (Nat.le_of_ble_eq_true rfl) ⟨Nat.zero_le _, Nat.zero_le _⟩ dK8_whose_5 (fun H locs h => ?_)
  cases hf
  exact tf_iret X h dK8_whose_8
theorem mK8_whose {l : Launch} {G : tf_G} (hJ : gJ (al G) 16) {r : Int32} {a1 : Int32} {I : FI} {L : FL} (hf : fK8_whose a1 I L = some r) : tf_Met l G 16 yK8_whose cK8_whose 2 (some .int) 1 25 [.ref (al G 0), .int a1] (rE G I L) (rE G I L) (some (.int r)) :=
  tf_enter (by decide +kernel) hJ (Nat.le_of_ble_eq_true rfl) (fun p e s m args below meth c ls X _ hl h => sK8_whose_0 X a1 I L hf h hl)
theorem bwK8_whose : tf_cv yK8_whose cK8_whose 2 (some .int) 1 := ⟨w_403, w_404, w_405, w_381, by decide +kernel, by decide +kernel, by decide +kernel⟩

set_option maxHeartbeats 4000000 in
set_option maxRecDepth 100000 in
theorem sK8_heldCash_65 {p : Program} {l : Launch} {e : Env} {s : State} {m : MethodId} {args : Array Value} {below : List Frame} {meth : Method} {c : Code} {G : tf_G} (X : tf_X G 16 "TradeFloorModel" cK8_heldCash 5 (some .long) p s m args meth c) {r : Int64} (k5 : Int32 → Int64 → Int32 → FI → FL → Option (Int64)) (hk5 : ∀ (v1 : Int32) (v2 : Int64) (v4 : Int32) (I : FI) (L : FL), k5 v1 v2 v4 I L = some r → ∀ {H : Heap} {locs : List Loc} {ls : Array Slot}, tf_H G 16 (rE G I L) s.heap H locs → lv_has ls 5 [(0, .ref (al G 0)), (1, .int v1), (2, .long v2), (4, .int v4)] → W p l e (tf_rm 0 0) s m args below meth c H locs 0 0 (MQ below (tf_Q G 16 (rE G I L) (some (.long r))) args s 0 0 (gA (al G) 16)) (F0 m 5 ls [])) (v1 : Int32) (v2 : Int64) (v4 : Int32) (I : FI) (L : FL) (hf : fK8_heldCash_65 k5 v1 v2 v4 I L = some r) {H : Heap} {locs : List Loc} {ls : Array Slot} (h : tf_H G 16 (rE G I L) s.heap H locs) (hl : lv_has ls 5 [(0, .ref (al G 0)), (1, .int v1), (2, .long v2), (4, .int v4)]) : W p l e (tf_rm 0 0) s m args below meth c H locs 0 0 (MQ below (tf_Q G 16 (rE G I L) (some (.long r))) args s 0 0 (gA (al G) 16)) (F0 m 65 ls []) := by
  have hx := X.1
  have hb := X.2.1
  have hJ := X.2.2.2.2.2.2.2.2.2
  unfold fK8_heldCash_65 at hf
  obtain ⟨x_1, ex_1, hf⟩ := nm_some hf
  refine lv_iinc (v := x_1) (lv' := [(4, .int x_1), (0, .ref (al G 0)), (1, .int v1), (2, .long v2)]) hx hb dK8_heldCash_65 hl (k := 3) rfl (by rw [ex_1]; rfl) (by decide) rfl (fun ls hl => ?_)
  refine lv_goto (tgt := 5) hx hb dK8_heldCash_68 (by decide) ?_
  exact hk5 v1 v2 x_1 I L hf h (lv_sub hl [1, 2, 3, 0] rfl)
set_option maxHeartbeats 4000000 in
set_option maxRecDepth 100000 in
theorem sK8_heldCash_5 {p : Program} {l : Launch} {e : Env} {s : State} {m : MethodId} {args : Array Value} {below : List Frame} {meth : Method} {c : Code} {G : tf_G} (X : tf_X G 16 "TradeFloorModel" cK8_heldCash 5 (some .long) p s m args meth c) {r : Int64} (k5 : Int32 → Int64 → Int32 → FI → FL → Option (Int64)) (hk5 : ∀ (v1 : Int32) (v2 : Int64) (v4 : Int32) (I : FI) (L : FL), k5 v1 v2 v4 I L = some r → ∀ {H : Heap} {locs : List Loc} {ls : Array Slot}, tf_H G 16 (rE G I L) s.heap H locs → lv_has ls 5 [(0, .ref (al G 0)), (1, .int v1), (2, .long v2), (4, .int v4)] → W p l e (tf_rm 0 0) s m args below meth c H locs 0 0 (MQ below (tf_Q G 16 (rE G I L) (some (.long r))) args s 0 0 (gA (al G) 16)) (F0 m 5 ls [])) (v1 : Int32) (v2 : Int64) (v4 : Int32) (I : FI) (L : FL) (hf : bK8_heldCash_5 k5 v1 v2 v4 I L = some r) {H : Heap} {locs : List Loc} {ls : Array Slot} (h : tf_H G 16 (rE G I L) s.heap H locs) (hl : lv_has ls 5 [(0, .ref (al G 0)), (1, .int v1), (2, .long v2), (4, .int v4)]) : W p l e (tf_rm 0 0) s m args below meth c H locs 0 0 (MQ below (tf_Q G 16 (rE G I L) (some (.long r))) args s 0 0 (gA (al G) 16)) (F0 m 5 ls []) := by
  have hx := X.1
  have hb := X.2.1
  have hJ := X.2.2.2.2.2.2.2.2.2
  unfold bK8_heldCash_5 at hf
  refine lv_iload hx hb dK8_heldCash_5 (lv_at hl 3 rfl) ?_
  refine lv_aload_n hx hb dK8_heldCash_7 rfl (lv_at hl 0 rfl) ?_
  refine gf8_orders X h w_406 dK8_heldCash_8 ?_
  refine lv_icmp_ge (tgt := 71) hx hb dK8_heldCash_11 (by decide) (fun c_1 => ?_) (fun c_1 => ?_)
  · have hf := if_t hf c_1
    refine lv_lload_n hx hb dK8_heldCash_71 rfl (lv_at hl 2 rfl) ?_
    cases hf
    exact tf_lret X h dK8_heldCash_72
  · have hf := if_f hf c_1
    refine lv_aload_n hx hb dK8_heldCash_14 rfl (lv_at hl 0 rfl) ?_
    refine gf8_state X h w_407 dK8_heldCash_15 ?_
    refine lv_iload hx hb dK8_heldCash_18 (lv_at hl 3 rfl) ?_
    obtain ⟨hi_2, hf⟩ := ck_some hf
    refine gar_10 X h (inb_in hi_2) dK8_heldCash_20 ?_
    refine lv_if_ne (tgt := 65) hx hb dK8_heldCash_21 (by decide) (fun c_3 => ?_) (fun c_3 => ?_)
    · have hf := if_f hf c_3
      exact sK8_heldCash_65 X k5 hk5 v1 v2 v4 I L hf h hl
    · have hf := if_t hf c_3
      refine lv_aload_n hx hb dK8_heldCash_24 rfl (lv_at hl 0 rfl) ?_
      refine gf8_who X h w_408 dK8_heldCash_25 ?_
      refine lv_iload hx hb dK8_heldCash_28 (lv_at hl 3 rfl) ?_
      obtain ⟨hi_4, hf⟩ := ck_some hf
      refine gar_6 X h (inb_in hi_4) dK8_heldCash_30 ?_
      refine lv_iload_n hx hb dK8_heldCash_31 rfl (lv_at hl 1 rfl) ?_
      refine lv_icmp_ne (tgt := 65) hx hb dK8_heldCash_32 (by decide) (fun c_5 => ?_) (fun c_5 => ?_)
      · have hf := if_f hf c_5
        exact sK8_heldCash_65 X k5 hk5 v1 v2 v4 I L hf h hl
      · have hf := if_t hf c_5
        refine lv_aload_n hx hb dK8_heldCash_35 rfl (lv_at hl 0 rfl) ?_
        refine gf8_side X h w_409 dK8_heldCash_36 ?_
        refine lv_iload hx hb dK8_heldCash_39 (lv_at hl 3 rfl) ?_
        obtain ⟨hi_6, hf⟩ := ck_some hf
        refine gar_7 X h (inb_in hi_6) dK8_heldCash_41 ?_
        refine lv_if_ne (tgt := 65) hx hb dK8_heldCash_42 (by decide) (fun c_7 => ?_) (fun c_7 => ?_)
        · have hf := if_f hf c_7
          exact sK8_heldCash_65 X k5 hk5 v1 v2 v4 I L hf h hl
        · have hf := if_t hf c_7
          refine lv_lload_n hx hb dK8_heldCash_45 rfl (lv_at hl 2 rfl) ?_
          refine lv_aload_n hx hb dK8_heldCash_46 rfl (lv_at hl 0 rfl) ?_
          refine gf8_left X h w_410 dK8_heldCash_47 ?_
          refine lv_iload hx hb dK8_heldCash_50 (lv_at hl 3 rfl) ?_
          obtain ⟨hi_8, hf⟩ := ck_some hf
          refine gar_8 X h (inb_in hi_8) dK8_heldCash_52 ?_
          refine lv_i2l hx hb dK8_heldCash_53 rfl ?_
          refine lv_aload_n hx hb dK8_heldCash_54 rfl (lv_at hl 0 rfl) ?_
          refine gf8_price X h w_411 dK8_heldCash_55 ?_
          refine lv_iload hx hb dK8_heldCash_58 (lv_at hl 3 rfl) ?_
          obtain ⟨hi_9, hf⟩ := ck_some hf
          refine gar_9 X h (inb_in hi_9) dK8_heldCash_60 ?_
          refine lv_i2l hx hb dK8_heldCash_61 rfl ?_
          refine lv_lmul hx hb dK8_heldCash_62 ?_
          refine lv_ladd hx hb dK8_heldCash_63 ?_
          refine lv_topl (fun x_10 ex_10 => ?_)
          have hf := nm_at hf ex_10
          refine lv_lstore_n (lv' := [(2, .long x_10), (0, .ref (al G 0)), (1, .int v1), (4, .int v4)]) hx hb dK8_heldCash_64 rfl hl (by decide) rfl (fun ls hl => ?_)
          exact sK8_heldCash_65 X k5 hk5 v1 x_10 v4 I L hf h (lv_sub hl [1, 2, 0, 3] rfl)
theorem lK8_heldCash_5 {p : Program} {l : Launch} {e : Env} {s : State} {m : MethodId} {args : Array Value} {below : List Frame} {meth : Method} {c : Code} {G : tf_G} (X : tf_X G 16 "TradeFloorModel" cK8_heldCash 5 (some .long) p s m args meth c) {r : Int64} : ∀ (n : Nat), ∀ (v1 : Int32) (v2 : Int64) (v4 : Int32) (I : FI) (L : FL), fK8_heldCash_5 n v1 v2 v4 I L = some r → ∀ {H : Heap} {locs : List Loc} {ls : Array Slot}, tf_H G 16 (rE G I L) s.heap H locs → lv_has ls 5 [(0, .ref (al G 0)), (1, .int v1), (2, .long v2), (4, .int v4)] → W p l e (tf_rm 0 0) s m args below meth c H locs 0 0 (MQ below (tf_Q G 16 (rE G I L) (some (.long r))) args s 0 0 (gA (al G) 16)) (F0 m 5 ls []) := by
  intro n
  induction n with
  | zero =>
    intro v1 v2 v4 I L hf
    exact absurd hf (by simp [fK8_heldCash_5])
  | succ n ih =>
    intro v1 v2 v4 I L hf H locs ls h hl
    exact sK8_heldCash_5 X (fK8_heldCash_5 n) ih v1 v2 v4 I L hf h hl
set_option maxHeartbeats 4000000 in
set_option maxRecDepth 100000 in
theorem sK8_heldCash_0 {p : Program} {l : Launch} {e : Env} {s : State} {m : MethodId} {args : Array Value} {below : List Frame} {meth : Method} {c : Code} {G : tf_G} (X : tf_X G 16 "TradeFloorModel" cK8_heldCash 5 (some .long) p s m args meth c) {r : Int64} (a1 : Int32) (I : FI) (L : FL) (hf : fK8_heldCash a1 I L = some r) {H : Heap} {locs : List Loc} {ls : Array Slot} (h : tf_H G 16 (rE G I L) s.heap H locs) (hl : lv_has ls 5 [(0, .ref (al G 0)), (1, .int a1)]) : W p l e (tf_rm 0 0) s m args below meth c H locs 0 0 (MQ below (tf_Q G 16 (rE G I L) (some (.long r))) args s 0 0 (gA (al G) 16)) (F0 m 0 ls []) := by
  have hx := X.1
  have hb := X.2.1
  have hJ := X.2.2.2.2.2.2.2.2.2
  unfold fK8_heldCash at hf
  refine lv_lconst (v := 0) hx hb dK8_heldCash_0 (by decide) ?_
  refine lv_lstore_n (lv' := [(2, .long 0), (0, .ref (al G 0)), (1, .int a1)]) hx hb dK8_heldCash_1 rfl hl (by decide) rfl (fun ls hl => ?_)
  refine lv_iconst (v := 0) hx hb dK8_heldCash_2 (by decide) ?_
  refine lv_istore (lv' := [(4, .int 0), (2, .long 0), (0, .ref (al G 0)), (1, .int a1)]) hx hb dK8_heldCash_3 hl (by decide) rfl (fun ls hl => ?_)
  exact lK8_heldCash_5 X FU a1 0 0 I L hf h (lv_sub hl [2, 3, 1, 0] rfl)
theorem mK8_heldCash {l : Launch} {G : tf_G} (hJ : gJ (al G) 16) {r : Int64} {a1 : Int32} {I : FI} {L : FL} (hf : fK8_heldCash a1 I L = some r) : tf_Met l G 16 yK8_heldCash cK8_heldCash 5 (some .long) 0 0 [.ref (al G 0), .int a1] (rE G I L) (rE G I L) (some (.long r)) :=
  tf_enter (by decide +kernel) hJ (Nat.le_of_ble_eq_true rfl) (fun p e s m args below meth c ls X _ hl h => sK8_heldCash_0 X a1 I L hf h hl)
theorem bwK8_heldCash : tf_cv yK8_heldCash cK8_heldCash 5 (some .long) 1 := ⟨w_412, w_413, w_414, w_381, by decide +kernel, by decide +kernel, by decide +kernel⟩

set_option maxHeartbeats 4000000 in
set_option maxRecDepth 100000 in
theorem sK8_freeCash_0 {p : Program} {l : Launch} {e : Env} {s : State} {m : MethodId} {args : Array Value} {below : List Frame} {meth : Method} {c : Code} {G : tf_G} (X : tf_X G 16 "TradeFloorModel" cK8_freeCash 2 (some .long) p s m args meth c) {r : Int64} (a1 : Int32) (I : FI) (L : FL) (hf : fK8_freeCash a1 I L = some r) {H : Heap} {locs : List Loc} {ls : Array Slot} (h : tf_H G 16 (rE G I L) s.heap H locs) (hl : lv_has ls 2 [(0, .ref (al G 0)), (1, .int a1)]) : W p l e (tf_rm 1 24) s m args below meth c H locs 0 0 (MQ below (tf_Q G 16 (rE G I L) (some (.long r))) args s 0 0 (gA (al G) 16)) (F0 m 0 ls []) := by
  have hx := X.1
  have hb := X.2.1
  have hJ := X.2.2.2.2.2.2.2.2.2
  unfold fK8_freeCash at hf
  refine lv_aload_n hx hb dK8_freeCash_0 rfl (lv_at hl 0 rfl) ?_
  refine gf8_cash X h w_415 dK8_freeCash_1 ?_
  refine lv_iload_n hx hb dK8_freeCash_4 rfl (lv_at hl 1 rfl) ?_
  obtain ⟨hi_1, hf⟩ := ck_some hf
  refine gar_4 X h (inb_in hi_1) dK8_freeCash_5 ?_
  refine lv_aload_n hx hb dK8_freeCash_6 rfl (lv_at hl 0 rfl) ?_
  refine lv_iload_n hx hb dK8_freeCash_7 rfl (lv_at hl 1 rfl) ?_
  obtain ⟨r_3, h_2, hf⟩ := bn_some hf
  refine tf_callVl (As := [.int a1]) (rest := [.long (L 0 a1.toNatClampNeg)]) X h 0 (by decide) rfl rfl (mK8_heldCash hJ h_2) bwK8_heldCash w_416 ⟨Nat.le_of_ble_eq_true rfl, Nat.le_of_ble_eq_true rfl⟩ hl.1 rfl (Nat.le_of_ble_eq_true rfl) ⟨Nat.zero_le _, Nat.zero_le _⟩ dK8_freeCash_8 (fun H locs h => ?_)
  refine lv_lsub hx hb dK8_freeCash_11 ?_
  cases hf
  exact tf_lret X h dK8_freeCash_12
theorem mK8_freeCash {l : Launch} {G : tf_G} (hJ : gJ (al G) 16) {r : Int64} {a1 : Int32} {I : FI} {L : FL} (hf : fK8_freeCash a1 I L = some r) : tf_Met l G 16 yK8_freeCash cK8_freeCash 2 (some .long) 1 24 [.ref (al G 0), .int a1] (rE G I L) (rE G I L) (some (.long r)) :=
  tf_enter (by decide +kernel) hJ (Nat.le_of_ble_eq_true rfl) (fun p e s m args below meth c ls X _ hl h => sK8_freeCash_0 X a1 I L hf h hl)
theorem bwK8_freeCash : tf_cv yK8_freeCash cK8_freeCash 2 (some .long) 1 := ⟨w_417, w_418, w_419, w_381, by decide +kernel, by decide +kernel, by decide +kernel⟩

set_option maxHeartbeats 4000000 in
set_option maxRecDepth 100000 in
theorem sK8_heldGoods_57 {p : Program} {l : Launch} {e : Env} {s : State} {m : MethodId} {args : Array Value} {below : List Frame} {meth : Method} {c : Code} {G : tf_G} (X : tf_X G 16 "TradeFloorModel" cK8_heldGoods 5 (some .long) p s m args meth c) {r : Int64} (k5 : Int32 → Int64 → Int32 → FI → FL → Option (Int64)) (hk5 : ∀ (v1 : Int32) (v2 : Int64) (v4 : Int32) (I : FI) (L : FL), k5 v1 v2 v4 I L = some r → ∀ {H : Heap} {locs : List Loc} {ls : Array Slot}, tf_H G 16 (rE G I L) s.heap H locs → lv_has ls 5 [(0, .ref (al G 0)), (1, .int v1), (2, .long v2), (4, .int v4)] → W p l e (tf_rm 0 0) s m args below meth c H locs 0 0 (MQ below (tf_Q G 16 (rE G I L) (some (.long r))) args s 0 0 (gA (al G) 16)) (F0 m 5 ls [])) (v1 : Int32) (v2 : Int64) (v4 : Int32) (I : FI) (L : FL) (hf : fK8_heldGoods_57 k5 v1 v2 v4 I L = some r) {H : Heap} {locs : List Loc} {ls : Array Slot} (h : tf_H G 16 (rE G I L) s.heap H locs) (hl : lv_has ls 5 [(0, .ref (al G 0)), (1, .int v1), (2, .long v2), (4, .int v4)]) : W p l e (tf_rm 0 0) s m args below meth c H locs 0 0 (MQ below (tf_Q G 16 (rE G I L) (some (.long r))) args s 0 0 (gA (al G) 16)) (F0 m 57 ls []) := by
  have hx := X.1
  have hb := X.2.1
  have hJ := X.2.2.2.2.2.2.2.2.2
  unfold fK8_heldGoods_57 at hf
  obtain ⟨x_1, ex_1, hf⟩ := nm_some hf
  refine lv_iinc (v := x_1) (lv' := [(4, .int x_1), (0, .ref (al G 0)), (1, .int v1), (2, .long v2)]) hx hb dK8_heldGoods_57 hl (k := 3) rfl (by rw [ex_1]; rfl) (by decide) rfl (fun ls hl => ?_)
  refine lv_goto (tgt := 5) hx hb dK8_heldGoods_60 (by decide) ?_
  exact hk5 v1 v2 x_1 I L hf h (lv_sub hl [1, 2, 3, 0] rfl)
set_option maxHeartbeats 4000000 in
set_option maxRecDepth 100000 in
theorem sK8_heldGoods_5 {p : Program} {l : Launch} {e : Env} {s : State} {m : MethodId} {args : Array Value} {below : List Frame} {meth : Method} {c : Code} {G : tf_G} (X : tf_X G 16 "TradeFloorModel" cK8_heldGoods 5 (some .long) p s m args meth c) {r : Int64} (k5 : Int32 → Int64 → Int32 → FI → FL → Option (Int64)) (hk5 : ∀ (v1 : Int32) (v2 : Int64) (v4 : Int32) (I : FI) (L : FL), k5 v1 v2 v4 I L = some r → ∀ {H : Heap} {locs : List Loc} {ls : Array Slot}, tf_H G 16 (rE G I L) s.heap H locs → lv_has ls 5 [(0, .ref (al G 0)), (1, .int v1), (2, .long v2), (4, .int v4)] → W p l e (tf_rm 0 0) s m args below meth c H locs 0 0 (MQ below (tf_Q G 16 (rE G I L) (some (.long r))) args s 0 0 (gA (al G) 16)) (F0 m 5 ls [])) (v1 : Int32) (v2 : Int64) (v4 : Int32) (I : FI) (L : FL) (hf : bK8_heldGoods_5 k5 v1 v2 v4 I L = some r) {H : Heap} {locs : List Loc} {ls : Array Slot} (h : tf_H G 16 (rE G I L) s.heap H locs) (hl : lv_has ls 5 [(0, .ref (al G 0)), (1, .int v1), (2, .long v2), (4, .int v4)]) : W p l e (tf_rm 0 0) s m args below meth c H locs 0 0 (MQ below (tf_Q G 16 (rE G I L) (some (.long r))) args s 0 0 (gA (al G) 16)) (F0 m 5 ls []) := by
  have hx := X.1
  have hb := X.2.1
  have hJ := X.2.2.2.2.2.2.2.2.2
  unfold bK8_heldGoods_5 at hf
  refine lv_iload hx hb dK8_heldGoods_5 (lv_at hl 3 rfl) ?_
  refine lv_aload_n hx hb dK8_heldGoods_7 rfl (lv_at hl 0 rfl) ?_
  refine gf8_orders X h w_406 dK8_heldGoods_8 ?_
  refine lv_icmp_ge (tgt := 63) hx hb dK8_heldGoods_11 (by decide) (fun c_1 => ?_) (fun c_1 => ?_)
  · have hf := if_t hf c_1
    refine lv_lload_n hx hb dK8_heldGoods_63 rfl (lv_at hl 2 rfl) ?_
    cases hf
    exact tf_lret X h dK8_heldGoods_64
  · have hf := if_f hf c_1
    refine lv_aload_n hx hb dK8_heldGoods_14 rfl (lv_at hl 0 rfl) ?_
    refine gf8_state X h w_407 dK8_heldGoods_15 ?_
    refine lv_iload hx hb dK8_heldGoods_18 (lv_at hl 3 rfl) ?_
    obtain ⟨hi_2, hf⟩ := ck_some hf
    refine gar_10 X h (inb_in hi_2) dK8_heldGoods_20 ?_
    refine lv_if_ne (tgt := 57) hx hb dK8_heldGoods_21 (by decide) (fun c_3 => ?_) (fun c_3 => ?_)
    · have hf := if_f hf c_3
      exact sK8_heldGoods_57 X k5 hk5 v1 v2 v4 I L hf h hl
    · have hf := if_t hf c_3
      refine lv_aload_n hx hb dK8_heldGoods_24 rfl (lv_at hl 0 rfl) ?_
      refine gf8_who X h w_408 dK8_heldGoods_25 ?_
      refine lv_iload hx hb dK8_heldGoods_28 (lv_at hl 3 rfl) ?_
      obtain ⟨hi_4, hf⟩ := ck_some hf
      refine gar_6 X h (inb_in hi_4) dK8_heldGoods_30 ?_
      refine lv_iload_n hx hb dK8_heldGoods_31 rfl (lv_at hl 1 rfl) ?_
      refine lv_icmp_ne (tgt := 57) hx hb dK8_heldGoods_32 (by decide) (fun c_5 => ?_) (fun c_5 => ?_)
      · have hf := if_f hf c_5
        exact sK8_heldGoods_57 X k5 hk5 v1 v2 v4 I L hf h hl
      · have hf := if_t hf c_5
        refine lv_aload_n hx hb dK8_heldGoods_35 rfl (lv_at hl 0 rfl) ?_
        refine gf8_side X h w_409 dK8_heldGoods_36 ?_
        refine lv_iload hx hb dK8_heldGoods_39 (lv_at hl 3 rfl) ?_
        obtain ⟨hi_6, hf⟩ := ck_some hf
        refine gar_7 X h (inb_in hi_6) dK8_heldGoods_41 ?_
        refine lv_iconst (v := 1) hx hb dK8_heldGoods_42 (by decide) ?_
        refine lv_icmp_ne (tgt := 57) hx hb dK8_heldGoods_43 (by decide) (fun c_7 => ?_) (fun c_7 => ?_)
        · have hf := if_f hf c_7
          exact sK8_heldGoods_57 X k5 hk5 v1 v2 v4 I L hf h hl
        · have hf := if_t hf c_7
          refine lv_lload_n hx hb dK8_heldGoods_46 rfl (lv_at hl 2 rfl) ?_
          refine lv_aload_n hx hb dK8_heldGoods_47 rfl (lv_at hl 0 rfl) ?_
          refine gf8_left X h w_410 dK8_heldGoods_48 ?_
          refine lv_iload hx hb dK8_heldGoods_51 (lv_at hl 3 rfl) ?_
          obtain ⟨hi_8, hf⟩ := ck_some hf
          refine gar_8 X h (inb_in hi_8) dK8_heldGoods_53 ?_
          refine lv_i2l hx hb dK8_heldGoods_54 rfl ?_
          refine lv_ladd hx hb dK8_heldGoods_55 ?_
          refine lv_topl (fun x_9 ex_9 => ?_)
          have hf := nm_at hf ex_9
          refine lv_lstore_n (lv' := [(2, .long x_9), (0, .ref (al G 0)), (1, .int v1), (4, .int v4)]) hx hb dK8_heldGoods_56 rfl hl (by decide) rfl (fun ls hl => ?_)
          exact sK8_heldGoods_57 X k5 hk5 v1 x_9 v4 I L hf h (lv_sub hl [1, 2, 0, 3] rfl)
theorem lK8_heldGoods_5 {p : Program} {l : Launch} {e : Env} {s : State} {m : MethodId} {args : Array Value} {below : List Frame} {meth : Method} {c : Code} {G : tf_G} (X : tf_X G 16 "TradeFloorModel" cK8_heldGoods 5 (some .long) p s m args meth c) {r : Int64} : ∀ (n : Nat), ∀ (v1 : Int32) (v2 : Int64) (v4 : Int32) (I : FI) (L : FL), fK8_heldGoods_5 n v1 v2 v4 I L = some r → ∀ {H : Heap} {locs : List Loc} {ls : Array Slot}, tf_H G 16 (rE G I L) s.heap H locs → lv_has ls 5 [(0, .ref (al G 0)), (1, .int v1), (2, .long v2), (4, .int v4)] → W p l e (tf_rm 0 0) s m args below meth c H locs 0 0 (MQ below (tf_Q G 16 (rE G I L) (some (.long r))) args s 0 0 (gA (al G) 16)) (F0 m 5 ls []) := by
  intro n
  induction n with
  | zero =>
    intro v1 v2 v4 I L hf
    exact absurd hf (by simp [fK8_heldGoods_5])
  | succ n ih =>
    intro v1 v2 v4 I L hf H locs ls h hl
    exact sK8_heldGoods_5 X (fK8_heldGoods_5 n) ih v1 v2 v4 I L hf h hl
set_option maxHeartbeats 4000000 in
set_option maxRecDepth 100000 in
theorem sK8_heldGoods_0 {p : Program} {l : Launch} {e : Env} {s : State} {m : MethodId} {args : Array Value} {below : List Frame} {meth : Method} {c : Code} {G : tf_G} (X : tf_X G 16 "TradeFloorModel" cK8_heldGoods 5 (some .long) p s m args meth c) {r : Int64} (a1 : Int32) (I : FI) (L : FL) (hf : fK8_heldGoods a1 I L = some r) {H : Heap} {locs : List Loc} {ls : Array Slot} (h : tf_H G 16 (rE G I L) s.heap H locs) (hl : lv_has ls 5 [(0, .ref (al G 0)), (1, .int a1)]) : W p l e (tf_rm 0 0) s m args below meth c H locs 0 0 (MQ below (tf_Q G 16 (rE G I L) (some (.long r))) args s 0 0 (gA (al G) 16)) (F0 m 0 ls []) := by
  have hx := X.1
  have hb := X.2.1
  have hJ := X.2.2.2.2.2.2.2.2.2
  unfold fK8_heldGoods at hf
  refine lv_lconst (v := 0) hx hb dK8_heldGoods_0 (by decide) ?_
  refine lv_lstore_n (lv' := [(2, .long 0), (0, .ref (al G 0)), (1, .int a1)]) hx hb dK8_heldGoods_1 rfl hl (by decide) rfl (fun ls hl => ?_)
  refine lv_iconst (v := 0) hx hb dK8_heldGoods_2 (by decide) ?_
  refine lv_istore (lv' := [(4, .int 0), (2, .long 0), (0, .ref (al G 0)), (1, .int a1)]) hx hb dK8_heldGoods_3 hl (by decide) rfl (fun ls hl => ?_)
  exact lK8_heldGoods_5 X FU a1 0 0 I L hf h (lv_sub hl [2, 3, 1, 0] rfl)
theorem mK8_heldGoods {l : Launch} {G : tf_G} (hJ : gJ (al G) 16) {r : Int64} {a1 : Int32} {I : FI} {L : FL} (hf : fK8_heldGoods a1 I L = some r) : tf_Met l G 16 yK8_heldGoods cK8_heldGoods 5 (some .long) 0 0 [.ref (al G 0), .int a1] (rE G I L) (rE G I L) (some (.long r)) :=
  tf_enter (by decide +kernel) hJ (Nat.le_of_ble_eq_true rfl) (fun p e s m args below meth c ls X _ hl h => sK8_heldGoods_0 X a1 I L hf h hl)
theorem bwK8_heldGoods : tf_cv yK8_heldGoods cK8_heldGoods 5 (some .long) 1 := ⟨w_420, w_421, w_422, w_381, by decide +kernel, by decide +kernel, by decide +kernel⟩

set_option maxHeartbeats 4000000 in
set_option maxRecDepth 100000 in
theorem sK8_freeGoods_0 {p : Program} {l : Launch} {e : Env} {s : State} {m : MethodId} {args : Array Value} {below : List Frame} {meth : Method} {c : Code} {G : tf_G} (X : tf_X G 16 "TradeFloorModel" cK8_freeGoods 2 (some .long) p s m args meth c) {r : Int64} (a1 : Int32) (I : FI) (L : FL) (hf : fK8_freeGoods a1 I L = some r) {H : Heap} {locs : List Loc} {ls : Array Slot} (h : tf_H G 16 (rE G I L) s.heap H locs) (hl : lv_has ls 2 [(0, .ref (al G 0)), (1, .int a1)]) : W p l e (tf_rm 1 24) s m args below meth c H locs 0 0 (MQ below (tf_Q G 16 (rE G I L) (some (.long r))) args s 0 0 (gA (al G) 16)) (F0 m 0 ls []) := by
  have hx := X.1
  have hb := X.2.1
  have hJ := X.2.2.2.2.2.2.2.2.2
  unfold fK8_freeGoods at hf
  refine lv_aload_n hx hb dK8_freeGoods_0 rfl (lv_at hl 0 rfl) ?_
  refine gf8_goods X h w_423 dK8_freeGoods_1 ?_
  refine lv_iload_n hx hb dK8_freeGoods_4 rfl (lv_at hl 1 rfl) ?_
  obtain ⟨hi_1, hf⟩ := ck_some hf
  refine gar_5 X h (inb_in hi_1) dK8_freeGoods_5 ?_
  refine lv_aload_n hx hb dK8_freeGoods_6 rfl (lv_at hl 0 rfl) ?_
  refine lv_iload_n hx hb dK8_freeGoods_7 rfl (lv_at hl 1 rfl) ?_
  obtain ⟨r_3, h_2, hf⟩ := bn_some hf
  refine tf_callVl (As := [.int a1]) (rest := [.long (L 1 a1.toNatClampNeg)]) X h 0 (by decide) rfl rfl (mK8_heldGoods hJ h_2) bwK8_heldGoods w_424 ⟨Nat.le_of_ble_eq_true rfl, Nat.le_of_ble_eq_true rfl⟩ hl.1 rfl (Nat.le_of_ble_eq_true rfl) ⟨Nat.zero_le _, Nat.zero_le _⟩ dK8_freeGoods_8 (fun H locs h => ?_)
  refine lv_lsub hx hb dK8_freeGoods_11 ?_
  cases hf
  exact tf_lret X h dK8_freeGoods_12
theorem mK8_freeGoods {l : Launch} {G : tf_G} (hJ : gJ (al G) 16) {r : Int64} {a1 : Int32} {I : FI} {L : FL} (hf : fK8_freeGoods a1 I L = some r) : tf_Met l G 16 yK8_freeGoods cK8_freeGoods 2 (some .long) 1 24 [.ref (al G 0), .int a1] (rE G I L) (rE G I L) (some (.long r)) :=
  tf_enter (by decide +kernel) hJ (Nat.le_of_ble_eq_true rfl) (fun p e s m args below meth c ls X _ hl h => sK8_freeGoods_0 X a1 I L hf h hl)
theorem bwK8_freeGoods : tf_cv yK8_freeGoods cK8_freeGoods 2 (some .long) 1 := ⟨w_425, w_426, w_427, w_381, by decide +kernel, by decide +kernel, by decide +kernel⟩

set_option maxHeartbeats 4000000 in
set_option maxRecDepth 100000 in
theorem sK8_fresh_0 {p : Program} {l : Launch} {e : Env} {s : State} {m : MethodId} {args : Array Value} {below : List Frame} {meth : Method} {c : Code} {G : tf_G} (X : tf_X G 16 "TradeFloorModel" cK8_fresh 6 (some .int) p s m args meth c) {r : Int32} {I9 : FI} {L9 : FL} (a1 : Int32) (a2 : Int32) (a3 : Int32) (a4 : Int32) (a5 : Int32) (I : FI) (L : FL) (hf : fK8_fresh a1 a2 a3 a4 a5 I L = some (r, I9, L9)) {H : Heap} {locs : List Loc} {ls : Array Slot} (h : tf_H G 16 (rE G I L) s.heap H locs) (hl : lv_has ls 6 [(0, .ref (al G 0)), (1, .int a1), (2, .int a2), (3, .int a3), (4, .int a4), (5, .int a5)]) : W p l e (tf_rm 0 0) s m args below meth c H locs 0 0 (MQ below (tf_Q G 16 (rE G I9 L9) (some (.int r))) args s 0 0 (gA (al G) 16)) (F0 m 0 ls []) := by
  have hx := X.1
  have hb := X.2.1
  have hJ := X.2.2.2.2.2.2.2.2.2
  unfold fK8_fresh at hf
  refine lv_aload_n hx hb dK8_fresh_0 rfl (lv_at hl 0 rfl) ?_
  refine gf8_who X h w_408 dK8_fresh_1 ?_
  refine lv_aload_n hx hb dK8_fresh_4 rfl (lv_at hl 0 rfl) ?_
  refine gf8_orders X h w_406 dK8_fresh_5 ?_
  refine lv_iload_n hx hb dK8_fresh_8 rfl (lv_at hl 1 rfl) ?_
  obtain ⟨hi_1, hf⟩ := ck_some hf
  obtain ⟨I_2, eI_2, hf⟩ := nm_some hf
  refine par_6 X h (inb_in hi_1) eI_2 dK8_fresh_9 (fun H locs h => ?_)
  refine lv_aload_n hx hb dK8_fresh_10 rfl (lv_at hl 0 rfl) ?_
  refine gf8_side X h w_409 dK8_fresh_11 ?_
  refine lv_aload_n hx hb dK8_fresh_14 rfl (lv_at hl 0 rfl) ?_
  refine gf8_orders X h w_406 dK8_fresh_15 ?_
  refine lv_iload_n hx hb dK8_fresh_18 rfl (lv_at hl 2 rfl) ?_
  obtain ⟨hi_3, hf⟩ := ck_some hf
  obtain ⟨I_4, eI_4, hf⟩ := nm_some hf
  refine par_7 X h (inb_in hi_3) eI_4 dK8_fresh_19 (fun H locs h => ?_)
  refine lv_aload_n hx hb dK8_fresh_20 rfl (lv_at hl 0 rfl) ?_
  refine gf8_left X h w_410 dK8_fresh_21 ?_
  refine lv_aload_n hx hb dK8_fresh_24 rfl (lv_at hl 0 rfl) ?_
  refine gf8_orders X h w_406 dK8_fresh_25 ?_
  refine lv_iload_n hx hb dK8_fresh_28 rfl (lv_at hl 3 rfl) ?_
  obtain ⟨hi_5, hf⟩ := ck_some hf
  obtain ⟨I_6, eI_6, hf⟩ := nm_some hf
  refine par_8 X h (inb_in hi_5) eI_6 dK8_fresh_29 (fun H locs h => ?_)
  refine lv_aload_n hx hb dK8_fresh_30 rfl (lv_at hl 0 rfl) ?_
  refine gf8_price X h w_411 dK8_fresh_31 ?_
  refine lv_aload_n hx hb dK8_fresh_34 rfl (lv_at hl 0 rfl) ?_
  refine gf8_orders X h w_406 dK8_fresh_35 ?_
  refine lv_iload hx hb dK8_fresh_38 (lv_at hl 4 rfl) ?_
  obtain ⟨hi_7, hf⟩ := ck_some hf
  obtain ⟨I_8, eI_8, hf⟩ := nm_some hf
  refine par_9 X h (inb_in hi_7) eI_8 dK8_fresh_40 (fun H locs h => ?_)
  refine lv_aload_n hx hb dK8_fresh_41 rfl (lv_at hl 0 rfl) ?_
  refine gf8_state X h w_407 dK8_fresh_42 ?_
  refine lv_aload_n hx hb dK8_fresh_45 rfl (lv_at hl 0 rfl) ?_
  refine gf8_orders X h w_406 dK8_fresh_46 ?_
  refine lv_iload hx hb dK8_fresh_49 (lv_at hl 5 rfl) ?_
  obtain ⟨hi_9, hf⟩ := ck_some hf
  obtain ⟨I_10, eI_10, hf⟩ := nm_some hf
  refine par_10 X h (inb_in hi_9) eI_10 dK8_fresh_51 (fun H locs h => ?_)
  refine lv_aload_n hx hb dK8_fresh_52 rfl (lv_at hl 0 rfl) ?_
  refine gf8_ends X h w_428 dK8_fresh_53 ?_
  refine lv_aload_n hx hb dK8_fresh_56 rfl (lv_at hl 0 rfl) ?_
  refine gf8_orders X h w_406 dK8_fresh_57 ?_
  refine lv_iconst (v := (-1)) hx hb dK8_fresh_60 (by decide) ?_
  obtain ⟨hi_11, hf⟩ := ck_some hf
  obtain ⟨I_12, eI_12, hf⟩ := nm_some hf
  refine par_11 X h (inb_in hi_11) eI_12 dK8_fresh_61 (fun H locs h => ?_)
  refine lv_aload_n hx hb dK8_fresh_62 rfl (lv_at hl 0 rfl) ?_
  refine lv_dup hx hb dK8_fresh_63 rfl ?_
  refine gf8_orders X h w_406 dK8_fresh_64 ?_
  refine lv_dup_x1 hx hb dK8_fresh_67 rfl rfl ?_
  refine lv_iconst (v := 1) hx hb dK8_fresh_68 (by decide) ?_
  refine lv_iadd hx hb dK8_fresh_69 ?_
  obtain ⟨I_13, eI_13, hf⟩ := nm_some hf
  refine pf8_orders X h eI_13 w_406 dK8_fresh_70 (fun H locs h => ?_)
  cases hf
  exact tf_iret X h dK8_fresh_73
theorem mK8_fresh {l : Launch} {G : tf_G} (hJ : gJ (al G) 16) {r : Int32} {I9 : FI} {L9 : FL} {a1 : Int32} {a2 : Int32} {a3 : Int32} {a4 : Int32} {a5 : Int32} {I : FI} {L : FL} (hf : fK8_fresh a1 a2 a3 a4 a5 I L = some (r, I9, L9)) : tf_Met l G 16 yK8_fresh cK8_fresh 6 (some .int) 0 0 [.ref (al G 0), .int a1, .int a2, .int a3, .int a4, .int a5] (rE G I L) (rE G I9 L9) (some (.int r)) :=
  tf_enter (by decide +kernel) hJ (Nat.le_of_ble_eq_true rfl) (fun p e s m args below meth c ls X _ hl h => sK8_fresh_0 X a1 a2 a3 a4 a5 I L hf h hl)
theorem bwK8_fresh : tf_cv yK8_fresh cK8_fresh 6 (some .int) 5 := ⟨w_429, w_430, w_431, w_381, by decide +kernel, by decide +kernel, by decide +kernel⟩

set_option maxHeartbeats 4000000 in
set_option maxRecDepth 100000 in
theorem sK8_isMatch_50 {p : Program} {l : Launch} {e : Env} {s : State} {m : MethodId} {args : Array Value} {below : List Frame} {meth : Method} {c : Code} {G : tf_G} (X : tf_X G 16 "TradeFloorModel" cK8_isMatch 4 (some .boolean) p s m args meth c) {r : Int32} (I : FI) (L : FL) (hf : fK8_isMatch_50 I L = some r) {H : Heap} {locs : List Loc} {ls : Array Slot} (h : tf_H G 16 (rE G I L) s.heap H locs) (hl : lv_has ls 4 []) : W p l e (tf_rm 0 0) s m args below meth c H locs 0 0 (MQ below (tf_Q G 16 (rE G I L) (some (.int r))) args s 0 0 (gA (al G) 16)) (F0 m 50 ls []) := by
  have hx := X.1
  have hb := X.2.1
  have hJ := X.2.2.2.2.2.2.2.2.2
  unfold fK8_isMatch_50 at hf
  refine lv_iconst (v := 1) hx hb dK8_isMatch_50 (by decide) ?_
  refine lv_goto (tgt := 55) hx hb dK8_isMatch_51 (by decide) ?_
  cases hf
  exact tf_zret X h rfl dK8_isMatch_55
set_option maxHeartbeats 4000000 in
set_option maxRecDepth 100000 in
theorem sK8_isMatch_0 {p : Program} {l : Launch} {e : Env} {s : State} {m : MethodId} {args : Array Value} {below : List Frame} {meth : Method} {c : Code} {G : tf_G} (X : tf_X G 16 "TradeFloorModel" cK8_isMatch 4 (some .boolean) p s m args meth c) {r : Int32} (a1 : Int32) (a2 : Int32) (a3 : Int32) (I : FI) (L : FL) (hf : fK8_isMatch a1 a2 a3 I L = some r) {H : Heap} {locs : List Loc} {ls : Array Slot} (h : tf_H G 16 (rE G I L) s.heap H locs) (hl : lv_has ls 4 [(0, .ref (al G 0)), (1, .int a1), (2, .int a2), (3, .int a3)]) : W p l e (tf_rm 0 0) s m args below meth c H locs 0 0 (MQ below (tf_Q G 16 (rE G I L) (some (.int r))) args s 0 0 (gA (al G) 16)) (F0 m 0 ls []) := by
  have hx := X.1
  have hb := X.2.1
  have hJ := X.2.2.2.2.2.2.2.2.2
  unfold fK8_isMatch at hf
  refine lv_aload_n hx hb dK8_isMatch_0 rfl (lv_at hl 0 rfl) ?_
  refine gf8_state X h w_407 dK8_isMatch_1 ?_
  refine lv_iload_n hx hb dK8_isMatch_4 rfl (lv_at hl 1 rfl) ?_
  obtain ⟨hi_1, hf⟩ := ck_some hf
  refine gar_10 X h (inb_in hi_1) dK8_isMatch_5 ?_
  refine lv_if_ne (tgt := 54) hx hb dK8_isMatch_6 (by decide) (fun c_2 => ?_) (fun c_2 => ?_)
  · have hf := if_f hf c_2
    refine lv_iconst (v := 0) hx hb dK8_isMatch_54 (by decide) ?_
    cases hf
    exact tf_zret X h rfl dK8_isMatch_55
  · have hf := if_t hf c_2
    refine lv_aload_n hx hb dK8_isMatch_9 rfl (lv_at hl 0 rfl) ?_
    refine gf8_side X h w_409 dK8_isMatch_10 ?_
    refine lv_iload_n hx hb dK8_isMatch_13 rfl (lv_at hl 1 rfl) ?_
    obtain ⟨hi_3, hf⟩ := ck_some hf
    refine gar_7 X h (inb_in hi_3) dK8_isMatch_14 ?_
    refine lv_iload_n hx hb dK8_isMatch_15 rfl (lv_at hl 2 rfl) ?_
    refine lv_icmp_eq (tgt := 54) hx hb dK8_isMatch_16 (by decide) (fun c_4 => ?_) (fun c_4 => ?_)
    · have hf := if_t hf c_4
      refine lv_iconst (v := 0) hx hb dK8_isMatch_54 (by decide) ?_
      cases hf
      exact tf_zret X h rfl dK8_isMatch_55
    · have hf := if_f hf c_4
      refine lv_iload_n hx hb dK8_isMatch_19 rfl (lv_at hl 3 rfl) ?_
      refine lv_if_eq (tgt := 50) hx hb dK8_isMatch_20 (by decide) (fun c_5 => ?_) (fun c_5 => ?_)
      · have hf := if_t hf c_5
        exact sK8_isMatch_50 X I L hf h (lv_sub hl [] rfl)
      · have hf := if_f hf c_5
        refine lv_iload_n hx hb dK8_isMatch_23 rfl (lv_at hl 2 rfl) ?_
        refine lv_if_ne (tgt := 40) hx hb dK8_isMatch_24 (by decide) (fun c_6 => ?_) (fun c_6 => ?_)
        · have hf := if_f hf c_6
          refine lv_aload_n hx hb dK8_isMatch_40 rfl (lv_at hl 0 rfl) ?_
          refine gf8_price X h w_411 dK8_isMatch_41 ?_
          refine lv_iload_n hx hb dK8_isMatch_44 rfl (lv_at hl 1 rfl) ?_
          obtain ⟨hi_7, hf⟩ := ck_some hf
          refine gar_9 X h (inb_in hi_7) dK8_isMatch_45 ?_
          refine lv_iload_n hx hb dK8_isMatch_46 rfl (lv_at hl 3 rfl) ?_
          refine lv_icmp_lt (tgt := 54) hx hb dK8_isMatch_47 (by decide) (fun c_8 => ?_) (fun c_8 => ?_)
          · have hf := if_t hf c_8
            refine lv_iconst (v := 0) hx hb dK8_isMatch_54 (by decide) ?_
            cases hf
            exact tf_zret X h rfl dK8_isMatch_55
          · have hf := if_f hf c_8
            exact sK8_isMatch_50 X I L hf h (lv_sub hl [] rfl)
        · have hf := if_t hf c_6
          refine lv_aload_n hx hb dK8_isMatch_27 rfl (lv_at hl 0 rfl) ?_
          refine gf8_price X h w_411 dK8_isMatch_28 ?_
          refine lv_iload_n hx hb dK8_isMatch_31 rfl (lv_at hl 1 rfl) ?_
          obtain ⟨hi_9, hf⟩ := ck_some hf
          refine gar_9 X h (inb_in hi_9) dK8_isMatch_32 ?_
          refine lv_iload_n hx hb dK8_isMatch_33 rfl (lv_at hl 3 rfl) ?_
          refine lv_icmp_gt (tgt := 54) hx hb dK8_isMatch_34 (by decide) (fun c_10 => ?_) (fun c_10 => ?_)
          · have hf := if_t hf c_10
            refine lv_iconst (v := 0) hx hb dK8_isMatch_54 (by decide) ?_
            cases hf
            exact tf_zret X h rfl dK8_isMatch_55
          · have hf := if_f hf c_10
            refine lv_goto (tgt := 50) hx hb dK8_isMatch_37 (by decide) ?_
            exact sK8_isMatch_50 X I L hf h (lv_sub hl [] rfl)
theorem mK8_isMatch {l : Launch} {G : tf_G} (hJ : gJ (al G) 16) {r : Int32} {a1 : Int32} {a2 : Int32} {a3 : Int32} {I : FI} {L : FL} (hf : fK8_isMatch a1 a2 a3 I L = some r) : tf_Met l G 16 yK8_isMatch cK8_isMatch 4 (some .boolean) 0 0 [.ref (al G 0), .int a1, .int a2, .int a3] (rE G I L) (rE G I L) (some (.int r)) :=
  tf_enter (by decide +kernel) hJ (Nat.le_of_ble_eq_true rfl) (fun p e s m args below meth c ls X _ hl h => sK8_isMatch_0 X a1 a2 a3 I L hf h hl)
theorem bwK8_isMatch : tf_cv yK8_isMatch cK8_isMatch 4 (some .boolean) 3 := ⟨w_432, w_433, w_434, w_381, by decide +kernel, by decide +kernel, by decide +kernel⟩

set_option maxHeartbeats 4000000 in
set_option maxRecDepth 100000 in
theorem sK8_match_71 {p : Program} {l : Launch} {e : Env} {s : State} {m : MethodId} {args : Array Value} {below : List Frame} {meth : Method} {c : Code} {G : tf_G} (X : tf_X G 16 "TradeFloorModel" cK8_match 5 (some .int) p s m args meth c) {r : Int32} (k5 : Int32 → Int32 → Int32 → Int32 → FI → FL → Option (Int32)) (hk5 : ∀ (v1 : Int32) (v2 : Int32) (v3 : Int32) (v4 : Int32) (I : FI) (L : FL), k5 v1 v2 v3 v4 I L = some r → ∀ {H : Heap} {locs : List Loc} {ls : Array Slot}, tf_H G 16 (rE G I L) s.heap H locs → lv_has ls 5 [(0, .ref (al G 0)), (1, .int v1), (2, .int v2), (3, .int v3), (4, .int v4)] → W p l e (tf_rm 1 23) s m args below meth c H locs 0 0 (MQ below (tf_Q G 16 (rE G I L) (some (.int r))) args s 0 0 (gA (al G) 16)) (F0 m 5 ls [])) (v1 : Int32) (v2 : Int32) (v3 : Int32) (v4 : Int32) (I : FI) (L : FL) (hf : fK8_match_71 k5 v1 v2 v3 v4 I L = some r) {H : Heap} {locs : List Loc} {ls : Array Slot} (h : tf_H G 16 (rE G I L) s.heap H locs) (hl : lv_has ls 5 [(0, .ref (al G 0)), (1, .int v1), (2, .int v2), (3, .int v3), (4, .int v4)]) : W p l e (tf_rm 1 23) s m args below meth c H locs 0 0 (MQ below (tf_Q G 16 (rE G I L) (some (.int r))) args s 0 0 (gA (al G) 16)) (F0 m 71 ls []) := by
  have hx := X.1
  have hb := X.2.1
  have hJ := X.2.2.2.2.2.2.2.2.2
  unfold fK8_match_71 at hf
  obtain ⟨x_1, ex_1, hf⟩ := nm_some hf
  refine lv_iinc (v := x_1) (lv' := [(4, .int x_1), (0, .ref (al G 0)), (1, .int v1), (2, .int v2), (3, .int v3)]) hx hb dK8_match_71 hl (k := 4) rfl (by rw [ex_1]; rfl) (by decide) rfl (fun ls hl => ?_)
  refine lv_goto (tgt := 5) hx hb dK8_match_74 (by decide) ?_
  exact hk5 v1 v2 v3 x_1 I L hf h (lv_sub hl [1, 2, 3, 4, 0] rfl)
set_option maxHeartbeats 4000000 in
set_option maxRecDepth 100000 in
theorem sK8_match_68 {p : Program} {l : Launch} {e : Env} {s : State} {m : MethodId} {args : Array Value} {below : List Frame} {meth : Method} {c : Code} {G : tf_G} (X : tf_X G 16 "TradeFloorModel" cK8_match 5 (some .int) p s m args meth c) {r : Int32} (k5 : Int32 → Int32 → Int32 → Int32 → FI → FL → Option (Int32)) (hk5 : ∀ (v1 : Int32) (v2 : Int32) (v3 : Int32) (v4 : Int32) (I : FI) (L : FL), k5 v1 v2 v3 v4 I L = some r → ∀ {H : Heap} {locs : List Loc} {ls : Array Slot}, tf_H G 16 (rE G I L) s.heap H locs → lv_has ls 5 [(0, .ref (al G 0)), (1, .int v1), (2, .int v2), (3, .int v3), (4, .int v4)] → W p l e (tf_rm 1 23) s m args below meth c H locs 0 0 (MQ below (tf_Q G 16 (rE G I L) (some (.int r))) args s 0 0 (gA (al G) 16)) (F0 m 5 ls [])) (v1 : Int32) (v2 : Int32) (v4 : Int32) (I : FI) (L : FL) (hf : fK8_match_68 k5 v1 v2 v4 I L = some r) {H : Heap} {locs : List Loc} {ls : Array Slot} (h : tf_H G 16 (rE G I L) s.heap H locs) (hl : lv_has ls 5 [(0, .ref (al G 0)), (1, .int v1), (2, .int v2), (4, .int v4)]) : W p l e (tf_rm 1 23) s m args below meth c H locs 0 0 (MQ below (tf_Q G 16 (rE G I L) (some (.int r))) args s 0 0 (gA (al G) 16)) (F0 m 68 ls []) := by
  have hx := X.1
  have hb := X.2.1
  have hJ := X.2.2.2.2.2.2.2.2.2
  unfold fK8_match_68 at hf
  refine lv_iload hx hb dK8_match_68 (lv_at hl 3 rfl) ?_
  refine lv_istore_n (lv' := [(3, .int v4), (0, .ref (al G 0)), (1, .int v1), (2, .int v2), (4, .int v4)]) hx hb dK8_match_70 rfl hl (by decide) rfl (fun ls hl => ?_)
  exact sK8_match_71 X k5 hk5 v1 v2 v4 v4 I L hf h (lv_sub hl [1, 2, 3, 0, 4] rfl)
set_option maxHeartbeats 4000000 in
set_option maxRecDepth 100000 in
theorem sK8_match_5 {p : Program} {l : Launch} {e : Env} {s : State} {m : MethodId} {args : Array Value} {below : List Frame} {meth : Method} {c : Code} {G : tf_G} (X : tf_X G 16 "TradeFloorModel" cK8_match 5 (some .int) p s m args meth c) {r : Int32} (k5 : Int32 → Int32 → Int32 → Int32 → FI → FL → Option (Int32)) (hk5 : ∀ (v1 : Int32) (v2 : Int32) (v3 : Int32) (v4 : Int32) (I : FI) (L : FL), k5 v1 v2 v3 v4 I L = some r → ∀ {H : Heap} {locs : List Loc} {ls : Array Slot}, tf_H G 16 (rE G I L) s.heap H locs → lv_has ls 5 [(0, .ref (al G 0)), (1, .int v1), (2, .int v2), (3, .int v3), (4, .int v4)] → W p l e (tf_rm 1 23) s m args below meth c H locs 0 0 (MQ below (tf_Q G 16 (rE G I L) (some (.int r))) args s 0 0 (gA (al G) 16)) (F0 m 5 ls [])) (v1 : Int32) (v2 : Int32) (v3 : Int32) (v4 : Int32) (I : FI) (L : FL) (hf : bK8_match_5 k5 v1 v2 v3 v4 I L = some r) {H : Heap} {locs : List Loc} {ls : Array Slot} (h : tf_H G 16 (rE G I L) s.heap H locs) (hl : lv_has ls 5 [(0, .ref (al G 0)), (1, .int v1), (2, .int v2), (3, .int v3), (4, .int v4)]) : W p l e (tf_rm 1 23) s m args below meth c H locs 0 0 (MQ below (tf_Q G 16 (rE G I L) (some (.int r))) args s 0 0 (gA (al G) 16)) (F0 m 5 ls []) := by
  have hx := X.1
  have hb := X.2.1
  have hJ := X.2.2.2.2.2.2.2.2.2
  unfold bK8_match_5 at hf
  refine lv_iload hx hb dK8_match_5 (lv_at hl 4 rfl) ?_
  refine lv_aload_n hx hb dK8_match_7 rfl (lv_at hl 0 rfl) ?_
  refine gf8_orders X h w_406 dK8_match_8 ?_
  refine lv_icmp_ge (tgt := 77) hx hb dK8_match_11 (by decide) (fun c_1 => ?_) (fun c_1 => ?_)
  · have hf := if_t hf c_1
    refine lv_iload_n hx hb dK8_match_77 rfl (lv_at hl 3 rfl) ?_
    cases hf
    exact tf_iret X h dK8_match_78
  · have hf := if_f hf c_1
    refine lv_aload_n hx hb dK8_match_14 rfl (lv_at hl 0 rfl) ?_
    refine lv_iload hx hb dK8_match_15 (lv_at hl 4 rfl) ?_
    refine lv_iload_n hx hb dK8_match_17 rfl (lv_at hl 1 rfl) ?_
    refine lv_iload_n hx hb dK8_match_18 rfl (lv_at hl 2 rfl) ?_
    obtain ⟨r_3, h_2, hf⟩ := bn_some hf
    refine tf_callVi (As := [.int v4, .int v1, .int v2]) (rest := []) X h 0 (by decide) rfl rfl (mK8_isMatch hJ h_2) bwK8_isMatch w_435 ⟨Nat.le_of_ble_eq_true rfl, Nat.le_of_ble_eq_true rfl⟩ hl.1 rfl (Nat.le_of_ble_eq_true rfl) ⟨Nat.zero_le _, Nat.zero_le _⟩ dK8_match_19 (fun H locs h => ?_)
    refine lv_if_eq (tgt := 71) hx hb dK8_match_22 (by decide) (fun c_4 => ?_) (fun c_4 => ?_)
    · have hf := if_t hf c_4
      exact sK8_match_71 X k5 hk5 v1 v2 v3 v4 I L hf h hl
    · have hf := if_f hf c_4
      refine lv_iload_n hx hb dK8_match_25 rfl (lv_at hl 3 rfl) ?_
      refine lv_if_lt (tgt := 68) hx hb dK8_match_26 (by decide) (fun c_5 => ?_) (fun c_5 => ?_)
      · have hf := if_t hf c_5
        exact sK8_match_68 X k5 hk5 v1 v2 v4 I L hf h (lv_sub hl [0, 1, 2, 4] rfl)
      · have hf := if_f hf c_5
        refine lv_iload_n hx hb dK8_match_29 rfl (lv_at hl 1 rfl) ?_
        refine lv_if_ne (tgt := 52) hx hb dK8_match_30 (by decide) (fun c_6 => ?_) (fun c_6 => ?_)
        · have hf := if_f hf c_6
          refine lv_aload_n hx hb dK8_match_52 rfl (lv_at hl 0 rfl) ?_
          refine gf8_price X h w_411 dK8_match_53 ?_
          refine lv_iload hx hb dK8_match_56 (lv_at hl 4 rfl) ?_
          obtain ⟨hi_7, hf⟩ := ck_some hf
          refine gar_9 X h (inb_in hi_7) dK8_match_58 ?_
          refine lv_aload_n hx hb dK8_match_59 rfl (lv_at hl 0 rfl) ?_
          refine gf8_price X h w_411 dK8_match_60 ?_
          refine lv_iload_n hx hb dK8_match_63 rfl (lv_at hl 3 rfl) ?_
          obtain ⟨hi_8, hf⟩ := ck_some hf
          refine gar_9 X h (inb_in hi_8) dK8_match_64 ?_
          refine lv_icmp_le (tgt := 71) hx hb dK8_match_65 (by decide) (fun c_9 => ?_) (fun c_9 => ?_)
          · have hf := if_t hf c_9
            exact sK8_match_71 X k5 hk5 v1 v2 v3 v4 I L hf h hl
          · have hf := if_f hf c_9
            exact sK8_match_68 X k5 hk5 v1 v2 v4 I L hf h (lv_sub hl [0, 1, 2, 4] rfl)
        · have hf := if_t hf c_6
          refine lv_aload_n hx hb dK8_match_33 rfl (lv_at hl 0 rfl) ?_
          refine gf8_price X h w_411 dK8_match_34 ?_
          refine lv_iload hx hb dK8_match_37 (lv_at hl 4 rfl) ?_
          obtain ⟨hi_10, hf⟩ := ck_some hf
          refine gar_9 X h (inb_in hi_10) dK8_match_39 ?_
          refine lv_aload_n hx hb dK8_match_40 rfl (lv_at hl 0 rfl) ?_
          refine gf8_price X h w_411 dK8_match_41 ?_
          refine lv_iload_n hx hb dK8_match_44 rfl (lv_at hl 3 rfl) ?_
          obtain ⟨hi_11, hf⟩ := ck_some hf
          refine gar_9 X h (inb_in hi_11) dK8_match_45 ?_
          refine lv_icmp_ge (tgt := 71) hx hb dK8_match_46 (by decide) (fun c_12 => ?_) (fun c_12 => ?_)
          · have hf := if_t hf c_12
            exact sK8_match_71 X k5 hk5 v1 v2 v3 v4 I L hf h hl
          · have hf := if_f hf c_12
            refine lv_goto (tgt := 68) hx hb dK8_match_49 (by decide) ?_
            exact sK8_match_68 X k5 hk5 v1 v2 v4 I L hf h (lv_sub hl [0, 1, 2, 4] rfl)
theorem lK8_match_5 {p : Program} {l : Launch} {e : Env} {s : State} {m : MethodId} {args : Array Value} {below : List Frame} {meth : Method} {c : Code} {G : tf_G} (X : tf_X G 16 "TradeFloorModel" cK8_match 5 (some .int) p s m args meth c) {r : Int32} : ∀ (n : Nat), ∀ (v1 : Int32) (v2 : Int32) (v3 : Int32) (v4 : Int32) (I : FI) (L : FL), fK8_match_5 n v1 v2 v3 v4 I L = some r → ∀ {H : Heap} {locs : List Loc} {ls : Array Slot}, tf_H G 16 (rE G I L) s.heap H locs → lv_has ls 5 [(0, .ref (al G 0)), (1, .int v1), (2, .int v2), (3, .int v3), (4, .int v4)] → W p l e (tf_rm 1 23) s m args below meth c H locs 0 0 (MQ below (tf_Q G 16 (rE G I L) (some (.int r))) args s 0 0 (gA (al G) 16)) (F0 m 5 ls []) := by
  intro n
  induction n with
  | zero =>
    intro v1 v2 v3 v4 I L hf
    exact absurd hf (by simp [fK8_match_5])
  | succ n ih =>
    intro v1 v2 v3 v4 I L hf H locs ls h hl
    exact sK8_match_5 X (fK8_match_5 n) ih v1 v2 v3 v4 I L hf h hl
set_option maxHeartbeats 4000000 in
set_option maxRecDepth 100000 in
theorem sK8_match_0 {p : Program} {l : Launch} {e : Env} {s : State} {m : MethodId} {args : Array Value} {below : List Frame} {meth : Method} {c : Code} {G : tf_G} (X : tf_X G 16 "TradeFloorModel" cK8_match 5 (some .int) p s m args meth c) {r : Int32} (a1 : Int32) (a2 : Int32) (I : FI) (L : FL) (hf : fK8_match a1 a2 I L = some r) {H : Heap} {locs : List Loc} {ls : Array Slot} (h : tf_H G 16 (rE G I L) s.heap H locs) (hl : lv_has ls 5 [(0, .ref (al G 0)), (1, .int a1), (2, .int a2)]) : W p l e (tf_rm 1 23) s m args below meth c H locs 0 0 (MQ below (tf_Q G 16 (rE G I L) (some (.int r))) args s 0 0 (gA (al G) 16)) (F0 m 0 ls []) := by
  have hx := X.1
  have hb := X.2.1
  have hJ := X.2.2.2.2.2.2.2.2.2
  unfold fK8_match at hf
  refine lv_iconst (v := (-1)) hx hb dK8_match_0 (by decide) ?_
  refine lv_istore_n (lv' := [(3, .int (-1)), (0, .ref (al G 0)), (1, .int a1), (2, .int a2)]) hx hb dK8_match_1 rfl hl (by decide) rfl (fun ls hl => ?_)
  refine lv_iconst (v := 0) hx hb dK8_match_2 (by decide) ?_
  refine lv_istore (lv' := [(4, .int 0), (3, .int (-1)), (0, .ref (al G 0)), (1, .int a1), (2, .int a2)]) hx hb dK8_match_3 hl (by decide) rfl (fun ls hl => ?_)
  exact lK8_match_5 X FU a1 a2 (-1) 0 I L hf h (lv_sub hl [2, 3, 4, 1, 0] rfl)
theorem mK8_match {l : Launch} {G : tf_G} (hJ : gJ (al G) 16) {r : Int32} {a1 : Int32} {a2 : Int32} {I : FI} {L : FL} (hf : fK8_match a1 a2 I L = some r) : tf_Met l G 16 yK8_match cK8_match 5 (some .int) 1 23 [.ref (al G 0), .int a1, .int a2] (rE G I L) (rE G I L) (some (.int r)) :=
  tf_enter (by decide +kernel) hJ (Nat.le_of_ble_eq_true rfl) (fun p e s m args below meth c ls X _ hl h => sK8_match_0 X a1 a2 I L hf h hl)
theorem bwK8_match : tf_cv yK8_match cK8_match 5 (some .int) 2 := ⟨w_436, w_437, w_438, w_381, by decide +kernel, by decide +kernel, by decide +kernel⟩

set_option maxHeartbeats 4000000 in
set_option maxRecDepth 100000 in
theorem sK8_meets_288 {p : Program} {l : Launch} {e : Env} {s : State} {m : MethodId} {args : Array Value} {below : List Frame} {meth : Method} {c : Code} {G : tf_G} (X : tf_X G 16 "TradeFloorModel" cK8_meets 13 none p s m args meth c) {I9 : FI} {L9 : FL} (k19 : Int32 → Int32 → Int32 → Int32 → Int32 → FI → FL → Option (FI × FL)) (hk19 : ∀ (v1 : Int32) (v3 : Int32) (v4 : Int32) (v5 : Int32) (v6 : Int32) (I : FI) (L : FL), k19 v1 v3 v4 v5 v6 I L = some (I9, L9) → ∀ {H : Heap} {locs : List Loc} {ls : Array Slot}, tf_H G 16 (rE G I L) s.heap H locs → lv_has ls 13 [(0, .ref (al G 0)), (1, .int v1), (3, .int v3), (4, .int v4), (5, .int v5), (6, .int v6)] → W p l e (tf_rm 2 47) s m args below meth c H locs 0 0 (MQ below (tf_Q G 16 (rE G I9 L9) (none)) args s 0 0 (gA (al G) 16)) (F0 m 19 ls [])) (v1 : Int32) (v3 : Int32) (v4 : Int32) (v5 : Int32) (v6 : Int32) (v8 : Int32) (v9 : Int32) (v10 : Int32) (v11 : Int32) (v12 : Int32) (I : FI) (L : FL) (hf : fK8_meets_288 k19 v1 v3 v4 v5 v6 v8 v9 v10 v11 v12 I L = some (I9, L9)) {H : Heap} {locs : List Loc} {ls : Array Slot} (h : tf_H G 16 (rE G I L) s.heap H locs) (hl : lv_has ls 13 [(0, .ref (al G 0)), (1, .int v1), (3, .int v3), (4, .int v4), (5, .int v5), (6, .int v6), (8, .int v8), (9, .int v9), (10, .int v10), (11, .int v11), (12, .int v12)]) : W p l e (tf_rm 2 47) s m args below meth c H locs 0 0 (MQ below (tf_Q G 16 (rE G I9 L9) (none)) args s 0 0 (gA (al G) 16)) (F0 m 288 ls []) := by
  have hx := X.1
  have hb := X.2.1
  have hJ := X.2.2.2.2.2.2.2.2.2
  unfold fK8_meets_288 at hf
  refine lv_aload_n hx hb dK8_meets_288 rfl (lv_at hl 0 rfl) ?_
  refine lv_iload hx hb dK8_meets_289 (lv_at hl 7 rfl) ?_
  obtain ⟨I_1, eI_1, hf⟩ := nm_some hf
  refine pf8_last X h eI_1 w_444 dK8_meets_291 (fun H locs h => ?_)
  refine lv_aload_n hx hb dK8_meets_294 rfl (lv_at hl 0 rfl) ?_
  refine gf8_buyer X h w_445 dK8_meets_295 ?_
  refine lv_iload hx hb dK8_meets_298 (lv_at hl 10 rfl) ?_
  refine lv_iload hx hb dK8_meets_300 (lv_at hl 8 rfl) ?_
  obtain ⟨hi_2, hf⟩ := ck_some hf
  obtain ⟨I_3, eI_3, hf⟩ := nm_some hf
  refine par_12 X h (inb_in hi_2) eI_3 dK8_meets_302 (fun H locs h => ?_)
  refine lv_aload_n hx hb dK8_meets_303 rfl (lv_at hl 0 rfl) ?_
  refine gf8_seller X h w_446 dK8_meets_304 ?_
  refine lv_iload hx hb dK8_meets_307 (lv_at hl 10 rfl) ?_
  refine lv_iload hx hb dK8_meets_309 (lv_at hl 9 rfl) ?_
  obtain ⟨hi_4, hf⟩ := ck_some hf
  obtain ⟨I_5, eI_5, hf⟩ := nm_some hf
  refine par_13 X h (inb_in hi_4) eI_5 dK8_meets_311 (fun H locs h => ?_)
  refine lv_aload_n hx hb dK8_meets_312 rfl (lv_at hl 0 rfl) ?_
  refine gf8_paid X h w_447 dK8_meets_313 ?_
  refine lv_iload hx hb dK8_meets_316 (lv_at hl 10 rfl) ?_
  refine lv_iload hx hb dK8_meets_318 (lv_at hl 7 rfl) ?_
  obtain ⟨hi_6, hf⟩ := ck_some hf
  obtain ⟨I_7, eI_7, hf⟩ := nm_some hf
  refine par_14 X h (inb_in hi_6) eI_7 dK8_meets_320 (fun H locs h => ?_)
  refine lv_aload_n hx hb dK8_meets_321 rfl (lv_at hl 0 rfl) ?_
  refine gf8_many X h w_448 dK8_meets_322 ?_
  refine lv_iload hx hb dK8_meets_325 (lv_at hl 10 rfl) ?_
  refine lv_iload hx hb dK8_meets_327 (lv_at hl 6 rfl) ?_
  obtain ⟨hi_8, hf⟩ := ck_some hf
  obtain ⟨I_9, eI_9, hf⟩ := nm_some hf
  refine par_15 X h (inb_in hi_8) eI_9 dK8_meets_329 (fun H locs h => ?_)
  refine lv_aload_n hx hb dK8_meets_330 rfl (lv_at hl 0 rfl) ?_
  refine lv_dup hx hb dK8_meets_331 rfl ?_
  refine gf8_trades X h w_443 dK8_meets_332 ?_
  refine lv_iconst (v := 1) hx hb dK8_meets_335 (by decide) ?_
  refine lv_iadd hx hb dK8_meets_336 ?_
  obtain ⟨I_10, eI_10, hf⟩ := nm_some hf
  refine pf8_trades X h eI_10 w_443 dK8_meets_337 (fun H locs h => ?_)
  refine lv_goto (tgt := 19) hx hb dK8_meets_340 (by decide) ?_
  exact hk19 v1 v3 v4 v5 v6 I_10 L hf h (lv_sub hl [0, 1, 2, 3, 4, 5] rfl)
set_option maxHeartbeats 4000000 in
set_option maxRecDepth 100000 in
theorem sK8_meets_168 {p : Program} {l : Launch} {e : Env} {s : State} {m : MethodId} {args : Array Value} {below : List Frame} {meth : Method} {c : Code} {G : tf_G} (X : tf_X G 16 "TradeFloorModel" cK8_meets 13 none p s m args meth c) {I9 : FI} {L9 : FL} (k19 : Int32 → Int32 → Int32 → Int32 → Int32 → FI → FL → Option (FI × FL)) (hk19 : ∀ (v1 : Int32) (v3 : Int32) (v4 : Int32) (v5 : Int32) (v6 : Int32) (I : FI) (L : FL), k19 v1 v3 v4 v5 v6 I L = some (I9, L9) → ∀ {H : Heap} {locs : List Loc} {ls : Array Slot}, tf_H G 16 (rE G I L) s.heap H locs → lv_has ls 13 [(0, .ref (al G 0)), (1, .int v1), (3, .int v3), (4, .int v4), (5, .int v5), (6, .int v6)] → W p l e (tf_rm 2 47) s m args below meth c H locs 0 0 (MQ below (tf_Q G 16 (rE G I9 L9) (none)) args s 0 0 (gA (al G) 16)) (F0 m 19 ls [])) (v1 : Int32) (v3 : Int32) (v4 : Int32) (v5 : Int32) (v6 : Int32) (v7 : Int32) (v8 : Int32) (v9 : Int32) (v10 : Int32) (u0 : Int32) (I : FI) (L : FL) (hf : fK8_meets_168 k19 v1 v3 v4 v5 v6 v7 v8 v9 v10 u0 I L = some (I9, L9)) {H : Heap} {locs : List Loc} {ls : Array Slot} (h : tf_H G 16 (rE G I L) s.heap H locs) (hl : lv_has ls 13 [(0, .ref (al G 0)), (1, .int v1), (3, .int v3), (4, .int v4), (5, .int v5), (6, .int v6), (7, .int v7), (8, .int v8), (9, .int v9), (10, .int v10)]) : W p l e (tf_rm 2 47) s m args below meth c H locs 0 0 (MQ below (tf_Q G 16 (rE G I9 L9) (none)) args s 0 0 (gA (al G) 16)) (F0 m 168 ls [.int u0]) := by
  have hx := X.1
  have hb := X.2.1
  have hJ := X.2.2.2.2.2.2.2.2.2
  unfold fK8_meets_168 at hf
  refine lv_istore (lv' := [(11, .int u0), (0, .ref (al G 0)), (1, .int v1), (3, .int v3), (4, .int v4), (5, .int v5), (6, .int v6), (7, .int v7), (8, .int v8), (9, .int v9), (10, .int v10)]) hx hb dK8_meets_168 hl (by decide) rfl (fun ls hl => ?_)
  refine lv_aload_n hx hb dK8_meets_170 rfl (lv_at hl 1 rfl) ?_
  refine gf8_trades X h w_443 dK8_meets_171 ?_
  refine lv_sipush (v := 200) hx hb dK8_meets_174 (by decide) ?_
  refine lv_irem hx hb dK8_meets_177 (by decide) ?_
  refine lv_topi (fun x_1 ex_1 => ?_)
  have hf := nm_at hf ex_1
  refine lv_istore (lv' := [(12, .int x_1), (11, .int u0), (0, .ref (al G 0)), (1, .int v1), (3, .int v3), (4, .int v4), (5, .int v5), (6, .int v6), (7, .int v7), (8, .int v8), (9, .int v9), (10, .int v10)]) hx hb dK8_meets_178 hl (by decide) rfl (fun ls hl => ?_)
  refine lv_aload_n hx hb dK8_meets_180 rfl (lv_at hl 2 rfl) ?_
  refine gf8_cash X h w_415 dK8_meets_181 ?_
  refine lv_iload hx hb dK8_meets_184 (lv_at hl 11 rfl) ?_
  refine lv_dup2_11 hx hb dK8_meets_186 rfl rfl ?_
  obtain ⟨hi_2, hf⟩ := ck_some hf
  refine gar_4 X h (inb_in hi_2) dK8_meets_187 ?_
  refine lv_iload hx hb dK8_meets_188 (lv_at hl 9 rfl) ?_
  refine lv_i2l hx hb dK8_meets_190 rfl ?_
  refine lv_iload hx hb dK8_meets_191 (lv_at hl 10 rfl) ?_
  refine lv_i2l hx hb dK8_meets_193 rfl ?_
  refine lv_lmul hx hb dK8_meets_194 ?_
  refine lv_lsub hx hb dK8_meets_195 ?_
  obtain ⟨hi_3, hf⟩ := ck_some hf
  obtain ⟨L_4, eL_4, hf⟩ := nm_some hf
  refine par_4 X h (inb_in hi_3) eL_4 dK8_meets_196 (fun H locs h => ?_)
  refine lv_aload_n hx hb dK8_meets_197 rfl (lv_at hl 2 rfl) ?_
  refine gf8_goods X h w_423 dK8_meets_198 ?_
  refine lv_iload hx hb dK8_meets_201 (lv_at hl 11 rfl) ?_
  refine lv_dup2_11 hx hb dK8_meets_203 rfl rfl ?_
  obtain ⟨hi_5, hf⟩ := ck_some hf
  refine gar_5 X h (inb_in hi_5) dK8_meets_204 ?_
  refine lv_iload hx hb dK8_meets_205 (lv_at hl 9 rfl) ?_
  refine lv_i2l hx hb dK8_meets_207 rfl ?_
  refine lv_ladd hx hb dK8_meets_208 ?_
  obtain ⟨hi_6, hf⟩ := ck_some hf
  obtain ⟨L_7, eL_7, hf⟩ := nm_some hf
  refine par_5 X h (inb_in hi_6) eL_7 dK8_meets_209 (fun H locs h => ?_)
  refine lv_aload_n hx hb dK8_meets_210 rfl (lv_at hl 2 rfl) ?_
  refine gf8_cash X h w_415 dK8_meets_211 ?_
  refine lv_iload hx hb dK8_meets_214 (lv_at hl 1 rfl) ?_
  refine lv_dup2_11 hx hb dK8_meets_216 rfl rfl ?_
  obtain ⟨hi_8, hf⟩ := ck_some hf
  refine gar_4 X h (inb_in hi_8) dK8_meets_217 ?_
  refine lv_iload hx hb dK8_meets_218 (lv_at hl 9 rfl) ?_
  refine lv_i2l hx hb dK8_meets_220 rfl ?_
  refine lv_iload hx hb dK8_meets_221 (lv_at hl 10 rfl) ?_
  refine lv_i2l hx hb dK8_meets_223 rfl ?_
  refine lv_lmul hx hb dK8_meets_224 ?_
  refine lv_ladd hx hb dK8_meets_225 ?_
  obtain ⟨hi_9, hf⟩ := ck_some hf
  obtain ⟨L_10, eL_10, hf⟩ := nm_some hf
  refine par_4 X h (inb_in hi_9) eL_10 dK8_meets_226 (fun H locs h => ?_)
  refine lv_aload_n hx hb dK8_meets_227 rfl (lv_at hl 2 rfl) ?_
  refine gf8_goods X h w_423 dK8_meets_228 ?_
  refine lv_iload hx hb dK8_meets_231 (lv_at hl 1 rfl) ?_
  refine lv_dup2_11 hx hb dK8_meets_233 rfl rfl ?_
  obtain ⟨hi_11, hf⟩ := ck_some hf
  refine gar_5 X h (inb_in hi_11) dK8_meets_234 ?_
  refine lv_iload hx hb dK8_meets_235 (lv_at hl 9 rfl) ?_
  refine lv_i2l hx hb dK8_meets_237 rfl ?_
  refine lv_lsub hx hb dK8_meets_238 ?_
  obtain ⟨hi_12, hf⟩ := ck_some hf
  obtain ⟨L_13, eL_13, hf⟩ := nm_some hf
  refine par_5 X h (inb_in hi_12) eL_13 dK8_meets_239 (fun H locs h => ?_)
  refine lv_aload_n hx hb dK8_meets_240 rfl (lv_at hl 2 rfl) ?_
  refine gf8_left X h w_410 dK8_meets_241 ?_
  refine lv_iload_n hx hb dK8_meets_244 rfl (lv_at hl 3 rfl) ?_
  refine lv_dup2_11 hx hb dK8_meets_245 rfl rfl ?_
  obtain ⟨hi_14, hf⟩ := ck_some hf
  refine gar_8 X h (inb_in hi_14) dK8_meets_246 ?_
  refine lv_iload hx hb dK8_meets_247 (lv_at hl 9 rfl) ?_
  refine lv_isub hx hb dK8_meets_249 ?_
  obtain ⟨hi_15, hf⟩ := ck_some hf
  obtain ⟨I_16, eI_16, hf⟩ := nm_some hf
  refine par_8 X h (inb_in hi_15) eI_16 dK8_meets_250 (fun H locs h => ?_)
  refine lv_aload_n hx hb dK8_meets_251 rfl (lv_at hl 2 rfl) ?_
  refine gf8_left X h w_410 dK8_meets_252 ?_
  refine lv_iload hx hb dK8_meets_255 (lv_at hl 8 rfl) ?_
  refine lv_dup2_11 hx hb dK8_meets_257 rfl rfl ?_
  obtain ⟨hi_17, hf⟩ := ck_some hf
  refine gar_8 X h (inb_in hi_17) dK8_meets_258 ?_
  refine lv_iload hx hb dK8_meets_259 (lv_at hl 9 rfl) ?_
  refine lv_isub hx hb dK8_meets_261 ?_
  obtain ⟨hi_18, hf⟩ := ck_some hf
  obtain ⟨I_19, eI_19, hf⟩ := nm_some hf
  refine par_8 X h (inb_in hi_18) eI_19 dK8_meets_262 (fun H locs h => ?_)
  refine lv_iload hx hb dK8_meets_263 (lv_at hl 7 rfl) ?_
  refine lv_iload hx hb dK8_meets_265 (lv_at hl 9 rfl) ?_
  refine lv_isub hx hb dK8_meets_267 ?_
  refine lv_topi (fun x_20 ex_20 => ?_)
  have hf := nm_at hf ex_20
  refine lv_istore (lv' := [(6, .int x_20), (12, .int x_1), (11, .int u0), (0, .ref (al G 0)), (1, .int v1), (3, .int v3), (4, .int v4), (5, .int v5), (7, .int v7), (8, .int v8), (9, .int v9), (10, .int v10)]) hx hb dK8_meets_268 hl (by decide) rfl (fun ls hl => ?_)
  refine lv_aload_n hx hb dK8_meets_270 rfl (lv_at hl 3 rfl) ?_
  refine gf8_left X h w_410 dK8_meets_271 ?_
  refine lv_iload hx hb dK8_meets_274 (lv_at hl 8 rfl) ?_
  obtain ⟨hi_21, hf⟩ := ck_some hf
  refine gar_8 X h (inb_in hi_21) dK8_meets_276 ?_
  refine lv_if_ne (tgt := 288) hx hb dK8_meets_277 (by decide) (fun c_22 => ?_) (fun c_22 => ?_)
  · have hf := if_f hf c_22
    exact sK8_meets_288 X k19 hk19 v1 v3 v4 v5 x_20 v8 v9 v10 u0 x_1 I_19 L_13 hf h (lv_sub hl [3, 4, 5, 6, 7, 0, 9, 10, 11, 2, 1] rfl)
  · have hf := if_t hf c_22
    refine lv_aload_n hx hb dK8_meets_280 rfl (lv_at hl 3 rfl) ?_
    refine gf8_state X h w_407 dK8_meets_281 ?_
    refine lv_iload hx hb dK8_meets_284 (lv_at hl 8 rfl) ?_
    refine lv_iconst (v := 2) hx hb dK8_meets_286 (by decide) ?_
    obtain ⟨hi_23, hf⟩ := ck_some hf
    obtain ⟨I_24, eI_24, hf⟩ := nm_some hf
    refine par_10 X h (inb_in hi_23) eI_24 dK8_meets_287 (fun H locs h => ?_)
    exact sK8_meets_288 X k19 hk19 v1 v3 v4 v5 x_20 v8 v9 v10 u0 x_1 I_24 L_13 hf h (lv_sub hl [3, 4, 5, 6, 7, 0, 9, 10, 11, 2, 1] rfl)
set_option maxHeartbeats 4000000 in
set_option maxRecDepth 100000 in
theorem sK8_meets_149 {p : Program} {l : Launch} {e : Env} {s : State} {m : MethodId} {args : Array Value} {below : List Frame} {meth : Method} {c : Code} {G : tf_G} (X : tf_X G 16 "TradeFloorModel" cK8_meets 13 none p s m args meth c) {I9 : FI} {L9 : FL} (k19 : Int32 → Int32 → Int32 → Int32 → Int32 → FI → FL → Option (FI × FL)) (hk19 : ∀ (v1 : Int32) (v3 : Int32) (v4 : Int32) (v5 : Int32) (v6 : Int32) (I : FI) (L : FL), k19 v1 v3 v4 v5 v6 I L = some (I9, L9) → ∀ {H : Heap} {locs : List Loc} {ls : Array Slot}, tf_H G 16 (rE G I L) s.heap H locs → lv_has ls 13 [(0, .ref (al G 0)), (1, .int v1), (3, .int v3), (4, .int v4), (5, .int v5), (6, .int v6)] → W p l e (tf_rm 2 47) s m args below meth c H locs 0 0 (MQ below (tf_Q G 16 (rE G I9 L9) (none)) args s 0 0 (gA (al G) 16)) (F0 m 19 ls [])) (v1 : Int32) (v3 : Int32) (v4 : Int32) (v5 : Int32) (v6 : Int32) (v7 : Int32) (v8 : Int32) (v9 : Int32) (u0 : Int32) (I : FI) (L : FL) (hf : fK8_meets_149 k19 v1 v3 v4 v5 v6 v7 v8 v9 u0 I L = some (I9, L9)) {H : Heap} {locs : List Loc} {ls : Array Slot} (h : tf_H G 16 (rE G I L) s.heap H locs) (hl : lv_has ls 13 [(0, .ref (al G 0)), (1, .int v1), (3, .int v3), (4, .int v4), (5, .int v5), (6, .int v6), (7, .int v7), (8, .int v8), (9, .int v9)]) : W p l e (tf_rm 2 47) s m args below meth c H locs 0 0 (MQ below (tf_Q G 16 (rE G I9 L9) (none)) args s 0 0 (gA (al G) 16)) (F0 m 149 ls [.int u0]) := by
  have hx := X.1
  have hb := X.2.1
  have hJ := X.2.2.2.2.2.2.2.2.2
  unfold fK8_meets_149 at hf
  refine lv_istore (lv' := [(10, .int u0), (0, .ref (al G 0)), (1, .int v1), (3, .int v3), (4, .int v4), (5, .int v5), (6, .int v6), (7, .int v7), (8, .int v8), (9, .int v9)]) hx hb dK8_meets_149 hl (by decide) rfl (fun ls hl => ?_)
  refine lv_iload hx hb dK8_meets_151 (lv_at hl 5 rfl) ?_
  refine lv_if_ne (tgt := 166) hx hb dK8_meets_153 (by decide) (fun c_1 => ?_) (fun c_1 => ?_)
  · have hf := if_f hf c_1
    refine lv_iload hx hb dK8_meets_166 (lv_at hl 4 rfl) ?_
    exact sK8_meets_168 X k19 hk19 v1 v3 v4 v5 v6 v7 v8 v9 u0 v4 I L hf h (lv_sub hl [1, 2, 3, 4, 5, 6, 7, 8, 9, 0] rfl)
  · have hf := if_t hf c_1
    refine lv_aload_n hx hb dK8_meets_156 rfl (lv_at hl 1 rfl) ?_
    refine gf8_who X h w_408 dK8_meets_157 ?_
    refine lv_iload hx hb dK8_meets_160 (lv_at hl 7 rfl) ?_
    obtain ⟨hi_2, hf⟩ := ck_some hf
    refine gar_6 X h (inb_in hi_2) dK8_meets_162 ?_
    refine lv_goto (tgt := 168) hx hb dK8_meets_163 (by decide) ?_
    exact sK8_meets_168 X k19 hk19 v1 v3 v4 v5 v6 v7 v8 v9 u0 (I 0 v7.toNatClampNeg) I L hf h (lv_sub hl [1, 2, 3, 4, 5, 6, 7, 8, 9, 0] rfl)
set_option maxHeartbeats 4000000 in
set_option maxRecDepth 100000 in
theorem sK8_meets_126 {p : Program} {l : Launch} {e : Env} {s : State} {m : MethodId} {args : Array Value} {below : List Frame} {meth : Method} {c : Code} {G : tf_G} (X : tf_X G 16 "TradeFloorModel" cK8_meets 13 none p s m args meth c) {I9 : FI} {L9 : FL} (k19 : Int32 → Int32 → Int32 → Int32 → Int32 → FI → FL → Option (FI × FL)) (hk19 : ∀ (v1 : Int32) (v3 : Int32) (v4 : Int32) (v5 : Int32) (v6 : Int32) (I : FI) (L : FL), k19 v1 v3 v4 v5 v6 I L = some (I9, L9) → ∀ {H : Heap} {locs : List Loc} {ls : Array Slot}, tf_H G 16 (rE G I L) s.heap H locs → lv_has ls 13 [(0, .ref (al G 0)), (1, .int v1), (3, .int v3), (4, .int v4), (5, .int v5), (6, .int v6)] → W p l e (tf_rm 2 47) s m args below meth c H locs 0 0 (MQ below (tf_Q G 16 (rE G I9 L9) (none)) args s 0 0 (gA (al G) 16)) (F0 m 19 ls [])) (v1 : Int32) (v3 : Int32) (v4 : Int32) (v5 : Int32) (v6 : Int32) (v7 : Int32) (v8 : Int32) (v9 : Int32) (I : FI) (L : FL) (hf : fK8_meets_126 k19 v1 v3 v4 v5 v6 v7 v8 v9 I L = some (I9, L9)) {H : Heap} {locs : List Loc} {ls : Array Slot} (h : tf_H G 16 (rE G I L) s.heap H locs) (hl : lv_has ls 13 [(0, .ref (al G 0)), (1, .int v1), (3, .int v3), (4, .int v4), (5, .int v5), (6, .int v6), (7, .int v7), (8, .int v8), (9, .int v9)]) : W p l e (tf_rm 2 47) s m args below meth c H locs 0 0 (MQ below (tf_Q G 16 (rE G I9 L9) (none)) args s 0 0 (gA (al G) 16)) (F0 m 126 ls []) := by
  have hx := X.1
  have hb := X.2.1
  have hJ := X.2.2.2.2.2.2.2.2.2
  unfold fK8_meets_126 at hf
  refine lv_iload hx hb dK8_meets_126 (lv_at hl 7 rfl) ?_
  refine lv_if_ne (tgt := 132) hx hb dK8_meets_128 (by decide) (fun c_1 => ?_) (fun c_1 => ?_)
  · have hf := if_f hf c_1
    refine lv_iload hx hb dK8_meets_132 (lv_at hl 4 rfl) ?_
    refine lv_if_ne (tgt := 142) hx hb dK8_meets_134 (by decide) (fun c_2 => ?_) (fun c_2 => ?_)
    · have hf := if_f hf c_2
      refine lv_aload_n hx hb dK8_meets_142 rfl (lv_at hl 0 rfl) ?_
      refine gf8_who X h w_408 dK8_meets_143 ?_
      refine lv_iload hx hb dK8_meets_146 (lv_at hl 6 rfl) ?_
      obtain ⟨hi_3, hf⟩ := ck_some hf
      refine gar_6 X h (inb_in hi_3) dK8_meets_148 ?_
      exact sK8_meets_149 X k19 hk19 v1 v3 v4 v5 v6 v7 v8 v9 (I 0 v7.toNatClampNeg) I L hf h hl
    · have hf := if_t hf c_2
      refine lv_iload hx hb dK8_meets_137 (lv_at hl 3 rfl) ?_
      refine lv_goto (tgt := 149) hx hb dK8_meets_139 (by decide) ?_
      exact sK8_meets_149 X k19 hk19 v1 v3 v4 v5 v6 v7 v8 v9 v4 I L hf h hl
  · have hf := if_t hf c_1
    cases hf
    exact tf_vret X h dK8_meets_131
set_option maxHeartbeats 4000000 in
set_option maxRecDepth 100000 in
theorem sK8_meets_41 {p : Program} {l : Launch} {e : Env} {s : State} {m : MethodId} {args : Array Value} {below : List Frame} {meth : Method} {c : Code} {G : tf_G} (X : tf_X G 16 "TradeFloorModel" cK8_meets 13 none p s m args meth c) {I9 : FI} {L9 : FL} (k19 : Int32 → Int32 → Int32 → Int32 → Int32 → FI → FL → Option (FI × FL)) (hk19 : ∀ (v1 : Int32) (v3 : Int32) (v4 : Int32) (v5 : Int32) (v6 : Int32) (I : FI) (L : FL), k19 v1 v3 v4 v5 v6 I L = some (I9, L9) → ∀ {H : Heap} {locs : List Loc} {ls : Array Slot}, tf_H G 16 (rE G I L) s.heap H locs → lv_has ls 13 [(0, .ref (al G 0)), (1, .int v1), (3, .int v3), (4, .int v4), (5, .int v5), (6, .int v6)] → W p l e (tf_rm 2 47) s m args below meth c H locs 0 0 (MQ below (tf_Q G 16 (rE G I9 L9) (none)) args s 0 0 (gA (al G) 16)) (F0 m 19 ls [])) (v1 : Int32) (v3 : Int32) (v4 : Int32) (v5 : Int32) (v6 : Int32) (u0 : Int32) (u1 : Int32) (I : FI) (L : FL) (hf : fK8_meets_41 k19 v1 v3 v4 v5 v6 u0 u1 I L = some (I9, L9)) {H : Heap} {locs : List Loc} {ls : Array Slot} (h : tf_H G 16 (rE G I L) s.heap H locs) (hl : lv_has ls 13 [(0, .ref (al G 0)), (1, .int v1), (3, .int v3), (4, .int v4), (5, .int v5), (6, .int v6)]) : W p l e (tf_rm 2 47) s m args below meth c H locs 0 0 (MQ below (tf_Q G 16 (rE G I9 L9) (none)) args s 0 0 (gA (al G) 16)) (F0 m 41 ls [.int u0, .int u1, .ref (al G 0)]) := by
  have hx := X.1
  have hb := X.2.1
  have hJ := X.2.2.2.2.2.2.2.2.2
  unfold fK8_meets_41 at hf
  obtain ⟨r_2, h_1, hf⟩ := bn_some hf
  refine tf_callVi (As := [.int u1, .int u0]) (rest := []) X h 0 (by decide) rfl rfl (mK8_match hJ h_1) bwK8_match w_439 ⟨Nat.le_of_ble_eq_true rfl, Nat.le_of_ble_eq_true rfl⟩ hl.1 rfl (Nat.le_of_ble_eq_true rfl) ⟨Nat.zero_le _, Nat.zero_le _⟩ dK8_meets_41 (fun H locs h => ?_)
  refine lv_istore (lv' := [(7, .int r_2), (0, .ref (al G 0)), (1, .int v1), (3, .int v3), (4, .int v4), (5, .int v5), (6, .int v6)]) hx hb dK8_meets_44 hl (by decide) rfl (fun ls hl => ?_)
  refine lv_iload hx hb dK8_meets_46 (lv_at hl 0 rfl) ?_
  refine lv_if_ge (tgt := 52) hx hb dK8_meets_48 (by decide) (fun c_3 => ?_) (fun c_3 => ?_)
  · have hf := if_t hf c_3
    refine lv_aload_n hx hb dK8_meets_52 rfl (lv_at hl 1 rfl) ?_
    refine gf8_who X h w_408 dK8_meets_53 ?_
    refine lv_iload hx hb dK8_meets_56 (lv_at hl 0 rfl) ?_
    obtain ⟨hi_4, hf⟩ := ck_some hf
    refine gar_6 X h (inb_in hi_4) dK8_meets_58 ?_
    refine lv_iload hx hb dK8_meets_59 (lv_at hl 4 rfl) ?_
    refine lv_icmp_ne (tgt := 75) hx hb dK8_meets_61 (by decide) (fun c_5 => ?_) (fun c_5 => ?_)
    · have hf := if_f hf c_5
      refine lv_iload hx hb dK8_meets_75 (lv_at hl 6 rfl) ?_
      refine lv_aload_n hx hb dK8_meets_77 rfl (lv_at hl 1 rfl) ?_
      refine gf8_left X h w_410 dK8_meets_78 ?_
      refine lv_iload hx hb dK8_meets_81 (lv_at hl 0 rfl) ?_
      obtain ⟨hi_6, hf⟩ := ck_some hf
      refine gar_8 X h (inb_in hi_6) dK8_meets_83 ?_
      refine va_mmin hx hb (by rw [X.2.2.2.1]; exact hl.1.symm) X.2.2.2.2.1 (X.2.2.2.2.2.2.1 _ w_440) (X.2.2.2.2.2.2.1 _ w_220) (X.2.2.2.2.2.2.1 _ w_199) (X.2.2.2.2.2.2.1 _ w_221) (Nat.le_of_ble_eq_true rfl) (Nat.le_of_ble_eq_true rfl) (Nat.zero_le _) (Nat.zero_le _) dK8_meets_84 ?_
      refine lv_topi (fun x_7 ex_7 => ?_)
      have hf := nm_at hf ex_7
      refine lv_istore (lv' := [(8, .int x_7), (7, .int r_2), (0, .ref (al G 0)), (1, .int v1), (3, .int v3), (4, .int v4), (5, .int v5), (6, .int v6)]) hx hb dK8_meets_87 hl (by decide) rfl (fun ls hl => ?_)
      refine lv_aload_n hx hb dK8_meets_89 rfl (lv_at hl 2 rfl) ?_
      refine gf8_price X h w_411 dK8_meets_90 ?_
      refine lv_iload hx hb dK8_meets_93 (lv_at hl 1 rfl) ?_
      obtain ⟨hi_8, hf⟩ := ck_some hf
      refine gar_9 X h (inb_in hi_8) dK8_meets_95 ?_
      refine lv_topi (fun x_9 ex_9 => ?_)
      have hf := nm_at hf ex_9
      refine lv_istore (lv' := [(9, .int x_9), (8, .int x_7), (7, .int r_2), (0, .ref (al G 0)), (1, .int v1), (3, .int v3), (4, .int v4), (5, .int v5), (6, .int v6)]) hx hb dK8_meets_96 hl (by decide) rfl (fun ls hl => ?_)
      refine lv_iload_n hx hb dK8_meets_98 rfl (lv_at hl 5 rfl) ?_
      refine lv_if_eq (tgt := 126) hx hb dK8_meets_99 (by decide) (fun c_10 => ?_) (fun c_10 => ?_)
      · have hf := if_t hf c_10
        exact sK8_meets_126 X k19 hk19 v1 v3 v4 v5 v6 r_2 x_7 x_9 I L hf h (lv_sub hl [3, 4, 5, 6, 7, 8, 2, 1, 0] rfl)
      · have hf := if_f hf c_10
        refine lv_iload hx hb dK8_meets_102 (lv_at hl 7 rfl) ?_
        refine lv_if_ne (tgt := 126) hx hb dK8_meets_104 (by decide) (fun c_11 => ?_) (fun c_11 => ?_)
        · have hf := if_f hf c_11
          exact sK8_meets_126 X k19 hk19 v1 v3 v4 v5 v6 r_2 x_7 x_9 I L hf h (lv_sub hl [3, 4, 5, 6, 7, 8, 2, 1, 0] rfl)
        · have hf := if_t hf c_11
          refine lv_iload hx hb dK8_meets_107 (lv_at hl 1 rfl) ?_
          refine lv_i2l hx hb dK8_meets_109 rfl ?_
          refine lv_aload_n hx hb dK8_meets_110 rfl (lv_at hl 3 rfl) ?_
          refine lv_iload hx hb dK8_meets_111 (lv_at hl 6 rfl) ?_
          obtain ⟨r_13, h_12, hf⟩ := bn_some hf
          refine tf_callVl (As := [.int v4]) (rest := [.long x_7.toInt64]) X h 0 (by decide) rfl rfl (mK8_freeCash hJ h_12) bwK8_freeCash w_441 ⟨Nat.le_of_ble_eq_true rfl, Nat.le_of_ble_eq_true rfl⟩ hl.1 rfl (Nat.le_of_ble_eq_true rfl) ⟨Nat.zero_le _, Nat.zero_le _⟩ dK8_meets_113 (fun H locs h => ?_)
          refine lv_iload hx hb dK8_meets_116 (lv_at hl 0 rfl) ?_
          refine lv_i2l hx hb dK8_meets_118 rfl ?_
          obtain ⟨hd_14, hf⟩ := ck_some hf
          refine lv_ldiv hx hb dK8_meets_119 (of_decide_eq_true hd_14) ?_
          refine va_mmin_long hx hb (by rw [X.2.2.2.1]; exact hl.1.symm) X.2.2.2.2.1 (X.2.2.2.2.2.2.1 _ w_442) (X.2.2.2.2.2.2.1 _ w_198) (X.2.2.2.2.2.2.1 _ w_199) (X.2.2.2.2.2.2.1 _ w_200) (Nat.le_of_ble_eq_true rfl) (Nat.le_of_ble_eq_true rfl) (Nat.zero_le _) (Nat.zero_le _) dK8_meets_120 ?_
          refine lv_l2i hx hb dK8_meets_123 rfl ?_
          refine lv_topi (fun x_15 ex_15 => ?_)
          have hf := nm_at hf ex_15
          refine lv_istore (lv' := [(8, .int x_15), (9, .int x_9), (7, .int r_2), (0, .ref (al G 0)), (1, .int v1), (3, .int v3), (4, .int v4), (5, .int v5), (6, .int v6)]) hx hb dK8_meets_124 hl (by decide) rfl (fun ls hl => ?_)
          exact sK8_meets_126 X k19 hk19 v1 v3 v4 v5 v6 r_2 x_15 x_9 I L hf h (lv_sub hl [3, 4, 5, 6, 7, 8, 2, 0, 1] rfl)
    · have hf := if_t hf c_5
      refine lv_aload_n hx hb dK8_meets_64 rfl (lv_at hl 1 rfl) ?_
      refine gf8_state X h w_407 dK8_meets_65 ?_
      refine lv_iload hx hb dK8_meets_68 (lv_at hl 0 rfl) ?_
      refine lv_iconst (v := 2) hx hb dK8_meets_70 (by decide) ?_
      obtain ⟨hi_16, hf⟩ := ck_some hf
      obtain ⟨I_17, eI_17, hf⟩ := nm_some hf
      refine par_10 X h (inb_in hi_16) eI_17 dK8_meets_71 (fun H locs h => ?_)
      refine lv_goto (tgt := 19) hx hb dK8_meets_72 (by decide) ?_
      exact hk19 v1 v3 v4 v5 v6 I_17 L hf h (lv_sub hl [1, 2, 3, 4, 5, 6] rfl)
  · have hf := if_f hf c_3
    cases hf
    exact tf_vret X h dK8_meets_51
set_option maxHeartbeats 4000000 in
set_option maxRecDepth 100000 in
theorem sK8_meets_19 {p : Program} {l : Launch} {e : Env} {s : State} {m : MethodId} {args : Array Value} {below : List Frame} {meth : Method} {c : Code} {G : tf_G} (X : tf_X G 16 "TradeFloorModel" cK8_meets 13 none p s m args meth c) {I9 : FI} {L9 : FL} (k19 : Int32 → Int32 → Int32 → Int32 → Int32 → FI → FL → Option (FI × FL)) (hk19 : ∀ (v1 : Int32) (v3 : Int32) (v4 : Int32) (v5 : Int32) (v6 : Int32) (I : FI) (L : FL), k19 v1 v3 v4 v5 v6 I L = some (I9, L9) → ∀ {H : Heap} {locs : List Loc} {ls : Array Slot}, tf_H G 16 (rE G I L) s.heap H locs → lv_has ls 13 [(0, .ref (al G 0)), (1, .int v1), (3, .int v3), (4, .int v4), (5, .int v5), (6, .int v6)] → W p l e (tf_rm 2 47) s m args below meth c H locs 0 0 (MQ below (tf_Q G 16 (rE G I9 L9) (none)) args s 0 0 (gA (al G) 16)) (F0 m 19 ls [])) (v1 : Int32) (v3 : Int32) (v4 : Int32) (v5 : Int32) (v6 : Int32) (I : FI) (L : FL) (hf : bK8_meets_19 k19 v1 v3 v4 v5 v6 I L = some (I9, L9)) {H : Heap} {locs : List Loc} {ls : Array Slot} (h : tf_H G 16 (rE G I L) s.heap H locs) (hl : lv_has ls 13 [(0, .ref (al G 0)), (1, .int v1), (3, .int v3), (4, .int v4), (5, .int v5), (6, .int v6)]) : W p l e (tf_rm 2 47) s m args below meth c H locs 0 0 (MQ below (tf_Q G 16 (rE G I9 L9) (none)) args s 0 0 (gA (al G) 16)) (F0 m 19 ls []) := by
  have hx := X.1
  have hb := X.2.1
  have hJ := X.2.2.2.2.2.2.2.2.2
  unfold bK8_meets_19 at hf
  refine lv_iload hx hb dK8_meets_19 (lv_at hl 5 rfl) ?_
  refine lv_if_le (tgt := 343) hx hb dK8_meets_21 (by decide) (fun c_1 => ?_) (fun c_1 => ?_)
  · have hf := if_t hf c_1
    cases hf
    exact tf_vret X h dK8_meets_343
  · have hf := if_f hf c_1
    refine lv_aload_n hx hb dK8_meets_24 rfl (lv_at hl 0 rfl) ?_
    refine lv_iload hx hb dK8_meets_25 (lv_at hl 4 rfl) ?_
    refine lv_iload_n hx hb dK8_meets_27 rfl (lv_at hl 2 rfl) ?_
    refine lv_if_eq (tgt := 35) hx hb dK8_meets_28 (by decide) (fun c_2 => ?_) (fun c_2 => ?_)
    · have hf := if_t hf c_2
      refine lv_aload_n hx hb dK8_meets_35 rfl (lv_at hl 0 rfl) ?_
      refine gf8_price X h w_411 dK8_meets_36 ?_
      refine lv_iload_n hx hb dK8_meets_39 rfl (lv_at hl 1 rfl) ?_
      obtain ⟨hi_3, hf⟩ := ck_some hf
      refine gar_9 X h (inb_in hi_3) dK8_meets_40 ?_
      exact sK8_meets_41 X k19 hk19 v1 v3 v4 v5 v6 (I 3 v1.toNatClampNeg) v5 I L hf h hl
    · have hf := if_f hf c_2
      refine lv_iconst (v := 0) hx hb dK8_meets_31 (by decide) ?_
      refine lv_goto (tgt := 41) hx hb dK8_meets_32 (by decide) ?_
      exact sK8_meets_41 X k19 hk19 v1 v3 v4 v5 v6 0 v5 I L hf h hl
theorem lK8_meets_19 {p : Program} {l : Launch} {e : Env} {s : State} {m : MethodId} {args : Array Value} {below : List Frame} {meth : Method} {c : Code} {G : tf_G} (X : tf_X G 16 "TradeFloorModel" cK8_meets 13 none p s m args meth c) {I9 : FI} {L9 : FL} : ∀ (n : Nat), ∀ (v1 : Int32) (v3 : Int32) (v4 : Int32) (v5 : Int32) (v6 : Int32) (I : FI) (L : FL), fK8_meets_19 n v1 v3 v4 v5 v6 I L = some (I9, L9) → ∀ {H : Heap} {locs : List Loc} {ls : Array Slot}, tf_H G 16 (rE G I L) s.heap H locs → lv_has ls 13 [(0, .ref (al G 0)), (1, .int v1), (3, .int v3), (4, .int v4), (5, .int v5), (6, .int v6)] → W p l e (tf_rm 2 47) s m args below meth c H locs 0 0 (MQ below (tf_Q G 16 (rE G I9 L9) (none)) args s 0 0 (gA (al G) 16)) (F0 m 19 ls []) := by
  intro n
  induction n with
  | zero =>
    intro v1 v3 v4 v5 v6 I L hf
    exact absurd hf (by simp [fK8_meets_19])
  | succ n ih =>
    intro v1 v3 v4 v5 v6 I L hf H locs ls h hl
    exact sK8_meets_19 X (fK8_meets_19 n) ih v1 v3 v4 v5 v6 I L hf h hl
set_option maxHeartbeats 4000000 in
set_option maxRecDepth 100000 in
theorem sK8_meets_0 {p : Program} {l : Launch} {e : Env} {s : State} {m : MethodId} {args : Array Value} {below : List Frame} {meth : Method} {c : Code} {G : tf_G} (X : tf_X G 16 "TradeFloorModel" cK8_meets 13 none p s m args meth c) {I9 : FI} {L9 : FL} (a1 : Int32) (a2 : Int32) (a3 : Int32) (I : FI) (L : FL) (hf : fK8_meets a1 a2 a3 I L = some (I9, L9)) {H : Heap} {locs : List Loc} {ls : Array Slot} (h : tf_H G 16 (rE G I L) s.heap H locs) (hl : lv_has ls 13 [(0, .ref (al G 0)), (1, .int a1), (2, .int a2), (3, .int a3)]) : W p l e (tf_rm 2 47) s m args below meth c H locs 0 0 (MQ below (tf_Q G 16 (rE G I9 L9) (none)) args s 0 0 (gA (al G) 16)) (F0 m 0 ls []) := by
  have hx := X.1
  have hb := X.2.1
  have hJ := X.2.2.2.2.2.2.2.2.2
  unfold fK8_meets at hf
  refine lv_aload_n hx hb dK8_meets_0 rfl (lv_at hl 0 rfl) ?_
  refine gf8_who X h w_408 dK8_meets_1 ?_
  refine lv_iload_n hx hb dK8_meets_4 rfl (lv_at hl 1 rfl) ?_
  obtain ⟨hi_1, hf⟩ := ck_some hf
  refine gar_6 X h (inb_in hi_1) dK8_meets_5 ?_
  refine lv_topi (fun x_2 ex_2 => ?_)
  have hf := nm_at hf ex_2
  refine lv_istore (lv' := [(4, .int x_2), (0, .ref (al G 0)), (1, .int a1), (2, .int a2), (3, .int a3)]) hx hb dK8_meets_6 hl (by decide) rfl (fun ls hl => ?_)
  refine lv_aload_n hx hb dK8_meets_8 rfl (lv_at hl 1 rfl) ?_
  refine gf8_side X h w_409 dK8_meets_9 ?_
  refine lv_iload_n hx hb dK8_meets_12 rfl (lv_at hl 2 rfl) ?_
  obtain ⟨hi_3, hf⟩ := ck_some hf
  refine gar_7 X h (inb_in hi_3) dK8_meets_13 ?_
  refine lv_topi (fun x_4 ex_4 => ?_)
  have hf := nm_at hf ex_4
  refine lv_istore (lv' := [(5, .int x_4), (4, .int x_2), (0, .ref (al G 0)), (1, .int a1), (2, .int a2), (3, .int a3)]) hx hb dK8_meets_14 hl (by decide) rfl (fun ls hl => ?_)
  refine lv_iload_n hx hb dK8_meets_16 rfl (lv_at hl 4 rfl) ?_
  refine lv_istore (lv' := [(6, .int a2), (5, .int x_4), (4, .int x_2), (0, .ref (al G 0)), (1, .int a1), (2, .int a2), (3, .int a3)]) hx hb dK8_meets_17 hl (by decide) rfl (fun ls hl => ?_)
  exact lK8_meets_19 X FU a1 a3 x_2 x_4 a2 I L hf h (lv_sub hl [3, 4, 6, 2, 1, 0] rfl)
theorem mK8_meets {l : Launch} {G : tf_G} (hJ : gJ (al G) 16) {I9 : FI} {L9 : FL} {a1 : Int32} {a2 : Int32} {a3 : Int32} {I : FI} {L : FL} (hf : fK8_meets a1 a2 a3 I L = some (I9, L9)) : tf_Met l G 16 yK8_meets cK8_meets 13 none 2 47 [.ref (al G 0), .int a1, .int a2, .int a3] (rE G I L) (rE G I9 L9) (none) :=
  tf_enter (by decide +kernel) hJ (Nat.le_of_ble_eq_true rfl) (fun p e s m args below meth c ls X _ hl h => sK8_meets_0 X a1 a2 a3 I L hf h hl)
theorem bwK8_meets : tf_cv yK8_meets cK8_meets 13 none 3 := ⟨w_449, w_450, w_451, w_381, by decide +kernel, by decide +kernel, by decide +kernel⟩

set_option maxHeartbeats 4000000 in
set_option maxRecDepth 100000 in
theorem sK8_sum_50 {p : Program} {l : Launch} {e : Env} {s : State} {m : MethodId} {args : Array Value} {below : List Frame} {meth : Method} {c : Code} {G : tf_G} (X : tf_X G 16 "TradeFloorModel" cK8_sum 7 (some .long) p s m args meth c) {r : Int64} (k6 : Int32 → Int32 → Int32 → Int64 → Int32 → FI → FL → Option (Int64)) (hk6 : ∀ (v1 : Int32) (v2 : Int32) (v3 : Int32) (v4 : Int64) (v6 : Int32) (I : FI) (L : FL), k6 v1 v2 v3 v4 v6 I L = some r → ∀ {H : Heap} {locs : List Loc} {ls : Array Slot}, tf_H G 16 (rE G I L) s.heap H locs → lv_has ls 7 [(0, .ref (al G 0)), (1, .int v1), (2, .int v2), (3, .int v3), (4, .long v4), (6, .int v6)] → W p l e (tf_rm 1 23) s m args below meth c H locs 0 0 (MQ below (tf_Q G 16 (rE G I L) (some (.long r))) args s 0 0 (gA (al G) 16)) (F0 m 6 ls [])) (v1 : Int32) (v2 : Int32) (v3 : Int32) (v4 : Int64) (v6 : Int32) (I : FI) (L : FL) (hf : fK8_sum_50 k6 v1 v2 v3 v4 v6 I L = some r) {H : Heap} {locs : List Loc} {ls : Array Slot} (h : tf_H G 16 (rE G I L) s.heap H locs) (hl : lv_has ls 7 [(0, .ref (al G 0)), (1, .int v1), (2, .int v2), (3, .int v3), (4, .long v4), (6, .int v6)]) : W p l e (tf_rm 1 23) s m args below meth c H locs 0 0 (MQ below (tf_Q G 16 (rE G I L) (some (.long r))) args s 0 0 (gA (al G) 16)) (F0 m 50 ls []) := by
  have hx := X.1
  have hb := X.2.1
  have hJ := X.2.2.2.2.2.2.2.2.2
  unfold fK8_sum_50 at hf
  obtain ⟨x_1, ex_1, hf⟩ := nm_some hf
  refine lv_iinc (v := x_1) (lv' := [(6, .int x_1), (0, .ref (al G 0)), (1, .int v1), (2, .int v2), (3, .int v3), (4, .long v4)]) hx hb dK8_sum_50 hl (k := 5) rfl (by rw [ex_1]; rfl) (by decide) rfl (fun ls hl => ?_)
  refine lv_goto (tgt := 6) hx hb dK8_sum_53 (by decide) ?_
  exact hk6 v1 v2 v3 v4 x_1 I L hf h (lv_sub hl [1, 2, 3, 4, 5, 0] rfl)
set_option maxHeartbeats 4000000 in
set_option maxRecDepth 100000 in
theorem sK8_sum_6 {p : Program} {l : Launch} {e : Env} {s : State} {m : MethodId} {args : Array Value} {below : List Frame} {meth : Method} {c : Code} {G : tf_G} (X : tf_X G 16 "TradeFloorModel" cK8_sum 7 (some .long) p s m args meth c) {r : Int64} (k6 : Int32 → Int32 → Int32 → Int64 → Int32 → FI → FL → Option (Int64)) (hk6 : ∀ (v1 : Int32) (v2 : Int32) (v3 : Int32) (v4 : Int64) (v6 : Int32) (I : FI) (L : FL), k6 v1 v2 v3 v4 v6 I L = some r → ∀ {H : Heap} {locs : List Loc} {ls : Array Slot}, tf_H G 16 (rE G I L) s.heap H locs → lv_has ls 7 [(0, .ref (al G 0)), (1, .int v1), (2, .int v2), (3, .int v3), (4, .long v4), (6, .int v6)] → W p l e (tf_rm 1 23) s m args below meth c H locs 0 0 (MQ below (tf_Q G 16 (rE G I L) (some (.long r))) args s 0 0 (gA (al G) 16)) (F0 m 6 ls [])) (v1 : Int32) (v2 : Int32) (v3 : Int32) (v4 : Int64) (v6 : Int32) (I : FI) (L : FL) (hf : bK8_sum_6 k6 v1 v2 v3 v4 v6 I L = some r) {H : Heap} {locs : List Loc} {ls : Array Slot} (h : tf_H G 16 (rE G I L) s.heap H locs) (hl : lv_has ls 7 [(0, .ref (al G 0)), (1, .int v1), (2, .int v2), (3, .int v3), (4, .long v4), (6, .int v6)]) : W p l e (tf_rm 1 23) s m args below meth c H locs 0 0 (MQ below (tf_Q G 16 (rE G I L) (some (.long r))) args s 0 0 (gA (al G) 16)) (F0 m 6 ls []) := by
  have hx := X.1
  have hb := X.2.1
  have hJ := X.2.2.2.2.2.2.2.2.2
  unfold bK8_sum_6 at hf
  refine lv_iload hx hb dK8_sum_6 (lv_at hl 5 rfl) ?_
  refine lv_aload_n hx hb dK8_sum_8 rfl (lv_at hl 0 rfl) ?_
  refine gf8_orders X h w_406 dK8_sum_9 ?_
  refine lv_icmp_ge (tgt := 56) hx hb dK8_sum_12 (by decide) (fun c_1 => ?_) (fun c_1 => ?_)
  · have hf := if_t hf c_1
    refine lv_lload hx hb dK8_sum_56 (lv_at hl 4 rfl) ?_
    cases hf
    exact tf_lret X h dK8_sum_58
  · have hf := if_f hf c_1
    refine lv_aload_n hx hb dK8_sum_15 rfl (lv_at hl 0 rfl) ?_
    refine lv_iload hx hb dK8_sum_16 (lv_at hl 5 rfl) ?_
    refine lv_iload_n hx hb dK8_sum_18 rfl (lv_at hl 2 rfl) ?_
    refine lv_iload_n hx hb dK8_sum_19 rfl (lv_at hl 3 rfl) ?_
    obtain ⟨r_3, h_2, hf⟩ := bn_some hf
    refine tf_callVi (As := [.int v6, .int v2, .int v3]) (rest := []) X h 0 (by decide) rfl rfl (mK8_isMatch hJ h_2) bwK8_isMatch w_435 ⟨Nat.le_of_ble_eq_true rfl, Nat.le_of_ble_eq_true rfl⟩ hl.1 rfl (Nat.le_of_ble_eq_true rfl) ⟨Nat.zero_le _, Nat.zero_le _⟩ dK8_sum_20 (fun H locs h => ?_)
    refine lv_if_eq (tgt := 50) hx hb dK8_sum_23 (by decide) (fun c_4 => ?_) (fun c_4 => ?_)
    · have hf := if_t hf c_4
      exact sK8_sum_50 X k6 hk6 v1 v2 v3 v4 v6 I L hf h hl
    · have hf := if_f hf c_4
      refine lv_aload_n hx hb dK8_sum_26 rfl (lv_at hl 0 rfl) ?_
      refine gf8_who X h w_408 dK8_sum_27 ?_
      refine lv_iload hx hb dK8_sum_30 (lv_at hl 5 rfl) ?_
      obtain ⟨hi_5, hf⟩ := ck_some hf
      refine gar_6 X h (inb_in hi_5) dK8_sum_32 ?_
      refine lv_iload_n hx hb dK8_sum_33 rfl (lv_at hl 1 rfl) ?_
      refine lv_icmp_eq (tgt := 50) hx hb dK8_sum_34 (by decide) (fun c_6 => ?_) (fun c_6 => ?_)
      · have hf := if_t hf c_6
        exact sK8_sum_50 X k6 hk6 v1 v2 v3 v4 v6 I L hf h hl
      · have hf := if_f hf c_6
        refine lv_lload hx hb dK8_sum_37 (lv_at hl 4 rfl) ?_
        refine lv_aload_n hx hb dK8_sum_39 rfl (lv_at hl 0 rfl) ?_
        refine gf8_left X h w_410 dK8_sum_40 ?_
        refine lv_iload hx hb dK8_sum_43 (lv_at hl 5 rfl) ?_
        obtain ⟨hi_7, hf⟩ := ck_some hf
        refine gar_8 X h (inb_in hi_7) dK8_sum_45 ?_
        refine lv_i2l hx hb dK8_sum_46 rfl ?_
        refine lv_ladd hx hb dK8_sum_47 ?_
        refine lv_topl (fun x_8 ex_8 => ?_)
        have hf := nm_at hf ex_8
        refine lv_lstore (lv' := [(4, .long x_8), (0, .ref (al G 0)), (1, .int v1), (2, .int v2), (3, .int v3), (6, .int v6)]) hx hb dK8_sum_48 hl (by decide) rfl (fun ls hl => ?_)
        exact sK8_sum_50 X k6 hk6 v1 v2 v3 x_8 v6 I L hf h (lv_sub hl [1, 2, 3, 4, 0, 5] rfl)
theorem lK8_sum_6 {p : Program} {l : Launch} {e : Env} {s : State} {m : MethodId} {args : Array Value} {below : List Frame} {meth : Method} {c : Code} {G : tf_G} (X : tf_X G 16 "TradeFloorModel" cK8_sum 7 (some .long) p s m args meth c) {r : Int64} : ∀ (n : Nat), ∀ (v1 : Int32) (v2 : Int32) (v3 : Int32) (v4 : Int64) (v6 : Int32) (I : FI) (L : FL), fK8_sum_6 n v1 v2 v3 v4 v6 I L = some r → ∀ {H : Heap} {locs : List Loc} {ls : Array Slot}, tf_H G 16 (rE G I L) s.heap H locs → lv_has ls 7 [(0, .ref (al G 0)), (1, .int v1), (2, .int v2), (3, .int v3), (4, .long v4), (6, .int v6)] → W p l e (tf_rm 1 23) s m args below meth c H locs 0 0 (MQ below (tf_Q G 16 (rE G I L) (some (.long r))) args s 0 0 (gA (al G) 16)) (F0 m 6 ls []) := by
  intro n
  induction n with
  | zero =>
    intro v1 v2 v3 v4 v6 I L hf
    exact absurd hf (by simp [fK8_sum_6])
  | succ n ih =>
    intro v1 v2 v3 v4 v6 I L hf H locs ls h hl
    exact sK8_sum_6 X (fK8_sum_6 n) ih v1 v2 v3 v4 v6 I L hf h hl
set_option maxHeartbeats 4000000 in
set_option maxRecDepth 100000 in
theorem sK8_sum_0 {p : Program} {l : Launch} {e : Env} {s : State} {m : MethodId} {args : Array Value} {below : List Frame} {meth : Method} {c : Code} {G : tf_G} (X : tf_X G 16 "TradeFloorModel" cK8_sum 7 (some .long) p s m args meth c) {r : Int64} (a1 : Int32) (a2 : Int32) (a3 : Int32) (I : FI) (L : FL) (hf : fK8_sum a1 a2 a3 I L = some r) {H : Heap} {locs : List Loc} {ls : Array Slot} (h : tf_H G 16 (rE G I L) s.heap H locs) (hl : lv_has ls 7 [(0, .ref (al G 0)), (1, .int a1), (2, .int a2), (3, .int a3)]) : W p l e (tf_rm 1 23) s m args below meth c H locs 0 0 (MQ below (tf_Q G 16 (rE G I L) (some (.long r))) args s 0 0 (gA (al G) 16)) (F0 m 0 ls []) := by
  have hx := X.1
  have hb := X.2.1
  have hJ := X.2.2.2.2.2.2.2.2.2
  unfold fK8_sum at hf
  refine lv_lconst (v := 0) hx hb dK8_sum_0 (by decide) ?_
  refine lv_lstore (lv' := [(4, .long 0), (0, .ref (al G 0)), (1, .int a1), (2, .int a2), (3, .int a3)]) hx hb dK8_sum_1 hl (by decide) rfl (fun ls hl => ?_)
  refine lv_iconst (v := 0) hx hb dK8_sum_3 (by decide) ?_
  refine lv_istore (lv' := [(6, .int 0), (4, .long 0), (0, .ref (al G 0)), (1, .int a1), (2, .int a2), (3, .int a3)]) hx hb dK8_sum_4 hl (by decide) rfl (fun ls hl => ?_)
  exact lK8_sum_6 X FU a1 a2 a3 0 0 I L hf h (lv_sub hl [2, 3, 4, 5, 1, 0] rfl)
theorem mK8_sum {l : Launch} {G : tf_G} (hJ : gJ (al G) 16) {r : Int64} {a1 : Int32} {a2 : Int32} {a3 : Int32} {I : FI} {L : FL} (hf : fK8_sum a1 a2 a3 I L = some r) : tf_Met l G 16 yK8_sum cK8_sum 7 (some .long) 1 23 [.ref (al G 0), .int a1, .int a2, .int a3] (rE G I L) (rE G I L) (some (.long r)) :=
  tf_enter (by decide +kernel) hJ (Nat.le_of_ble_eq_true rfl) (fun p e s m args below meth c ls X _ hl h => sK8_sum_0 X a1 a2 a3 I L hf h hl)
theorem bwK8_sum : tf_cv yK8_sum cK8_sum 7 (some .long) 3 := ⟨w_452, w_453, w_454, w_381, by decide +kernel, by decide +kernel, by decide +kernel⟩
