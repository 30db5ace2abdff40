set_option maxHeartbeats 4000000 in
set_option maxRecDepth 100000 in
theorem sK4_isFull_0 {p : Program} {l : Launch} {e : Env} {s : State} {m : MethodId} {args : Array Value} {below : List Frame} {meth : Method} {c : Code} {G : tf_G} (X : tf_X G 63 "TradeFloor$Orders" cK4_isFull 1 (some .boolean) p s m args meth c) {r : Int32} (I : FI) (L : FL) (hf : fK4_isFull I L = some r) {H : Heap} {locs : List Loc} {ls : Array Slot} (h : tf_H G 63 (cE G I L) s.heap H locs) (hl : lv_has ls 1 [(0, .ref (al G 8))]) : W p l e (tf_rm 0 0) s m args below meth c H locs 0 0 (MQ below (tf_Q G 63 (cE G I L) (some (.int r))) args s 0 0 (gA (al G) 63)) (F0 m 0 ls []) := by
  have hx := X.1
  have hb := X.2.1
  have hJ := X.2.2.2.2.2.2.2.2.2
  unfold fK4_isFull at hf
  refine lv_aload_n hx hb dK4_isFull_0 rfl (lv_at hl 0 rfl) ?_
  refine gf4_size X h w_135 dK4_isFull_1 ?_
  refine lv_bipush (v := 40) hx hb dK4_isFull_4 (by decide) ?_
  refine lv_icmp_lt (tgt := 13) hx hb dK4_isFull_6 (by decide) (fun c_1 => ?_) (fun c_1 => ?_)
  · have hf := if_t hf c_1
    refine lv_iconst (v := 0) hx hb dK4_isFull_13 (by decide) ?_
    cases hf
    exact tf_zret X h rfl dK4_isFull_14
  · have hf := if_f hf c_1
    refine lv_iconst (v := 1) hx hb dK4_isFull_9 (by decide) ?_
    refine lv_goto (tgt := 14) hx hb dK4_isFull_10 (by decide) ?_
    cases hf
    exact tf_zret X h rfl dK4_isFull_14
theorem mK4_isFull {l : Launch} {G : tf_G} (hJ : gJ (al G) 63) {r : Int32} {I : FI} {L : FL} (hf : fK4_isFull I L = some r) : tf_Met l G 63 yK4_isFull cK4_isFull 1 (some .boolean) 0 0 [.ref (al G 8)] (cE G I L) (cE G I L) (some (.int r)) :=
  tf_enter (by decide +kernel) hJ (Nat.le_of_ble_eq_true rfl) (fun p e s m args below meth c ls X _ hl h => sK4_isFull_0 X I L hf h hl)
theorem bwK4_isFull : tf_cv yK4_isFull cK4_isFull 1 (some .boolean) 0 := ⟨w_136, w_138, w_139, w_137, by decide +kernel, by decide +kernel, by decide +kernel⟩

set_option maxHeartbeats 4000000 in
set_option maxRecDepth 100000 in
theorem sK4_isInBook_0 {p : Program} {l : Launch} {e : Env} {s : State} {m : MethodId} {args : Array Value} {below : List Frame} {meth : Method} {c : Code} {G : tf_G} (X : tf_X G 63 "TradeFloor$Orders" cK4_isInBook 2 (some .boolean) p s m args meth c) {r : Int32} (a0 : Fin 40) (a1 : Int32) (I : FI) (L : FL) (hf : fK4_isInBook a0 a1 I L = some r) {H : Heap} {locs : List Loc} {ls : Array Slot} (h : tf_H G 63 (cE G I L) s.heap H locs) (hl : lv_has ls 2 [(0, .ref (al G (a0.val + 23))), (1, .int a1)]) : W p l e (tf_rm 0 0) s m args below meth c H locs 0 0 (MQ below (tf_Q G 63 (cE G I L) (some (.int r))) args s 0 0 (gA (al G) 63)) (F0 m 0 ls []) := by
  have hx := X.1
  have hb := X.2.1
  have hJ := X.2.2.2.2.2.2.2.2.2
  unfold fK4_isInBook at hf
  refine lv_aload_n hx hb dK4_isInBook_0 rfl (lv_at hl 0 rfl) ?_
  refine gf3_state X h a0 w_147 dK4_isInBook_1 ?_
  refine lv_if_ne (tgt := 19) hx hb dK4_isInBook_4 (by decide) (fun c_1 => ?_) (fun c_1 => ?_)
  · have hf := if_f hf c_1
    refine lv_iconst (v := 0) hx hb dK4_isInBook_19 (by decide) ?_
    cases hf
    exact tf_zret X h rfl dK4_isInBook_20
  · have hf := if_t hf c_1
    refine lv_aload_n hx hb dK4_isInBook_7 rfl (lv_at hl 0 rfl) ?_
    refine gf3_side X h a0 w_148 dK4_isInBook_8 ?_
    refine lv_iload_n hx hb dK4_isInBook_11 rfl (lv_at hl 1 rfl) ?_
    refine lv_icmp_ne (tgt := 19) hx hb dK4_isInBook_12 (by decide) (fun c_2 => ?_) (fun c_2 => ?_)
    · have hf := if_f hf c_2
      refine lv_iconst (v := 0) hx hb dK4_isInBook_19 (by decide) ?_
      cases hf
      exact tf_zret X h rfl dK4_isInBook_20
    · have hf := if_t hf c_2
      refine lv_iconst (v := 1) hx hb dK4_isInBook_15 (by decide) ?_
      refine lv_goto (tgt := 20) hx hb dK4_isInBook_16 (by decide) ?_
      cases hf
      exact tf_zret X h rfl dK4_isInBook_20
theorem mK4_isInBook {l : Launch} {G : tf_G} (hJ : gJ (al G) 63) {r : Int32} {a0 : Fin 40} {a1 : Int32} {I : FI} {L : FL} (hf : fK4_isInBook a0 a1 I L = some r) : tf_Met l G 63 yK4_isInBook cK4_isInBook 2 (some .boolean) 0 0 [.ref (al G (a0.val + 23)), .int a1] (cE G I L) (cE G I L) (some (.int r)) :=
  tf_enter (by decide +kernel) hJ (Nat.le_of_ble_eq_true rfl) (fun p e s m args below meth c ls X _ hl h => sK4_isInBook_0 X a0 a1 I L hf h hl)
theorem bwK4_isInBook : tf_cs yK4_isInBook cK4_isInBook 2 (some .boolean) 2 := ⟨w_149, w_150, w_137, by decide +kernel, by decide +kernel, by decide +kernel⟩

set_option maxHeartbeats 4000000 in
set_option maxRecDepth 100000 in
theorem sK4_isBetter_0 {p : Program} {l : Launch} {e : Env} {s : State} {m : MethodId} {args : Array Value} {below : List Frame} {meth : Method} {c : Code} {G : tf_G} (X : tf_X G 63 "TradeFloor$Orders" cK4_isBetter 3 (some .boolean) p s m args meth c) {r : Int32} (a0 : Int32) (a1 : Int32) (a2 : Int32) (I : FI) (L : FL) (hf : fK4_isBetter a0 a1 a2 I L = some r) {H : Heap} {locs : List Loc} {ls : Array Slot} (h : tf_H G 63 (cE G I L) s.heap H locs) (hl : lv_has ls 3 [(0, .int a0), (1, .int a1), (2, .int a2)]) : W p l e (tf_rm 0 0) s m args below meth c H locs 0 0 (MQ below (tf_Q G 63 (cE G I L) (some (.int r))) args s 0 0 (gA (al G) 63)) (F0 m 0 ls []) := by
  have hx := X.1
  have hb := X.2.1
  have hJ := X.2.2.2.2.2.2.2.2.2
  unfold fK4_isBetter at hf
  refine lv_iload_n hx hb dK4_isBetter_0 rfl (lv_at hl 0 rfl) ?_
  refine lv_iconst (v := 1) hx hb dK4_isBetter_1 (by decide) ?_
  refine lv_icmp_ne (tgt := 18) hx hb dK4_isBetter_2 (by decide) (fun c_1 => ?_) (fun c_1 => ?_)
  · have hf := if_f hf c_1
    refine lv_iload_n hx hb dK4_isBetter_18 rfl (lv_at hl 1 rfl) ?_
    refine lv_iload_n hx hb dK4_isBetter_19 rfl (lv_at hl 2 rfl) ?_
    refine lv_icmp_le (tgt := 27) hx hb dK4_isBetter_20 (by decide) (fun c_2 => ?_) (fun c_2 => ?_)
    · have hf := if_t hf c_2
      refine lv_iconst (v := 0) hx hb dK4_isBetter_27 (by decide) ?_
      cases hf
      exact tf_zret X h rfl dK4_isBetter_28
    · have hf := if_f hf c_2
      refine lv_iconst (v := 1) hx hb dK4_isBetter_23 (by decide) ?_
      refine lv_goto (tgt := 28) hx hb dK4_isBetter_24 (by decide) ?_
      cases hf
      exact tf_zret X h rfl dK4_isBetter_28
  · have hf := if_t hf c_1
    refine lv_iload_n hx hb dK4_isBetter_5 rfl (lv_at hl 1 rfl) ?_
    refine lv_iload_n hx hb dK4_isBetter_6 rfl (lv_at hl 2 rfl) ?_
    refine lv_icmp_ge (tgt := 14) hx hb dK4_isBetter_7 (by decide) (fun c_3 => ?_) (fun c_3 => ?_)
    · have hf := if_t hf c_3
      refine lv_iconst (v := 0) hx hb dK4_isBetter_14 (by decide) ?_
      refine lv_goto (tgt := 28) hx hb dK4_isBetter_15 (by decide) ?_
      cases hf
      exact tf_zret X h rfl dK4_isBetter_28
    · have hf := if_f hf c_3
      refine lv_iconst (v := 1) hx hb dK4_isBetter_10 (by decide) ?_
      refine lv_goto (tgt := 28) hx hb dK4_isBetter_11 (by decide) ?_
      cases hf
      exact tf_zret X h rfl dK4_isBetter_28
theorem mK4_isBetter {l : Launch} {G : tf_G} (hJ : gJ (al G) 63) {r : Int32} {a0 : Int32} {a1 : Int32} {a2 : Int32} {I : FI} {L : FL} (hf : fK4_isBetter a0 a1 a2 I L = some r) : tf_Met l G 63 yK4_isBetter cK4_isBetter 3 (some .boolean) 0 0 [.int a0, .int a1, .int a2] (cE G I L) (cE G I L) (some (.int r)) :=
  tf_enter (by decide +kernel) hJ (Nat.le_of_ble_eq_true rfl) (fun p e s m args below meth c ls X _ hl h => sK4_isBetter_0 X a0 a1 a2 I L hf h hl)
theorem bwK4_isBetter : tf_cs yK4_isBetter cK4_isBetter 3 (some .boolean) 3 := ⟨w_151, w_152, w_137, by decide +kernel, by decide +kernel, by decide +kernel⟩

set_option maxHeartbeats 4000000 in
set_option maxRecDepth 100000 in
theorem sK4_isMatch_24 {p : Program} {l : Launch} {e : Env} {s : State} {m : MethodId} {args : Array Value} {below : List Frame} {meth : Method} {c : Code} {G : tf_G} (X : tf_X G 63 "TradeFloor$Orders" cK4_isMatch 3 (some .boolean) p s m args meth c) {r : Int32} (I : FI) (L : FL) (hf : fK4_isMatch_24 I L = some r) {H : Heap} {locs : List Loc} {ls : Array Slot} (h : tf_H G 63 (cE G I L) s.heap H locs) (hl : lv_has ls 3 []) : W p l e (tf_rm 1 22) s m args below meth c H locs 0 0 (MQ below (tf_Q G 63 (cE G I L) (some (.int r))) args s 0 0 (gA (al G) 63)) (F0 m 24 ls []) := by
  have hx := X.1
  have hb := X.2.1
  have hJ := X.2.2.2.2.2.2.2.2.2
  unfold fK4_isMatch_24 at hf
  refine lv_iconst (v := 1) hx hb dK4_isMatch_24 (by decide) ?_
  refine lv_goto (tgt := 29) hx hb dK4_isMatch_25 (by decide) ?_
  cases hf
  exact tf_zret X h rfl dK4_isMatch_29
set_option maxHeartbeats 4000000 in
set_option maxRecDepth 100000 in
theorem sK4_isMatch_0 {p : Program} {l : Launch} {e : Env} {s : State} {m : MethodId} {args : Array Value} {below : List Frame} {meth : Method} {c : Code} {G : tf_G} (X : tf_X G 63 "TradeFloor$Orders" cK4_isMatch 3 (some .boolean) p s m args meth c) {r : Int32} (a0 : Fin 40) (a1 : Int32) (a2 : Int32) (I : FI) (L : FL) (hf : fK4_isMatch a0 a1 a2 I L = some r) {H : Heap} {locs : List Loc} {ls : Array Slot} (h : tf_H G 63 (cE G I L) s.heap H locs) (hl : lv_has ls 3 [(0, .ref (al G (a0.val + 23))), (1, .int a1), (2, .int a2)]) : W p l e (tf_rm 1 22) s m args below meth c H locs 0 0 (MQ below (tf_Q G 63 (cE G I L) (some (.int r))) args s 0 0 (gA (al G) 63)) (F0 m 0 ls []) := by
  have hx := X.1
  have hb := X.2.1
  have hJ := X.2.2.2.2.2.2.2.2.2
  unfold fK4_isMatch at hf
  refine lv_aload_n hx hb dK4_isMatch_0 rfl (lv_at hl 0 rfl) ?_
  refine lv_iload_n hx hb dK4_isMatch_1 rfl (lv_at hl 1 rfl) ?_
  obtain ⟨r_2, h_1, hf⟩ := bn_some hf
  refine tf_callSi (As := [.ref (al G (a0.val + 23)), .int a1]) (rest := []) X h (mK4_isInBook hJ h_1) bwK4_isInBook w_153 ⟨Nat.le_of_ble_eq_true rfl, Nat.le_of_ble_eq_true rfl⟩ hl.1 rfl (Nat.le_of_ble_eq_true rfl) ⟨Nat.zero_le _, Nat.zero_le _⟩ dK4_isMatch_2 (fun H locs h => ?_)
  refine lv_if_eq (tgt := 28) hx hb dK4_isMatch_5 (by decide) (fun c_3 => ?_) (fun c_3 => ?_)
  · have hf := if_t hf c_3
    refine lv_iconst (v := 0) hx hb dK4_isMatch_28 (by decide) ?_
    cases hf
    exact tf_zret X h rfl dK4_isMatch_29
  · have hf := if_f hf c_3
    refine lv_iload_n hx hb dK4_isMatch_8 rfl (lv_at hl 2 rfl) ?_
    refine lv_if_eq (tgt := 24) hx hb dK4_isMatch_9 (by decide) (fun c_4 => ?_) (fun c_4 => ?_)
    · have hf := if_t hf c_4
      exact sK4_isMatch_24 X I L hf h (lv_sub hl [] rfl)
    · have hf := if_f hf c_4
      refine lv_iload_n hx hb dK4_isMatch_12 rfl (lv_at hl 1 rfl) ?_
      refine lv_iload_n hx hb dK4_isMatch_13 rfl (lv_at hl 2 rfl) ?_
      refine lv_aload_n hx hb dK4_isMatch_14 rfl (lv_at hl 0 rfl) ?_
      refine gf3_price X h a0 w_154 dK4_isMatch_15 ?_
      obtain ⟨r_6, h_5, hf⟩ := bn_some hf
      refine tf_callSi (As := [.int a1, .int a2, .int (I 3 a0.val)]) (rest := []) X h (mK4_isBetter hJ h_5) bwK4_isBetter w_155 ⟨Nat.le_of_ble_eq_true rfl, Nat.le_of_ble_eq_true rfl⟩ hl.1 rfl (Nat.le_of_ble_eq_true rfl) ⟨Nat.zero_le _, Nat.zero_le _⟩ dK4_isMatch_18 (fun H locs h => ?_)
      refine lv_if_ne (tgt := 28) hx hb dK4_isMatch_21 (by decide) (fun c_7 => ?_) (fun c_7 => ?_)
      · have hf := if_f hf c_7
        refine lv_iconst (v := 0) hx hb dK4_isMatch_28 (by decide) ?_
        cases hf
        exact tf_zret X h rfl dK4_isMatch_29
      · have hf := if_t hf c_7
        exact sK4_isMatch_24 X I L hf h (lv_sub hl [] rfl)
theorem mK4_isMatch {l : Launch} {G : tf_G} (hJ : gJ (al G) 63) {r : Int32} {a0 : Fin 40} {a1 : Int32} {a2 : Int32} {I : FI} {L : FL} (hf : fK4_isMatch a0 a1 a2 I L = some r) : tf_Met l G 63 yK4_isMatch cK4_isMatch 3 (some .boolean) 1 22 [.ref (al G (a0.val + 23)), .int a1, .int a2] (cE G I L) (cE G I L) (some (.int r)) :=
  tf_enter (by decide +kernel) hJ (Nat.le_of_ble_eq_true rfl) (fun p e s m args below meth c ls X _ hl h => sK4_isMatch_0 X a0 a1 a2 I L hf h hl)
theorem bwK4_isMatch : tf_cs yK4_isMatch cK4_isMatch 3 (some .boolean) 3 := ⟨w_156, w_157, w_137, by decide +kernel, by decide +kernel, by decide +kernel⟩

set_option maxHeartbeats 4000000 in
set_option maxRecDepth 100000 in
theorem sK4_firstMatch_56 {p : Program} {l : Launch} {e : Env} {s : State} {m : MethodId} {args : Array Value} {below : List Frame} {meth : Method} {c : Code} {G : tf_G} (X : tf_X G 63 "TradeFloor$Orders" cK4_firstMatch 6 (some (.object "TradeFloor$Order")) p s m args meth c) {r : Option (Fin 40)} (k5 : Int32 → Int32 → Option (Fin 40) → Int32 → FI → FL → Option (Option (Fin 40))) (hk5 : ∀ (v1 : Int32) (v2 : Int32) (v3 : Option (Fin 40)) (v4 : Int32) (I : FI) (L : FL), k5 v1 v2 v3 v4 I L = some r → ∀ {H : Heap} {locs : List Loc} {ls : Array Slot}, tf_H G 63 (cE G I L) s.heap H locs → lv_has ls 6 [(0, .ref (al G 8)), (1, .int v1), (2, .int v2), (3, rO G v3), (4, .int v4)] → W p l e (tf_rm 2 44) s m args below meth c H locs 0 0 (MQ below (tf_Q G 63 (cE G I L) (some (rO G r))) args s 0 0 (gA (al G) 63)) (F0 m 5 ls [])) (v1 : Int32) (v2 : Int32) (v3 : Option (Fin 40)) (v4 : Int32) (I : FI) (L : FL) (hf : fK4_firstMatch_56 k5 v1 v2 v3 v4 I L = some r) {H : Heap} {locs : List Loc} {ls : Array Slot} (h : tf_H G 63 (cE G I L) s.heap H locs) (hl : lv_has ls 6 [(0, .ref (al G 8)), (1, .int v1), (2, .int v2), (3, rO G v3), (4, .int v4)]) : W p l e (tf_rm 2 44) s m args below meth c H locs 0 0 (MQ below (tf_Q G 63 (cE G I L) (some (rO G r))) args s 0 0 (gA (al G) 63)) (F0 m 56 ls []) := by
  have hx := X.1
  have hb := X.2.1
  have hJ := X.2.2.2.2.2.2.2.2.2
  unfold fK4_firstMatch_56 at hf
  obtain ⟨x_1, ex_1, hf⟩ := nm_some hf
  refine lv_iinc (v := x_1) (lv' := [(4, .int x_1), (0, .ref (al G 8)), (1, .int v1), (2, .int v2), (3, rO G v3)]) hx hb dK4_firstMatch_56 hl (k := 4) rfl (by rw [ex_1]; rfl) (by decide) (by simp [List.filter, rO_cat]) (fun ls hl => ?_)
  refine lv_goto (tgt := 5) hx hb dK4_firstMatch_59 (by decide) ?_
  exact hk5 v1 v2 v3 x_1 I L hf h (lv_sub hl [1, 2, 3, 4, 0] rfl)
set_option maxHeartbeats 4000000 in
set_option maxRecDepth 100000 in
theorem sK4_firstMatch_53 {p : Program} {l : Launch} {e : Env} {s : State} {m : MethodId} {args : Array Value} {below : List Frame} {meth : Method} {c : Code} {G : tf_G} (X : tf_X G 63 "TradeFloor$Orders" cK4_firstMatch 6 (some (.object "TradeFloor$Order")) p s m args meth c) {r : Option (Fin 40)} (k5 : Int32 → Int32 → Option (Fin 40) → Int32 → FI → FL → Option (Option (Fin 40))) (hk5 : ∀ (v1 : Int32) (v2 : Int32) (v3 : Option (Fin 40)) (v4 : Int32) (I : FI) (L : FL), k5 v1 v2 v3 v4 I L = some r → ∀ {H : Heap} {locs : List Loc} {ls : Array Slot}, tf_H G 63 (cE G I L) s.heap H locs → lv_has ls 6 [(0, .ref (al G 8)), (1, .int v1), (2, .int v2), (3, rO G v3), (4, .int v4)] → W p l e (tf_rm 2 44) s m args below meth c H locs 0 0 (MQ below (tf_Q G 63 (cE G I L) (some (rO G r))) args s 0 0 (gA (al G) 63)) (F0 m 5 ls [])) (v1 : Int32) (v2 : Int32) (v4 : Int32) (v5 : Fin 40) (I : FI) (L : FL) (hf : fK4_firstMatch_53 k5 v1 v2 v4 v5 I L = some r) {H : Heap} {locs : List Loc} {ls : Array Slot} (h : tf_H G 63 (cE G I L) s.heap H locs) (hl : lv_has ls 6 [(0, .ref (al G 8)), (1, .int v1), (2, .int v2), (4, .int v4), (5, .ref (al G (v5.val + 23)))]) : W p l e (tf_rm 2 44) s m args below meth c H locs 0 0 (MQ below (tf_Q G 63 (cE G I L) (some (rO G r))) args s 0 0 (gA (al G) 63)) (F0 m 53 ls []) := by
  have hx := X.1
  have hb := X.2.1
  have hJ := X.2.2.2.2.2.2.2.2.2
  unfold fK4_firstMatch_53 at hf
  refine lv_aload hx hb dK4_firstMatch_53 (lv_at hl 4 rfl) ?_
  refine lv_astore_n (lv' := [(3, .ref (al G (v5.val + 23))), (0, .ref (al G 8)), (1, .int v1), (2, .int v2), (4, .int v4), (5, .ref (al G (v5.val + 23)))]) hx hb dK4_firstMatch_55 rfl hl (by decide) rfl (fun ls hl => ?_)
  exact sK4_firstMatch_56 X k5 hk5 v1 v2 (some v5) v4 I L hf h (lv_sub hl [1, 2, 3, 0, 4] rfl)
set_option maxHeartbeats 4000000 in
set_option maxRecDepth 100000 in
theorem sK4_firstMatch_5 {p : Program} {l : Launch} {e : Env} {s : State} {m : MethodId} {args : Array Value} {below : List Frame} {meth : Method} {c : Code} {G : tf_G} (X : tf_X G 63 "TradeFloor$Orders" cK4_firstMatch 6 (some (.object "TradeFloor$Order")) p s m args meth c) {r : Option (Fin 40)} (k5 : Int32 → Int32 → Option (Fin 40) → Int32 → FI → FL → Option (Option (Fin 40))) (hk5 : ∀ (v1 : Int32) (v2 : Int32) (v3 : Option (Fin 40)) (v4 : Int32) (I : FI) (L : FL), k5 v1 v2 v3 v4 I L = some r → ∀ {H : Heap} {locs : List Loc} {ls : Array Slot}, tf_H G 63 (cE G I L) s.heap H locs → lv_has ls 6 [(0, .ref (al G 8)), (1, .int v1), (2, .int v2), (3, rO G v3), (4, .int v4)] → W p l e (tf_rm 2 44) s m args below meth c H locs 0 0 (MQ below (tf_Q G 63 (cE G I L) (some (rO G r))) args s 0 0 (gA (al G) 63)) (F0 m 5 ls [])) (v1 : Int32) (v2 : Int32) (v3 : Option (Fin 40)) (v4 : Int32) (I : FI) (L : FL) (hf : bK4_firstMatch_5 k5 v1 v2 v3 v4 I L = some r) {H : Heap} {locs : List Loc} {ls : Array Slot} (h : tf_H G 63 (cE G I L) s.heap H locs) (hl : lv_has ls 6 [(0, .ref (al G 8)), (1, .int v1), (2, .int v2), (3, rO G v3), (4, .int v4)]) : W p l e (tf_rm 2 44) s m args below meth c H locs 0 0 (MQ below (tf_Q G 63 (cE G I L) (some (rO G r))) args s 0 0 (gA (al G) 63)) (F0 m 5 ls []) := by
  have hx := X.1
  have hb := X.2.1
  have hJ := X.2.2.2.2.2.2.2.2.2
  unfold bK4_firstMatch_5 at hf
  refine lv_iload hx hb dK4_firstMatch_5 (lv_at hl 4 rfl) ?_
  refine lv_aload_n hx hb dK4_firstMatch_7 rfl (lv_at hl 0 rfl) ?_
  refine gf4_size X h w_135 dK4_firstMatch_8 ?_
  refine lv_icmp_ge (tgt := 62) hx hb dK4_firstMatch_11 (by decide) (fun c_1 => ?_) (fun c_1 => ?_)
  · have hf := if_t hf c_1
    refine lv_aload_nO hx hb dK4_firstMatch_62 rfl (lv_at hl 3 rfl) ?_
    cases hf
    exact tf_aret X h (rO_or _) dK4_firstMatch_63
  · have hf := if_f hf c_1
    refine lv_aload_n hx hb dK4_firstMatch_14 rfl (lv_at hl 0 rfl) ?_
    refine gf4_rows X h w_158 dK4_firstMatch_15 ?_
    refine lv_iload hx hb dK4_firstMatch_18 (lv_at hl 4 rfl) ?_
    obtain ⟨o_3, qo_3, hi_2, hf⟩ := g40_some hf
    refine gac_9 X h o_3 qo_3 hi_2 dK4_firstMatch_20 ?_
    refine lv_astore (lv' := [(5, .ref (al G (o_3.val + 23))), (0, .ref (al G 8)), (1, .int v1), (2, .int v2), (3, rO G v3), (4, .int v4)]) hx hb dK4_firstMatch_21 hl (by decide) rfl (fun ls hl => ?_)
    refine lv_aload hx hb dK4_firstMatch_23 (lv_at hl 0 rfl) ?_
    refine lv_iload_n hx hb dK4_firstMatch_25 rfl (lv_at hl 2 rfl) ?_
    refine lv_iload_n hx hb dK4_firstMatch_26 rfl (lv_at hl 3 rfl) ?_
    obtain ⟨r_5, h_4, hf⟩ := bn_some hf
    refine tf_callSi (As := [.ref (al G (o_3.val + 23)), .int v1, .int v2]) (rest := []) X h (mK4_isMatch hJ h_4) bwK4_isMatch w_159 ⟨Nat.le_of_ble_eq_true rfl, Nat.le_of_ble_eq_true rfl⟩ hl.1 rfl (Nat.le_of_ble_eq_true rfl) ⟨Nat.zero_le _, Nat.zero_le _⟩ dK4_firstMatch_27 (fun H locs h => ?_)
    refine lv_if_eq (tgt := 56) hx hb dK4_firstMatch_30 (by decide) (fun c_6 => ?_) (fun c_6 => ?_)
    · have hf := if_t hf c_6
      exact sK4_firstMatch_56 X k5 hk5 v1 v2 v3 v4 I L hf h (lv_sub hl [1, 2, 3, 4, 5] rfl)
    · have hf := if_f hf c_6
      refine lv_aload_nO hx hb dK4_firstMatch_33 rfl (lv_at hl 4 rfl) ?_
      rcases v3 with _ | o_7
      · have hf := mo_n hf
        replace hl : lv_has ls 6 [(5, .ref (al G (o_3.val + 23))), (0, .ref (al G 8)), (1, .int v1), (2, .int v2), (3, .null), (4, .int v4)] := hl
        refine lv_ifnullN (tgt := 53) hx hb dK4_firstMatch_34 (by decide) ?_
        exact sK4_firstMatch_53 X k5 hk5 v1 v2 v4 o_3 I L hf h (lv_sub hl [1, 2, 3, 5, 0] rfl)
      · have hf := mo_s hf
        replace hl : lv_has ls 6 [(5, .ref (al G (o_3.val + 23))), (0, .ref (al G 8)), (1, .int v1), (2, .int v2), (3, .ref (al G (o_7.val + 23))), (4, .int v4)] := hl
        refine lv_ifnull hx hb dK4_firstMatch_34 ?_
        refine lv_iload_n hx hb dK4_firstMatch_37 rfl (lv_at hl 2 rfl) ?_
        refine lv_aload hx hb dK4_firstMatch_38 (lv_at hl 0 rfl) ?_
        refine gf3_price X h o_3 w_154 dK4_firstMatch_40 ?_
        refine lv_aload_n hx hb dK4_firstMatch_43 rfl (lv_at hl 4 rfl) ?_
        refine gf3_price X h o_7 w_154 dK4_firstMatch_44 ?_
        obtain ⟨r_9, h_8, hf⟩ := bn_some hf
        refine tf_callSi (As := [.int v1, .int (I 3 o_3.val), .int (I 3 o_7.val)]) (rest := []) X h (mK4_isBetter hJ h_8) bwK4_isBetter w_155 ⟨Nat.le_of_ble_eq_true rfl, Nat.le_of_ble_eq_true rfl⟩ hl.1 rfl (Nat.le_of_ble_eq_true rfl) ⟨Nat.zero_le _, Nat.zero_le _⟩ dK4_firstMatch_47 (fun H locs h => ?_)
        refine lv_if_eq (tgt := 56) hx hb dK4_firstMatch_50 (by decide) (fun c_10 => ?_) (fun c_10 => ?_)
        · have hf := if_t hf c_10
          exact sK4_firstMatch_56 X k5 hk5 v1 v2 (some o_7) v4 I L hf h (lv_sub hl [1, 2, 3, 4, 5] rfl)
        · have hf := if_f hf c_10
          exact sK4_firstMatch_53 X k5 hk5 v1 v2 v4 o_3 I L hf h (lv_sub hl [1, 2, 3, 5, 0] rfl)
theorem lK4_firstMatch_5 {p : Program} {l : Launch} {e : Env} {s : State} {m : MethodId} {args : Array Value} {below : List Frame} {meth : Method} {c : Code} {G : tf_G} (X : tf_X G 63 "TradeFloor$Orders" cK4_firstMatch 6 (some (.object "TradeFloor$Order")) p s m args meth c) {r : Option (Fin 40)} : ∀ (n : Nat), ∀ (v1 : Int32) (v2 : Int32) (v3 : Option (Fin 40)) (v4 : Int32) (I : FI) (L : FL), fK4_firstMatch_5 n v1 v2 v3 v4 I L = some r → ∀ {H : Heap} {locs : List Loc} {ls : Array Slot}, tf_H G 63 (cE G I L) s.heap H locs → lv_has ls 6 [(0, .ref (al G 8)), (1, .int v1), (2, .int v2), (3, rO G v3), (4, .int v4)] → W p l e (tf_rm 2 44) s m args below meth c H locs 0 0 (MQ below (tf_Q G 63 (cE G I L) (some (rO G r))) args s 0 0 (gA (al G) 63)) (F0 m 5 ls []) := by
  intro n
  induction n with
  | zero =>
    intro v1 v2 v3 v4 I L hf
    exact absurd hf (by simp [fK4_firstMatch_5])
  | succ n ih =>
    intro v1 v2 v3 v4 I L hf H locs ls h hl
    exact sK4_firstMatch_5 X (fK4_firstMatch_5 n) ih v1 v2 v3 v4 I L hf h hl
set_option maxHeartbeats 4000000 in
set_option maxRecDepth 100000 in
theorem sK4_firstMatch_0 {p : Program} {l : Launch} {e : Env} {s : State} {m : MethodId} {args : Array Value} {below : List Frame} {meth : Method} {c : Code} {G : tf_G} (X : tf_X G 63 "TradeFloor$Orders" cK4_firstMatch 6 (some (.object "TradeFloor$Order")) p s m args meth c) {r : Option (Fin 40)} (a1 : Int32) (a2 : Int32) (I : FI) (L : FL) (hf : fK4_firstMatch a1 a2 I L = some r) {H : Heap} {locs : List Loc} {ls : Array Slot} (h : tf_H G 63 (cE G I L) s.heap H locs) (hl : lv_has ls 6 [(0, .ref (al G 8)), (1, .int a1), (2, .int a2)]) : W p l e (tf_rm 2 44) s m args below meth c H locs 0 0 (MQ below (tf_Q G 63 (cE G I L) (some (rO G r))) args s 0 0 (gA (al G) 63)) (F0 m 0 ls []) := by
  have hx := X.1
  have hb := X.2.1
  have hJ := X.2.2.2.2.2.2.2.2.2
  unfold fK4_firstMatch at hf
  refine lv_null hx hb dK4_firstMatch_0 ?_
  refine lv_astore_nN (lv' := [(3, .null), (0, .ref (al G 8)), (1, .int a1), (2, .int a2)]) hx hb dK4_firstMatch_1 rfl hl (by decide) rfl (fun ls hl => ?_)
  refine lv_iconst (v := 0) hx hb dK4_firstMatch_2 (by decide) ?_
  refine lv_istore (lv' := [(4, .int 0), (3, .null), (0, .ref (al G 8)), (1, .int a1), (2, .int a2)]) hx hb dK4_firstMatch_3 hl (by decide) rfl (fun ls hl => ?_)
  exact lK4_firstMatch_5 X FU a1 a2 none 0 I L hf h (lv_sub hl [2, 3, 4, 1, 0] rfl)
theorem mK4_firstMatch {l : Launch} {G : tf_G} (hJ : gJ (al G) 63) {r : Option (Fin 40)} {a1 : Int32} {a2 : Int32} {I : FI} {L : FL} (hf : fK4_firstMatch a1 a2 I L = some r) : tf_Met l G 63 yK4_firstMatch cK4_firstMatch 6 (some (.object "TradeFloor$Order")) 2 44 [.ref (al G 8), .int a1, .int a2] (cE G I L) (cE G I L) (some (rO G r)) :=
  tf_enter (by decide +kernel) hJ (Nat.le_of_ble_eq_true rfl) (fun p e s m args below meth c ls X _ hl h => sK4_firstMatch_0 X a1 a2 I L hf h hl)
theorem bwK4_firstMatch : tf_cv yK4_firstMatch cK4_firstMatch 6 (some (.object "TradeFloor$Order")) 2 := ⟨w_160, w_161, w_162, w_137, by decide +kernel, by decide +kernel, by decide +kernel⟩

set_option maxHeartbeats 4000000 in
set_option maxRecDepth 100000 in
theorem sK4_matchesOfOthers_59 {p : Program} {l : Launch} {e : Env} {s : State} {m : MethodId} {args : Array Value} {below : List Frame} {meth : Method} {c : Code} {G : tf_G} (X : tf_X G 63 "TradeFloor$Orders" cK4_matchesOfOthers 6 (some .int) p s m args meth c) {r : Int32} (k6 : Int32 → Int32 → Int32 → Int32 → Int32 → FI → FL → Option (Int32)) (hk6 : ∀ (v1 : Int32) (v2 : Int32) (v3 : Int32) (v4 : Int32) (v5 : Int32) (I : FI) (L : FL), k6 v1 v2 v3 v4 v5 I L = some r → ∀ {H : Heap} {locs : List Loc} {ls : Array Slot}, tf_H G 63 (cE G I L) s.heap H locs → lv_has ls 6 [(0, .ref (al G 8)), (1, .int v1), (2, .int v2), (3, .int v3), (4, .int v4), (5, .int v5)] → W p l e (tf_rm 2 44) s m args below meth c H locs 0 0 (MQ below (tf_Q G 63 (cE G I L) (some (.int r))) args s 0 0 (gA (al G) 63)) (F0 m 6 ls [])) (v1 : Int32) (v2 : Int32) (v3 : Int32) (v4 : Int32) (v5 : Int32) (I : FI) (L : FL) (hf : fK4_matchesOfOthers_59 k6 v1 v2 v3 v4 v5 I L = some r) {H : Heap} {locs : List Loc} {ls : Array Slot} (h : tf_H G 63 (cE G I L) s.heap H locs) (hl : lv_has ls 6 [(0, .ref (al G 8)), (1, .int v1), (2, .int v2), (3, .int v3), (4, .int v4), (5, .int v5)]) : W p l e (tf_rm 2 44) s m args below meth c H locs 0 0 (MQ below (tf_Q G 63 (cE G I L) (some (.int r))) args s 0 0 (gA (al G) 63)) (F0 m 59 ls []) := by
  have hx := X.1
  have hb := X.2.1
  have hJ := X.2.2.2.2.2.2.2.2.2
  unfold fK4_matchesOfOthers_59 at hf
  obtain ⟨x_1, ex_1, hf⟩ := nm_some hf
  refine lv_iinc (v := x_1) (lv' := [(5, .int x_1), (0, .ref (al G 8)), (1, .int v1), (2, .int v2), (3, .int v3), (4, .int v4)]) hx hb dK4_matchesOfOthers_59 hl (k := 5) rfl (by rw [ex_1]; rfl) (by decide) rfl (fun ls hl => ?_)
  refine lv_goto (tgt := 6) hx hb dK4_matchesOfOthers_62 (by decide) ?_
  exact hk6 v1 v2 v3 v4 x_1 I L hf h (lv_sub hl [1, 2, 3, 4, 5, 0] rfl)
set_option maxHeartbeats 4000000 in
set_option maxRecDepth 100000 in
theorem sK4_matchesOfOthers_6 {p : Program} {l : Launch} {e : Env} {s : State} {m : MethodId} {args : Array Value} {below : List Frame} {meth : Method} {c : Code} {G : tf_G} (X : tf_X G 63 "TradeFloor$Orders" cK4_matchesOfOthers 6 (some .int) p s m args meth c) {r : Int32} (k6 : Int32 → Int32 → Int32 → Int32 → Int32 → FI → FL → Option (Int32)) (hk6 : ∀ (v1 : Int32) (v2 : Int32) (v3 : Int32) (v4 : Int32) (v5 : Int32) (I : FI) (L : FL), k6 v1 v2 v3 v4 v5 I L = some r → ∀ {H : Heap} {locs : List Loc} {ls : Array Slot}, tf_H G 63 (cE G I L) s.heap H locs → lv_has ls 6 [(0, .ref (al G 8)), (1, .int v1), (2, .int v2), (3, .int v3), (4, .int v4), (5, .int v5)] → W p l e (tf_rm 2 44) s m args below meth c H locs 0 0 (MQ below (tf_Q G 63 (cE G I L) (some (.int r))) args s 0 0 (gA (al G) 63)) (F0 m 6 ls [])) (v1 : Int32) (v2 : Int32) (v3 : Int32) (v4 : Int32) (v5 : Int32) (I : FI) (L : FL) (hf : bK4_matchesOfOthers_6 k6 v1 v2 v3 v4 v5 I L = some r) {H : Heap} {locs : List Loc} {ls : Array Slot} (h : tf_H G 63 (cE G I L) s.heap H locs) (hl : lv_has ls 6 [(0, .ref (al G 8)), (1, .int v1), (2, .int v2), (3, .int v3), (4, .int v4), (5, .int v5)]) : W p l e (tf_rm 2 44) s m args below meth c H locs 0 0 (MQ below (tf_Q G 63 (cE G I L) (some (.int r))) args s 0 0 (gA (al G) 63)) (F0 m 6 ls []) := by
  have hx := X.1
  have hb := X.2.1
  have hJ := X.2.2.2.2.2.2.2.2.2
  unfold bK4_matchesOfOthers_6 at hf
  refine lv_iload hx hb dK4_matchesOfOthers_6 (lv_at hl 5 rfl) ?_
  refine lv_aload_n hx hb dK4_matchesOfOthers_8 rfl (lv_at hl 0 rfl) ?_
  refine gf4_size X h w_135 dK4_matchesOfOthers_9 ?_
  refine lv_icmp_ge (tgt := 65) hx hb dK4_matchesOfOthers_12 (by decide) (fun c_1 => ?_) (fun c_1 => ?_)
  · have hf := if_t hf c_1
    refine lv_iload hx hb dK4_matchesOfOthers_65 (lv_at hl 4 rfl) ?_
    cases hf
    exact tf_iret X h dK4_matchesOfOthers_67
  · have hf := if_f hf c_1
    refine lv_aload_n hx hb dK4_matchesOfOthers_15 rfl (lv_at hl 0 rfl) ?_
    refine gf4_rows X h w_158 dK4_matchesOfOthers_16 ?_
    refine lv_iload hx hb dK4_matchesOfOthers_19 (lv_at hl 5 rfl) ?_
    obtain ⟨o_3, qo_3, hi_2, hf⟩ := g40_some hf
    refine gac_9 X h o_3 qo_3 hi_2 dK4_matchesOfOthers_21 ?_
    refine gf3_owner X h o_3 w_163 dK4_matchesOfOthers_22 ?_
    refine lv_iload_n hx hb dK4_matchesOfOthers_25 rfl (lv_at hl 3 rfl) ?_
    refine lv_icmp_eq (tgt := 59) hx hb dK4_matchesOfOthers_26 (by decide) (fun c_4 => ?_) (fun c_4 => ?_)
    · have hf := if_t hf c_4
      exact sK4_matchesOfOthers_59 X k6 hk6 v1 v2 v3 v4 v5 I L hf h hl
    · have hf := if_f hf c_4
      refine lv_aload_n hx hb dK4_matchesOfOthers_29 rfl (lv_at hl 0 rfl) ?_
      refine gf4_rows X h w_158 dK4_matchesOfOthers_30 ?_
      refine lv_iload hx hb dK4_matchesOfOthers_33 (lv_at hl 5 rfl) ?_
      obtain ⟨o_6, qo_6, hi_5, hf⟩ := g40_some hf
      refine gac_9 X h o_6 qo_6 hi_5 dK4_matchesOfOthers_35 ?_
      refine lv_iload_n hx hb dK4_matchesOfOthers_36 rfl (lv_at hl 1 rfl) ?_
      refine lv_iload_n hx hb dK4_matchesOfOthers_37 rfl (lv_at hl 2 rfl) ?_
      obtain ⟨r_8, h_7, hf⟩ := bn_some hf
      refine tf_callSi (As := [.ref (al G (o_6.val + 23)), .int v1, .int v2]) (rest := []) X h (mK4_isMatch hJ h_7) bwK4_isMatch w_159 ⟨Nat.le_of_ble_eq_true rfl, Nat.le_of_ble_eq_true rfl⟩ hl.1 rfl (Nat.le_of_ble_eq_true rfl) ⟨Nat.zero_le _, Nat.zero_le _⟩ dK4_matchesOfOthers_38 (fun H locs h => ?_)
      refine lv_if_eq (tgt := 59) hx hb dK4_matchesOfOthers_41 (by decide) (fun c_9 => ?_) (fun c_9 => ?_)
      · have hf := if_t hf c_9
        exact sK4_matchesOfOthers_59 X k6 hk6 v1 v2 v3 v4 v5 I L hf h hl
      · have hf := if_f hf c_9
        refine lv_iload hx hb dK4_matchesOfOthers_44 (lv_at hl 4 rfl) ?_
        refine lv_aload_n hx hb dK4_matchesOfOthers_46 rfl (lv_at hl 0 rfl) ?_
        refine gf4_rows X h w_158 dK4_matchesOfOthers_47 ?_
        refine lv_iload hx hb dK4_matchesOfOthers_50 (lv_at hl 5 rfl) ?_
        obtain ⟨o_11, qo_11, hi_10, hf⟩ := g40_some hf
        refine gac_9 X h o_11 qo_11 hi_10 dK4_matchesOfOthers_52 ?_
        refine gf3_left X h o_11 w_164 dK4_matchesOfOthers_53 ?_
        refine lv_iadd hx hb dK4_matchesOfOthers_56 ?_
        refine lv_topi (fun x_12 ex_12 => ?_)
        have hf := nm_at hf ex_12
        refine lv_istore (lv' := [(4, .int x_12), (0, .ref (al G 8)), (1, .int v1), (2, .int v2), (3, .int v3), (5, .int v5)]) hx hb dK4_matchesOfOthers_57 hl (by decide) rfl (fun ls hl => ?_)
        exact sK4_matchesOfOthers_59 X k6 hk6 v1 v2 v3 x_12 v5 I L hf h (lv_sub hl [1, 2, 3, 4, 0, 5] rfl)
theorem lK4_matchesOfOthers_6 {p : Program} {l : Launch} {e : Env} {s : State} {m : MethodId} {args : Array Value} {below : List Frame} {meth : Method} {c : Code} {G : tf_G} (X : tf_X G 63 "TradeFloor$Orders" cK4_matchesOfOthers 6 (some .int) p s m args meth c) {r : Int32} : ∀ (n : Nat), ∀ (v1 : Int32) (v2 : Int32) (v3 : Int32) (v4 : Int32) (v5 : Int32) (I : FI) (L : FL), fK4_matchesOfOthers_6 n v1 v2 v3 v4 v5 I L = some r → ∀ {H : Heap} {locs : List Loc} {ls : Array Slot}, tf_H G 63 (cE G I L) s.heap H locs → lv_has ls 6 [(0, .ref (al G 8)), (1, .int v1), (2, .int v2), (3, .int v3), (4, .int v4), (5, .int v5)] → W p l e (tf_rm 2 44) s m args below meth c H locs 0 0 (MQ below (tf_Q G 63 (cE G I L) (some (.int r))) args s 0 0 (gA (al G) 63)) (F0 m 6 ls []) := by
  intro n
  induction n with
  | zero =>
    intro v1 v2 v3 v4 v5 I L hf
    exact absurd hf (by simp [fK4_matchesOfOthers_6])
  | succ n ih =>
    intro v1 v2 v3 v4 v5 I L hf H locs ls h hl
    exact sK4_matchesOfOthers_6 X (fK4_matchesOfOthers_6 n) ih v1 v2 v3 v4 v5 I L hf h hl
set_option maxHeartbeats 4000000 in
set_option maxRecDepth 100000 in
theorem sK4_matchesOfOthers_0 {p : Program} {l : Launch} {e : Env} {s : State} {m : MethodId} {args : Array Value} {below : List Frame} {meth : Method} {c : Code} {G : tf_G} (X : tf_X G 63 "TradeFloor$Orders" cK4_matchesOfOthers 6 (some .int) p s m args meth c) {r : Int32} (a1 : Int32) (a2 : Int32) (a3 : Int32) (I : FI) (L : FL) (hf : fK4_matchesOfOthers a1 a2 a3 I L = some r) {H : Heap} {locs : List Loc} {ls : Array Slot} (h : tf_H G 63 (cE G I L) s.heap H locs) (hl : lv_has ls 6 [(0, .ref (al G 8)), (1, .int a1), (2, .int a2), (3, .int a3)]) : W p l e (tf_rm 2 44) s m args below meth c H locs 0 0 (MQ below (tf_Q G 63 (cE G I L) (some (.int r))) args s 0 0 (gA (al G) 63)) (F0 m 0 ls []) := by
  have hx := X.1
  have hb := X.2.1
  have hJ := X.2.2.2.2.2.2.2.2.2
  unfold fK4_matchesOfOthers at hf
  refine lv_iconst (v := 0) hx hb dK4_matchesOfOthers_0 (by decide) ?_
  refine lv_istore (lv' := [(4, .int 0), (0, .ref (al G 8)), (1, .int a1), (2, .int a2), (3, .int a3)]) hx hb dK4_matchesOfOthers_1 hl (by decide) rfl (fun ls hl => ?_)
  refine lv_iconst (v := 0) hx hb dK4_matchesOfOthers_3 (by decide) ?_
  refine lv_istore (lv' := [(5, .int 0), (4, .int 0), (0, .ref (al G 8)), (1, .int a1), (2, .int a2), (3, .int a3)]) hx hb dK4_matchesOfOthers_4 hl (by decide) rfl (fun ls hl => ?_)
  exact lK4_matchesOfOthers_6 X FU a1 a2 a3 0 0 I L hf h (lv_sub hl [2, 3, 4, 5, 1, 0] rfl)
theorem mK4_matchesOfOthers {l : Launch} {G : tf_G} (hJ : gJ (al G) 63) {r : Int32} {a1 : Int32} {a2 : Int32} {a3 : Int32} {I : FI} {L : FL} (hf : fK4_matchesOfOthers a1 a2 a3 I L = some r) : tf_Met l G 63 yK4_matchesOfOthers cK4_matchesOfOthers 6 (some .int) 2 44 [.ref (al G 8), .int a1, .int a2, .int a3] (cE G I L) (cE G I L) (some (.int r)) :=
  tf_enter (by decide +kernel) hJ (Nat.le_of_ble_eq_true rfl) (fun p e s m args below meth c ls X _ hl h => sK4_matchesOfOthers_0 X a1 a2 a3 I L hf h hl)
theorem bwK4_matchesOfOthers : tf_cv yK4_matchesOfOthers cK4_matchesOfOthers 6 (some .int) 3 := ⟨w_165, w_166, w_167, w_137, by decide +kernel, by decide +kernel, by decide +kernel⟩

set_option maxHeartbeats 4000000 in
set_option maxRecDepth 100000 in
theorem sK4_enter_0 {p : Program} {l : Launch} {e : Env} {s : State} {m : MethodId} {args : Array Value} {below : List Frame} {meth : Method} {c : Code} {G : tf_G} (X : tf_X G 63 "TradeFloor$Orders" cK4_enter 4 (some .int) p s m args meth c) {r : Int32} {I9 : FI} {L9 : FL} (I : FI) (L : FL) (hf : fK4_enter I L = some (r, I9, L9)) {H : Heap} {locs : List Loc} {ls : Array Slot} (h : tf_H G 63 (cE G I L) s.heap H locs) (hl : lv_has ls 4 [(0, .ref (al G 8)), (1, .ref (al G 5))]) : W p l e (tf_rm 0 0) s m args below meth c H locs 0 0 (MQ below (tf_Q G 63 (cE G I9 L9) (some (.int r))) args s 0 0 (gA (al G) 63)) (F0 m 0 ls []) := by
  have hx := X.1
  have hb := X.2.1
  have hJ := X.2.2.2.2.2.2.2.2.2
  unfold fK4_enter at hf
  refine lv_aload_n hx hb dK4_enter_0 rfl (lv_at hl 0 rfl) ?_
  refine gf4_size X h w_135 dK4_enter_1 ?_
  refine lv_topi (fun x_1 ex_1 => ?_)
  have hf := nm_at hf ex_1
  refine lv_istore_n (lv' := [(2, .int x_1), (0, .ref (al G 8)), (1, .ref (al G 5))]) hx hb dK4_enter_4 rfl hl (by decide) rfl (fun ls hl => ?_)
  refine lv_aload_n hx hb dK4_enter_5 rfl (lv_at hl 1 rfl) ?_
  refine gf4_rows X h w_158 dK4_enter_6 ?_
  refine lv_iload_n hx hb dK4_enter_9 rfl (lv_at hl 0 rfl) ?_
  obtain ⟨o_3, qo_3, hi_2, hf⟩ := g40_some hf
  refine gac_9 X h o_3 qo_3 hi_2 dK4_enter_10 ?_
  refine lv_astore_n (lv' := [(3, .ref (al G (o_3.val + 23))), (2, .int x_1), (0, .ref (al G 8)), (1, .ref (al G 5))]) hx hb dK4_enter_11 rfl hl (by decide) rfl (fun ls hl => ?_)
  refine lv_aload_n hx hb dK4_enter_12 rfl (lv_at hl 0 rfl) ?_
  refine lv_aload_n hx hb dK4_enter_13 rfl (lv_at hl 3 rfl) ?_
  refine gf1_owner X h w_175 dK4_enter_14 ?_
  obtain ⟨I_4, eI_4, hf⟩ := nm_some hf
  refine pf3_owner X h o_3 eI_4 w_163 dK4_enter_17 (fun H locs h => ?_)
  refine lv_aload_n hx hb dK4_enter_20 rfl (lv_at hl 0 rfl) ?_
  refine lv_aload_n hx hb dK4_enter_21 rfl (lv_at hl 3 rfl) ?_
  refine gf1_side X h w_176 dK4_enter_22 ?_
  obtain ⟨I_5, eI_5, hf⟩ := nm_some hf
  refine pf3_side X h o_3 eI_5 w_148 dK4_enter_25 (fun H locs h => ?_)
  refine lv_aload_n hx hb dK4_enter_28 rfl (lv_at hl 0 rfl) ?_
  refine lv_aload_n hx hb dK4_enter_29 rfl (lv_at hl 3 rfl) ?_
  refine gf1_quantity X h w_177 dK4_enter_30 ?_
  obtain ⟨I_6, eI_6, hf⟩ := nm_some hf
  refine pf3_left X h o_3 eI_6 w_164 dK4_enter_33 (fun H locs h => ?_)
  refine lv_aload_n hx hb dK4_enter_36 rfl (lv_at hl 0 rfl) ?_
  refine lv_aload_n hx hb dK4_enter_37 rfl (lv_at hl 3 rfl) ?_
  refine gf1_price X h w_178 dK4_enter_38 ?_
  obtain ⟨I_7, eI_7, hf⟩ := nm_some hf
  refine pf3_price X h o_3 eI_7 w_154 dK4_enter_41 (fun H locs h => ?_)
  refine lv_aload_n hx hb dK4_enter_44 rfl (lv_at hl 0 rfl) ?_
  refine lv_iconst (v := 2) hx hb dK4_enter_45 (by decide) ?_
  obtain ⟨I_8, eI_8, hf⟩ := nm_some hf
  refine pf3_state X h o_3 eI_8 w_147 dK4_enter_46 (fun H locs h => ?_)
  refine lv_aload_n hx hb dK4_enter_49 rfl (lv_at hl 0 rfl) ?_
  refine lv_iconst (v := (-1)) hx hb dK4_enter_50 (by decide) ?_
  obtain ⟨I_9, eI_9, hf⟩ := nm_some hf
  refine pf3_end X h o_3 eI_9 w_179 dK4_enter_51 (fun H locs h => ?_)
  refine lv_aload_n hx hb dK4_enter_54 rfl (lv_at hl 2 rfl) ?_
  refine lv_dup hx hb dK4_enter_55 rfl ?_
  refine gf4_size X h w_135 dK4_enter_56 ?_
  refine lv_iconst (v := 1) hx hb dK4_enter_59 (by decide) ?_
  refine lv_iadd hx hb dK4_enter_60 ?_
  obtain ⟨I_10, eI_10, hf⟩ := nm_some hf
  refine pf4_size X h eI_10 w_135 dK4_enter_61 (fun H locs h => ?_)
  refine lv_iload_n hx hb dK4_enter_64 rfl (lv_at hl 1 rfl) ?_
  cases hf
  exact tf_iret X h dK4_enter_65
theorem mK4_enter {l : Launch} {G : tf_G} (hJ : gJ (al G) 63) {r : Int32} {I9 : FI} {L9 : FL} {I : FI} {L : FL} (hf : fK4_enter I L = some (r, I9, L9)) : tf_Met l G 63 yK4_enter cK4_enter 4 (some .int) 0 0 [.ref (al G 8), .ref (al G 5)] (cE G I L) (cE G I9 L9) (some (.int r)) :=
  tf_enter (by decide +kernel) hJ (Nat.le_of_ble_eq_true rfl) (fun p e s m args below meth c ls X _ hl h => sK4_enter_0 X I L hf h hl)
theorem bwK4_enter : tf_cv yK4_enter cK4_enter 4 (some .int) 1 := ⟨w_180, w_181, w_182, w_137, by decide +kernel, by decide +kernel, by decide +kernel⟩

set_option maxHeartbeats 4000000 in
set_option maxRecDepth 100000 in
theorem sK4_has_0 {p : Program} {l : Launch} {e : Env} {s : State} {m : MethodId} {args : Array Value} {below : List Frame} {meth : Method} {c : Code} {G : tf_G} (X : tf_X G 63 "TradeFloor$Orders" cK4_has 2 (some .boolean) p s m args meth c) {r : Int32} (a1 : Int32) (I : FI) (L : FL) (hf : fK4_has a1 I L = some r) {H : Heap} {locs : List Loc} {ls : Array Slot} (h : tf_H G 63 (cE G I L) s.heap H locs) (hl : lv_has ls 2 [(0, .ref (al G 8)), (1, .int a1)]) : W p l e (tf_rm 0 0) s m args below meth c H locs 0 0 (MQ below (tf_Q G 63 (cE G I L) (some (.int r))) args s 0 0 (gA (al G) 63)) (F0 m 0 ls []) := by
  have hx := X.1
  have hb := X.2.1
  have hJ := X.2.2.2.2.2.2.2.2.2
  unfold fK4_has at hf
  refine lv_iload_n hx hb dK4_has_0 rfl (lv_at hl 1 rfl) ?_
  refine lv_if_lt (tgt := 16) hx hb dK4_has_1 (by decide) (fun c_1 => ?_) (fun c_1 => ?_)
  · have hf := if_t hf c_1
    refine lv_iconst (v := 0) hx hb dK4_has_16 (by decide) ?_
    cases hf
    exact tf_zret X h rfl dK4_has_17
  · have hf := if_f hf c_1
    refine lv_iload_n hx hb dK4_has_4 rfl (lv_at hl 1 rfl) ?_
    refine lv_aload_n hx hb dK4_has_5 rfl (lv_at hl 0 rfl) ?_
    refine gf4_size X h w_135 dK4_has_6 ?_
    refine lv_icmp_ge (tgt := 16) hx hb dK4_has_9 (by decide) (fun c_2 => ?_) (fun c_2 => ?_)
    · have hf := if_t hf c_2
      refine lv_iconst (v := 0) hx hb dK4_has_16 (by decide) ?_
      cases hf
      exact tf_zret X h rfl dK4_has_17
    · have hf := if_f hf c_2
      refine lv_iconst (v := 1) hx hb dK4_has_12 (by decide) ?_
      refine lv_goto (tgt := 17) hx hb dK4_has_13 (by decide) ?_
      cases hf
      exact tf_zret X h rfl dK4_has_17
theorem mK4_has {l : Launch} {G : tf_G} (hJ : gJ (al G) 63) {r : Int32} {a1 : Int32} {I : FI} {L : FL} (hf : fK4_has a1 I L = some r) : tf_Met l G 63 yK4_has cK4_has 2 (some .boolean) 0 0 [.ref (al G 8), .int a1] (cE G I L) (cE G I L) (some (.int r)) :=
  tf_enter (by decide +kernel) hJ (Nat.le_of_ble_eq_true rfl) (fun p e s m args below meth c ls X _ hl h => sK4_has_0 X a1 I L hf h hl)
theorem bwK4_has : tf_cv yK4_has cK4_has 2 (some .boolean) 1 := ⟨w_246, w_247, w_248, w_137, by decide +kernel, by decide +kernel, by decide +kernel⟩

set_option maxHeartbeats 4000000 in
set_option maxRecDepth 100000 in
theorem sK4_wakes_30 {p : Program} {l : Launch} {e : Env} {s : State} {m : MethodId} {args : Array Value} {below : List Frame} {meth : Method} {c : Code} {G : tf_G} (X : tf_X G 63 "TradeFloor$Orders" cK4_wakes 2 (some .boolean) p s m args meth c) {r : Int32} (I : FI) (L : FL) (hf : fK4_wakes_30 I L = some r) {H : Heap} {locs : List Loc} {ls : Array Slot} (h : tf_H G 63 (cE G I L) s.heap H locs) (hl : lv_has ls 2 []) : W p l e (tf_rm 0 0) s m args below meth c H locs 0 0 (MQ below (tf_Q G 63 (cE G I L) (some (.int r))) args s 0 0 (gA (al G) 63)) (F0 m 30 ls []) := by
  have hx := X.1
  have hb := X.2.1
  have hJ := X.2.2.2.2.2.2.2.2.2
  unfold fK4_wakes_30 at hf
  refine lv_iconst (v := 1) hx hb dK4_wakes_30 (by decide) ?_
  refine lv_goto (tgt := 35) hx hb dK4_wakes_31 (by decide) ?_
  cases hf
  exact tf_zret X h rfl dK4_wakes_35
set_option maxHeartbeats 4000000 in
set_option maxRecDepth 100000 in
theorem sK4_wakes_0 {p : Program} {l : Launch} {e : Env} {s : State} {m : MethodId} {args : Array Value} {below : List Frame} {meth : Method} {c : Code} {G : tf_G} (X : tf_X G 63 "TradeFloor$Orders" cK4_wakes 2 (some .boolean) p s m args meth c) {r : Int32} (a0 : Fin 40) (a1 : Int32) (I : FI) (L : FL) (hf : fK4_wakes a0 a1 I L = some r) {H : Heap} {locs : List Loc} {ls : Array Slot} (h : tf_H G 63 (cE G I L) s.heap H locs) (hl : lv_has ls 2 [(0, .ref (al G (a0.val + 23))), (1, .int a1)]) : W p l e (tf_rm 0 0) s m args below meth c H locs 0 0 (MQ below (tf_Q G 63 (cE G I L) (some (.int r))) args s 0 0 (gA (al G) 63)) (F0 m 0 ls []) := by
  have hx := X.1
  have hb := X.2.1
  have hJ := X.2.2.2.2.2.2.2.2.2
  unfold fK4_wakes at hf
  refine lv_iload_n hx hb dK4_wakes_0 rfl (lv_at hl 1 rfl) ?_
  refine lv_if_eq (tgt := 34) hx hb dK4_wakes_1 (by decide) (fun c_1 => ?_) (fun c_1 => ?_)
  · have hf := if_t hf c_1
    refine lv_iconst (v := 0) hx hb dK4_wakes_34 (by decide) ?_
    cases hf
    exact tf_zret X h rfl dK4_wakes_35
  · have hf := if_f hf c_1
    refine lv_aload_n hx hb dK4_wakes_4 rfl (lv_at hl 0 rfl) ?_
    refine gf3_side X h a0 w_148 dK4_wakes_5 ?_
    refine lv_if_ne (tgt := 22) hx hb dK4_wakes_8 (by decide) (fun c_2 => ?_) (fun c_2 => ?_)
    · have hf := if_f hf c_2
      refine lv_iload_n hx hb dK4_wakes_22 rfl (lv_at hl 1 rfl) ?_
      refine lv_aload_n hx hb dK4_wakes_23 rfl (lv_at hl 0 rfl) ?_
      refine gf3_price X h a0 w_154 dK4_wakes_24 ?_
      refine lv_icmp_gt (tgt := 34) hx hb dK4_wakes_27 (by decide) (fun c_3 => ?_) (fun c_3 => ?_)
      · have hf := if_t hf c_3
        refine lv_iconst (v := 0) hx hb dK4_wakes_34 (by decide) ?_
        cases hf
        exact tf_zret X h rfl dK4_wakes_35
      · have hf := if_f hf c_3
        exact sK4_wakes_30 X I L hf h (lv_sub hl [] rfl)
    · have hf := if_t hf c_2
      refine lv_iload_n hx hb dK4_wakes_11 rfl (lv_at hl 1 rfl) ?_
      refine lv_aload_n hx hb dK4_wakes_12 rfl (lv_at hl 0 rfl) ?_
      refine gf3_price X h a0 w_154 dK4_wakes_13 ?_
      refine lv_icmp_lt (tgt := 34) hx hb dK4_wakes_16 (by decide) (fun c_4 => ?_) (fun c_4 => ?_)
      · have hf := if_t hf c_4
        refine lv_iconst (v := 0) hx hb dK4_wakes_34 (by decide) ?_
        cases hf
        exact tf_zret X h rfl dK4_wakes_35
      · have hf := if_f hf c_4
        refine lv_goto (tgt := 30) hx hb dK4_wakes_19 (by decide) ?_
        exact sK4_wakes_30 X I L hf h (lv_sub hl [] rfl)
theorem mK4_wakes {l : Launch} {G : tf_G} (hJ : gJ (al G) 63) {r : Int32} {a0 : Fin 40} {a1 : Int32} {I : FI} {L : FL} (hf : fK4_wakes a0 a1 I L = some r) : tf_Met l G 63 yK4_wakes cK4_wakes 2 (some .boolean) 0 0 [.ref (al G (a0.val + 23)), .int a1] (cE G I L) (cE G I L) (some (.int r)) :=
  tf_enter (by decide +kernel) hJ (Nat.le_of_ble_eq_true rfl) (fun p e s m args below meth c ls X _ hl h => sK4_wakes_0 X a0 a1 I L hf h hl)
theorem bwK4_wakes : tf_cs yK4_wakes cK4_wakes 2 (some .boolean) 2 := ⟨w_279, w_280, w_137, by decide +kernel, by decide +kernel, by decide +kernel⟩

set_option maxHeartbeats 4000000 in
set_option maxRecDepth 100000 in
theorem sK4_firstWakingStop_43 {p : Program} {l : Launch} {e : Env} {s : State} {m : MethodId} {args : Array Value} {below : List Frame} {meth : Method} {c : Code} {G : tf_G} (X : tf_X G 63 "TradeFloor$Orders" cK4_firstWakingStop 3 (some (.object "TradeFloor$Order")) p s m args meth c) {r : Option (Fin 40)} (k2 : Int32 → Int32 → FI → FL → Option (Option (Fin 40))) (hk2 : ∀ (v1 : Int32) (v2 : Int32) (I : FI) (L : FL), k2 v1 v2 I L = some r → ∀ {H : Heap} {locs : List Loc} {ls : Array Slot}, tf_H G 63 (cE G I L) s.heap H locs → lv_has ls 3 [(0, .ref (al G 8)), (1, .int v1), (2, .int v2)] → W p l e (tf_rm 1 21) s m args below meth c H locs 0 0 (MQ below (tf_Q G 63 (cE G I L) (some (rO G r))) args s 0 0 (gA (al G) 63)) (F0 m 2 ls [])) (v1 : Int32) (v2 : Int32) (I : FI) (L : FL) (hf : fK4_firstWakingStop_43 k2 v1 v2 I L = some r) {H : Heap} {locs : List Loc} {ls : Array Slot} (h : tf_H G 63 (cE G I L) s.heap H locs) (hl : lv_has ls 3 [(0, .ref (al G 8)), (1, .int v1), (2, .int v2)]) : W p l e (tf_rm 1 21) s m args below meth c H locs 0 0 (MQ below (tf_Q G 63 (cE G I L) (some (rO G r))) args s 0 0 (gA (al G) 63)) (F0 m 43 ls []) := by
  have hx := X.1
  have hb := X.2.1
  have hJ := X.2.2.2.2.2.2.2.2.2
  unfold fK4_firstWakingStop_43 at hf
  obtain ⟨x_1, ex_1, hf⟩ := nm_some hf
  refine lv_iinc (v := x_1) (lv' := [(2, .int x_1), (0, .ref (al G 8)), (1, .int v1)]) hx hb dK4_firstWakingStop_43 hl (k := 2) rfl (by rw [ex_1]; rfl) (by decide) rfl (fun ls hl => ?_)
  refine lv_goto (tgt := 2) hx hb dK4_firstWakingStop_46 (by decide) ?_
  exact hk2 v1 x_1 I L hf h (lv_sub hl [1, 2, 0] rfl)
set_option maxHeartbeats 4000000 in
set_option maxRecDepth 100000 in
theorem sK4_firstWakingStop_2 {p : Program} {l : Launch} {e : Env} {s : State} {m : MethodId} {args : Array Value} {below : List Frame} {meth : Method} {c : Code} {G : tf_G} (X : tf_X G 63 "TradeFloor$Orders" cK4_firstWakingStop 3 (some (.object "TradeFloor$Order")) p s m args meth c) {r : Option (Fin 40)} (k2 : Int32 → Int32 → FI → FL → Option (Option (Fin 40))) (hk2 : ∀ (v1 : Int32) (v2 : Int32) (I : FI) (L : FL), k2 v1 v2 I L = some r → ∀ {H : Heap} {locs : List Loc} {ls : Array Slot}, tf_H G 63 (cE G I L) s.heap H locs → lv_has ls 3 [(0, .ref (al G 8)), (1, .int v1), (2, .int v2)] → W p l e (tf_rm 1 21) s m args below meth c H locs 0 0 (MQ below (tf_Q G 63 (cE G I L) (some (rO G r))) args s 0 0 (gA (al G) 63)) (F0 m 2 ls [])) (v1 : Int32) (v2 : Int32) (I : FI) (L : FL) (hf : bK4_firstWakingStop_2 k2 v1 v2 I L = some r) {H : Heap} {locs : List Loc} {ls : Array Slot} (h : tf_H G 63 (cE G I L) s.heap H locs) (hl : lv_has ls 3 [(0, .ref (al G 8)), (1, .int v1), (2, .int v2)]) : W p l e (tf_rm 1 21) s m args below meth c H locs 0 0 (MQ below (tf_Q G 63 (cE G I L) (some (rO G r))) args s 0 0 (gA (al G) 63)) (F0 m 2 ls []) := by
  have hx := X.1
  have hb := X.2.1
  have hJ := X.2.2.2.2.2.2.2.2.2
  unfold bK4_firstWakingStop_2 at hf
  refine lv_iload_n hx hb dK4_firstWakingStop_2 rfl (lv_at hl 2 rfl) ?_
  refine lv_aload_n hx hb dK4_firstWakingStop_3 rfl (lv_at hl 0 rfl) ?_
  refine gf4_size X h w_135 dK4_firstWakingStop_4 ?_
  refine lv_icmp_ge (tgt := 49) hx hb dK4_firstWakingStop_7 (by decide) (fun c_1 => ?_) (fun c_1 => ?_)
  · have hf := if_t hf c_1
    refine lv_null hx hb dK4_firstWakingStop_49 ?_
    cases hf
    exact tf_aret X h (Or.inl rfl) dK4_firstWakingStop_50
  · have hf := if_f hf c_1
    refine lv_aload_n hx hb dK4_firstWakingStop_10 rfl (lv_at hl 0 rfl) ?_
    refine gf4_rows X h w_158 dK4_firstWakingStop_11 ?_
    refine lv_iload_n hx hb dK4_firstWakingStop_14 rfl (lv_at hl 2 rfl) ?_
    obtain ⟨o_3, qo_3, hi_2, hf⟩ := g40_some hf
    refine gac_9 X h o_3 qo_3 hi_2 dK4_firstWakingStop_15 ?_
    refine gf3_state X h o_3 w_147 dK4_firstWakingStop_16 ?_
    refine lv_iconst (v := 1) hx hb dK4_firstWakingStop_19 (by decide) ?_
    refine lv_icmp_ne (tgt := 43) hx hb dK4_firstWakingStop_20 (by decide) (fun c_4 => ?_) (fun c_4 => ?_)
    · have hf := if_f hf c_4
      exact sK4_firstWakingStop_43 X k2 hk2 v1 v2 I L hf h hl
    · have hf := if_t hf c_4
      refine lv_aload_n hx hb dK4_firstWakingStop_23 rfl (lv_at hl 0 rfl) ?_
      refine gf4_rows X h w_158 dK4_firstWakingStop_24 ?_
      refine lv_iload_n hx hb dK4_firstWakingStop_27 rfl (lv_at hl 2 rfl) ?_
      obtain ⟨o_6, qo_6, hi_5, hf⟩ := g40_some hf
      refine gac_9 X h o_6 qo_6 hi_5 dK4_firstWakingStop_28 ?_
      refine lv_iload_n hx hb dK4_firstWakingStop_29 rfl (lv_at hl 1 rfl) ?_
      obtain ⟨r_8, h_7, hf⟩ := bn_some hf
      refine tf_callSi (As := [.ref (al G (o_6.val + 23)), .int v1]) (rest := []) X h (mK4_wakes hJ h_7) bwK4_wakes w_281 ⟨Nat.le_of_ble_eq_true rfl, Nat.le_of_ble_eq_true rfl⟩ hl.1 rfl (Nat.le_of_ble_eq_true rfl) ⟨Nat.zero_le _, Nat.zero_le _⟩ dK4_firstWakingStop_30 (fun H locs h => ?_)
      refine lv_if_eq (tgt := 43) hx hb dK4_firstWakingStop_33 (by decide) (fun c_9 => ?_) (fun c_9 => ?_)
      · have hf := if_t hf c_9
        exact sK4_firstWakingStop_43 X k2 hk2 v1 v2 I L hf h hl
      · have hf := if_f hf c_9
        refine lv_aload_n hx hb dK4_firstWakingStop_36 rfl (lv_at hl 0 rfl) ?_
        refine gf4_rows X h w_158 dK4_firstWakingStop_37 ?_
        refine lv_iload_n hx hb dK4_firstWakingStop_40 rfl (lv_at hl 2 rfl) ?_
        obtain ⟨o_11, qo_11, hi_10, hf⟩ := g40_some hf
        refine gac_9 X h o_11 qo_11 hi_10 dK4_firstWakingStop_41 ?_
        cases hf
        exact tf_aret X h (Or.inr ⟨_, rfl⟩) dK4_firstWakingStop_42
theorem lK4_firstWakingStop_2 {p : Program} {l : Launch} {e : Env} {s : State} {m : MethodId} {args : Array Value} {below : List Frame} {meth : Method} {c : Code} {G : tf_G} (X : tf_X G 63 "TradeFloor$Orders" cK4_firstWakingStop 3 (some (.object "TradeFloor$Order")) p s m args meth c) {r : Option (Fin 40)} : ∀ (n : Nat), ∀ (v1 : Int32) (v2 : Int32) (I : FI) (L : FL), fK4_firstWakingStop_2 n v1 v2 I L = some r → ∀ {H : Heap} {locs : List Loc} {ls : Array Slot}, tf_H G 63 (cE G I L) s.heap H locs → lv_has ls 3 [(0, .ref (al G 8)), (1, .int v1), (2, .int v2)] → W p l e (tf_rm 1 21) s m args below meth c H locs 0 0 (MQ below (tf_Q G 63 (cE G I L) (some (rO G r))) args s 0 0 (gA (al G) 63)) (F0 m 2 ls []) := by
  intro n
  induction n with
  | zero =>
    intro v1 v2 I L hf
    exact absurd hf (by simp [fK4_firstWakingStop_2])
  | succ n ih =>
    intro v1 v2 I L hf H locs ls h hl
    exact sK4_firstWakingStop_2 X (fK4_firstWakingStop_2 n) ih v1 v2 I L hf h hl
set_option maxHeartbeats 4000000 in
set_option maxRecDepth 100000 in
theorem sK4_firstWakingStop_0 {p : Program} {l : Launch} {e : Env} {s : State} {m : MethodId} {args : Array Value} {below : List Frame} {meth : Method} {c : Code} {G : tf_G} (X : tf_X G 63 "TradeFloor$Orders" cK4_firstWakingStop 3 (some (.object "TradeFloor$Order")) p s m args meth c) {r : Option (Fin 40)} (a1 : Int32) (I : FI) (L : FL) (hf : fK4_firstWakingStop a1 I L = some r) {H : Heap} {locs : List Loc} {ls : Array Slot} (h : tf_H G 63 (cE G I L) s.heap H locs) (hl : lv_has ls 3 [(0, .ref (al G 8)), (1, .int a1)]) : W p l e (tf_rm 1 21) s m args below meth c H locs 0 0 (MQ below (tf_Q G 63 (cE G I L) (some (rO G r))) args s 0 0 (gA (al G) 63)) (F0 m 0 ls []) := by
  have hx := X.1
  have hb := X.2.1
  have hJ := X.2.2.2.2.2.2.2.2.2
  unfold fK4_firstWakingStop at hf
  refine lv_iconst (v := 0) hx hb dK4_firstWakingStop_0 (by decide) ?_
  refine lv_istore_n (lv' := [(2, .int 0), (0, .ref (al G 8)), (1, .int a1)]) hx hb dK4_firstWakingStop_1 rfl hl (by decide) rfl (fun ls hl => ?_)
  exact lK4_firstWakingStop_2 X FU a1 0 I L hf h (lv_sub hl [1, 2, 0] rfl)
theorem mK4_firstWakingStop {l : Launch} {G : tf_G} (hJ : gJ (al G) 63) {r : Option (Fin 40)} {a1 : Int32} {I : FI} {L : FL} (hf : fK4_firstWakingStop a1 I L = some r) : tf_Met l G 63 yK4_firstWakingStop cK4_firstWakingStop 3 (some (.object "TradeFloor$Order")) 1 21 [.ref (al G 8), .int a1] (cE G I L) (cE G I L) (some (rO G r)) :=
  tf_enter (by decide +kernel) hJ (Nat.le_of_ble_eq_true rfl) (fun p e s m args below meth c ls X _ hl h => sK4_firstWakingStop_0 X a1 I L hf h hl)
theorem bwK4_firstWakingStop : tf_cv yK4_firstWakingStop cK4_firstWakingStop 3 (some (.object "TradeFloor$Order")) 1 := ⟨w_282, w_283, w_284, w_137, by decide +kernel, by decide +kernel, by decide +kernel⟩

set_option maxHeartbeats 4000000 in
set_option maxRecDepth 100000 in
theorem sK4_waitingOf_41 {p : Program} {l : Launch} {e : Env} {s : State} {m : MethodId} {args : Array Value} {below : List Frame} {meth : Method} {c : Code} {G : tf_G} (X : tf_X G 63 "TradeFloor$Orders" cK4_waitingOf 4 (some .int) p s m args meth c) {r : Int32} (k4 : Int32 → Int32 → Int32 → FI → FL → Option (Int32)) (hk4 : ∀ (v1 : Int32) (v2 : Int32) (v3 : Int32) (I : FI) (L : FL), k4 v1 v2 v3 I L = some r → ∀ {H : Heap} {locs : List Loc} {ls : Array Slot}, tf_H G 63 (cE G I L) s.heap H locs → lv_has ls 4 [(0, .ref (al G 8)), (1, .int v1), (2, .int v2), (3, .int v3)] → W p l e (tf_rm 0 0) s m args below meth c H locs 0 0 (MQ below (tf_Q G 63 (cE G I L) (some (.int r))) args s 0 0 (gA (al G) 63)) (F0 m 4 ls [])) (v1 : Int32) (v2 : Int32) (v3 : Int32) (I : FI) (L : FL) (hf : fK4_waitingOf_41 k4 v1 v2 v3 I L = some r) {H : Heap} {locs : List Loc} {ls : Array Slot} (h : tf_H G 63 (cE G I L) s.heap H locs) (hl : lv_has ls 4 [(0, .ref (al G 8)), (1, .int v1), (2, .int v2), (3, .int v3)]) : W p l e (tf_rm 0 0) s m args below meth c H locs 0 0 (MQ below (tf_Q G 63 (cE G I L) (some (.int r))) args s 0 0 (gA (al G) 63)) (F0 m 41 ls []) := by
  have hx := X.1
  have hb := X.2.1
  have hJ := X.2.2.2.2.2.2.2.2.2
  unfold fK4_waitingOf_41 at hf
  obtain ⟨x_1, ex_1, hf⟩ := nm_some hf
  refine lv_iinc (v := x_1) (lv' := [(3, .int x_1), (0, .ref (al G 8)), (1, .int v1), (2, .int v2)]) hx hb dK4_waitingOf_41 hl (k := 3) rfl (by rw [ex_1]; rfl) (by decide) rfl (fun ls hl => ?_)
  refine lv_goto (tgt := 4) hx hb dK4_waitingOf_44 (by decide) ?_
  exact hk4 v1 v2 x_1 I L hf h (lv_sub hl [1, 2, 3, 0] rfl)
set_option maxHeartbeats 4000000 in
set_option maxRecDepth 100000 in
theorem sK4_waitingOf_4 {p : Program} {l : Launch} {e : Env} {s : State} {m : MethodId} {args : Array Value} {below : List Frame} {meth : Method} {c : Code} {G : tf_G} (X : tf_X G 63 "TradeFloor$Orders" cK4_waitingOf 4 (some .int) p s m args meth c) {r : Int32} (k4 : Int32 → Int32 → Int32 → FI → FL → Option (Int32)) (hk4 : ∀ (v1 : Int32) (v2 : Int32) (v3 : Int32) (I : FI) (L : FL), k4 v1 v2 v3 I L = some r → ∀ {H : Heap} {locs : List Loc} {ls : Array Slot}, tf_H G 63 (cE G I L) s.heap H locs → lv_has ls 4 [(0, .ref (al G 8)), (1, .int v1), (2, .int v2), (3, .int v3)] → W p l e (tf_rm 0 0) s m args below meth c H locs 0 0 (MQ below (tf_Q G 63 (cE G I L) (some (.int r))) args s 0 0 (gA (al G) 63)) (F0 m 4 ls [])) (v1 : Int32) (v2 : Int32) (v3 : Int32) (I : FI) (L : FL) (hf : bK4_waitingOf_4 k4 v1 v2 v3 I L = some r) {H : Heap} {locs : List Loc} {ls : Array Slot} (h : tf_H G 63 (cE G I L) s.heap H locs) (hl : lv_has ls 4 [(0, .ref (al G 8)), (1, .int v1), (2, .int v2), (3, .int v3)]) : W p l e (tf_rm 0 0) s m args below meth c H locs 0 0 (MQ below (tf_Q G 63 (cE G I L) (some (.int r))) args s 0 0 (gA (al G) 63)) (F0 m 4 ls []) := by
  have hx := X.1
  have hb := X.2.1
  have hJ := X.2.2.2.2.2.2.2.2.2
  unfold bK4_waitingOf_4 at hf
  refine lv_iload_n hx hb dK4_waitingOf_4 rfl (lv_at hl 3 rfl) ?_
  refine lv_aload_n hx hb dK4_waitingOf_5 rfl (lv_at hl 0 rfl) ?_
  refine gf4_size X h w_135 dK4_waitingOf_6 ?_
  refine lv_icmp_ge (tgt := 47) hx hb dK4_waitingOf_9 (by decide) (fun c_1 => ?_) (fun c_1 => ?_)
  · have hf := if_t hf c_1
    refine lv_iload_n hx hb dK4_waitingOf_47 rfl (lv_at hl 2 rfl) ?_
    cases hf
    exact tf_iret X h dK4_waitingOf_48
  · have hf := if_f hf c_1
    refine lv_aload_n hx hb dK4_waitingOf_12 rfl (lv_at hl 0 rfl) ?_
    refine gf4_rows X h w_158 dK4_waitingOf_13 ?_
    refine lv_iload_n hx hb dK4_waitingOf_16 rfl (lv_at hl 3 rfl) ?_
    obtain ⟨o_3, qo_3, hi_2, hf⟩ := g40_some hf
    refine gac_9 X h o_3 qo_3 hi_2 dK4_waitingOf_17 ?_
    refine gf3_owner X h o_3 w_163 dK4_waitingOf_18 ?_
    refine lv_iload_n hx hb dK4_waitingOf_21 rfl (lv_at hl 1 rfl) ?_
    refine lv_icmp_ne (tgt := 41) hx hb dK4_waitingOf_22 (by decide) (fun c_4 => ?_) (fun c_4 => ?_)
    · have hf := if_f hf c_4
      exact sK4_waitingOf_41 X k4 hk4 v1 v2 v3 I L hf h hl
    · have hf := if_t hf c_4
      refine lv_aload_n hx hb dK4_waitingOf_25 rfl (lv_at hl 0 rfl) ?_
      refine gf4_rows X h w_158 dK4_waitingOf_26 ?_
      refine lv_iload_n hx hb dK4_waitingOf_29 rfl (lv_at hl 3 rfl) ?_
      obtain ⟨o_6, qo_6, hi_5, hf⟩ := g40_some hf
      refine gac_9 X h o_6 qo_6 hi_5 dK4_waitingOf_30 ?_
      refine gf3_state X h o_6 w_147 dK4_waitingOf_31 ?_
      refine lv_iconst (v := 2) hx hb dK4_waitingOf_34 (by decide) ?_
      refine lv_icmp_eq (tgt := 41) hx hb dK4_waitingOf_35 (by decide) (fun c_7 => ?_) (fun c_7 => ?_)
      · have hf := if_t hf c_7
        exact sK4_waitingOf_41 X k4 hk4 v1 v2 v3 I L hf h hl
      · have hf := if_f hf c_7
        obtain ⟨x_8, ex_8, hf⟩ := nm_some hf
        refine lv_iinc (v := x_8) (lv' := [(2, .int x_8), (0, .ref (al G 8)), (1, .int v1), (3, .int v3)]) hx hb dK4_waitingOf_38 hl (k := 2) rfl (by rw [ex_8]; rfl) (by decide) rfl (fun ls hl => ?_)
        exact sK4_waitingOf_41 X k4 hk4 v1 x_8 v3 I L hf h (lv_sub hl [1, 2, 0, 3] rfl)
theorem lK4_waitingOf_4 {p : Program} {l : Launch} {e : Env} {s : State} {m : MethodId} {args : Array Value} {below : List Frame} {meth : Method} {c : Code} {G : tf_G} (X : tf_X G 63 "TradeFloor$Orders" cK4_waitingOf 4 (some .int) p s m args meth c) {r : Int32} : ∀ (n : Nat), ∀ (v1 : Int32) (v2 : Int32) (v3 : Int32) (I : FI) (L : FL), fK4_waitingOf_4 n v1 v2 v3 I L = some r → ∀ {H : Heap} {locs : List Loc} {ls : Array Slot}, tf_H G 63 (cE G I L) s.heap H locs → lv_has ls 4 [(0, .ref (al G 8)), (1, .int v1), (2, .int v2), (3, .int v3)] → W p l e (tf_rm 0 0) s m args below meth c H locs 0 0 (MQ below (tf_Q G 63 (cE G I L) (some (.int r))) args s 0 0 (gA (al G) 63)) (F0 m 4 ls []) := by
  intro n
  induction n with
  | zero =>
    intro v1 v2 v3 I L hf
    exact absurd hf (by simp [fK4_waitingOf_4])
  | succ n ih =>
    intro v1 v2 v3 I L hf H locs ls h hl
    exact sK4_waitingOf_4 X (fK4_waitingOf_4 n) ih v1 v2 v3 I L hf h hl
set_option maxHeartbeats 4000000 in
set_option maxRecDepth 100000 in
theorem sK4_waitingOf_0 {p : Program} {l : Launch} {e : Env} {s : State} {m : MethodId} {args : Array Value} {below : List Frame} {meth : Method} {c : Code} {G : tf_G} (X : tf_X G 63 "TradeFloor$Orders" cK4_waitingOf 4 (some .int) p s m args meth c) {r : Int32} (a1 : Int32) (I : FI) (L : FL) (hf : fK4_waitingOf a1 I L = some r) {H : Heap} {locs : List Loc} {ls : Array Slot} (h : tf_H G 63 (cE G I L) s.heap H locs) (hl : lv_has ls 4 [(0, .ref (al G 8)), (1, .int a1)]) : W p l e (tf_rm 0 0) s m args below meth c H locs 0 0 (MQ below (tf_Q G 63 (cE G I L) (some (.int r))) args s 0 0 (gA (al G) 63)) (F0 m 0 ls []) := by
  have hx := X.1
  have hb := X.2.1
  have hJ := X.2.2.2.2.2.2.2.2.2
  unfold fK4_waitingOf at hf
  refine lv_iconst (v := 0) hx hb dK4_waitingOf_0 (by decide) ?_
  refine lv_istore_n (lv' := [(2, .int 0), (0, .ref (al G 8)), (1, .int a1)]) hx hb dK4_waitingOf_1 rfl hl (by decide) rfl (fun ls hl => ?_)
  refine lv_iconst (v := 0) hx hb dK4_waitingOf_2 (by decide) ?_
  refine lv_istore_n (lv' := [(3, .int 0), (2, .int 0), (0, .ref (al G 8)), (1, .int a1)]) hx hb dK4_waitingOf_3 rfl hl (by decide) rfl (fun ls hl => ?_)
  exact lK4_waitingOf_4 X FU a1 0 0 I L hf h (lv_sub hl [2, 3, 1, 0] rfl)
theorem mK4_waitingOf {l : Launch} {G : tf_G} (hJ : gJ (al G) 63) {r : Int32} {a1 : Int32} {I : FI} {L : FL} (hf : fK4_waitingOf a1 I L = some r) : tf_Met l G 63 yK4_waitingOf cK4_waitingOf 4 (some .int) 0 0 [.ref (al G 8), .int a1] (cE G I L) (cE G I L) (some (.int r)) :=
  tf_enter (by decide +kernel) hJ (Nat.le_of_ble_eq_true rfl) (fun p e s m args below meth c ls X _ hl h => sK4_waitingOf_0 X a1 I L hf h hl)
theorem bwK4_waitingOf : tf_cv yK4_waitingOf cK4_waitingOf 4 (some .int) 1 := ⟨w_289, w_290, w_291, w_137, by decide +kernel, by decide +kernel, by decide +kernel⟩

set_option maxHeartbeats 4000000 in
set_option maxRecDepth 100000 in
theorem sK4_sleepingStops_28 {p : Program} {l : Launch} {e : Env} {s : State} {m : MethodId} {args : Array Value} {below : List Frame} {meth : Method} {c : Code} {G : tf_G} (X : tf_X G 63 "TradeFloor$Orders" cK4_sleepingStops 3 (some .int) p s m args meth c) {r : Int32} (k4 : Int32 → Int32 → FI → FL → Option (Int32)) (hk4 : ∀ (v1 : Int32) (v2 : Int32) (I : FI) (L : FL), k4 v1 v2 I L = some r → ∀ {H : Heap} {locs : List Loc} {ls : Array Slot}, tf_H G 63 (cE G I L) s.heap H locs → lv_has ls 3 [(0, .ref (al G 8)), (1, .int v1), (2, .int v2)] → W p l e (tf_rm 0 0) s m args below meth c H locs 0 0 (MQ below (tf_Q G 63 (cE G I L) (some (.int r))) args s 0 0 (gA (al G) 63)) (F0 m 4 ls [])) (v1 : Int32) (v2 : Int32) (I : FI) (L : FL) (hf : fK4_sleepingStops_28 k4 v1 v2 I L = some r) {H : Heap} {locs : List Loc} {ls : Array Slot} (h : tf_H G 63 (cE G I L) s.heap H locs) (hl : lv_has ls 3 [(0, .ref (al G 8)), (1, .int v1), (2, .int v2)]) : W p l e (tf_rm 0 0) s m args below meth c H locs 0 0 (MQ below (tf_Q G 63 (cE G I L) (some (.int r))) args s 0 0 (gA (al G) 63)) (F0 m 28 ls []) := by
  have hx := X.1
  have hb := X.2.1
  have hJ := X.2.2.2.2.2.2.2.2.2
  unfold fK4_sleepingStops_28 at hf
  obtain ⟨x_1, ex_1, hf⟩ := nm_some hf
  refine lv_iinc (v := x_1) (lv' := [(2, .int x_1), (0, .ref (al G 8)), (1, .int v1)]) hx hb dK4_sleepingStops_28 hl (k := 2) rfl (by rw [ex_1]; rfl) (by decide) rfl (fun ls hl => ?_)
  refine lv_goto (tgt := 4) hx hb dK4_sleepingStops_31 (by decide) ?_
  exact hk4 v1 x_1 I L hf h (lv_sub hl [1, 2, 0] rfl)
set_option maxHeartbeats 4000000 in
set_option maxRecDepth 100000 in
theorem sK4_sleepingStops_4 {p : Program} {l : Launch} {e : Env} {s : State} {m : MethodId} {args : Array Value} {below : List Frame} {meth : Method} {c : Code} {G : tf_G} (X : tf_X G 63 "TradeFloor$Orders" cK4_sleepingStops 3 (some .int) p s m args meth c) {r : Int32} (k4 : Int32 → Int32 → FI → FL → Option (Int32)) (hk4 : ∀ (v1 : Int32) (v2 : Int32) (I : FI) (L : FL), k4 v1 v2 I L = some r → ∀ {H : Heap} {locs : List Loc} {ls : Array Slot}, tf_H G 63 (cE G I L) s.heap H locs → lv_has ls 3 [(0, .ref (al G 8)), (1, .int v1), (2, .int v2)] → W p l e (tf_rm 0 0) s m args below meth c H locs 0 0 (MQ below (tf_Q G 63 (cE G I L) (some (.int r))) args s 0 0 (gA (al G) 63)) (F0 m 4 ls [])) (v1 : Int32) (v2 : Int32) (I : FI) (L : FL) (hf : bK4_sleepingStops_4 k4 v1 v2 I L = some r) {H : Heap} {locs : List Loc} {ls : Array Slot} (h : tf_H G 63 (cE G I L) s.heap H locs) (hl : lv_has ls 3 [(0, .ref (al G 8)), (1, .int v1), (2, .int v2)]) : W p l e (tf_rm 0 0) s m args below meth c H locs 0 0 (MQ below (tf_Q G 63 (cE G I L) (some (.int r))) args s 0 0 (gA (al G) 63)) (F0 m 4 ls []) := by
  have hx := X.1
  have hb := X.2.1
  have hJ := X.2.2.2.2.2.2.2.2.2
  unfold bK4_sleepingStops_4 at hf
  refine lv_iload_n hx hb dK4_sleepingStops_4 rfl (lv_at hl 2 rfl) ?_
  refine lv_aload_n hx hb dK4_sleepingStops_5 rfl (lv_at hl 0 rfl) ?_
  refine gf4_size X h w_135 dK4_sleepingStops_6 ?_
  refine lv_icmp_ge (tgt := 34) hx hb dK4_sleepingStops_9 (by decide) (fun c_1 => ?_) (fun c_1 => ?_)
  · have hf := if_t hf c_1
    refine lv_iload_n hx hb dK4_sleepingStops_34 rfl (lv_at hl 1 rfl) ?_
    cases hf
    exact tf_iret X h dK4_sleepingStops_35
  · have hf := if_f hf c_1
    refine lv_aload_n hx hb dK4_sleepingStops_12 rfl (lv_at hl 0 rfl) ?_
    refine gf4_rows X h w_158 dK4_sleepingStops_13 ?_
    refine lv_iload_n hx hb dK4_sleepingStops_16 rfl (lv_at hl 2 rfl) ?_
    obtain ⟨o_3, qo_3, hi_2, hf⟩ := g40_some hf
    refine gac_9 X h o_3 qo_3 hi_2 dK4_sleepingStops_17 ?_
    refine gf3_state X h o_3 w_147 dK4_sleepingStops_18 ?_
    refine lv_iconst (v := 1) hx hb dK4_sleepingStops_21 (by decide) ?_
    refine lv_icmp_ne (tgt := 28) hx hb dK4_sleepingStops_22 (by decide) (fun c_4 => ?_) (fun c_4 => ?_)
    · have hf := if_f hf c_4
      exact sK4_sleepingStops_28 X k4 hk4 v1 v2 I L hf h hl
    · have hf := if_t hf c_4
      obtain ⟨x_5, ex_5, hf⟩ := nm_some hf
      refine lv_iinc (v := x_5) (lv' := [(1, .int x_5), (0, .ref (al G 8)), (2, .int v2)]) hx hb dK4_sleepingStops_25 hl (k := 1) rfl (by rw [ex_5]; rfl) (by decide) rfl (fun ls hl => ?_)
      exact sK4_sleepingStops_28 X k4 hk4 x_5 v2 I L hf h (lv_sub hl [1, 0, 2] rfl)
theorem lK4_sleepingStops_4 {p : Program} {l : Launch} {e : Env} {s : State} {m : MethodId} {args : Array Value} {below : List Frame} {meth : Method} {c : Code} {G : tf_G} (X : tf_X G 63 "TradeFloor$Orders" cK4_sleepingStops 3 (some .int) p s m args meth c) {r : Int32} : ∀ (n : Nat), ∀ (v1 : Int32) (v2 : Int32) (I : FI) (L : FL), fK4_sleepingStops_4 n v1 v2 I L = some r → ∀ {H : Heap} {locs : List Loc} {ls : Array Slot}, tf_H G 63 (cE G I L) s.heap H locs → lv_has ls 3 [(0, .ref (al G 8)), (1, .int v1), (2, .int v2)] → W p l e (tf_rm 0 0) s m args below meth c H locs 0 0 (MQ below (tf_Q G 63 (cE G I L) (some (.int r))) args s 0 0 (gA (al G) 63)) (F0 m 4 ls []) := by
  intro n
  induction n with
  | zero =>
    intro v1 v2 I L hf
    exact absurd hf (by simp [fK4_sleepingStops_4])
  | succ n ih =>
    intro v1 v2 I L hf H locs ls h hl
    exact sK4_sleepingStops_4 X (fK4_sleepingStops_4 n) ih v1 v2 I L hf h hl
set_option maxHeartbeats 4000000 in
set_option maxRecDepth 100000 in
theorem sK4_sleepingStops_0 {p : Program} {l : Launch} {e : Env} {s : State} {m : MethodId} {args : Array Value} {below : List Frame} {meth : Method} {c : Code} {G : tf_G} (X : tf_X G 63 "TradeFloor$Orders" cK4_sleepingStops 3 (some .int) p s m args meth c) {r : Int32} (I : FI) (L : FL) (hf : fK4_sleepingStops I L = some r) {H : Heap} {locs : List Loc} {ls : Array Slot} (h : tf_H G 63 (cE G I L) s.heap H locs) (hl : lv_has ls 3 [(0, .ref (al G 8))]) : W p l e (tf_rm 0 0) s m args below meth c H locs 0 0 (MQ below (tf_Q G 63 (cE G I L) (some (.int r))) args s 0 0 (gA (al G) 63)) (F0 m 0 ls []) := by
  have hx := X.1
  have hb := X.2.1
  have hJ := X.2.2.2.2.2.2.2.2.2
  unfold fK4_sleepingStops at hf
  refine lv_iconst (v := 0) hx hb dK4_sleepingStops_0 (by decide) ?_
  refine lv_istore_n (lv' := [(1, .int 0), (0, .ref (al G 8))]) hx hb dK4_sleepingStops_1 rfl hl (by decide) rfl (fun ls hl => ?_)
  refine lv_iconst (v := 0) hx hb dK4_sleepingStops_2 (by decide) ?_
  refine lv_istore_n (lv' := [(2, .int 0), (1, .int 0), (0, .ref (al G 8))]) hx hb dK4_sleepingStops_3 rfl hl (by decide) rfl (fun ls hl => ?_)
  exact lK4_sleepingStops_4 X FU 0 0 I L hf h (lv_sub hl [2, 1, 0] rfl)
theorem mK4_sleepingStops {l : Launch} {G : tf_G} (hJ : gJ (al G) 63) {r : Int32} {I : FI} {L : FL} (hf : fK4_sleepingStops I L = some r) : tf_Met l G 63 yK4_sleepingStops cK4_sleepingStops 3 (some .int) 0 0 [.ref (al G 8)] (cE G I L) (cE G I L) (some (.int r)) :=
  tf_enter (by decide +kernel) hJ (Nat.le_of_ble_eq_true rfl) (fun p e s m args below meth c ls X _ hl h => sK4_sleepingStops_0 X I L hf h hl)
theorem bwK4_sleepingStops : tf_cv yK4_sleepingStops cK4_sleepingStops 3 (some .int) 0 := ⟨w_292, w_293, w_294, w_137, by decide +kernel, by decide +kernel, by decide +kernel⟩

set_option maxHeartbeats 4000000 in
set_option maxRecDepth 100000 in
theorem sK4_nextPrice_85 {p : Program} {l : Launch} {e : Env} {s : State} {m : MethodId} {args : Array Value} {below : List Frame} {meth : Method} {c : Code} {G : tf_G} (X : tf_X G 63 "TradeFloor$Orders" cK4_nextPrice 7 (some .int) p s m args meth c) {r : Int32} (k5 : Int32 → Int32 → Int32 → Int32 → FI → FL → Option (Int32)) (hk5 : ∀ (v1 : Int32) (v2 : Int32) (v3 : Int32) (v4 : Int32) (I : FI) (L : FL), k5 v1 v2 v3 v4 I L = some r → ∀ {H : Heap} {locs : List Loc} {ls : Array Slot}, tf_H G 63 (cE G I L) s.heap H locs → lv_has ls 7 [(0, .ref (al G 8)), (1, .int v1), (2, .int v2), (3, .int v3), (4, .int v4)] → W p l e (tf_rm 1 22) s m args below meth c H locs 0 0 (MQ below (tf_Q G 63 (cE G I L) (some (.int r))) args s 0 0 (gA (al G) 63)) (F0 m 5 ls [])) (v1 : Int32) (v2 : Int32) (v3 : Int32) (v4 : Int32) (I : FI) (L : FL) (hf : fK4_nextPrice_85 k5 v1 v2 v3 v4 I L = some r) {H : Heap} {locs : List Loc} {ls : Array Slot} (h : tf_H G 63 (cE G I L) s.heap H locs) (hl : lv_has ls 7 [(0, .ref (al G 8)), (1, .int v1), (2, .int v2), (3, .int v3), (4, .int v4)]) : W p l e (tf_rm 1 22) s m args below meth c H locs 0 0 (MQ below (tf_Q G 63 (cE G I L) (some (.int r))) args s 0 0 (gA (al G) 63)) (F0 m 85 ls []) := by
  have hx := X.1
  have hb := X.2.1
  have hJ := X.2.2.2.2.2.2.2.2.2
  unfold fK4_nextPrice_85 at hf
  obtain ⟨x_1, ex_1, hf⟩ := nm_some hf
  refine lv_iinc (v := x_1) (lv' := [(4, .int x_1), (0, .ref (al G 8)), (1, .int v1), (2, .int v2), (3, .int v3)]) hx hb dK4_nextPrice_85 hl (k := 4) rfl (by rw [ex_1]; rfl) (by decide) rfl (fun ls hl => ?_)
  refine lv_goto (tgt := 5) hx hb dK4_nextPrice_88 (by decide) ?_
  exact hk5 v1 v2 v3 x_1 I L hf h (lv_sub hl [1, 2, 3, 4, 0] rfl)
set_option maxHeartbeats 4000000 in
set_option maxRecDepth 100000 in
theorem sK4_nextPrice_82 {p : Program} {l : Launch} {e : Env} {s : State} {m : MethodId} {args : Array Value} {below : List Frame} {meth : Method} {c : Code} {G : tf_G} (X : tf_X G 63 "TradeFloor$Orders" cK4_nextPrice 7 (some .int) p s m args meth c) {r : Int32} (k5 : Int32 → Int32 → Int32 → Int32 → FI → FL → Option (Int32)) (hk5 : ∀ (v1 : Int32) (v2 : Int32) (v3 : Int32) (v4 : Int32) (I : FI) (L : FL), k5 v1 v2 v3 v4 I L = some r → ∀ {H : Heap} {locs : List Loc} {ls : Array Slot}, tf_H G 63 (cE G I L) s.heap H locs → lv_has ls 7 [(0, .ref (al G 8)), (1, .int v1), (2, .int v2), (3, .int v3), (4, .int v4)] → W p l e (tf_rm 1 22) s m args below meth c H locs 0 0 (MQ below (tf_Q G 63 (cE G I L) (some (.int r))) args s 0 0 (gA (al G) 63)) (F0 m 5 ls [])) (v1 : Int32) (v2 : Int32) (v4 : Int32) (v5 : Int32) (I : FI) (L : FL) (hf : fK4_nextPrice_82 k5 v1 v2 v4 v5 I L = some r) {H : Heap} {locs : List Loc} {ls : Array Slot} (h : tf_H G 63 (cE G I L) s.heap H locs) (hl : lv_has ls 7 [(0, .ref (al G 8)), (1, .int v1), (2, .int v2), (4, .int v4), (5, .int v5)]) : W p l e (tf_rm 1 22) s m args below meth c H locs 0 0 (MQ below (tf_Q G 63 (cE G I L) (some (.int r))) args s 0 0 (gA (al G) 63)) (F0 m 82 ls []) := by
  have hx := X.1
  have hb := X.2.1
  have hJ := X.2.2.2.2.2.2.2.2.2
  unfold fK4_nextPrice_82 at hf
  refine lv_iload hx hb dK4_nextPrice_82 (lv_at hl 4 rfl) ?_
  refine lv_istore_n (lv' := [(3, .int v5), (0, .ref (al G 8)), (1, .int v1), (2, .int v2), (4, .int v4), (5, .int v5)]) hx hb dK4_nextPrice_84 rfl hl (by decide) rfl (fun ls hl => ?_)
  exact sK4_nextPrice_85 X k5 hk5 v1 v2 v5 v4 I L hf h (lv_sub hl [1, 2, 3, 0, 4] rfl)
set_option maxHeartbeats 4000000 in
set_option maxRecDepth 100000 in
theorem sK4_nextPrice_46 {p : Program} {l : Launch} {e : Env} {s : State} {m : MethodId} {args : Array Value} {below : List Frame} {meth : Method} {c : Code} {G : tf_G} (X : tf_X G 63 "TradeFloor$Orders" cK4_nextPrice 7 (some .int) p s m args meth c) {r : Int32} (k5 : Int32 → Int32 → Int32 → Int32 → FI → FL → Option (Int32)) (hk5 : ∀ (v1 : Int32) (v2 : Int32) (v3 : Int32) (v4 : Int32) (I : FI) (L : FL), k5 v1 v2 v3 v4 I L = some r → ∀ {H : Heap} {locs : List Loc} {ls : Array Slot}, tf_H G 63 (cE G I L) s.heap H locs → lv_has ls 7 [(0, .ref (al G 8)), (1, .int v1), (2, .int v2), (3, .int v3), (4, .int v4)] → W p l e (tf_rm 1 22) s m args below meth c H locs 0 0 (MQ below (tf_Q G 63 (cE G I L) (some (.int r))) args s 0 0 (gA (al G) 63)) (F0 m 5 ls [])) (v1 : Int32) (v2 : Int32) (v3 : Int32) (v4 : Int32) (v5 : Int32) (u0 : Int32) (I : FI) (L : FL) (hf : fK4_nextPrice_46 k5 v1 v2 v3 v4 v5 u0 I L = some r) {H : Heap} {locs : List Loc} {ls : Array Slot} (h : tf_H G 63 (cE G I L) s.heap H locs) (hl : lv_has ls 7 [(0, .ref (al G 8)), (1, .int v1), (2, .int v2), (3, .int v3), (4, .int v4), (5, .int v5)]) : W p l e (tf_rm 1 22) s m args below meth c H locs 0 0 (MQ below (tf_Q G 63 (cE G I L) (some (.int r))) args s 0 0 (gA (al G) 63)) (F0 m 46 ls [.int u0]) := by
  have hx := X.1
  have hb := X.2.1
  have hJ := X.2.2.2.2.2.2.2.2.2
  unfold fK4_nextPrice_46 at hf
  refine lv_istore (lv' := [(6, .int u0), (0, .ref (al G 8)), (1, .int v1), (2, .int v2), (3, .int v3), (4, .int v4), (5, .int v5)]) hx hb dK4_nextPrice_46 hl (by decide) rfl (fun ls hl => ?_)
  refine lv_aload_n hx hb dK4_nextPrice_48 rfl (lv_at hl 1 rfl) ?_
  refine gf4_rows X h w_158 dK4_nextPrice_49 ?_
  refine lv_iload hx hb dK4_nextPrice_52 (lv_at hl 5 rfl) ?_
  obtain ⟨o_2, qo_2, hi_1, hf⟩ := g40_some hf
  refine gac_9 X h o_2 qo_2 hi_1 dK4_nextPrice_54 ?_
  refine lv_iload_n hx hb dK4_nextPrice_55 rfl (lv_at hl 2 rfl) ?_
  obtain ⟨r_4, h_3, hf⟩ := bn_some hf
  refine tf_callSi (As := [.ref (al G (o_2.val + 23)), .int v1]) (rest := []) X h (mK4_isInBook hJ h_3) bwK4_isInBook w_153 ⟨Nat.le_of_ble_eq_true rfl, Nat.le_of_ble_eq_true rfl⟩ hl.1 rfl (Nat.le_of_ble_eq_true rfl) ⟨Nat.zero_le _, Nat.zero_le _⟩ dK4_nextPrice_56 (fun H locs h => ?_)
  refine lv_if_eq (tgt := 85) hx hb dK4_nextPrice_59 (by decide) (fun c_5 => ?_) (fun c_5 => ?_)
  · have hf := if_t hf c_5
    exact sK4_nextPrice_85 X k5 hk5 v1 v2 v3 v4 I L hf h (lv_sub hl [1, 2, 3, 4, 5] rfl)
  · have hf := if_f hf c_5
    refine lv_iload hx hb dK4_nextPrice_62 (lv_at hl 0 rfl) ?_
    refine lv_if_eq (tgt := 85) hx hb dK4_nextPrice_64 (by decide) (fun c_6 => ?_) (fun c_6 => ?_)
    · have hf := if_t hf c_6
      exact sK4_nextPrice_85 X k5 hk5 v1 v2 v3 v4 I L hf h (lv_sub hl [1, 2, 3, 4, 5] rfl)
    · have hf := if_f hf c_6
      refine lv_iload_n hx hb dK4_nextPrice_67 rfl (lv_at hl 4 rfl) ?_
      refine lv_iconst (v := (-1)) hx hb dK4_nextPrice_68 (by decide) ?_
      refine lv_icmp_eq (tgt := 82) hx hb dK4_nextPrice_69 (by decide) (fun c_7 => ?_) (fun c_7 => ?_)
      · have hf := if_t hf c_7
        exact sK4_nextPrice_82 X k5 hk5 v1 v2 v4 v5 I L hf h (lv_sub hl [1, 2, 3, 5, 6] rfl)
      · have hf := if_f hf c_7
        refine lv_iload_n hx hb dK4_nextPrice_72 rfl (lv_at hl 2 rfl) ?_
        refine lv_iload hx hb dK4_nextPrice_73 (lv_at hl 6 rfl) ?_
        refine lv_iload_n hx hb dK4_nextPrice_75 rfl (lv_at hl 4 rfl) ?_
        obtain ⟨r_9, h_8, hf⟩ := bn_some hf
        refine tf_callSi (As := [.int v1, .int v5, .int v3]) (rest := []) X h (mK4_isBetter hJ h_8) bwK4_isBetter w_155 ⟨Nat.le_of_ble_eq_true rfl, Nat.le_of_ble_eq_true rfl⟩ hl.1 rfl (Nat.le_of_ble_eq_true rfl) ⟨Nat.zero_le _, Nat.zero_le _⟩ dK4_nextPrice_76 (fun H locs h => ?_)
        refine lv_if_eq (tgt := 85) hx hb dK4_nextPrice_79 (by decide) (fun c_10 => ?_) (fun c_10 => ?_)
        · have hf := if_t hf c_10
          exact sK4_nextPrice_85 X k5 hk5 v1 v2 v3 v4 I L hf h (lv_sub hl [1, 2, 3, 4, 5] rfl)
        · have hf := if_f hf c_10
          exact sK4_nextPrice_82 X k5 hk5 v1 v2 v4 v5 I L hf h (lv_sub hl [1, 2, 3, 5, 6] rfl)
set_option maxHeartbeats 4000000 in
set_option maxRecDepth 100000 in
theorem sK4_nextPrice_41 {p : Program} {l : Launch} {e : Env} {s : State} {m : MethodId} {args : Array Value} {below : List Frame} {meth : Method} {c : Code} {G : tf_G} (X : tf_X G 63 "TradeFloor$Orders" cK4_nextPrice 7 (some .int) p s m args meth c) {r : Int32} (k5 : Int32 → Int32 → Int32 → Int32 → FI → FL → Option (Int32)) (hk5 : ∀ (v1 : Int32) (v2 : Int32) (v3 : Int32) (v4 : Int32) (I : FI) (L : FL), k5 v1 v2 v3 v4 I L = some r → ∀ {H : Heap} {locs : List Loc} {ls : Array Slot}, tf_H G 63 (cE G I L) s.heap H locs → lv_has ls 7 [(0, .ref (al G 8)), (1, .int v1), (2, .int v2), (3, .int v3), (4, .int v4)] → W p l e (tf_rm 1 22) s m args below meth c H locs 0 0 (MQ below (tf_Q G 63 (cE G I L) (some (.int r))) args s 0 0 (gA (al G) 63)) (F0 m 5 ls [])) (v1 : Int32) (v2 : Int32) (v3 : Int32) (v4 : Int32) (v5 : Int32) (I : FI) (L : FL) (hf : fK4_nextPrice_41 k5 v1 v2 v3 v4 v5 I L = some r) {H : Heap} {locs : List Loc} {ls : Array Slot} (h : tf_H G 63 (cE G I L) s.heap H locs) (hl : lv_has ls 7 [(0, .ref (al G 8)), (1, .int v1), (2, .int v2), (3, .int v3), (4, .int v4), (5, .int v5)]) : W p l e (tf_rm 1 22) s m args below meth c H locs 0 0 (MQ below (tf_Q G 63 (cE G I L) (some (.int r))) args s 0 0 (gA (al G) 63)) (F0 m 41 ls []) := by
  have hx := X.1
  have hb := X.2.1
  have hJ := X.2.2.2.2.2.2.2.2.2
  unfold fK4_nextPrice_41 at hf
  refine lv_iconst (v := 1) hx hb dK4_nextPrice_41 (by decide) ?_
  refine lv_goto (tgt := 46) hx hb dK4_nextPrice_42 (by decide) ?_
  exact sK4_nextPrice_46 X k5 hk5 v1 v2 v3 v4 v5 1 I L hf h hl
set_option maxHeartbeats 4000000 in
set_option maxRecDepth 100000 in
theorem sK4_nextPrice_5 {p : Program} {l : Launch} {e : Env} {s : State} {m : MethodId} {args : Array Value} {below : List Frame} {meth : Method} {c : Code} {G : tf_G} (X : tf_X G 63 "TradeFloor$Orders" cK4_nextPrice 7 (some .int) p s m args meth c) {r : Int32} (k5 : Int32 → Int32 → Int32 → Int32 → FI → FL → Option (Int32)) (hk5 : ∀ (v1 : Int32) (v2 : Int32) (v3 : Int32) (v4 : Int32) (I : FI) (L : FL), k5 v1 v2 v3 v4 I L = some r → ∀ {H : Heap} {locs : List Loc} {ls : Array Slot}, tf_H G 63 (cE G I L) s.heap H locs → lv_has ls 7 [(0, .ref (al G 8)), (1, .int v1), (2, .int v2), (3, .int v3), (4, .int v4)] → W p l e (tf_rm 1 22) s m args below meth c H locs 0 0 (MQ below (tf_Q G 63 (cE G I L) (some (.int r))) args s 0 0 (gA (al G) 63)) (F0 m 5 ls [])) (v1 : Int32) (v2 : Int32) (v3 : Int32) (v4 : Int32) (I : FI) (L : FL) (hf : bK4_nextPrice_5 k5 v1 v2 v3 v4 I L = some r) {H : Heap} {locs : List Loc} {ls : Array Slot} (h : tf_H G 63 (cE G I L) s.heap H locs) (hl : lv_has ls 7 [(0, .ref (al G 8)), (1, .int v1), (2, .int v2), (3, .int v3), (4, .int v4)]) : W p l e (tf_rm 1 22) s m args below meth c H locs 0 0 (MQ below (tf_Q G 63 (cE G I L) (some (.int r))) args s 0 0 (gA (al G) 63)) (F0 m 5 ls []) := by
  have hx := X.1
  have hb := X.2.1
  have hJ := X.2.2.2.2.2.2.2.2.2
  unfold bK4_nextPrice_5 at hf
  refine lv_iload hx hb dK4_nextPrice_5 (lv_at hl 4 rfl) ?_
  refine lv_aload_n hx hb dK4_nextPrice_7 rfl (lv_at hl 0 rfl) ?_
  refine gf4_size X h w_135 dK4_nextPrice_8 ?_
  refine lv_icmp_ge (tgt := 91) hx hb dK4_nextPrice_11 (by decide) (fun c_1 => ?_) (fun c_1 => ?_)
  · have hf := if_t hf c_1
    refine lv_iload_n hx hb dK4_nextPrice_91 rfl (lv_at hl 3 rfl) ?_
    cases hf
    exact tf_iret X h dK4_nextPrice_92
  · have hf := if_f hf c_1
    refine lv_aload_n hx hb dK4_nextPrice_14 rfl (lv_at hl 0 rfl) ?_
    refine gf4_rows X h w_158 dK4_nextPrice_15 ?_
    refine lv_iload hx hb dK4_nextPrice_18 (lv_at hl 4 rfl) ?_
    obtain ⟨o_3, qo_3, hi_2, hf⟩ := g40_some hf
    refine gac_9 X h o_3 qo_3 hi_2 dK4_nextPrice_20 ?_
    refine gf3_price X h o_3 w_154 dK4_nextPrice_21 ?_
    refine lv_topi (fun x_4 ex_4 => ?_)
    have hf := nm_at hf ex_4
    refine lv_istore (lv' := [(5, .int x_4), (0, .ref (al G 8)), (1, .int v1), (2, .int v2), (3, .int v3), (4, .int v4)]) hx hb dK4_nextPrice_24 hl (by decide) rfl (fun ls hl => ?_)
    refine lv_iload_n hx hb dK4_nextPrice_26 rfl (lv_at hl 3 rfl) ?_
    refine lv_iconst (v := (-1)) hx hb dK4_nextPrice_27 (by decide) ?_
    refine lv_icmp_eq (tgt := 41) hx hb dK4_nextPrice_28 (by decide) (fun c_5 => ?_) (fun c_5 => ?_)
    · have hf := if_t hf c_5
      exact sK4_nextPrice_41 X k5 hk5 v1 v2 v3 v4 x_4 I L hf h (lv_sub hl [1, 2, 3, 4, 5, 0] rfl)
    · have hf := if_f hf c_5
      refine lv_iload_n hx hb dK4_nextPrice_31 rfl (lv_at hl 2 rfl) ?_
      refine lv_iload_n hx hb dK4_nextPrice_32 rfl (lv_at hl 3 rfl) ?_
      refine lv_iload hx hb dK4_nextPrice_33 (lv_at hl 0 rfl) ?_
      obtain ⟨r_7, h_6, hf⟩ := bn_some hf
      refine tf_callSi (As := [.int v1, .int v2, .int x_4]) (rest := []) X h (mK4_isBetter hJ h_6) bwK4_isBetter w_155 ⟨Nat.le_of_ble_eq_true rfl, Nat.le_of_ble_eq_true rfl⟩ hl.1 rfl (Nat.le_of_ble_eq_true rfl) ⟨Nat.zero_le _, Nat.zero_le _⟩ dK4_nextPrice_35 (fun H locs h => ?_)
      refine lv_if_eq (tgt := 45) hx hb dK4_nextPrice_38 (by decide) (fun c_8 => ?_) (fun c_8 => ?_)
      · have hf := if_t hf c_8
        refine lv_iconst (v := 0) hx hb dK4_nextPrice_45 (by decide) ?_
        exact sK4_nextPrice_46 X k5 hk5 v1 v2 v3 v4 x_4 0 I L hf h (lv_sub hl [1, 2, 3, 4, 5, 0] rfl)
      · have hf := if_f hf c_8
        exact sK4_nextPrice_41 X k5 hk5 v1 v2 v3 v4 x_4 I L hf h (lv_sub hl [1, 2, 3, 4, 5, 0] rfl)
theorem lK4_nextPrice_5 {p : Program} {l : Launch} {e : Env} {s : State} {m : MethodId} {args : Array Value} {below : List Frame} {meth : Method} {c : Code} {G : tf_G} (X : tf_X G 63 "TradeFloor$Orders" cK4_nextPrice 7 (some .int) p s m args meth c) {r : Int32} : ∀ (n : Nat), ∀ (v1 : Int32) (v2 : Int32) (v3 : Int32) (v4 : Int32) (I : FI) (L : FL), fK4_nextPrice_5 n v1 v2 v3 v4 I L = some r → ∀ {H : Heap} {locs : List Loc} {ls : Array Slot}, tf_H G 63 (cE G I L) s.heap H locs → lv_has ls 7 [(0, .ref (al G 8)), (1, .int v1), (2, .int v2), (3, .int v3), (4, .int v4)] → W p l e (tf_rm 1 22) s m args below meth c H locs 0 0 (MQ below (tf_Q G 63 (cE G I L) (some (.int r))) args s 0 0 (gA (al G) 63)) (F0 m 5 ls []) := by
  intro n
  induction n with
  | zero =>
    intro v1 v2 v3 v4 I L hf
    exact absurd hf (by simp [fK4_nextPrice_5])
  | succ n ih =>
    intro v1 v2 v3 v4 I L hf H locs ls h hl
    exact sK4_nextPrice_5 X (fK4_nextPrice_5 n) ih v1 v2 v3 v4 I L hf h hl
set_option maxHeartbeats 4000000 in
set_option maxRecDepth 100000 in
theorem sK4_nextPrice_0 {p : Program} {l : Launch} {e : Env} {s : State} {m : MethodId} {args : Array Value} {below : List Frame} {meth : Method} {c : Code} {G : tf_G} (X : tf_X G 63 "TradeFloor$Orders" cK4_nextPrice 7 (some .int) p s m args meth c) {r : Int32} (a1 : Int32) (a2 : Int32) (I : FI) (L : FL) (hf : fK4_nextPrice a1 a2 I L = some r) {H : Heap} {locs : List Loc} {ls : Array Slot} (h : tf_H G 63 (cE G I L) s.heap H locs) (hl : lv_has ls 7 [(0, .ref (al G 8)), (1, .int a1), (2, .int a2)]) : W p l e (tf_rm 1 22) s m args below meth c H locs 0 0 (MQ below (tf_Q G 63 (cE G I L) (some (.int r))) args s 0 0 (gA (al G) 63)) (F0 m 0 ls []) := by
  have hx := X.1
  have hb := X.2.1
  have hJ := X.2.2.2.2.2.2.2.2.2
  unfold fK4_nextPrice at hf
  refine lv_iconst (v := (-1)) hx hb dK4_nextPrice_0 (by decide) ?_
  refine lv_istore_n (lv' := [(3, .int (-1)), (0, .ref (al G 8)), (1, .int a1), (2, .int a2)]) hx hb dK4_nextPrice_1 rfl hl (by decide) rfl (fun ls hl => ?_)
  refine lv_iconst (v := 0) hx hb dK4_nextPrice_2 (by decide) ?_
  refine lv_istore (lv' := [(4, .int 0), (3, .int (-1)), (0, .ref (al G 8)), (1, .int a1), (2, .int a2)]) hx hb dK4_nextPrice_3 hl (by decide) rfl (fun ls hl => ?_)
  exact lK4_nextPrice_5 X FU a1 a2 (-1) 0 I L hf h (lv_sub hl [2, 3, 4, 1, 0] rfl)
theorem mK4_nextPrice {l : Launch} {G : tf_G} (hJ : gJ (al G) 63) {r : Int32} {a1 : Int32} {a2 : Int32} {I : FI} {L : FL} (hf : fK4_nextPrice a1 a2 I L = some r) : tf_Met l G 63 yK4_nextPrice cK4_nextPrice 7 (some .int) 1 22 [.ref (al G 8), .int a1, .int a2] (cE G I L) (cE G I L) (some (.int r)) :=
  tf_enter (by decide +kernel) hJ (Nat.le_of_ble_eq_true rfl) (fun p e s m args below meth c ls X _ hl h => sK4_nextPrice_0 X a1 a2 I L hf h hl)
theorem bwK4_nextPrice : tf_cv yK4_nextPrice cK4_nextPrice 7 (some .int) 2 := ⟨w_295, w_296, w_297, w_137, by decide +kernel, by decide +kernel, by decide +kernel⟩

set_option maxHeartbeats 4000000 in
set_option maxRecDepth 100000 in
theorem sK4_priceAt_22 {p : Program} {l : Launch} {e : Env} {s : State} {m : MethodId} {args : Array Value} {below : List Frame} {meth : Method} {c : Code} {G : tf_G} (X : tf_X G 63 "TradeFloor$Orders" cK4_priceAt 5 (some .int) p s m args meth c) {r : Int32} (k22 : Int32 → Int32 → Int32 → Int32 → FI → FL → Option (Int32)) (hk22 : ∀ (v1 : Int32) (v2 : Int32) (v3 : Int32) (v4 : Int32) (I : FI) (L : FL), k22 v1 v2 v3 v4 I L = some r → ∀ {H : Heap} {locs : List Loc} {ls : Array Slot}, tf_H G 63 (cE G I L) s.heap H locs → lv_has ls 5 [(0, .ref (al G 8)), (1, .int v1), (2, .int v2), (3, .int v3), (4, .int v4)] → W p l e (tf_rm 2 48) s m args below meth c H locs 0 0 (MQ below (tf_Q G 63 (cE G I L) (some (.int r))) args s 0 0 (gA (al G) 63)) (F0 m 22 ls [])) (v1 : Int32) (v2 : Int32) (v3 : Int32) (v4 : Int32) (I : FI) (L : FL) (hf : bK4_priceAt_22 k22 v1 v2 v3 v4 I L = some r) {H : Heap} {locs : List Loc} {ls : Array Slot} (h : tf_H G 63 (cE G I L) s.heap H locs) (hl : lv_has ls 5 [(0, .ref (al G 8)), (1, .int v1), (2, .int v2), (3, .int v3), (4, .int v4)]) : W p l e (tf_rm 2 48) s m args below meth c H locs 0 0 (MQ below (tf_Q G 63 (cE G I L) (some (.int r))) args s 0 0 (gA (al G) 63)) (F0 m 22 ls []) := by
  have hx := X.1
  have hb := X.2.1
  have hJ := X.2.2.2.2.2.2.2.2.2
  unfold bK4_priceAt_22 at hf
  refine lv_iload hx hb dK4_priceAt_22 (lv_at hl 4 rfl) ?_
  refine lv_iload_n hx hb dK4_priceAt_24 rfl (lv_at hl 2 rfl) ?_
  refine lv_icmp_ge (tgt := 46) hx hb dK4_priceAt_25 (by decide) (fun c_1 => ?_) (fun c_1 => ?_)
  · have hf := if_t hf c_1
    refine lv_iload_n hx hb dK4_priceAt_46 rfl (lv_at hl 3 rfl) ?_
    cases hf
    exact tf_iret X h dK4_priceAt_47
  · have hf := if_f hf c_1
    refine lv_iload_n hx hb dK4_priceAt_28 rfl (lv_at hl 3 rfl) ?_
    refine lv_iconst (v := (-1)) hx hb dK4_priceAt_29 (by decide) ?_
    refine lv_icmp_eq (tgt := 46) hx hb dK4_priceAt_30 (by decide) (fun c_2 => ?_) (fun c_2 => ?_)
    · have hf := if_t hf c_2
      refine lv_iload_n hx hb dK4_priceAt_46 rfl (lv_at hl 3 rfl) ?_
      cases hf
      exact tf_iret X h dK4_priceAt_47
    · have hf := if_f hf c_2
      refine lv_aload_n hx hb dK4_priceAt_33 rfl (lv_at hl 0 rfl) ?_
      refine lv_iload_n hx hb dK4_priceAt_34 rfl (lv_at hl 1 rfl) ?_
      refine lv_iload_n hx hb dK4_priceAt_35 rfl (lv_at hl 3 rfl) ?_
      obtain ⟨r_4, h_3, hf⟩ := bn_some hf
      refine tf_callVi (As := [.int v1, .int v3]) (rest := []) X h 8 (by decide) rfl rfl (mK4_nextPrice hJ h_3) bwK4_nextPrice w_298 ⟨Nat.le_of_ble_eq_true rfl, Nat.le_of_ble_eq_true rfl⟩ hl.1 rfl (Nat.le_of_ble_eq_true rfl) ⟨Nat.zero_le _, Nat.zero_le _⟩ dK4_priceAt_36 (fun H locs h => ?_)
      refine lv_istore_n (lv' := [(3, .int r_4), (0, .ref (al G 8)), (1, .int v1), (2, .int v2), (4, .int v4)]) hx hb dK4_priceAt_39 rfl hl (by decide) rfl (fun ls hl => ?_)
      obtain ⟨x_5, ex_5, hf⟩ := nm_some hf
      refine lv_iinc (v := x_5) (lv' := [(4, .int x_5), (3, .int r_4), (0, .ref (al G 8)), (1, .int v1), (2, .int v2)]) hx hb dK4_priceAt_40 hl (k := 4) rfl (by rw [ex_5]; rfl) (by decide) rfl (fun ls hl => ?_)
      refine lv_goto (tgt := 22) hx hb dK4_priceAt_43 (by decide) ?_
      exact hk22 v1 v2 r_4 x_5 I L hf h (lv_sub hl [2, 3, 4, 1, 0] rfl)
theorem lK4_priceAt_22 {p : Program} {l : Launch} {e : Env} {s : State} {m : MethodId} {args : Array Value} {below : List Frame} {meth : Method} {c : Code} {G : tf_G} (X : tf_X G 63 "TradeFloor$Orders" cK4_priceAt 5 (some .int) p s m args meth c) {r : Int32} : ∀ (n : Nat), ∀ (v1 : Int32) (v2 : Int32) (v3 : Int32) (v4 : Int32) (I : FI) (L : FL), fK4_priceAt_22 n v1 v2 v3 v4 I L = some r → ∀ {H : Heap} {locs : List Loc} {ls : Array Slot}, tf_H G 63 (cE G I L) s.heap H locs → lv_has ls 5 [(0, .ref (al G 8)), (1, .int v1), (2, .int v2), (3, .int v3), (4, .int v4)] → W p l e (tf_rm 2 48) s m args below meth c H locs 0 0 (MQ below (tf_Q G 63 (cE G I L) (some (.int r))) args s 0 0 (gA (al G) 63)) (F0 m 22 ls []) := by
  intro n
  induction n with
  | zero =>
    intro v1 v2 v3 v4 I L hf
    exact absurd hf (by simp [fK4_priceAt_22])
  | succ n ih =>
    intro v1 v2 v3 v4 I L hf H locs ls h hl
    exact sK4_priceAt_22 X (fK4_priceAt_22 n) ih v1 v2 v3 v4 I L hf h hl
set_option maxHeartbeats 4000000 in
set_option maxRecDepth 100000 in
theorem sK4_priceAt_0 {p : Program} {l : Launch} {e : Env} {s : State} {m : MethodId} {args : Array Value} {below : List Frame} {meth : Method} {c : Code} {G : tf_G} (X : tf_X G 63 "TradeFloor$Orders" cK4_priceAt 5 (some .int) p s m args meth c) {r : Int32} (a1 : Int32) (a2 : Int32) (I : FI) (L : FL) (hf : fK4_priceAt a1 a2 I L = some r) {H : Heap} {locs : List Loc} {ls : Array Slot} (h : tf_H G 63 (cE G I L) s.heap H locs) (hl : lv_has ls 5 [(0, .ref (al G 8)), (1, .int a1), (2, .int a2)]) : W p l e (tf_rm 2 48) s m args below meth c H locs 0 0 (MQ below (tf_Q G 63 (cE G I L) (some (.int r))) args s 0 0 (gA (al G) 63)) (F0 m 0 ls []) := by
  have hx := X.1
  have hb := X.2.1
  have hJ := X.2.2.2.2.2.2.2.2.2
  unfold fK4_priceAt at hf
  refine lv_iload_n hx hb dK4_priceAt_0 rfl (lv_at hl 2 rfl) ?_
  refine lv_if_lt (tgt := 10) hx hb dK4_priceAt_1 (by decide) (fun c_1 => ?_) (fun c_1 => ?_)
  · have hf := if_t hf c_1
    refine lv_iconst (v := (-1)) hx hb dK4_priceAt_10 (by decide) ?_
    cases hf
    exact tf_iret X h dK4_priceAt_11
  · have hf := if_f hf c_1
    refine lv_iload_n hx hb dK4_priceAt_4 rfl (lv_at hl 2 rfl) ?_
    refine lv_bipush (v := 40) hx hb dK4_priceAt_5 (by decide) ?_
    refine lv_icmp_lt (tgt := 12) hx hb dK4_priceAt_7 (by decide) (fun c_2 => ?_) (fun c_2 => ?_)
    · have hf := if_t hf c_2
      refine lv_aload_n hx hb dK4_priceAt_12 rfl (lv_at hl 0 rfl) ?_
      refine lv_iload_n hx hb dK4_priceAt_13 rfl (lv_at hl 1 rfl) ?_
      refine lv_iconst (v := (-1)) hx hb dK4_priceAt_14 (by decide) ?_
      obtain ⟨r_4, h_3, hf⟩ := bn_some hf
      refine tf_callVi (As := [.int a1, .int (-1)]) (rest := []) X h 8 (by decide) rfl rfl (mK4_nextPrice hJ h_3) bwK4_nextPrice w_298 ⟨Nat.le_of_ble_eq_true rfl, Nat.le_of_ble_eq_true rfl⟩ hl.1 rfl (Nat.le_of_ble_eq_true rfl) ⟨Nat.zero_le _, Nat.zero_le _⟩ dK4_priceAt_15 (fun H locs h => ?_)
      refine lv_istore_n (lv' := [(3, .int r_4), (0, .ref (al G 8)), (1, .int a1), (2, .int a2)]) hx hb dK4_priceAt_18 rfl hl (by decide) rfl (fun ls hl => ?_)
      refine lv_iconst (v := 0) hx hb dK4_priceAt_19 (by decide) ?_
      refine lv_istore (lv' := [(4, .int 0), (3, .int r_4), (0, .ref (al G 8)), (1, .int a1), (2, .int a2)]) hx hb dK4_priceAt_20 hl (by decide) rfl (fun ls hl => ?_)
      exact lK4_priceAt_22 X FU a1 a2 r_4 0 I L hf h (lv_sub hl [2, 3, 4, 1, 0] rfl)
    · have hf := if_f hf c_2
      refine lv_iconst (v := (-1)) hx hb dK4_priceAt_10 (by decide) ?_
      cases hf
      exact tf_iret X h dK4_priceAt_11
theorem mK4_priceAt {l : Launch} {G : tf_G} (hJ : gJ (al G) 63) {r : Int32} {a1 : Int32} {a2 : Int32} {I : FI} {L : FL} (hf : fK4_priceAt a1 a2 I L = some r) : tf_Met l G 63 yK4_priceAt cK4_priceAt 5 (some .int) 2 48 [.ref (al G 8), .int a1, .int a2] (cE G I L) (cE G I L) (some (.int r)) :=
  tf_enter (by decide +kernel) hJ (Nat.le_of_ble_eq_true rfl) (fun p e s m args below meth c ls X _ hl h => sK4_priceAt_0 X a1 a2 I L hf h hl)
theorem bwK4_priceAt : tf_cv yK4_priceAt cK4_priceAt 5 (some .int) 2 := ⟨w_299, w_300, w_301, w_137, by decide +kernel, by decide +kernel, by decide +kernel⟩

set_option maxHeartbeats 4000000 in
set_option maxRecDepth 100000 in
theorem sK4_leftAt_55 {p : Program} {l : Launch} {e : Env} {s : State} {m : MethodId} {args : Array Value} {below : List Frame} {meth : Method} {c : Code} {G : tf_G} (X : tf_X G 63 "TradeFloor$Orders" cK4_leftAt 5 (some .int) p s m args meth c) {r : Int32} (k5 : Int32 → Int32 → Int32 → Int32 → FI → FL → Option (Int32)) (hk5 : ∀ (v1 : Int32) (v2 : Int32) (v3 : Int32) (v4 : Int32) (I : FI) (L : FL), k5 v1 v2 v3 v4 I L = some r → ∀ {H : Heap} {locs : List Loc} {ls : Array Slot}, tf_H G 63 (cE G I L) s.heap H locs → lv_has ls 5 [(0, .ref (al G 8)), (1, .int v1), (2, .int v2), (3, .int v3), (4, .int v4)] → W p l e (tf_rm 1 21) s m args below meth c H locs 0 0 (MQ below (tf_Q G 63 (cE G I L) (some (.int r))) args s 0 0 (gA (al G) 63)) (F0 m 5 ls [])) (v1 : Int32) (v2 : Int32) (v3 : Int32) (v4 : Int32) (I : FI) (L : FL) (hf : fK4_leftAt_55 k5 v1 v2 v3 v4 I L = some r) {H : Heap} {locs : List Loc} {ls : Array Slot} (h : tf_H G 63 (cE G I L) s.heap H locs) (hl : lv_has ls 5 [(0, .ref (al G 8)), (1, .int v1), (2, .int v2), (3, .int v3), (4, .int v4)]) : W p l e (tf_rm 1 21) s m args below meth c H locs 0 0 (MQ below (tf_Q G 63 (cE G I L) (some (.int r))) args s 0 0 (gA (al G) 63)) (F0 m 55 ls []) := by
  have hx := X.1
  have hb := X.2.1
  have hJ := X.2.2.2.2.2.2.2.2.2
  unfold fK4_leftAt_55 at hf
  obtain ⟨x_1, ex_1, hf⟩ := nm_some hf
  refine lv_iinc (v := x_1) (lv' := [(4, .int x_1), (0, .ref (al G 8)), (1, .int v1), (2, .int v2), (3, .int v3)]) hx hb dK4_leftAt_55 hl (k := 4) rfl (by rw [ex_1]; rfl) (by decide) rfl (fun ls hl => ?_)
  refine lv_goto (tgt := 5) hx hb dK4_leftAt_58 (by decide) ?_
  exact hk5 v1 v2 v3 x_1 I L hf h (lv_sub hl [1, 2, 3, 4, 0] rfl)
set_option maxHeartbeats 4000000 in
set_option maxRecDepth 100000 in
theorem sK4_leftAt_5 {p : Program} {l : Launch} {e : Env} {s : State} {m : MethodId} {args : Array Value} {below : List Frame} {meth : Method} {c : Code} {G : tf_G} (X : tf_X G 63 "TradeFloor$Orders" cK4_leftAt 5 (some .int) p s m args meth c) {r : Int32} (k5 : Int32 → Int32 → Int32 → Int32 → FI → FL → Option (Int32)) (hk5 : ∀ (v1 : Int32) (v2 : Int32) (v3 : Int32) (v4 : Int32) (I : FI) (L : FL), k5 v1 v2 v3 v4 I L = some r → ∀ {H : Heap} {locs : List Loc} {ls : Array Slot}, tf_H G 63 (cE G I L) s.heap H locs → lv_has ls 5 [(0, .ref (al G 8)), (1, .int v1), (2, .int v2), (3, .int v3), (4, .int v4)] → W p l e (tf_rm 1 21) s m args below meth c H locs 0 0 (MQ below (tf_Q G 63 (cE G I L) (some (.int r))) args s 0 0 (gA (al G) 63)) (F0 m 5 ls [])) (v1 : Int32) (v2 : Int32) (v3 : Int32) (v4 : Int32) (I : FI) (L : FL) (hf : bK4_leftAt_5 k5 v1 v2 v3 v4 I L = some r) {H : Heap} {locs : List Loc} {ls : Array Slot} (h : tf_H G 63 (cE G I L) s.heap H locs) (hl : lv_has ls 5 [(0, .ref (al G 8)), (1, .int v1), (2, .int v2), (3, .int v3), (4, .int v4)]) : W p l e (tf_rm 1 21) s m args below meth c H locs 0 0 (MQ below (tf_Q G 63 (cE G I L) (some (.int r))) args s 0 0 (gA (al G) 63)) (F0 m 5 ls []) := by
  have hx := X.1
  have hb := X.2.1
  have hJ := X.2.2.2.2.2.2.2.2.2
  unfold bK4_leftAt_5 at hf
  refine lv_iload hx hb dK4_leftAt_5 (lv_at hl 4 rfl) ?_
  refine lv_aload_n hx hb dK4_leftAt_7 rfl (lv_at hl 0 rfl) ?_
  refine gf4_size X h w_135 dK4_leftAt_8 ?_
  refine lv_icmp_ge (tgt := 61) hx hb dK4_leftAt_11 (by decide) (fun c_1 => ?_) (fun c_1 => ?_)
  · have hf := if_t hf c_1
    refine lv_iload_n hx hb dK4_leftAt_61 rfl (lv_at hl 3 rfl) ?_
    cases hf
    exact tf_iret X h dK4_leftAt_62
  · have hf := if_f hf c_1
    refine lv_aload_n hx hb dK4_leftAt_14 rfl (lv_at hl 0 rfl) ?_
    refine gf4_rows X h w_158 dK4_leftAt_15 ?_
    refine lv_iload hx hb dK4_leftAt_18 (lv_at hl 4 rfl) ?_
    obtain ⟨o_3, qo_3, hi_2, hf⟩ := g40_some hf
    refine gac_9 X h o_3 qo_3 hi_2 dK4_leftAt_20 ?_
    refine lv_iload_n hx hb dK4_leftAt_21 rfl (lv_at hl 1 rfl) ?_
    obtain ⟨r_5, h_4, hf⟩ := bn_some hf
    refine tf_callSi (As := [.ref (al G (o_3.val + 23)), .int v1]) (rest := []) X h (mK4_isInBook hJ h_4) bwK4_isInBook w_153 ⟨Nat.le_of_ble_eq_true rfl, Nat.le_of_ble_eq_true rfl⟩ hl.1 rfl (Nat.le_of_ble_eq_true rfl) ⟨Nat.zero_le _, Nat.zero_le _⟩ dK4_leftAt_22 (fun H locs h => ?_)
    refine lv_if_eq (tgt := 55) hx hb dK4_leftAt_25 (by decide) (fun c_6 => ?_) (fun c_6 => ?_)
    · have hf := if_t hf c_6
      exact sK4_leftAt_55 X k5 hk5 v1 v2 v3 v4 I L hf h hl
    · have hf := if_f hf c_6
      refine lv_aload_n hx hb dK4_leftAt_28 rfl (lv_at hl 0 rfl) ?_
      refine gf4_rows X h w_158 dK4_leftAt_29 ?_
      refine lv_iload hx hb dK4_leftAt_32 (lv_at hl 4 rfl) ?_
      obtain ⟨o_8, qo_8, hi_7, hf⟩ := g40_some hf
      refine gac_9 X h o_8 qo_8 hi_7 dK4_leftAt_34 ?_
      refine gf3_price X h o_8 w_154 dK4_leftAt_35 ?_
      refine lv_iload_n hx hb dK4_leftAt_38 rfl (lv_at hl 2 rfl) ?_
      refine lv_icmp_ne (tgt := 55) hx hb dK4_leftAt_39 (by decide) (fun c_9 => ?_) (fun c_9 => ?_)
      · have hf := if_f hf c_9
        exact sK4_leftAt_55 X k5 hk5 v1 v2 v3 v4 I L hf h hl
      · have hf := if_t hf c_9
        refine lv_iload_n hx hb dK4_leftAt_42 rfl (lv_at hl 3 rfl) ?_
        refine lv_aload_n hx hb dK4_leftAt_43 rfl (lv_at hl 0 rfl) ?_
        refine gf4_rows X h w_158 dK4_leftAt_44 ?_
        refine lv_iload hx hb dK4_leftAt_47 (lv_at hl 4 rfl) ?_
        obtain ⟨o_11, qo_11, hi_10, hf⟩ := g40_some hf
        refine gac_9 X h o_11 qo_11 hi_10 dK4_leftAt_49 ?_
        refine gf3_left X h o_11 w_164 dK4_leftAt_50 ?_
        refine lv_iadd hx hb dK4_leftAt_53 ?_
        refine lv_topi (fun x_12 ex_12 => ?_)
        have hf := nm_at hf ex_12
        refine lv_istore_n (lv' := [(3, .int x_12), (0, .ref (al G 8)), (1, .int v1), (2, .int v2), (4, .int v4)]) hx hb dK4_leftAt_54 rfl hl (by decide) rfl (fun ls hl => ?_)
        exact sK4_leftAt_55 X k5 hk5 v1 v2 x_12 v4 I L hf h (lv_sub hl [1, 2, 3, 0, 4] rfl)
theorem lK4_leftAt_5 {p : Program} {l : Launch} {e : Env} {s : State} {m : MethodId} {args : Array Value} {below : List Frame} {meth : Method} {c : Code} {G : tf_G} (X : tf_X G 63 "TradeFloor$Orders" cK4_leftAt 5 (some .int) p s m args meth c) {r : Int32} : ∀ (n : Nat), ∀ (v1 : Int32) (v2 : Int32) (v3 : Int32) (v4 : Int32) (I : FI) (L : FL), fK4_leftAt_5 n v1 v2 v3 v4 I L = some r → ∀ {H : Heap} {locs : List Loc} {ls : Array Slot}, tf_H G 63 (cE G I L) s.heap H locs → lv_has ls 5 [(0, .ref (al G 8)), (1, .int v1), (2, .int v2), (3, .int v3), (4, .int v4)] → W p l e (tf_rm 1 21) s m args below meth c H locs 0 0 (MQ below (tf_Q G 63 (cE G I L) (some (.int r))) args s 0 0 (gA (al G) 63)) (F0 m 5 ls []) := by
  intro n
  induction n with
  | zero =>
    intro v1 v2 v3 v4 I L hf
    exact absurd hf (by simp [fK4_leftAt_5])
  | succ n ih =>
    intro v1 v2 v3 v4 I L hf H locs ls h hl
    exact sK4_leftAt_5 X (fK4_leftAt_5 n) ih v1 v2 v3 v4 I L hf h hl
set_option maxHeartbeats 4000000 in
set_option maxRecDepth 100000 in
theorem sK4_leftAt_0 {p : Program} {l : Launch} {e : Env} {s : State} {m : MethodId} {args : Array Value} {below : List Frame} {meth : Method} {c : Code} {G : tf_G} (X : tf_X G 63 "TradeFloor$Orders" cK4_leftAt 5 (some .int) p s m args meth c) {r : Int32} (a1 : Int32) (a2 : Int32) (I : FI) (L : FL) (hf : fK4_leftAt a1 a2 I L = some r) {H : Heap} {locs : List Loc} {ls : Array Slot} (h : tf_H G 63 (cE G I L) s.heap H locs) (hl : lv_has ls 5 [(0, .ref (al G 8)), (1, .int a1), (2, .int a2)]) : W p l e (tf_rm 1 21) s m args below meth c H locs 0 0 (MQ below (tf_Q G 63 (cE G I L) (some (.int r))) args s 0 0 (gA (al G) 63)) (F0 m 0 ls []) := by
  have hx := X.1
  have hb := X.2.1
  have hJ := X.2.2.2.2.2.2.2.2.2
  unfold fK4_leftAt at hf
  refine lv_iconst (v := 0) hx hb dK4_leftAt_0 (by decide) ?_
  refine lv_istore_n (lv' := [(3, .int 0), (0, .ref (al G 8)), (1, .int a1), (2, .int a2)]) hx hb dK4_leftAt_1 rfl hl (by decide) rfl (fun ls hl => ?_)
  refine lv_iconst (v := 0) hx hb dK4_leftAt_2 (by decide) ?_
  refine lv_istore (lv' := [(4, .int 0), (3, .int 0), (0, .ref (al G 8)), (1, .int a1), (2, .int a2)]) hx hb dK4_leftAt_3 hl (by decide) rfl (fun ls hl => ?_)
  exact lK4_leftAt_5 X FU a1 a2 0 0 I L hf h (lv_sub hl [2, 3, 4, 1, 0] rfl)
theorem mK4_leftAt {l : Launch} {G : tf_G} (hJ : gJ (al G) 63) {r : Int32} {a1 : Int32} {a2 : Int32} {I : FI} {L : FL} (hf : fK4_leftAt a1 a2 I L = some r) : tf_Met l G 63 yK4_leftAt cK4_leftAt 5 (some .int) 1 21 [.ref (al G 8), .int a1, .int a2] (cE G I L) (cE G I L) (some (.int r)) :=
  tf_enter (by decide +kernel) hJ (Nat.le_of_ble_eq_true rfl) (fun p e s m args below meth c ls X _ hl h => sK4_leftAt_0 X a1 a2 I L hf h hl)
theorem bwK4_leftAt : tf_cv yK4_leftAt cK4_leftAt 5 (some .int) 2 := ⟨w_302, w_303, w_304, w_137, by decide +kernel, by decide +kernel, by decide +kernel⟩

set_option maxHeartbeats 4000000 in
set_option maxRecDepth 100000 in
theorem sK4_ordersAt_45 {p : Program} {l : Launch} {e : Env} {s : State} {m : MethodId} {args : Array Value} {below : List Frame} {meth : Method} {c : Code} {G : tf_G} (X : tf_X G 63 "TradeFloor$Orders" cK4_ordersAt 5 (some .int) p s m args meth c) {r : Int32} (k5 : Int32 → Int32 → Int32 → Int32 → FI → FL → Option (Int32)) (hk5 : ∀ (v1 : Int32) (v2 : Int32) (v3 : Int32) (v4 : Int32) (I : FI) (L : FL), k5 v1 v2 v3 v4 I L = some r → ∀ {H : Heap} {locs : List Loc} {ls : Array Slot}, tf_H G 63 (cE G I L) s.heap H locs → lv_has ls 5 [(0, .ref (al G 8)), (1, .int v1), (2, .int v2), (3, .int v3), (4, .int v4)] → W p l e (tf_rm 1 21) s m args below meth c H locs 0 0 (MQ below (tf_Q G 63 (cE G I L) (some (.int r))) args s 0 0 (gA (al G) 63)) (F0 m 5 ls [])) (v1 : Int32) (v2 : Int32) (v3 : Int32) (v4 : Int32) (I : FI) (L : FL) (hf : fK4_ordersAt_45 k5 v1 v2 v3 v4 I L = some r) {H : Heap} {locs : List Loc} {ls : Array Slot} (h : tf_H G 63 (cE G I L) s.heap H locs) (hl : lv_has ls 5 [(0, .ref (al G 8)), (1, .int v1), (2, .int v2), (3, .int v3), (4, .int v4)]) : W p l e (tf_rm 1 21) s m args below meth c H locs 0 0 (MQ below (tf_Q G 63 (cE G I L) (some (.int r))) args s 0 0 (gA (al G) 63)) (F0 m 45 ls []) := by
  have hx := X.1
  have hb := X.2.1
  have hJ := X.2.2.2.2.2.2.2.2.2
  unfold fK4_ordersAt_45 at hf
  obtain ⟨x_1, ex_1, hf⟩ := nm_some hf
  refine lv_iinc (v := x_1) (lv' := [(4, .int x_1), (0, .ref (al G 8)), (1, .int v1), (2, .int v2), (3, .int v3)]) hx hb dK4_ordersAt_45 hl (k := 4) rfl (by rw [ex_1]; rfl) (by decide) rfl (fun ls hl => ?_)
  refine lv_goto (tgt := 5) hx hb dK4_ordersAt_48 (by decide) ?_
  exact hk5 v1 v2 v3 x_1 I L hf h (lv_sub hl [1, 2, 3, 4, 0] rfl)
set_option maxHeartbeats 4000000 in
set_option maxRecDepth 100000 in
theorem sK4_ordersAt_5 {p : Program} {l : Launch} {e : Env} {s : State} {m : MethodId} {args : Array Value} {below : List Frame} {meth : Method} {c : Code} {G : tf_G} (X : tf_X G 63 "TradeFloor$Orders" cK4_ordersAt 5 (some .int) p s m args meth c) {r : Int32} (k5 : Int32 → Int32 → Int32 → Int32 → FI → FL → Option (Int32)) (hk5 : ∀ (v1 : Int32) (v2 : Int32) (v3 : Int32) (v4 : Int32) (I : FI) (L : FL), k5 v1 v2 v3 v4 I L = some r → ∀ {H : Heap} {locs : List Loc} {ls : Array Slot}, tf_H G 63 (cE G I L) s.heap H locs → lv_has ls 5 [(0, .ref (al G 8)), (1, .int v1), (2, .int v2), (3, .int v3), (4, .int v4)] → W p l e (tf_rm 1 21) s m args below meth c H locs 0 0 (MQ below (tf_Q G 63 (cE G I L) (some (.int r))) args s 0 0 (gA (al G) 63)) (F0 m 5 ls [])) (v1 : Int32) (v2 : Int32) (v3 : Int32) (v4 : Int32) (I : FI) (L : FL) (hf : bK4_ordersAt_5 k5 v1 v2 v3 v4 I L = some r) {H : Heap} {locs : List Loc} {ls : Array Slot} (h : tf_H G 63 (cE G I L) s.heap H locs) (hl : lv_has ls 5 [(0, .ref (al G 8)), (1, .int v1), (2, .int v2), (3, .int v3), (4, .int v4)]) : W p l e (tf_rm 1 21) s m args below meth c H locs 0 0 (MQ below (tf_Q G 63 (cE G I L) (some (.int r))) args s 0 0 (gA (al G) 63)) (F0 m 5 ls []) := by
  have hx := X.1
  have hb := X.2.1
  have hJ := X.2.2.2.2.2.2.2.2.2
  unfold bK4_ordersAt_5 at hf
  refine lv_iload hx hb dK4_ordersAt_5 (lv_at hl 4 rfl) ?_
  refine lv_aload_n hx hb dK4_ordersAt_7 rfl (lv_at hl 0 rfl) ?_
  refine gf4_size X h w_135 dK4_ordersAt_8 ?_
  refine lv_icmp_ge (tgt := 51) hx hb dK4_ordersAt_11 (by decide) (fun c_1 => ?_) (fun c_1 => ?_)
  · have hf := if_t hf c_1
    refine lv_iload_n hx hb dK4_ordersAt_51 rfl (lv_at hl 3 rfl) ?_
    cases hf
    exact tf_iret X h dK4_ordersAt_52
  · have hf := if_f hf c_1
    refine lv_aload_n hx hb dK4_ordersAt_14 rfl (lv_at hl 0 rfl) ?_
    refine gf4_rows X h w_158 dK4_ordersAt_15 ?_
    refine lv_iload hx hb dK4_ordersAt_18 (lv_at hl 4 rfl) ?_
    obtain ⟨o_3, qo_3, hi_2, hf⟩ := g40_some hf
    refine gac_9 X h o_3 qo_3 hi_2 dK4_ordersAt_20 ?_
    refine lv_iload_n hx hb dK4_ordersAt_21 rfl (lv_at hl 1 rfl) ?_
    obtain ⟨r_5, h_4, hf⟩ := bn_some hf
    refine tf_callSi (As := [.ref (al G (o_3.val + 23)), .int v1]) (rest := []) X h (mK4_isInBook hJ h_4) bwK4_isInBook w_153 ⟨Nat.le_of_ble_eq_true rfl, Nat.le_of_ble_eq_true rfl⟩ hl.1 rfl (Nat.le_of_ble_eq_true rfl) ⟨Nat.zero_le _, Nat.zero_le _⟩ dK4_ordersAt_22 (fun H locs h => ?_)
    refine lv_if_eq (tgt := 45) hx hb dK4_ordersAt_25 (by decide) (fun c_6 => ?_) (fun c_6 => ?_)
    · have hf := if_t hf c_6
      exact sK4_ordersAt_45 X k5 hk5 v1 v2 v3 v4 I L hf h hl
    · have hf := if_f hf c_6
      refine lv_aload_n hx hb dK4_ordersAt_28 rfl (lv_at hl 0 rfl) ?_
      refine gf4_rows X h w_158 dK4_ordersAt_29 ?_
      refine lv_iload hx hb dK4_ordersAt_32 (lv_at hl 4 rfl) ?_
      obtain ⟨o_8, qo_8, hi_7, hf⟩ := g40_some hf
      refine gac_9 X h o_8 qo_8 hi_7 dK4_ordersAt_34 ?_
      refine gf3_price X h o_8 w_154 dK4_ordersAt_35 ?_
      refine lv_iload_n hx hb dK4_ordersAt_38 rfl (lv_at hl 2 rfl) ?_
      refine lv_icmp_ne (tgt := 45) hx hb dK4_ordersAt_39 (by decide) (fun c_9 => ?_) (fun c_9 => ?_)
      · have hf := if_f hf c_9
        exact sK4_ordersAt_45 X k5 hk5 v1 v2 v3 v4 I L hf h hl
      · have hf := if_t hf c_9
        obtain ⟨x_10, ex_10, hf⟩ := nm_some hf
        refine lv_iinc (v := x_10) (lv' := [(3, .int x_10), (0, .ref (al G 8)), (1, .int v1), (2, .int v2), (4, .int v4)]) hx hb dK4_ordersAt_42 hl (k := 3) rfl (by rw [ex_10]; rfl) (by decide) rfl (fun ls hl => ?_)
        exact sK4_ordersAt_45 X k5 hk5 v1 v2 x_10 v4 I L hf h (lv_sub hl [1, 2, 3, 0, 4] rfl)
theorem lK4_ordersAt_5 {p : Program} {l : Launch} {e : Env} {s : State} {m : MethodId} {args : Array Value} {below : List Frame} {meth : Method} {c : Code} {G : tf_G} (X : tf_X G 63 "TradeFloor$Orders" cK4_ordersAt 5 (some .int) p s m args meth c) {r : Int32} : ∀ (n : Nat), ∀ (v1 : Int32) (v2 : Int32) (v3 : Int32) (v4 : Int32) (I : FI) (L : FL), fK4_ordersAt_5 n v1 v2 v3 v4 I L = some r → ∀ {H : Heap} {locs : List Loc} {ls : Array Slot}, tf_H G 63 (cE G I L) s.heap H locs → lv_has ls 5 [(0, .ref (al G 8)), (1, .int v1), (2, .int v2), (3, .int v3), (4, .int v4)] → W p l e (tf_rm 1 21) s m args below meth c H locs 0 0 (MQ below (tf_Q G 63 (cE G I L) (some (.int r))) args s 0 0 (gA (al G) 63)) (F0 m 5 ls []) := by
  intro n
  induction n with
  | zero =>
    intro v1 v2 v3 v4 I L hf
    exact absurd hf (by simp [fK4_ordersAt_5])
  | succ n ih =>
    intro v1 v2 v3 v4 I L hf H locs ls h hl
    exact sK4_ordersAt_5 X (fK4_ordersAt_5 n) ih v1 v2 v3 v4 I L hf h hl
set_option maxHeartbeats 4000000 in
set_option maxRecDepth 100000 in
theorem sK4_ordersAt_0 {p : Program} {l : Launch} {e : Env} {s : State} {m : MethodId} {args : Array Value} {below : List Frame} {meth : Method} {c : Code} {G : tf_G} (X : tf_X G 63 "TradeFloor$Orders" cK4_ordersAt 5 (some .int) p s m args meth c) {r : Int32} (a1 : Int32) (a2 : Int32) (I : FI) (L : FL) (hf : fK4_ordersAt a1 a2 I L = some r) {H : Heap} {locs : List Loc} {ls : Array Slot} (h : tf_H G 63 (cE G I L) s.heap H locs) (hl : lv_has ls 5 [(0, .ref (al G 8)), (1, .int a1), (2, .int a2)]) : W p l e (tf_rm 1 21) s m args below meth c H locs 0 0 (MQ below (tf_Q G 63 (cE G I L) (some (.int r))) args s 0 0 (gA (al G) 63)) (F0 m 0 ls []) := by
  have hx := X.1
  have hb := X.2.1
  have hJ := X.2.2.2.2.2.2.2.2.2
  unfold fK4_ordersAt at hf
  refine lv_iconst (v := 0) hx hb dK4_ordersAt_0 (by decide) ?_
  refine lv_istore_n (lv' := [(3, .int 0), (0, .ref (al G 8)), (1, .int a1), (2, .int a2)]) hx hb dK4_ordersAt_1 rfl hl (by decide) rfl (fun ls hl => ?_)
  refine lv_iconst (v := 0) hx hb dK4_ordersAt_2 (by decide) ?_
  refine lv_istore (lv' := [(4, .int 0), (3, .int 0), (0, .ref (al G 8)), (1, .int a1), (2, .int a2)]) hx hb dK4_ordersAt_3 hl (by decide) rfl (fun ls hl => ?_)
  exact lK4_ordersAt_5 X FU a1 a2 0 0 I L hf h (lv_sub hl [2, 3, 4, 1, 0] rfl)
theorem mK4_ordersAt {l : Launch} {G : tf_G} (hJ : gJ (al G) 63) {r : Int32} {a1 : Int32} {a2 : Int32} {I : FI} {L : FL} (hf : fK4_ordersAt a1 a2 I L = some r) : tf_Met l G 63 yK4_ordersAt cK4_ordersAt 5 (some .int) 1 21 [.ref (al G 8), .int a1, .int a2] (cE G I L) (cE G I L) (some (.int r)) :=
  tf_enter (by decide +kernel) hJ (Nat.le_of_ble_eq_true rfl) (fun p e s m args below meth c ls X _ hl h => sK4_ordersAt_0 X a1 a2 I L hf h hl)
theorem bwK4_ordersAt : tf_cv yK4_ordersAt cK4_ordersAt 5 (some .int) 2 := ⟨w_305, w_306, w_307, w_137, by decide +kernel, by decide +kernel, by decide +kernel⟩
