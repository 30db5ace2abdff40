set_option maxHeartbeats 4000000 in
set_option maxRecDepth 100000 in
theorem sK8_level_248 {p : Program} {l : Launch} {e : Env} {s : State} {m : MethodId} {args : Array Value} {below : List Frame} {meth : Method} {c : Code} {G : tf_G} (X : tf_X G 16 "TradeFloorModel" cK8_level 8 (some .int) p s m args meth c) {r : Int32} (k188 : Int32 → Int32 → Int32 → Int32 → Int32 → Int32 → FI → FL → Option (Int32)) (hk188 : ∀ (v1 : Int32) (v3 : Int32) (v4 : Int32) (v5 : Int32) (v6 : Int32) (v7 : Int32) (I : FI) (L : FL), k188 v1 v3 v4 v5 v6 v7 I L = some r → ∀ {H : Heap} {locs : List Loc} {ls : Array Slot}, tf_H G 16 (rE G I L) s.heap H locs → lv_has ls 8 [(0, .ref (al G 0)), (1, .int v1), (3, .int v3), (4, .int v4), (5, .int v5), (6, .int v6), (7, .int v7)] → W p l e (tf_rm 0 0) s m args below meth c H locs 0 0 (MQ below (tf_Q G 16 (rE G I L) (some (.int r))) args s 0 0 (gA (al G) 16)) (F0 m 188 ls [])) (v1 : Int32) (v3 : Int32) (v4 : Int32) (v5 : Int32) (v6 : Int32) (v7 : Int32) (I : FI) (L : FL) (hf : fK8_level_248 k188 v1 v3 v4 v5 v6 v7 I L = some r) {H : Heap} {locs : List Loc} {ls : Array Slot} (h : tf_H G 16 (rE G I L) s.heap H locs) (hl : lv_has ls 8 [(0, .ref (al G 0)), (1, .int v1), (3, .int v3), (4, .int v4), (5, .int v5), (6, .int v6), (7, .int v7)]) : W p l e (tf_rm 0 0) s m args below meth c H locs 0 0 (MQ below (tf_Q G 16 (rE G I L) (some (.int r))) args s 0 0 (gA (al G) 16)) (F0 m 248 ls []) := by
  have hx := X.1
  have hb := X.2.1
  have hJ := X.2.2.2.2.2.2.2.2.2
  unfold fK8_level_248 at hf
  obtain ⟨x_1, ex_1, hf⟩ := nm_some hf
  refine lv_iinc (v := x_1) (lv' := [(7, .int x_1), (0, .ref (al G 0)), (1, .int v1), (3, .int v3), (4, .int v4), (5, .int v5), (6, .int v6)]) hx hb dK8_level_248 hl (k := 6) rfl (by rw [ex_1]; rfl) (by decide) rfl (fun ls hl => ?_)
  refine lv_goto (tgt := 188) hx hb dK8_level_251 (by decide) ?_
  exact hk188 v1 v3 v4 v5 v6 x_1 I L hf h (lv_sub hl [1, 2, 3, 4, 5, 6, 0] rfl)
set_option maxHeartbeats 4000000 in
set_option maxRecDepth 100000 in
theorem sK8_level_188 {p : Program} {l : Launch} {e : Env} {s : State} {m : MethodId} {args : Array Value} {below : List Frame} {meth : Method} {c : Code} {G : tf_G} (X : tf_X G 16 "TradeFloorModel" cK8_level 8 (some .int) p s m args meth c) {r : Int32} (k188 : Int32 → Int32 → Int32 → Int32 → Int32 → Int32 → FI → FL → Option (Int32)) (hk188 : ∀ (v1 : Int32) (v3 : Int32) (v4 : Int32) (v5 : Int32) (v6 : Int32) (v7 : Int32) (I : FI) (L : FL), k188 v1 v3 v4 v5 v6 v7 I L = some r → ∀ {H : Heap} {locs : List Loc} {ls : Array Slot}, tf_H G 16 (rE G I L) s.heap H locs → lv_has ls 8 [(0, .ref (al G 0)), (1, .int v1), (3, .int v3), (4, .int v4), (5, .int v5), (6, .int v6), (7, .int v7)] → W p l e (tf_rm 0 0) s m args below meth c H locs 0 0 (MQ below (tf_Q G 16 (rE G I L) (some (.int r))) args s 0 0 (gA (al G) 16)) (F0 m 188 ls [])) (v1 : Int32) (v3 : Int32) (v4 : Int32) (v5 : Int32) (v6 : Int32) (v7 : Int32) (I : FI) (L : FL) (hf : bK8_level_188 k188 v1 v3 v4 v5 v6 v7 I L = some r) {H : Heap} {locs : List Loc} {ls : Array Slot} (h : tf_H G 16 (rE G I L) s.heap H locs) (hl : lv_has ls 8 [(0, .ref (al G 0)), (1, .int v1), (3, .int v3), (4, .int v4), (5, .int v5), (6, .int v6), (7, .int v7)]) : W p l e (tf_rm 0 0) s m args below meth c H locs 0 0 (MQ below (tf_Q G 16 (rE G I L) (some (.int r))) args s 0 0 (gA (al G) 16)) (F0 m 188 ls []) := by
  have hx := X.1
  have hb := X.2.1
  have hJ := X.2.2.2.2.2.2.2.2.2
  unfold bK8_level_188 at hf
  refine lv_iload hx hb dK8_level_188 (lv_at hl 6 rfl) ?_
  refine lv_aload_n hx hb dK8_level_190 rfl (lv_at hl 0 rfl) ?_
  refine gf8_orders X h w_406 dK8_level_191 ?_
  refine lv_icmp_ge (tgt := 254) hx hb dK8_level_194 (by decide) (fun c_1 => ?_) (fun c_1 => ?_)
  · have hf := if_t hf c_1
    refine lv_iload_n hx hb dK8_level_254 rfl (lv_at hl 2 rfl) ?_
    refine lv_if_ne (tgt := 263) hx hb dK8_level_255 (by decide) (fun c_2 => ?_) (fun c_2 => ?_)
    · have hf := if_f hf c_2
      refine lv_iload_n hx hb dK8_level_263 rfl (lv_at hl 2 rfl) ?_
      refine lv_iconst (v := 1) hx hb dK8_level_264 (by decide) ?_
      refine lv_icmp_ne (tgt := 273) hx hb dK8_level_265 (by decide) (fun c_3 => ?_) (fun c_3 => ?_)
      · have hf := if_f hf c_3
        refine lv_iload hx hb dK8_level_273 (lv_at hl 5 rfl) ?_
        cases hf
        exact tf_iret X h dK8_level_275
      · have hf := if_t hf c_3
        refine lv_iload hx hb dK8_level_268 (lv_at hl 4 rfl) ?_
        refine lv_goto (tgt := 275) hx hb dK8_level_270 (by decide) ?_
        cases hf
        exact tf_iret X h dK8_level_275
    · have hf := if_t hf c_2
      refine lv_iload hx hb dK8_level_258 (lv_at hl 3 rfl) ?_
      refine lv_goto (tgt := 275) hx hb dK8_level_260 (by decide) ?_
      cases hf
      exact tf_iret X h dK8_level_275
  · have hf := if_f hf c_1
    refine lv_aload_n hx hb dK8_level_197 rfl (lv_at hl 0 rfl) ?_
    refine gf8_state X h w_407 dK8_level_198 ?_
    refine lv_iload hx hb dK8_level_201 (lv_at hl 6 rfl) ?_
    obtain ⟨hi_4, hf⟩ := ck_some hf
    refine gar_10 X h (inb_in hi_4) dK8_level_203 ?_
    refine lv_if_ne (tgt := 248) hx hb dK8_level_204 (by decide) (fun c_5 => ?_) (fun c_5 => ?_)
    · have hf := if_f hf c_5
      exact sK8_level_248 X k188 hk188 v1 v3 v4 v5 v6 v7 I L hf h hl
    · have hf := if_t hf c_5
      refine lv_aload_n hx hb dK8_level_207 rfl (lv_at hl 0 rfl) ?_
      refine gf8_side X h w_409 dK8_level_208 ?_
      refine lv_iload hx hb dK8_level_211 (lv_at hl 6 rfl) ?_
      obtain ⟨hi_6, hf⟩ := ck_some hf
      refine gar_7 X h (inb_in hi_6) dK8_level_213 ?_
      refine lv_iload_n hx hb dK8_level_214 rfl (lv_at hl 1 rfl) ?_
      refine lv_icmp_ne (tgt := 248) hx hb dK8_level_215 (by decide) (fun c_7 => ?_) (fun c_7 => ?_)
      · have hf := if_f hf c_7
        exact sK8_level_248 X k188 hk188 v1 v3 v4 v5 v6 v7 I L hf h hl
      · have hf := if_t hf c_7
        refine lv_aload_n hx hb dK8_level_218 rfl (lv_at hl 0 rfl) ?_
        refine gf8_price X h w_411 dK8_level_219 ?_
        refine lv_iload hx hb dK8_level_222 (lv_at hl 6 rfl) ?_
        obtain ⟨hi_8, hf⟩ := ck_some hf
        refine gar_9 X h (inb_in hi_8) dK8_level_224 ?_
        refine lv_iload hx hb dK8_level_225 (lv_at hl 3 rfl) ?_
        refine lv_icmp_eq (tgt := 233) hx hb dK8_level_227 (by decide) (fun c_9 => ?_) (fun c_9 => ?_)
        · have hf := if_t hf c_9
          refine lv_iload hx hb dK8_level_233 (lv_at hl 4 rfl) ?_
          refine lv_aload_n hx hb dK8_level_235 rfl (lv_at hl 0 rfl) ?_
          refine gf8_left X h w_410 dK8_level_236 ?_
          refine lv_iload hx hb dK8_level_239 (lv_at hl 6 rfl) ?_
          obtain ⟨hi_10, hf⟩ := ck_some hf
          refine gar_8 X h (inb_in hi_10) dK8_level_241 ?_
          refine lv_iadd hx hb dK8_level_242 ?_
          refine lv_topi (fun x_11 ex_11 => ?_)
          have hf := nm_at hf ex_11
          refine lv_istore (lv' := [(5, .int x_11), (0, .ref (al G 0)), (1, .int v1), (3, .int v3), (4, .int v4), (6, .int v6), (7, .int v7)]) hx hb dK8_level_243 hl (by decide) rfl (fun ls hl => ?_)
          obtain ⟨x_12, ex_12, hf⟩ := nm_some hf
          refine lv_iinc (v := x_12) (lv' := [(6, .int x_12), (5, .int x_11), (0, .ref (al G 0)), (1, .int v1), (3, .int v3), (4, .int v4), (7, .int v7)]) hx hb dK8_level_245 hl (k := 5) rfl (by rw [ex_12]; rfl) (by decide) rfl (fun ls hl => ?_)
          exact sK8_level_248 X k188 hk188 v1 v3 v4 x_11 x_12 v7 I L hf h (lv_sub hl [2, 3, 4, 5, 1, 0, 6] rfl)
        · have hf := if_f hf c_9
          refine lv_goto (tgt := 248) hx hb dK8_level_230 (by decide) ?_
          exact sK8_level_248 X k188 hk188 v1 v3 v4 v5 v6 v7 I L hf h hl
theorem lK8_level_188 {p : Program} {l : Launch} {e : Env} {s : State} {m : MethodId} {args : Array Value} {below : List Frame} {meth : Method} {c : Code} {G : tf_G} (X : tf_X G 16 "TradeFloorModel" cK8_level 8 (some .int) p s m args meth c) {r : Int32} : ∀ (n : Nat), ∀ (v1 : Int32) (v3 : Int32) (v4 : Int32) (v5 : Int32) (v6 : Int32) (v7 : Int32) (I : FI) (L : FL), fK8_level_188 n v1 v3 v4 v5 v6 v7 I L = some r → ∀ {H : Heap} {locs : List Loc} {ls : Array Slot}, tf_H G 16 (rE G I L) s.heap H locs → lv_has ls 8 [(0, .ref (al G 0)), (1, .int v1), (3, .int v3), (4, .int v4), (5, .int v5), (6, .int v6), (7, .int v7)] → W p l e (tf_rm 0 0) s m args below meth c H locs 0 0 (MQ below (tf_Q G 16 (rE G I L) (some (.int r))) args s 0 0 (gA (al G) 16)) (F0 m 188 ls []) := by
  intro n
  induction n with
  | zero =>
    intro v1 v3 v4 v5 v6 v7 I L hf
    exact absurd hf (by simp [fK8_level_188])
  | succ n ih =>
    intro v1 v3 v4 v5 v6 v7 I L hf H locs ls h hl
    exact sK8_level_188 X (fK8_level_188 n) ih v1 v3 v4 v5 v6 v7 I L hf h hl
set_option maxHeartbeats 4000000 in
set_option maxRecDepth 100000 in
theorem sK8_level_156 {p : Program} {l : Launch} {e : Env} {s : State} {m : MethodId} {args : Array Value} {below : List Frame} {meth : Method} {c : Code} {G : tf_G} (X : tf_X G 16 "TradeFloorModel" cK8_level 8 (some .int) p s m args meth c) {r : Int32} (k30 : Int32 → Int32 → Int32 → Int32 → Int32 → FI → FL → Option (Int32)) (hk30 : ∀ (v1 : Int32) (v2 : Int32) (v3 : Int32) (v4 : Int32) (v5 : Int32) (I : FI) (L : FL), k30 v1 v2 v3 v4 v5 I L = some r → ∀ {H : Heap} {locs : List Loc} {ls : Array Slot}, tf_H G 16 (rE G I L) s.heap H locs → lv_has ls 8 [(0, .ref (al G 0)), (1, .int v1), (2, .int v2), (3, .int v3), (4, .int v4), (5, .int v5)] → W p l e (tf_rm 0 0) s m args below meth c H locs 0 0 (MQ below (tf_Q G 16 (rE G I L) (some (.int r))) args s 0 0 (gA (al G) 16)) (F0 m 30 ls [])) (k42 : Int32 → Int32 → Int32 → Int32 → Int32 → Int32 → Int32 → FI → FL → Option (Int32)) (hk42 : ∀ (v1 : Int32) (v2 : Int32) (v3 : Int32) (v4 : Int32) (v5 : Int32) (v6 : Int32) (v7 : Int32) (I : FI) (L : FL), k42 v1 v2 v3 v4 v5 v6 v7 I L = some r → ∀ {H : Heap} {locs : List Loc} {ls : Array Slot}, tf_H G 16 (rE G I L) s.heap H locs → lv_has ls 8 [(0, .ref (al G 0)), (1, .int v1), (2, .int v2), (3, .int v3), (4, .int v4), (5, .int v5), (6, .int v6), (7, .int v7)] → W p l e (tf_rm 0 0) s m args below meth c H locs 0 0 (MQ below (tf_Q G 16 (rE G I L) (some (.int r))) args s 0 0 (gA (al G) 16)) (F0 m 42 ls [])) (v1 : Int32) (v2 : Int32) (v3 : Int32) (v4 : Int32) (v5 : Int32) (v6 : Int32) (v7 : Int32) (I : FI) (L : FL) (hf : fK8_level_156 k30 k42 v1 v2 v3 v4 v5 v6 v7 I L = some r) {H : Heap} {locs : List Loc} {ls : Array Slot} (h : tf_H G 16 (rE G I L) s.heap H locs) (hl : lv_has ls 8 [(0, .ref (al G 0)), (1, .int v1), (2, .int v2), (3, .int v3), (4, .int v4), (5, .int v5), (6, .int v6), (7, .int v7)]) : W p l e (tf_rm 0 0) s m args below meth c H locs 0 0 (MQ below (tf_Q G 16 (rE G I L) (some (.int r))) args s 0 0 (gA (al G) 16)) (F0 m 156 ls []) := by
  have hx := X.1
  have hb := X.2.1
  have hJ := X.2.2.2.2.2.2.2.2.2
  unfold fK8_level_156 at hf
  obtain ⟨x_1, ex_1, hf⟩ := nm_some hf
  refine lv_iinc (v := x_1) (lv' := [(7, .int x_1), (0, .ref (al G 0)), (1, .int v1), (2, .int v2), (3, .int v3), (4, .int v4), (5, .int v5), (6, .int v6)]) hx hb dK8_level_156 hl (k := 7) rfl (by rw [ex_1]; rfl) (by decide) rfl (fun ls hl => ?_)
  refine lv_goto (tgt := 42) hx hb dK8_level_159 (by decide) ?_
  exact hk42 v1 v2 v3 v4 v5 v6 x_1 I L hf h (lv_sub hl [1, 2, 3, 4, 5, 6, 7, 0] rfl)
set_option maxHeartbeats 4000000 in
set_option maxRecDepth 100000 in
theorem sK8_level_147 {p : Program} {l : Launch} {e : Env} {s : State} {m : MethodId} {args : Array Value} {below : List Frame} {meth : Method} {c : Code} {G : tf_G} (X : tf_X G 16 "TradeFloorModel" cK8_level 8 (some .int) p s m args meth c) {r : Int32} (k30 : Int32 → Int32 → Int32 → Int32 → Int32 → FI → FL → Option (Int32)) (hk30 : ∀ (v1 : Int32) (v2 : Int32) (v3 : Int32) (v4 : Int32) (v5 : Int32) (I : FI) (L : FL), k30 v1 v2 v3 v4 v5 I L = some r → ∀ {H : Heap} {locs : List Loc} {ls : Array Slot}, tf_H G 16 (rE G I L) s.heap H locs → lv_has ls 8 [(0, .ref (al G 0)), (1, .int v1), (2, .int v2), (3, .int v3), (4, .int v4), (5, .int v5)] → W p l e (tf_rm 0 0) s m args below meth c H locs 0 0 (MQ below (tf_Q G 16 (rE G I L) (some (.int r))) args s 0 0 (gA (al G) 16)) (F0 m 30 ls [])) (k42 : Int32 → Int32 → Int32 → Int32 → Int32 → Int32 → Int32 → FI → FL → Option (Int32)) (hk42 : ∀ (v1 : Int32) (v2 : Int32) (v3 : Int32) (v4 : Int32) (v5 : Int32) (v6 : Int32) (v7 : Int32) (I : FI) (L : FL), k42 v1 v2 v3 v4 v5 v6 v7 I L = some r → ∀ {H : Heap} {locs : List Loc} {ls : Array Slot}, tf_H G 16 (rE G I L) s.heap H locs → lv_has ls 8 [(0, .ref (al G 0)), (1, .int v1), (2, .int v2), (3, .int v3), (4, .int v4), (5, .int v5), (6, .int v6), (7, .int v7)] → W p l e (tf_rm 0 0) s m args below meth c H locs 0 0 (MQ below (tf_Q G 16 (rE G I L) (some (.int r))) args s 0 0 (gA (al G) 16)) (F0 m 42 ls [])) (v1 : Int32) (v2 : Int32) (v3 : Int32) (v4 : Int32) (v5 : Int32) (v7 : Int32) (I : FI) (L : FL) (hf : fK8_level_147 k30 k42 v1 v2 v3 v4 v5 v7 I L = some r) {H : Heap} {locs : List Loc} {ls : Array Slot} (h : tf_H G 16 (rE G I L) s.heap H locs) (hl : lv_has ls 8 [(0, .ref (al G 0)), (1, .int v1), (2, .int v2), (3, .int v3), (4, .int v4), (5, .int v5), (7, .int v7)]) : W p l e (tf_rm 0 0) s m args below meth c H locs 0 0 (MQ below (tf_Q G 16 (rE G I L) (some (.int r))) args s 0 0 (gA (al G) 16)) (F0 m 147 ls []) := by
  have hx := X.1
  have hb := X.2.1
  have hJ := X.2.2.2.2.2.2.2.2.2
  unfold fK8_level_147 at hf
  refine lv_aload_n hx hb dK8_level_147 rfl (lv_at hl 0 rfl) ?_
  refine gf8_price X h w_411 dK8_level_148 ?_
  refine lv_iload hx hb dK8_level_151 (lv_at hl 6 rfl) ?_
  obtain ⟨hi_1, hf⟩ := ck_some hf
  refine gar_9 X h (inb_in hi_1) dK8_level_153 ?_
  refine lv_topi (fun x_2 ex_2 => ?_)
  have hf := nm_at hf ex_2
  refine lv_istore (lv' := [(6, .int x_2), (0, .ref (al G 0)), (1, .int v1), (2, .int v2), (3, .int v3), (4, .int v4), (5, .int v5), (7, .int v7)]) hx hb dK8_level_154 hl (by decide) rfl (fun ls hl => ?_)
  exact sK8_level_156 X k30 hk30 k42 hk42 v1 v2 v3 v4 v5 x_2 v7 I L hf h (lv_sub hl [1, 2, 3, 4, 5, 6, 0, 7] rfl)
set_option maxHeartbeats 4000000 in
set_option maxRecDepth 100000 in
theorem sK8_level_111 {p : Program} {l : Launch} {e : Env} {s : State} {m : MethodId} {args : Array Value} {below : List Frame} {meth : Method} {c : Code} {G : tf_G} (X : tf_X G 16 "TradeFloorModel" cK8_level 8 (some .int) p s m args meth c) {r : Int32} (k30 : Int32 → Int32 → Int32 → Int32 → Int32 → FI → FL → Option (Int32)) (hk30 : ∀ (v1 : Int32) (v2 : Int32) (v3 : Int32) (v4 : Int32) (v5 : Int32) (I : FI) (L : FL), k30 v1 v2 v3 v4 v5 I L = some r → ∀ {H : Heap} {locs : List Loc} {ls : Array Slot}, tf_H G 16 (rE G I L) s.heap H locs → lv_has ls 8 [(0, .ref (al G 0)), (1, .int v1), (2, .int v2), (3, .int v3), (4, .int v4), (5, .int v5)] → W p l e (tf_rm 0 0) s m args below meth c H locs 0 0 (MQ below (tf_Q G 16 (rE G I L) (some (.int r))) args s 0 0 (gA (al G) 16)) (F0 m 30 ls [])) (k42 : Int32 → Int32 → Int32 → Int32 → Int32 → Int32 → Int32 → FI → FL → Option (Int32)) (hk42 : ∀ (v1 : Int32) (v2 : Int32) (v3 : Int32) (v4 : Int32) (v5 : Int32) (v6 : Int32) (v7 : Int32) (I : FI) (L : FL), k42 v1 v2 v3 v4 v5 v6 v7 I L = some r → ∀ {H : Heap} {locs : List Loc} {ls : Array Slot}, tf_H G 16 (rE G I L) s.heap H locs → lv_has ls 8 [(0, .ref (al G 0)), (1, .int v1), (2, .int v2), (3, .int v3), (4, .int v4), (5, .int v5), (6, .int v6), (7, .int v7)] → W p l e (tf_rm 0 0) s m args below meth c H locs 0 0 (MQ below (tf_Q G 16 (rE G I L) (some (.int r))) args s 0 0 (gA (al G) 16)) (F0 m 42 ls [])) (v1 : Int32) (v2 : Int32) (v3 : Int32) (v4 : Int32) (v5 : Int32) (v6 : Int32) (v7 : Int32) (I : FI) (L : FL) (hf : fK8_level_111 k30 k42 v1 v2 v3 v4 v5 v6 v7 I L = some r) {H : Heap} {locs : List Loc} {ls : Array Slot} (h : tf_H G 16 (rE G I L) s.heap H locs) (hl : lv_has ls 8 [(0, .ref (al G 0)), (1, .int v1), (2, .int v2), (3, .int v3), (4, .int v4), (5, .int v5), (6, .int v6), (7, .int v7)]) : W p l e (tf_rm 0 0) s m args below meth c H locs 0 0 (MQ below (tf_Q G 16 (rE G I L) (some (.int r))) args s 0 0 (gA (al G) 16)) (F0 m 111 ls []) := by
  have hx := X.1
  have hb := X.2.1
  have hJ := X.2.2.2.2.2.2.2.2.2
  unfold fK8_level_111 at hf
  refine lv_iload hx hb dK8_level_111 (lv_at hl 6 rfl) ?_
  refine lv_if_lt (tgt := 147) hx hb dK8_level_113 (by decide) (fun c_1 => ?_) (fun c_1 => ?_)
  · have hf := if_t hf c_1
    exact sK8_level_147 X k30 hk30 k42 hk42 v1 v2 v3 v4 v5 v7 I L hf h (lv_sub hl [0, 1, 2, 3, 4, 5, 7] rfl)
  · have hf := if_f hf c_1
    refine lv_iload_n hx hb dK8_level_116 rfl (lv_at hl 1 rfl) ?_
    refine lv_if_ne (tgt := 135) hx hb dK8_level_117 (by decide) (fun c_2 => ?_) (fun c_2 => ?_)
    · have hf := if_f hf c_2
      refine lv_aload_n hx hb dK8_level_135 rfl (lv_at hl 0 rfl) ?_
      refine gf8_price X h w_411 dK8_level_136 ?_
      refine lv_iload hx hb dK8_level_139 (lv_at hl 7 rfl) ?_
      obtain ⟨hi_3, hf⟩ := ck_some hf
      refine gar_9 X h (inb_in hi_3) dK8_level_141 ?_
      refine lv_iload hx hb dK8_level_142 (lv_at hl 6 rfl) ?_
      refine lv_icmp_ge (tgt := 156) hx hb dK8_level_144 (by decide) (fun c_4 => ?_) (fun c_4 => ?_)
      · have hf := if_t hf c_4
        exact sK8_level_156 X k30 hk30 k42 hk42 v1 v2 v3 v4 v5 v6 v7 I L hf h hl
      · have hf := if_f hf c_4
        exact sK8_level_147 X k30 hk30 k42 hk42 v1 v2 v3 v4 v5 v7 I L hf h (lv_sub hl [0, 1, 2, 3, 4, 5, 7] rfl)
    · have hf := if_t hf c_2
      refine lv_aload_n hx hb dK8_level_120 rfl (lv_at hl 0 rfl) ?_
      refine gf8_price X h w_411 dK8_level_121 ?_
      refine lv_iload hx hb dK8_level_124 (lv_at hl 7 rfl) ?_
      obtain ⟨hi_5, hf⟩ := ck_some hf
      refine gar_9 X h (inb_in hi_5) dK8_level_126 ?_
      refine lv_iload hx hb dK8_level_127 (lv_at hl 6 rfl) ?_
      refine lv_icmp_le (tgt := 156) hx hb dK8_level_129 (by decide) (fun c_6 => ?_) (fun c_6 => ?_)
      · have hf := if_t hf c_6
        exact sK8_level_156 X k30 hk30 k42 hk42 v1 v2 v3 v4 v5 v6 v7 I L hf h hl
      · have hf := if_f hf c_6
        refine lv_goto (tgt := 147) hx hb dK8_level_132 (by decide) ?_
        exact sK8_level_147 X k30 hk30 k42 hk42 v1 v2 v3 v4 v5 v7 I L hf h (lv_sub hl [0, 1, 2, 3, 4, 5, 7] rfl)
set_option maxHeartbeats 4000000 in
set_option maxRecDepth 100000 in
theorem sK8_level_42 {p : Program} {l : Launch} {e : Env} {s : State} {m : MethodId} {args : Array Value} {below : List Frame} {meth : Method} {c : Code} {G : tf_G} (X : tf_X G 16 "TradeFloorModel" cK8_level 8 (some .int) p s m args meth c) {r : Int32} (k30 : Int32 → Int32 → Int32 → Int32 → Int32 → FI → FL → Option (Int32)) (hk30 : ∀ (v1 : Int32) (v2 : Int32) (v3 : Int32) (v4 : Int32) (v5 : Int32) (I : FI) (L : FL), k30 v1 v2 v3 v4 v5 I L = some r → ∀ {H : Heap} {locs : List Loc} {ls : Array Slot}, tf_H G 16 (rE G I L) s.heap H locs → lv_has ls 8 [(0, .ref (al G 0)), (1, .int v1), (2, .int v2), (3, .int v3), (4, .int v4), (5, .int v5)] → W p l e (tf_rm 0 0) s m args below meth c H locs 0 0 (MQ below (tf_Q G 16 (rE G I L) (some (.int r))) args s 0 0 (gA (al G) 16)) (F0 m 30 ls [])) (k42 : Int32 → Int32 → Int32 → Int32 → Int32 → Int32 → Int32 → FI → FL → Option (Int32)) (hk42 : ∀ (v1 : Int32) (v2 : Int32) (v3 : Int32) (v4 : Int32) (v5 : Int32) (v6 : Int32) (v7 : Int32) (I : FI) (L : FL), k42 v1 v2 v3 v4 v5 v6 v7 I L = some r → ∀ {H : Heap} {locs : List Loc} {ls : Array Slot}, tf_H G 16 (rE G I L) s.heap H locs → lv_has ls 8 [(0, .ref (al G 0)), (1, .int v1), (2, .int v2), (3, .int v3), (4, .int v4), (5, .int v5), (6, .int v6), (7, .int v7)] → W p l e (tf_rm 0 0) s m args below meth c H locs 0 0 (MQ below (tf_Q G 16 (rE G I L) (some (.int r))) args s 0 0 (gA (al G) 16)) (F0 m 42 ls [])) (v1 : Int32) (v2 : Int32) (v3 : Int32) (v4 : Int32) (v5 : Int32) (v6 : Int32) (v7 : Int32) (I : FI) (L : FL) (hf : bK8_level_42 k30 k42 v1 v2 v3 v4 v5 v6 v7 I L = some r) {H : Heap} {locs : List Loc} {ls : Array Slot} (h : tf_H G 16 (rE G I L) s.heap H locs) (hl : lv_has ls 8 [(0, .ref (al G 0)), (1, .int v1), (2, .int v2), (3, .int v3), (4, .int v4), (5, .int v5), (6, .int v6), (7, .int v7)]) : W p l e (tf_rm 0 0) s m args below meth c H locs 0 0 (MQ below (tf_Q G 16 (rE G I L) (some (.int r))) args s 0 0 (gA (al G) 16)) (F0 m 42 ls []) := by
  have hx := X.1
  have hb := X.2.1
  have hJ := X.2.2.2.2.2.2.2.2.2
  unfold bK8_level_42 at hf
  refine lv_iload hx hb dK8_level_42 (lv_at hl 7 rfl) ?_
  refine lv_aload_n hx hb dK8_level_44 rfl (lv_at hl 0 rfl) ?_
  refine gf8_orders X h w_406 dK8_level_45 ?_
  refine lv_icmp_ge (tgt := 162) hx hb dK8_level_48 (by decide) (fun c_1 => ?_) (fun c_1 => ?_)
  · have hf := if_t hf c_1
    refine lv_iload hx hb dK8_level_162 (lv_at hl 6 rfl) ?_
    refine lv_if_ge (tgt := 169) hx hb dK8_level_164 (by decide) (fun c_2 => ?_) (fun c_2 => ?_)
    · have hf := if_t hf c_2
      refine lv_iload hx hb dK8_level_169 (lv_at hl 6 rfl) ?_
      refine lv_istore (lv' := [(4, .int v6), (0, .ref (al G 0)), (1, .int v1), (2, .int v2), (3, .int v3), (5, .int v5), (6, .int v6), (7, .int v7)]) hx hb dK8_level_171 hl (by decide) rfl (fun ls hl => ?_)
      obtain ⟨x_3, ex_3, hf⟩ := nm_some hf
      refine lv_iinc (v := x_3) (lv' := [(5, .int x_3), (4, .int v6), (0, .ref (al G 0)), (1, .int v1), (2, .int v2), (3, .int v3), (6, .int v6), (7, .int v7)]) hx hb dK8_level_173 hl (k := 5) rfl (by rw [ex_3]; rfl) (by decide) rfl (fun ls hl => ?_)
      refine lv_goto (tgt := 30) hx hb dK8_level_176 (by decide) ?_
      exact hk30 v1 v2 v3 v6 x_3 I L hf h (lv_sub hl [2, 3, 4, 5, 1, 0] rfl)
    · have hf := if_f hf c_2
      refine lv_iconst (v := (-1)) hx hb dK8_level_167 (by decide) ?_
      cases hf
      exact tf_iret X h dK8_level_168
  · have hf := if_f hf c_1
    refine lv_aload_n hx hb dK8_level_51 rfl (lv_at hl 0 rfl) ?_
    refine gf8_state X h w_407 dK8_level_52 ?_
    refine lv_iload hx hb dK8_level_55 (lv_at hl 7 rfl) ?_
    obtain ⟨hi_4, hf⟩ := ck_some hf
    refine gar_10 X h (inb_in hi_4) dK8_level_57 ?_
    refine lv_if_ne (tgt := 156) hx hb dK8_level_58 (by decide) (fun c_5 => ?_) (fun c_5 => ?_)
    · have hf := if_f hf c_5
      exact sK8_level_156 X k30 hk30 k42 hk42 v1 v2 v3 v4 v5 v6 v7 I L hf h hl
    · have hf := if_t hf c_5
      refine lv_aload_n hx hb dK8_level_61 rfl (lv_at hl 0 rfl) ?_
      refine gf8_side X h w_409 dK8_level_62 ?_
      refine lv_iload hx hb dK8_level_65 (lv_at hl 7 rfl) ?_
      obtain ⟨hi_6, hf⟩ := ck_some hf
      refine gar_7 X h (inb_in hi_6) dK8_level_67 ?_
      refine lv_iload_n hx hb dK8_level_68 rfl (lv_at hl 1 rfl) ?_
      refine lv_icmp_ne (tgt := 156) hx hb dK8_level_69 (by decide) (fun c_7 => ?_) (fun c_7 => ?_)
      · have hf := if_f hf c_7
        exact sK8_level_156 X k30 hk30 k42 hk42 v1 v2 v3 v4 v5 v6 v7 I L hf h hl
      · have hf := if_t hf c_7
        refine lv_iload hx hb dK8_level_72 (lv_at hl 4 rfl) ?_
        refine lv_if_lt (tgt := 111) hx hb dK8_level_74 (by decide) (fun c_8 => ?_) (fun c_8 => ?_)
        · have hf := if_t hf c_8
          exact sK8_level_111 X k30 hk30 k42 hk42 v1 v2 v3 v4 v5 v6 v7 I L hf h hl
        · have hf := if_f hf c_8
          refine lv_iload_n hx hb dK8_level_77 rfl (lv_at hl 1 rfl) ?_
          refine lv_if_ne (tgt := 96) hx hb dK8_level_78 (by decide) (fun c_9 => ?_) (fun c_9 => ?_)
          · have hf := if_f hf c_9
            refine lv_aload_n hx hb dK8_level_96 rfl (lv_at hl 0 rfl) ?_
            refine gf8_price X h w_411 dK8_level_97 ?_
            refine lv_iload hx hb dK8_level_100 (lv_at hl 7 rfl) ?_
            obtain ⟨hi_10, hf⟩ := ck_some hf
            refine gar_9 X h (inb_in hi_10) dK8_level_102 ?_
            refine lv_iload hx hb dK8_level_103 (lv_at hl 4 rfl) ?_
            refine lv_icmp_gt (tgt := 111) hx hb dK8_level_105 (by decide) (fun c_11 => ?_) (fun c_11 => ?_)
            · have hf := if_t hf c_11
              exact sK8_level_111 X k30 hk30 k42 hk42 v1 v2 v3 v4 v5 v6 v7 I L hf h hl
            · have hf := if_f hf c_11
              refine lv_goto (tgt := 156) hx hb dK8_level_108 (by decide) ?_
              exact sK8_level_156 X k30 hk30 k42 hk42 v1 v2 v3 v4 v5 v6 v7 I L hf h hl
          · have hf := if_t hf c_9
            refine lv_aload_n hx hb dK8_level_81 rfl (lv_at hl 0 rfl) ?_
            refine gf8_price X h w_411 dK8_level_82 ?_
            refine lv_iload hx hb dK8_level_85 (lv_at hl 7 rfl) ?_
            obtain ⟨hi_12, hf⟩ := ck_some hf
            refine gar_9 X h (inb_in hi_12) dK8_level_87 ?_
            refine lv_iload hx hb dK8_level_88 (lv_at hl 4 rfl) ?_
            refine lv_icmp_lt (tgt := 111) hx hb dK8_level_90 (by decide) (fun c_13 => ?_) (fun c_13 => ?_)
            · have hf := if_t hf c_13
              exact sK8_level_111 X k30 hk30 k42 hk42 v1 v2 v3 v4 v5 v6 v7 I L hf h hl
            · have hf := if_f hf c_13
              refine lv_goto (tgt := 156) hx hb dK8_level_93 (by decide) ?_
              exact sK8_level_156 X k30 hk30 k42 hk42 v1 v2 v3 v4 v5 v6 v7 I L hf h hl
theorem lK8_level_42 {p : Program} {l : Launch} {e : Env} {s : State} {m : MethodId} {args : Array Value} {below : List Frame} {meth : Method} {c : Code} {G : tf_G} (X : tf_X G 16 "TradeFloorModel" cK8_level 8 (some .int) p s m args meth c) {r : Int32} (k30 : Int32 → Int32 → Int32 → Int32 → Int32 → FI → FL → Option (Int32)) (hk30 : ∀ (v1 : Int32) (v2 : Int32) (v3 : Int32) (v4 : Int32) (v5 : Int32) (I : FI) (L : FL), k30 v1 v2 v3 v4 v5 I L = some r → ∀ {H : Heap} {locs : List Loc} {ls : Array Slot}, tf_H G 16 (rE G I L) s.heap H locs → lv_has ls 8 [(0, .ref (al G 0)), (1, .int v1), (2, .int v2), (3, .int v3), (4, .int v4), (5, .int v5)] → W p l e (tf_rm 0 0) s m args below meth c H locs 0 0 (MQ below (tf_Q G 16 (rE G I L) (some (.int r))) args s 0 0 (gA (al G) 16)) (F0 m 30 ls [])) : ∀ (n : Nat), ∀ (v1 : Int32) (v2 : Int32) (v3 : Int32) (v4 : Int32) (v5 : Int32) (v6 : Int32) (v7 : Int32) (I : FI) (L : FL), fK8_level_42 k30 n v1 v2 v3 v4 v5 v6 v7 I L = some r → ∀ {H : Heap} {locs : List Loc} {ls : Array Slot}, tf_H G 16 (rE G I L) s.heap H locs → lv_has ls 8 [(0, .ref (al G 0)), (1, .int v1), (2, .int v2), (3, .int v3), (4, .int v4), (5, .int v5), (6, .int v6), (7, .int v7)] → W p l e (tf_rm 0 0) s m args below meth c H locs 0 0 (MQ below (tf_Q G 16 (rE G I L) (some (.int r))) args s 0 0 (gA (al G) 16)) (F0 m 42 ls []) := by
  intro n
  induction n with
  | zero =>
    intro v1 v2 v3 v4 v5 v6 v7 I L hf
    exact absurd hf (by simp [fK8_level_42])
  | succ n ih =>
    intro v1 v2 v3 v4 v5 v6 v7 I L hf H locs ls h hl
    exact sK8_level_42 X k30 hk30 (fK8_level_42 k30 n) ih v1 v2 v3 v4 v5 v6 v7 I L hf h hl
set_option maxHeartbeats 4000000 in
set_option maxRecDepth 100000 in
theorem sK8_level_30 {p : Program} {l : Launch} {e : Env} {s : State} {m : MethodId} {args : Array Value} {below : List Frame} {meth : Method} {c : Code} {G : tf_G} (X : tf_X G 16 "TradeFloorModel" cK8_level 8 (some .int) p s m args meth c) {r : Int32} (k30 : Int32 → Int32 → Int32 → Int32 → Int32 → FI → FL → Option (Int32)) (hk30 : ∀ (v1 : Int32) (v2 : Int32) (v3 : Int32) (v4 : Int32) (v5 : Int32) (I : FI) (L : FL), k30 v1 v2 v3 v4 v5 I L = some r → ∀ {H : Heap} {locs : List Loc} {ls : Array Slot}, tf_H G 16 (rE G I L) s.heap H locs → lv_has ls 8 [(0, .ref (al G 0)), (1, .int v1), (2, .int v2), (3, .int v3), (4, .int v4), (5, .int v5)] → W p l e (tf_rm 0 0) s m args below meth c H locs 0 0 (MQ below (tf_Q G 16 (rE G I L) (some (.int r))) args s 0 0 (gA (al G) 16)) (F0 m 30 ls [])) (v1 : Int32) (v2 : Int32) (v3 : Int32) (v4 : Int32) (v5 : Int32) (I : FI) (L : FL) (hf : bK8_level_30 k30 v1 v2 v3 v4 v5 I L = some r) {H : Heap} {locs : List Loc} {ls : Array Slot} (h : tf_H G 16 (rE G I L) s.heap H locs) (hl : lv_has ls 8 [(0, .ref (al G 0)), (1, .int v1), (2, .int v2), (3, .int v3), (4, .int v4), (5, .int v5)]) : W p l e (tf_rm 0 0) s m args below meth c H locs 0 0 (MQ below (tf_Q G 16 (rE G I L) (some (.int r))) args s 0 0 (gA (al G) 16)) (F0 m 30 ls []) := by
  have hx := X.1
  have hb := X.2.1
  have hJ := X.2.2.2.2.2.2.2.2.2
  unfold bK8_level_30 at hf
  refine lv_iload hx hb dK8_level_30 (lv_at hl 5 rfl) ?_
  refine lv_iload_n hx hb dK8_level_32 rfl (lv_at hl 2 rfl) ?_
  refine lv_icmp_gt (tgt := 179) hx hb dK8_level_33 (by decide) (fun c_1 => ?_) (fun c_1 => ?_)
  · have hf := if_t hf c_1
    refine lv_iconst (v := 0) hx hb dK8_level_179 (by decide) ?_
    refine lv_istore (lv' := [(5, .int 0), (0, .ref (al G 0)), (1, .int v1), (2, .int v2), (3, .int v3), (4, .int v4)]) hx hb dK8_level_180 hl (by decide) rfl (fun ls hl => ?_)
    refine lv_iconst (v := 0) hx hb dK8_level_182 (by decide) ?_
    refine lv_istore (lv' := [(6, .int 0), (5, .int 0), (0, .ref (al G 0)), (1, .int v1), (2, .int v2), (3, .int v3), (4, .int v4)]) hx hb dK8_level_183 hl (by decide) rfl (fun ls hl => ?_)
    refine lv_iconst (v := 0) hx hb dK8_level_185 (by decide) ?_
    refine lv_istore (lv' := [(7, .int 0), (6, .int 0), (5, .int 0), (0, .ref (al G 0)), (1, .int v1), (2, .int v2), (3, .int v3), (4, .int v4)]) hx hb dK8_level_186 hl (by decide) rfl (fun ls hl => ?_)
    exact lK8_level_188 X FU v1 v3 v4 0 0 0 I L hf h (lv_sub hl [3, 4, 6, 7, 2, 1, 0] rfl)
  · have hf := if_f hf c_1
    refine lv_iconst (v := (-1)) hx hb dK8_level_36 (by decide) ?_
    refine lv_istore (lv' := [(6, .int (-1)), (0, .ref (al G 0)), (1, .int v1), (2, .int v2), (3, .int v3), (4, .int v4), (5, .int v5)]) hx hb dK8_level_37 hl (by decide) rfl (fun ls hl => ?_)
    refine lv_iconst (v := 0) hx hb dK8_level_39 (by decide) ?_
    refine lv_istore (lv' := [(7, .int 0), (6, .int (-1)), (0, .ref (al G 0)), (1, .int v1), (2, .int v2), (3, .int v3), (4, .int v4), (5, .int v5)]) hx hb dK8_level_40 hl (by decide) rfl (fun ls hl => ?_)
    exact lK8_level_42 X k30 hk30 FU v1 v2 v3 v4 v5 (-1) 0 I L hf h (lv_sub hl [2, 3, 4, 5, 6, 7, 1, 0] rfl)
theorem lK8_level_30 {p : Program} {l : Launch} {e : Env} {s : State} {m : MethodId} {args : Array Value} {below : List Frame} {meth : Method} {c : Code} {G : tf_G} (X : tf_X G 16 "TradeFloorModel" cK8_level 8 (some .int) p s m args meth c) {r : Int32} : ∀ (n : Nat), ∀ (v1 : Int32) (v2 : Int32) (v3 : Int32) (v4 : Int32) (v5 : Int32) (I : FI) (L : FL), fK8_level_30 n v1 v2 v3 v4 v5 I L = some r → ∀ {H : Heap} {locs : List Loc} {ls : Array Slot}, tf_H G 16 (rE G I L) s.heap H locs → lv_has ls 8 [(0, .ref (al G 0)), (1, .int v1), (2, .int v2), (3, .int v3), (4, .int v4), (5, .int v5)] → W p l e (tf_rm 0 0) s m args below meth c H locs 0 0 (MQ below (tf_Q G 16 (rE G I L) (some (.int r))) args s 0 0 (gA (al G) 16)) (F0 m 30 ls []) := by
  intro n
  induction n with
  | zero =>
    intro v1 v2 v3 v4 v5 I L hf
    exact absurd hf (by simp [fK8_level_30])
  | succ n ih =>
    intro v1 v2 v3 v4 v5 I L hf H locs ls h hl
    exact sK8_level_30 X (fK8_level_30 n) ih v1 v2 v3 v4 v5 I L hf h hl
set_option maxHeartbeats 4000000 in
set_option maxRecDepth 100000 in
theorem sK8_level_0 {p : Program} {l : Launch} {e : Env} {s : State} {m : MethodId} {args : Array Value} {below : List Frame} {meth : Method} {c : Code} {G : tf_G} (X : tf_X G 16 "TradeFloorModel" cK8_level 8 (some .int) p s m args meth c) {r : Int32} (a1 : Int32) (a2 : Int32) (a3 : Int32) (I : FI) (L : FL) (hf : fK8_level a1 a2 a3 I L = some r) {H : Heap} {locs : List Loc} {ls : Array Slot} (h : tf_H G 16 (rE G I L) s.heap H locs) (hl : lv_has ls 8 [(0, .ref (al G 0)), (1, .int a1), (2, .int a2), (3, .int a3)]) : W p l e (tf_rm 0 0) s m args below meth c H locs 0 0 (MQ below (tf_Q G 16 (rE G I L) (some (.int r))) args s 0 0 (gA (al G) 16)) (F0 m 0 ls []) := by
  have hx := X.1
  have hb := X.2.1
  have hJ := X.2.2.2.2.2.2.2.2.2
  unfold fK8_level at hf
  refine lv_iload_n hx hb dK8_level_0 rfl (lv_at hl 1 rfl) ?_
  refine lv_if_lt (tgt := 22) hx hb dK8_level_1 (by decide) (fun c_1 => ?_) (fun c_1 => ?_)
  · have hf := if_t hf c_1
    refine lv_iconst (v := (-1)) hx hb dK8_level_22 (by decide) ?_
    cases hf
    exact tf_iret X h dK8_level_23
  · have hf := if_f hf c_1
    refine lv_iload_n hx hb dK8_level_4 rfl (lv_at hl 1 rfl) ?_
    refine lv_iconst (v := 1) hx hb dK8_level_5 (by decide) ?_
    refine lv_icmp_gt (tgt := 22) hx hb dK8_level_6 (by decide) (fun c_2 => ?_) (fun c_2 => ?_)
    · have hf := if_t hf c_2
      refine lv_iconst (v := (-1)) hx hb dK8_level_22 (by decide) ?_
      cases hf
      exact tf_iret X h dK8_level_23
    · have hf := if_f hf c_2
      refine lv_iload_n hx hb dK8_level_9 rfl (lv_at hl 2 rfl) ?_
      refine lv_if_lt (tgt := 22) hx hb dK8_level_10 (by decide) (fun c_3 => ?_) (fun c_3 => ?_)
      · have hf := if_t hf c_3
        refine lv_iconst (v := (-1)) hx hb dK8_level_22 (by decide) ?_
        cases hf
        exact tf_iret X h dK8_level_23
      · have hf := if_f hf c_3
        refine lv_iload_n hx hb dK8_level_13 rfl (lv_at hl 3 rfl) ?_
        refine lv_if_lt (tgt := 22) hx hb dK8_level_14 (by decide) (fun c_4 => ?_) (fun c_4 => ?_)
        · have hf := if_t hf c_4
          refine lv_iconst (v := (-1)) hx hb dK8_level_22 (by decide) ?_
          cases hf
          exact tf_iret X h dK8_level_23
        · have hf := if_f hf c_4
          refine lv_iload_n hx hb dK8_level_17 rfl (lv_at hl 3 rfl) ?_
          refine lv_iconst (v := 2) hx hb dK8_level_18 (by decide) ?_
          refine lv_icmp_le (tgt := 24) hx hb dK8_level_19 (by decide) (fun c_5 => ?_) (fun c_5 => ?_)
          · have hf := if_t hf c_5
            refine lv_iconst (v := (-1)) hx hb dK8_level_24 (by decide) ?_
            refine lv_istore (lv' := [(4, .int (-1)), (0, .ref (al G 0)), (1, .int a1), (2, .int a2), (3, .int a3)]) hx hb dK8_level_25 hl (by decide) rfl (fun ls hl => ?_)
            refine lv_iconst (v := 0) hx hb dK8_level_27 (by decide) ?_
            refine lv_istore (lv' := [(5, .int 0), (4, .int (-1)), (0, .ref (al G 0)), (1, .int a1), (2, .int a2), (3, .int a3)]) hx hb dK8_level_28 hl (by decide) rfl (fun ls hl => ?_)
            exact lK8_level_30 X FU a1 a2 a3 (-1) 0 I L hf h (lv_sub hl [2, 3, 4, 5, 1, 0] rfl)
          · have hf := if_f hf c_5
            refine lv_iconst (v := (-1)) hx hb dK8_level_22 (by decide) ?_
            cases hf
            exact tf_iret X h dK8_level_23
theorem mK8_level {l : Launch} {G : tf_G} (hJ : gJ (al G) 16) {r : Int32} {a1 : Int32} {a2 : Int32} {a3 : Int32} {I : FI} {L : FL} (hf : fK8_level a1 a2 a3 I L = some r) : tf_Met l G 16 yK8_level cK8_level 8 (some .int) 0 0 [.ref (al G 0), .int a1, .int a2, .int a3] (rE G I L) (rE G I L) (some (.int r)) :=
  tf_enter (by decide +kernel) hJ (Nat.le_of_ble_eq_true rfl) (fun p e s m args below meth c ls X _ hl h => sK8_level_0 X a1 a2 a3 I L hf h hl)
theorem bwK8_level : tf_cv yK8_level cK8_level 8 (some .int) 3 := ⟨w_487, w_488, w_489, w_381, by decide +kernel, by decide +kernel, by decide +kernel⟩

set_option maxHeartbeats 4000000 in
set_option maxRecDepth 100000 in
theorem sK8_trade_0 {p : Program} {l : Launch} {e : Env} {s : State} {m : MethodId} {args : Array Value} {below : List Frame} {meth : Method} {c : Code} {G : tf_G} (X : tf_X G 16 "TradeFloorModel" cK8_trade 4 (some .int) p s m args meth c) {r : Int32} (a1 : Int32) (a2 : Int32) (I : FI) (L : FL) (hf : fK8_trade a1 a2 I L = some r) {H : Heap} {locs : List Loc} {ls : Array Slot} (h : tf_H G 16 (rE G I L) s.heap H locs) (hl : lv_has ls 4 [(0, .ref (al G 0)), (1, .int a1), (2, .int a2)]) : W p l e (tf_rm 0 0) s m args below meth c H locs 0 0 (MQ below (tf_Q G 16 (rE G I L) (some (.int r))) args s 0 0 (gA (al G) 16)) (F0 m 0 ls []) := by
  have hx := X.1
  have hb := X.2.1
  have hJ := X.2.2.2.2.2.2.2.2.2
  unfold fK8_trade at hf
  refine lv_iload_n hx hb dK8_trade_0 rfl (lv_at hl 1 rfl) ?_
  refine lv_if_lt (tgt := 33) hx hb dK8_trade_1 (by decide) (fun c_1 => ?_) (fun c_1 => ?_)
  · have hf := if_t hf c_1
    refine lv_iconst (v := (-1)) hx hb dK8_trade_33 (by decide) ?_
    cases hf
    exact tf_iret X h dK8_trade_34
  · have hf := if_f hf c_1
    refine lv_iload_n hx hb dK8_trade_4 rfl (lv_at hl 1 rfl) ?_
    refine lv_aload_n hx hb dK8_trade_5 rfl (lv_at hl 0 rfl) ?_
    refine gf8_trades X h w_443 dK8_trade_6 ?_
    refine lv_icmp_ge (tgt := 33) hx hb dK8_trade_9 (by decide) (fun c_2 => ?_) (fun c_2 => ?_)
    · have hf := if_t hf c_2
      refine lv_iconst (v := (-1)) hx hb dK8_trade_33 (by decide) ?_
      cases hf
      exact tf_iret X h dK8_trade_34
    · have hf := if_f hf c_2
      refine lv_iload_n hx hb dK8_trade_12 rfl (lv_at hl 1 rfl) ?_
      refine lv_aload_n hx hb dK8_trade_13 rfl (lv_at hl 0 rfl) ?_
      refine gf8_trades X h w_443 dK8_trade_14 ?_
      refine lv_sipush (v := 200) hx hb dK8_trade_17 (by decide) ?_
      refine lv_isub hx hb dK8_trade_20 ?_
      refine lv_icmp_lt (tgt := 33) hx hb dK8_trade_21 (by decide) (fun c_3 => ?_) (fun c_3 => ?_)
      · have hf := if_t hf c_3
        refine lv_iconst (v := (-1)) hx hb dK8_trade_33 (by decide) ?_
        cases hf
        exact tf_iret X h dK8_trade_34
      · have hf := if_f hf c_3
        refine lv_iload_n hx hb dK8_trade_24 rfl (lv_at hl 2 rfl) ?_
        refine lv_if_lt (tgt := 33) hx hb dK8_trade_25 (by decide) (fun c_4 => ?_) (fun c_4 => ?_)
        · have hf := if_t hf c_4
          refine lv_iconst (v := (-1)) hx hb dK8_trade_33 (by decide) ?_
          cases hf
          exact tf_iret X h dK8_trade_34
        · have hf := if_f hf c_4
          refine lv_iload_n hx hb dK8_trade_28 rfl (lv_at hl 2 rfl) ?_
          refine lv_iconst (v := 3) hx hb dK8_trade_29 (by decide) ?_
          refine lv_icmp_le (tgt := 35) hx hb dK8_trade_30 (by decide) (fun c_5 => ?_) (fun c_5 => ?_)
          · have hf := if_t hf c_5
            refine lv_iload_n hx hb dK8_trade_35 rfl (lv_at hl 1 rfl) ?_
            refine lv_sipush (v := 200) hx hb dK8_trade_36 (by decide) ?_
            refine lv_irem hx hb dK8_trade_39 (by decide) ?_
            refine lv_topi (fun x_6 ex_6 => ?_)
            have hf := nm_at hf ex_6
            refine lv_istore_n (lv' := [(3, .int x_6), (0, .ref (al G 0)), (1, .int a1), (2, .int a2)]) hx hb dK8_trade_40 rfl hl (by decide) rfl (fun ls hl => ?_)
            refine lv_iload_n hx hb dK8_trade_41 rfl (lv_at hl 3 rfl) ?_
            refine lv_if_ne (tgt := 54) hx hb dK8_trade_42 (by decide) (fun c_7 => ?_) (fun c_7 => ?_)
            · have hf := if_f hf c_7
              refine lv_iload_n hx hb dK8_trade_54 rfl (lv_at hl 3 rfl) ?_
              refine lv_iconst (v := 1) hx hb dK8_trade_55 (by decide) ?_
              refine lv_icmp_ne (tgt := 68) hx hb dK8_trade_56 (by decide) (fun c_8 => ?_) (fun c_8 => ?_)
              · have hf := if_f hf c_8
                refine lv_iload_n hx hb dK8_trade_68 rfl (lv_at hl 3 rfl) ?_
                refine lv_iconst (v := 2) hx hb dK8_trade_69 (by decide) ?_
                refine lv_icmp_ne (tgt := 82) hx hb dK8_trade_70 (by decide) (fun c_9 => ?_) (fun c_9 => ?_)
                · have hf := if_f hf c_9
                  refine lv_aload_n hx hb dK8_trade_82 rfl (lv_at hl 1 rfl) ?_
                  refine gf8_many X h w_448 dK8_trade_83 ?_
                  refine lv_iload_n hx hb dK8_trade_86 rfl (lv_at hl 0 rfl) ?_
                  obtain ⟨hi_10, hf⟩ := ck_some hf
                  refine gar_15 X h (inb_in hi_10) dK8_trade_87 ?_
                  cases hf
                  exact tf_iret X h dK8_trade_88
                · have hf := if_t hf c_9
                  refine lv_aload_n hx hb dK8_trade_73 rfl (lv_at hl 1 rfl) ?_
                  refine gf8_paid X h w_447 dK8_trade_74 ?_
                  refine lv_iload_n hx hb dK8_trade_77 rfl (lv_at hl 0 rfl) ?_
                  obtain ⟨hi_11, hf⟩ := ck_some hf
                  refine gar_14 X h (inb_in hi_11) dK8_trade_78 ?_
                  refine lv_goto (tgt := 88) hx hb dK8_trade_79 (by decide) ?_
                  cases hf
                  exact tf_iret X h dK8_trade_88
              · have hf := if_t hf c_8
                refine lv_aload_n hx hb dK8_trade_59 rfl (lv_at hl 1 rfl) ?_
                refine gf8_seller X h w_446 dK8_trade_60 ?_
                refine lv_iload_n hx hb dK8_trade_63 rfl (lv_at hl 0 rfl) ?_
                obtain ⟨hi_12, hf⟩ := ck_some hf
                refine gar_13 X h (inb_in hi_12) dK8_trade_64 ?_
                refine lv_goto (tgt := 88) hx hb dK8_trade_65 (by decide) ?_
                cases hf
                exact tf_iret X h dK8_trade_88
            · have hf := if_t hf c_7
              refine lv_aload_n hx hb dK8_trade_45 rfl (lv_at hl 1 rfl) ?_
              refine gf8_buyer X h w_445 dK8_trade_46 ?_
              refine lv_iload_n hx hb dK8_trade_49 rfl (lv_at hl 0 rfl) ?_
              obtain ⟨hi_13, hf⟩ := ck_some hf
              refine gar_12 X h (inb_in hi_13) dK8_trade_50 ?_
              refine lv_goto (tgt := 88) hx hb dK8_trade_51 (by decide) ?_
              cases hf
              exact tf_iret X h dK8_trade_88
          · have hf := if_f hf c_5
            refine lv_iconst (v := (-1)) hx hb dK8_trade_33 (by decide) ?_
            cases hf
            exact tf_iret X h dK8_trade_34
theorem mK8_trade {l : Launch} {G : tf_G} (hJ : gJ (al G) 16) {r : Int32} {a1 : Int32} {a2 : Int32} {I : FI} {L : FL} (hf : fK8_trade a1 a2 I L = some r) : tf_Met l G 16 yK8_trade cK8_trade 4 (some .int) 0 0 [.ref (al G 0), .int a1, .int a2] (rE G I L) (rE G I L) (some (.int r)) :=
  tf_enter (by decide +kernel) hJ (Nat.le_of_ble_eq_true rfl) (fun p e s m args below meth c ls X _ hl h => sK8_trade_0 X a1 a2 I L hf h hl)
theorem bwK8_trade : tf_cv yK8_trade cK8_trade 4 (some .int) 2 := ⟨w_490, w_491, w_492, w_381, by decide +kernel, by decide +kernel, by decide +kernel⟩

set_option maxHeartbeats 4000000 in
set_option maxRecDepth 100000 in
theorem sK8_count_37 {p : Program} {l : Launch} {e : Env} {s : State} {m : MethodId} {args : Array Value} {below : List Frame} {meth : Method} {c : Code} {G : tf_G} (X : tf_X G 16 "TradeFloorModel" cK8_count 4 (some .int) p s m args meth c) {r : Int32} (k16 : Int32 → Int32 → Int32 → FI → FL → Option (Int32)) (hk16 : ∀ (v1 : Int32) (v2 : Int32) (v3 : Int32) (I : FI) (L : FL), k16 v1 v2 v3 I L = some r → ∀ {H : Heap} {locs : List Loc} {ls : Array Slot}, tf_H G 16 (rE G I L) s.heap H locs → lv_has ls 4 [(0, .ref (al G 0)), (1, .int v1), (2, .int v2), (3, .int v3)] → W p l e (tf_rm 0 0) s m args below meth c H locs 0 0 (MQ below (tf_Q G 16 (rE G I L) (some (.int r))) args s 0 0 (gA (al G) 16)) (F0 m 16 ls [])) (v1 : Int32) (v2 : Int32) (v3 : Int32) (I : FI) (L : FL) (hf : fK8_count_37 k16 v1 v2 v3 I L = some r) {H : Heap} {locs : List Loc} {ls : Array Slot} (h : tf_H G 16 (rE G I L) s.heap H locs) (hl : lv_has ls 4 [(0, .ref (al G 0)), (1, .int v1), (2, .int v2), (3, .int v3)]) : W p l e (tf_rm 0 0) s m args below meth c H locs 0 0 (MQ below (tf_Q G 16 (rE G I L) (some (.int r))) args s 0 0 (gA (al G) 16)) (F0 m 37 ls []) := by
  have hx := X.1
  have hb := X.2.1
  have hJ := X.2.2.2.2.2.2.2.2.2
  unfold fK8_count_37 at hf
  obtain ⟨x_1, ex_1, hf⟩ := nm_some hf
  refine lv_iinc (v := x_1) (lv' := [(3, .int x_1), (0, .ref (al G 0)), (1, .int v1), (2, .int v2)]) hx hb dK8_count_37 hl (k := 3) rfl (by rw [ex_1]; rfl) (by decide) rfl (fun ls hl => ?_)
  refine lv_goto (tgt := 16) hx hb dK8_count_40 (by decide) ?_
  exact hk16 v1 v2 x_1 I L hf h (lv_sub hl [1, 2, 3, 0] rfl)
set_option maxHeartbeats 4000000 in
set_option maxRecDepth 100000 in
theorem sK8_count_16 {p : Program} {l : Launch} {e : Env} {s : State} {m : MethodId} {args : Array Value} {below : List Frame} {meth : Method} {c : Code} {G : tf_G} (X : tf_X G 16 "TradeFloorModel" cK8_count 4 (some .int) p s m args meth c) {r : Int32} (k16 : Int32 → Int32 → Int32 → FI → FL → Option (Int32)) (hk16 : ∀ (v1 : Int32) (v2 : Int32) (v3 : Int32) (I : FI) (L : FL), k16 v1 v2 v3 I L = some r → ∀ {H : Heap} {locs : List Loc} {ls : Array Slot}, tf_H G 16 (rE G I L) s.heap H locs → lv_has ls 4 [(0, .ref (al G 0)), (1, .int v1), (2, .int v2), (3, .int v3)] → W p l e (tf_rm 0 0) s m args below meth c H locs 0 0 (MQ below (tf_Q G 16 (rE G I L) (some (.int r))) args s 0 0 (gA (al G) 16)) (F0 m 16 ls [])) (v1 : Int32) (v2 : Int32) (v3 : Int32) (I : FI) (L : FL) (hf : bK8_count_16 k16 v1 v2 v3 I L = some r) {H : Heap} {locs : List Loc} {ls : Array Slot} (h : tf_H G 16 (rE G I L) s.heap H locs) (hl : lv_has ls 4 [(0, .ref (al G 0)), (1, .int v1), (2, .int v2), (3, .int v3)]) : W p l e (tf_rm 0 0) s m args below meth c H locs 0 0 (MQ below (tf_Q G 16 (rE G I L) (some (.int r))) args s 0 0 (gA (al G) 16)) (F0 m 16 ls []) := by
  have hx := X.1
  have hb := X.2.1
  have hJ := X.2.2.2.2.2.2.2.2.2
  unfold bK8_count_16 at hf
  refine lv_iload_n hx hb dK8_count_16 rfl (lv_at hl 3 rfl) ?_
  refine lv_aload_n hx hb dK8_count_17 rfl (lv_at hl 0 rfl) ?_
  refine gf8_orders X h w_406 dK8_count_18 ?_
  refine lv_icmp_ge (tgt := 43) hx hb dK8_count_21 (by decide) (fun c_1 => ?_) (fun c_1 => ?_)
  · have hf := if_t hf c_1
    refine lv_iload_n hx hb dK8_count_43 rfl (lv_at hl 1 rfl) ?_
    refine lv_if_ne (tgt := 54) hx hb dK8_count_44 (by decide) (fun c_2 => ?_) (fun c_2 => ?_)
    · have hf := if_f hf c_2
      refine lv_iload_n hx hb dK8_count_54 rfl (lv_at hl 1 rfl) ?_
      refine lv_iconst (v := 1) hx hb dK8_count_55 (by decide) ?_
      refine lv_icmp_ne (tgt := 66) hx hb dK8_count_56 (by decide) (fun c_3 => ?_) (fun c_3 => ?_)
      · have hf := if_f hf c_3
        refine lv_iload_n hx hb dK8_count_66 rfl (lv_at hl 1 rfl) ?_
        refine lv_iconst (v := 2) hx hb dK8_count_67 (by decide) ?_
        refine lv_icmp_ne (tgt := 78) hx hb dK8_count_68 (by decide) (fun c_4 => ?_) (fun c_4 => ?_)
        · have hf := if_f hf c_4
          refine lv_iload_n hx hb dK8_count_78 rfl (lv_at hl 1 rfl) ?_
          refine lv_iconst (v := 3) hx hb dK8_count_79 (by decide) ?_
          refine lv_icmp_ne (tgt := 90) hx hb dK8_count_80 (by decide) (fun c_5 => ?_) (fun c_5 => ?_)
          · have hf := if_f hf c_5
            refine lv_iload_n hx hb dK8_count_90 rfl (lv_at hl 1 rfl) ?_
            refine lv_iconst (v := 4) hx hb dK8_count_91 (by decide) ?_
            refine lv_icmp_ne (tgt := 102) hx hb dK8_count_92 (by decide) (fun c_6 => ?_) (fun c_6 => ?_)
            · have hf := if_f hf c_6
              refine lv_iload_n hx hb dK8_count_102 rfl (lv_at hl 1 rfl) ?_
              refine lv_iconst (v := 5) hx hb dK8_count_103 (by decide) ?_
              refine lv_icmp_ne (tgt := 114) hx hb dK8_count_104 (by decide) (fun c_7 => ?_) (fun c_7 => ?_)
              · have hf := if_f hf c_7
                refine lv_iload_n hx hb dK8_count_114 rfl (lv_at hl 2 rfl) ?_
                cases hf
                exact tf_iret X h dK8_count_115
              · have hf := if_t hf c_7
                refine lv_aload_n hx hb dK8_count_107 rfl (lv_at hl 0 rfl) ?_
                refine gf8_size X h w_378 dK8_count_108 ?_
                refine lv_goto (tgt := 115) hx hb dK8_count_111 (by decide) ?_
                cases hf
                exact tf_iret X h dK8_count_115
            · have hf := if_t hf c_6
              refine lv_aload_n hx hb dK8_count_95 rfl (lv_at hl 0 rfl) ?_
              refine gf8_now X h w_461 dK8_count_96 ?_
              refine lv_goto (tgt := 115) hx hb dK8_count_99 (by decide) ?_
              cases hf
              exact tf_iret X h dK8_count_115
          · have hf := if_t hf c_5
            refine lv_aload_n hx hb dK8_count_83 rfl (lv_at hl 0 rfl) ?_
            refine gf8_last X h w_444 dK8_count_84 ?_
            refine lv_goto (tgt := 115) hx hb dK8_count_87 (by decide) ?_
            cases hf
            exact tf_iret X h dK8_count_115
        · have hf := if_t hf c_4
          refine lv_aload_n hx hb dK8_count_71 rfl (lv_at hl 0 rfl) ?_
          refine gf8_refusals X h w_476 dK8_count_72 ?_
          refine lv_goto (tgt := 115) hx hb dK8_count_75 (by decide) ?_
          cases hf
          exact tf_iret X h dK8_count_115
      · have hf := if_t hf c_3
        refine lv_aload_n hx hb dK8_count_59 rfl (lv_at hl 0 rfl) ?_
        refine gf8_trades X h w_443 dK8_count_60 ?_
        refine lv_goto (tgt := 115) hx hb dK8_count_63 (by decide) ?_
        cases hf
        exact tf_iret X h dK8_count_115
    · have hf := if_t hf c_2
      refine lv_aload_n hx hb dK8_count_47 rfl (lv_at hl 0 rfl) ?_
      refine gf8_orders X h w_406 dK8_count_48 ?_
      refine lv_goto (tgt := 115) hx hb dK8_count_51 (by decide) ?_
      cases hf
      exact tf_iret X h dK8_count_115
  · have hf := if_f hf c_1
    refine lv_aload_n hx hb dK8_count_24 rfl (lv_at hl 0 rfl) ?_
    refine gf8_state X h w_407 dK8_count_25 ?_
    refine lv_iload_n hx hb dK8_count_28 rfl (lv_at hl 3 rfl) ?_
    obtain ⟨hi_8, hf⟩ := ck_some hf
    refine gar_10 X h (inb_in hi_8) dK8_count_29 ?_
    refine lv_iconst (v := 1) hx hb dK8_count_30 (by decide) ?_
    refine lv_icmp_ne (tgt := 37) hx hb dK8_count_31 (by decide) (fun c_9 => ?_) (fun c_9 => ?_)
    · have hf := if_f hf c_9
      exact sK8_count_37 X k16 hk16 v1 v2 v3 I L hf h hl
    · have hf := if_t hf c_9
      obtain ⟨x_10, ex_10, hf⟩ := nm_some hf
      refine lv_iinc (v := x_10) (lv' := [(2, .int x_10), (0, .ref (al G 0)), (1, .int v1), (3, .int v3)]) hx hb dK8_count_34 hl (k := 2) rfl (by rw [ex_10]; rfl) (by decide) rfl (fun ls hl => ?_)
      exact sK8_count_37 X k16 hk16 v1 x_10 v3 I L hf h (lv_sub hl [1, 2, 0, 3] rfl)
theorem lK8_count_16 {p : Program} {l : Launch} {e : Env} {s : State} {m : MethodId} {args : Array Value} {below : List Frame} {meth : Method} {c : Code} {G : tf_G} (X : tf_X G 16 "TradeFloorModel" cK8_count 4 (some .int) p s m args meth c) {r : Int32} : ∀ (n : Nat), ∀ (v1 : Int32) (v2 : Int32) (v3 : Int32) (I : FI) (L : FL), fK8_count_16 n v1 v2 v3 I L = some r → ∀ {H : Heap} {locs : List Loc} {ls : Array Slot}, tf_H G 16 (rE G I L) s.heap H locs → lv_has ls 4 [(0, .ref (al G 0)), (1, .int v1), (2, .int v2), (3, .int v3)] → W p l e (tf_rm 0 0) s m args below meth c H locs 0 0 (MQ below (tf_Q G 16 (rE G I L) (some (.int r))) args s 0 0 (gA (al G) 16)) (F0 m 16 ls []) := by
  intro n
  induction n with
  | zero =>
    intro v1 v2 v3 I L hf
    exact absurd hf (by simp [fK8_count_16])
  | succ n ih =>
    intro v1 v2 v3 I L hf H locs ls h hl
    exact sK8_count_16 X (fK8_count_16 n) ih v1 v2 v3 I L hf h hl
set_option maxHeartbeats 4000000 in
set_option maxRecDepth 100000 in
theorem sK8_count_0 {p : Program} {l : Launch} {e : Env} {s : State} {m : MethodId} {args : Array Value} {below : List Frame} {meth : Method} {c : Code} {G : tf_G} (X : tf_X G 16 "TradeFloorModel" cK8_count 4 (some .int) p s m args meth c) {r : Int32} (a1 : Int32) (I : FI) (L : FL) (hf : fK8_count a1 I L = some r) {H : Heap} {locs : List Loc} {ls : Array Slot} (h : tf_H G 16 (rE G I L) s.heap H locs) (hl : lv_has ls 4 [(0, .ref (al G 0)), (1, .int a1)]) : W p l e (tf_rm 0 0) s m args below meth c H locs 0 0 (MQ below (tf_Q G 16 (rE G I L) (some (.int r))) args s 0 0 (gA (al G) 16)) (F0 m 0 ls []) := by
  have hx := X.1
  have hb := X.2.1
  have hJ := X.2.2.2.2.2.2.2.2.2
  unfold fK8_count at hf
  refine lv_iload_n hx hb dK8_count_0 rfl (lv_at hl 1 rfl) ?_
  refine lv_if_lt (tgt := 10) hx hb dK8_count_1 (by decide) (fun c_1 => ?_) (fun c_1 => ?_)
  · have hf := if_t hf c_1
    refine lv_iconst (v := (-1)) hx hb dK8_count_10 (by decide) ?_
    cases hf
    exact tf_iret X h dK8_count_11
  · have hf := if_f hf c_1
    refine lv_iload_n hx hb dK8_count_4 rfl (lv_at hl 1 rfl) ?_
    refine lv_bipush (v := 6) hx hb dK8_count_5 (by decide) ?_
    refine lv_icmp_le (tgt := 12) hx hb dK8_count_7 (by decide) (fun c_2 => ?_) (fun c_2 => ?_)
    · have hf := if_t hf c_2
      refine lv_iconst (v := 0) hx hb dK8_count_12 (by decide) ?_
      refine lv_istore_n (lv' := [(2, .int 0), (0, .ref (al G 0)), (1, .int a1)]) hx hb dK8_count_13 rfl hl (by decide) rfl (fun ls hl => ?_)
      refine lv_iconst (v := 0) hx hb dK8_count_14 (by decide) ?_
      refine lv_istore_n (lv' := [(3, .int 0), (2, .int 0), (0, .ref (al G 0)), (1, .int a1)]) hx hb dK8_count_15 rfl hl (by decide) rfl (fun ls hl => ?_)
      exact lK8_count_16 X FU a1 0 0 I L hf h (lv_sub hl [2, 3, 1, 0] rfl)
    · have hf := if_f hf c_2
      refine lv_iconst (v := (-1)) hx hb dK8_count_10 (by decide) ?_
      cases hf
      exact tf_iret X h dK8_count_11
theorem mK8_count {l : Launch} {G : tf_G} (hJ : gJ (al G) 16) {r : Int32} {a1 : Int32} {I : FI} {L : FL} (hf : fK8_count a1 I L = some r) : tf_Met l G 16 yK8_count cK8_count 4 (some .int) 0 0 [.ref (al G 0), .int a1] (rE G I L) (rE G I L) (some (.int r)) :=
  tf_enter (by decide +kernel) hJ (Nat.le_of_ble_eq_true rfl) (fun p e s m args below meth c ls X _ hl h => sK8_count_0 X a1 I L hf h hl)
theorem bwK8_count : tf_cv yK8_count cK8_count 4 (some .int) 1 := ⟨w_493, w_494, w_495, w_381, by decide +kernel, by decide +kernel, by decide +kernel⟩
