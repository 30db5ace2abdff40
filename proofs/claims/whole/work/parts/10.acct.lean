set_option maxHeartbeats 4000000 in
set_option maxRecDepth 100000 in
theorem sK0_freeCash_0 {p : Program} {l : Launch} {e : Env} {s : State} {m : MethodId} {args : Array Value} {below : List Frame} {meth : Method} {c : Code} {G : tf_G} (X : tf_X G 63 "TradeFloor$Account" cK0_freeCash 1 (some .long) p s m args meth c) {r : Int64} (this_ : Fin 8) (I : FI) (L : FL) (hf : fK0_freeCash this_ I L = some r) {H : Heap} {locs : List Loc} {ls : Array Slot} (h : tf_H G 63 (cE G I L) s.heap H locs) (hl : lv_has ls 1 [(0, .ref (al G (this_.val + 15)))]) : W p l e (tf_rm 0 0) s m args below meth c H locs 0 0 (MQ below (tf_Q G 63 (cE G I L) (some (.long r))) args s 0 0 (gA (al G) 63)) (F0 m 0 ls []) := by
  have hx := X.1
  have hb := X.2.1
  have hJ := X.2.2.2.2.2.2.2.2.2
  unfold fK0_freeCash at hf
  refine lv_aload_n hx hb dK0_freeCash_0 rfl (lv_at hl 0 rfl) ?_
  refine gf0_cash X h this_ w_30 dK0_freeCash_1 ?_
  refine lv_aload_n hx hb dK0_freeCash_4 rfl (lv_at hl 0 rfl) ?_
  refine gf0_heldCash X h this_ w_31 dK0_freeCash_5 ?_
  refine lv_lsub hx hb dK0_freeCash_8 ?_
  cases hf
  exact tf_lret X h dK0_freeCash_9
theorem mK0_freeCash {l : Launch} {G : tf_G} (hJ : gJ (al G) 63) {r : Int64} {this_ : Fin 8} {I : FI} {L : FL} (hf : fK0_freeCash this_ I L = some r) : tf_Met l G 63 yK0_freeCash cK0_freeCash 1 (some .long) 0 0 [.ref (al G (this_.val + 15))] (cE G I L) (cE G I L) (some (.long r)) :=
  tf_enter (by decide +kernel) hJ (Nat.le_of_ble_eq_true rfl) (fun p e s m args below meth c ls X _ hl h => sK0_freeCash_0 X this_ I L hf h hl)
theorem bwK0_freeCash : tf_cv yK0_freeCash cK0_freeCash 1 (some .long) 0 := ⟨w_32, w_34, w_35, w_33, by decide +kernel, by decide +kernel, by decide +kernel⟩

set_option maxHeartbeats 4000000 in
set_option maxRecDepth 100000 in
theorem sK0_freeGoods_0 {p : Program} {l : Launch} {e : Env} {s : State} {m : MethodId} {args : Array Value} {below : List Frame} {meth : Method} {c : Code} {G : tf_G} (X : tf_X G 63 "TradeFloor$Account" cK0_freeGoods 1 (some .long) p s m args meth c) {r : Int64} (this_ : Fin 8) (I : FI) (L : FL) (hf : fK0_freeGoods this_ I L = some r) {H : Heap} {locs : List Loc} {ls : Array Slot} (h : tf_H G 63 (cE G I L) s.heap H locs) (hl : lv_has ls 1 [(0, .ref (al G (this_.val + 15)))]) : W p l e (tf_rm 0 0) s m args below meth c H locs 0 0 (MQ below (tf_Q G 63 (cE G I L) (some (.long r))) args s 0 0 (gA (al G) 63)) (F0 m 0 ls []) := by
  have hx := X.1
  have hb := X.2.1
  have hJ := X.2.2.2.2.2.2.2.2.2
  unfold fK0_freeGoods at hf
  refine lv_aload_n hx hb dK0_freeGoods_0 rfl (lv_at hl 0 rfl) ?_
  refine gf0_goods X h this_ w_36 dK0_freeGoods_1 ?_
  refine lv_aload_n hx hb dK0_freeGoods_4 rfl (lv_at hl 0 rfl) ?_
  refine gf0_heldGoods X h this_ w_37 dK0_freeGoods_5 ?_
  refine lv_lsub hx hb dK0_freeGoods_8 ?_
  cases hf
  exact tf_lret X h dK0_freeGoods_9
theorem mK0_freeGoods {l : Launch} {G : tf_G} (hJ : gJ (al G) 63) {r : Int64} {this_ : Fin 8} {I : FI} {L : FL} (hf : fK0_freeGoods this_ I L = some r) : tf_Met l G 63 yK0_freeGoods cK0_freeGoods 1 (some .long) 0 0 [.ref (al G (this_.val + 15))] (cE G I L) (cE G I L) (some (.long r)) :=
  tf_enter (by decide +kernel) hJ (Nat.le_of_ble_eq_true rfl) (fun p e s m args below meth c ls X _ hl h => sK0_freeGoods_0 X this_ I L hf h hl)
theorem bwK0_freeGoods : tf_cv yK0_freeGoods cK0_freeGoods 1 (some .long) 0 := ⟨w_38, w_39, w_40, w_33, by decide +kernel, by decide +kernel, by decide +kernel⟩
