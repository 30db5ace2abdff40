set_option maxHeartbeats 4000000 in
set_option maxRecDepth 100000 in
theorem sK1_readOwner_0 {p : Program} {l : Launch} {e : Env} {s : State} {m : MethodId} {args : Array Value} {below : List Frame} {meth : Method} {c : Code} {G : tf_G} (X : tf_X G 63 "TradeFloor$Command" cK1_readOwner 3 (some .boolean) p s m args meth c) {r : Int32} {I9 : FI} {L9 : FL} (a2 : Int32) (I : FI) (L : FL) (hf : fK1_readOwner a2 I L = some (r, I9, L9)) {H : Heap} {locs : List Loc} {ls : Array Slot} (h : tf_H G 63 (cE G I L) s.heap H locs) (hl : lv_has ls 3 [(0, .ref (al G 5)), (1, .ref (al G 1)), (2, .int a2)]) : W p l e (tf_rm 2 47) s m args below meth c H locs 0 0 (MQ below (tf_Q G 63 (cE G I9 L9) (some (.int r))) args s 0 0 (gA (al G) 63)) (F0 m 0 ls []) := by
  have hx := X.1
  have hb := X.2.1
  have hJ := X.2.2.2.2.2.2.2.2.2
  unfold fK1_readOwner at hf
  refine lv_aload_n hx hb dK1_readOwner_0 rfl (lv_at hl 0 rfl) ?_
  refine lv_aload_n hx hb dK1_readOwner_1 rfl (lv_at hl 1 rfl) ?_
  refine lv_iload_n hx hb dK1_readOwner_2 rfl (lv_at hl 2 rfl) ?_
  refine lv_iconst (v := 0) hx hb dK1_readOwner_3 (by decide) ?_
  refine lv_bipush (v := 7) hx hb dK1_readOwner_4 (by decide) ?_
  obtain ⟨r_2, h_1, hf⟩ := bn_some hf
  refine tf_callVi (As := [.int a2, .int 0, .int 7]) (rest := [.ref (al G 5)]) X h 1 (by decide) rfl rfl (mK5_numberFrom hJ h_1) bwK5_numberFrom w_62 ⟨Nat.le_of_ble_eq_true rfl, Nat.le_of_ble_eq_true rfl⟩ hl.1 rfl (Nat.le_of_ble_eq_true rfl) ⟨Nat.zero_le _, Nat.zero_le _⟩ dK1_readOwner_6 (fun H locs h => ?_)
  obtain ⟨I_3, eI_3, hf⟩ := nm_some hf
  refine pf1_owner X h eI_3 w_63 dK1_readOwner_9 (fun H locs h => ?_)
  refine lv_aload_n hx hb dK1_readOwner_12 rfl (lv_at hl 0 rfl) ?_
  refine gf1_owner X h w_63 dK1_readOwner_13 ?_
  refine lv_iconst (v := (-1)) hx hb dK1_readOwner_16 (by decide) ?_
  refine lv_icmp_eq (tgt := 24) hx hb dK1_readOwner_17 (by decide) (fun c_4 => ?_) (fun c_4 => ?_)
  · have hf := if_t hf c_4
    refine lv_iconst (v := 0) hx hb dK1_readOwner_24 (by decide) ?_
    cases hf
    exact tf_zret X h rfl dK1_readOwner_25
  · have hf := if_f hf c_4
    refine lv_iconst (v := 1) hx hb dK1_readOwner_20 (by decide) ?_
    refine lv_goto (tgt := 25) hx hb dK1_readOwner_21 (by decide) ?_
    cases hf
    exact tf_zret X h rfl dK1_readOwner_25
theorem mK1_readOwner {l : Launch} {G : tf_G} (hJ : gJ (al G) 63) {r : Int32} {I9 : FI} {L9 : FL} {a2 : Int32} {I : FI} {L : FL} (hf : fK1_readOwner a2 I L = some (r, I9, L9)) : tf_Met l G 63 yK1_readOwner cK1_readOwner 3 (some .boolean) 2 47 [.ref (al G 5), .ref (al G 1), .int a2] (cE G I L) (cE G I9 L9) (some (.int r)) :=
  tf_enter (by decide +kernel) hJ (Nat.le_of_ble_eq_true rfl) (fun p e s m args below meth c ls X _ hl h => sK1_readOwner_0 X a2 I L hf h hl)
theorem bwK1_readOwner : tf_cv yK1_readOwner cK1_readOwner 3 (some .boolean) 2 := ⟨w_64, w_66, w_67, w_65, by decide +kernel, by decide +kernel, by decide +kernel⟩

set_option maxHeartbeats 4000000 in
set_option maxRecDepth 100000 in
theorem sK1_readBasics_51 {p : Program} {l : Launch} {e : Env} {s : State} {m : MethodId} {args : Array Value} {below : List Frame} {meth : Method} {c : Code} {G : tf_G} (X : tf_X G 63 "TradeFloor$Command" cK1_readBasics 3 (some .boolean) p s m args meth c) {r : Int32} {I9 : FI} {L9 : FL} (v2 : Int32) (I : FI) (L : FL) (hf : fK1_readBasics_51 v2 I L = some (r, I9, L9)) {H : Heap} {locs : List Loc} {ls : Array Slot} (h : tf_H G 63 (cE G I L) s.heap H locs) (hl : lv_has ls 3 [(0, .ref (al G 5)), (1, .ref (al G 1)), (2, .int v2)]) : W p l e (tf_rm 5 108) s m args below meth c H locs 0 0 (MQ below (tf_Q G 63 (cE G I9 L9) (some (.int r))) args s 0 0 (gA (al G) 63)) (F0 m 51 ls []) := by
  have hx := X.1
  have hb := X.2.1
  have hJ := X.2.2.2.2.2.2.2.2.2
  unfold fK1_readBasics_51 at hf
  refine lv_aload_n hx hb dK1_readBasics_51 rfl (lv_at hl 0 rfl) ?_
  refine lv_aload_n hx hb dK1_readBasics_52 rfl (lv_at hl 1 rfl) ?_
  refine lv_iload_n hx hb dK1_readBasics_53 rfl (lv_at hl 2 rfl) ?_
  refine lv_iconst (v := 1) hx hb dK1_readBasics_54 (by decide) ?_
  refine lv_iadd hx hb dK1_readBasics_55 ?_
  obtain ⟨r_2, I_3, L_4, h_1, hf⟩ := bq_some hf
  refine tf_callVi (As := [.ref (al G 1), .int (v2 + 1)]) (rest := []) X h 5 (by decide) rfl rfl (mK1_readOwner hJ h_1) bwK1_readOwner w_71 ⟨Nat.le_of_ble_eq_true rfl, Nat.le_of_ble_eq_true rfl⟩ hl.1 rfl (Nat.le_of_ble_eq_true rfl) ⟨Nat.zero_le _, Nat.zero_le _⟩ dK1_readBasics_56 (fun H locs h => ?_)
  refine lv_if_eq (tgt := 74) hx hb dK1_readBasics_59 (by decide) (fun c_5 => ?_) (fun c_5 => ?_)
  · have hf := if_t hf c_5
    refine lv_iconst (v := 0) hx hb dK1_readBasics_74 (by decide) ?_
    cases hf
    exact tf_zret X h rfl dK1_readBasics_75
  · have hf := if_f hf c_5
    refine lv_aload_n hx hb dK1_readBasics_62 rfl (lv_at hl 0 rfl) ?_
    refine gf1_quantity X h w_70 dK1_readBasics_63 ?_
    refine lv_iconst (v := (-1)) hx hb dK1_readBasics_66 (by decide) ?_
    refine lv_icmp_eq (tgt := 74) hx hb dK1_readBasics_67 (by decide) (fun c_6 => ?_) (fun c_6 => ?_)
    · have hf := if_t hf c_6
      refine lv_iconst (v := 0) hx hb dK1_readBasics_74 (by decide) ?_
      cases hf
      exact tf_zret X h rfl dK1_readBasics_75
    · have hf := if_f hf c_6
      refine lv_iconst (v := 1) hx hb dK1_readBasics_70 (by decide) ?_
      refine lv_goto (tgt := 75) hx hb dK1_readBasics_71 (by decide) ?_
      cases hf
      exact tf_zret X h rfl dK1_readBasics_75
set_option maxHeartbeats 4000000 in
set_option maxRecDepth 100000 in
theorem sK1_readBasics_16 {p : Program} {l : Launch} {e : Env} {s : State} {m : MethodId} {args : Array Value} {below : List Frame} {meth : Method} {c : Code} {G : tf_G} (X : tf_X G 63 "TradeFloor$Command" cK1_readBasics 3 (some .boolean) p s m args meth c) {r : Int32} {I9 : FI} {L9 : FL} (v2 : Int32) (u0 : Int32) (I : FI) (L : FL) (hf : fK1_readBasics_16 v2 u0 I L = some (r, I9, L9)) {H : Heap} {locs : List Loc} {ls : Array Slot} (h : tf_H G 63 (cE G I L) s.heap H locs) (hl : lv_has ls 3 [(0, .ref (al G 5)), (1, .ref (al G 1)), (2, .int v2)]) : W p l e (tf_rm 5 108) s m args below meth c H locs 0 0 (MQ below (tf_Q G 63 (cE G I9 L9) (some (.int r))) args s 0 0 (gA (al G) 63)) (F0 m 16 ls [.int u0, .ref (al G 5)]) := by
  have hx := X.1
  have hb := X.2.1
  have hJ := X.2.2.2.2.2.2.2.2.2
  unfold fK1_readBasics_16 at hf
  obtain ⟨I_1, eI_1, hf⟩ := nm_some hf
  refine pf1_side X h eI_1 w_69 dK1_readBasics_16 (fun H locs h => ?_)
  refine lv_aload_n hx hb dK1_readBasics_19 rfl (lv_at hl 0 rfl) ?_
  refine lv_aload_n hx hb dK1_readBasics_20 rfl (lv_at hl 1 rfl) ?_
  refine lv_iload_n hx hb dK1_readBasics_21 rfl (lv_at hl 2 rfl) ?_
  refine lv_iconst (v := 2) hx hb dK1_readBasics_22 (by decide) ?_
  refine lv_iadd hx hb dK1_readBasics_23 ?_
  refine lv_iconst (v := 1) hx hb dK1_readBasics_24 (by decide) ?_
  refine lv_sipush (v := 9999) hx hb dK1_readBasics_25 (by decide) ?_
  obtain ⟨r_3, h_2, hf⟩ := bn_some hf
  refine tf_callVi (As := [.int (v2 + 2), .int 1, .int 9999]) (rest := [.ref (al G 5)]) X h 1 (by decide) rfl rfl (mK5_numberFrom hJ h_2) bwK5_numberFrom w_62 ⟨Nat.le_of_ble_eq_true rfl, Nat.le_of_ble_eq_true rfl⟩ hl.1 rfl (Nat.le_of_ble_eq_true rfl) ⟨Nat.zero_le _, Nat.zero_le _⟩ dK1_readBasics_28 (fun H locs h => ?_)
  obtain ⟨I_4, eI_4, hf⟩ := nm_some hf
  refine pf1_quantity X h eI_4 w_70 dK1_readBasics_31 (fun H locs h => ?_)
  refine lv_aload_n hx hb dK1_readBasics_34 rfl (lv_at hl 0 rfl) ?_
  refine gf1_side X h w_69 dK1_readBasics_35 ?_
  refine lv_if_eq (tgt := 51) hx hb dK1_readBasics_38 (by decide) (fun c_5 => ?_) (fun c_5 => ?_)
  · have hf := if_t hf c_5
    exact sK1_readBasics_51 X v2 I_4 L hf h hl
  · have hf := if_f hf c_5
    refine lv_aload_n hx hb dK1_readBasics_41 rfl (lv_at hl 1 rfl) ?_
    refine lv_iload_n hx hb dK1_readBasics_42 rfl (lv_at hl 2 rfl) ?_
    refine tf_ldcS X 1 (by decide) rfl rfl dK1_readBasics_43 ?_
    obtain ⟨r_7, h_6, hf⟩ := bn_some hf
    refine tf_callVi (As := [.int v2, .ref (sK G 1)]) (rest := []) X h 1 (by decide) rfl rfl (mK5_says hJ h_6) bwK5_says w_68 ⟨Nat.le_of_ble_eq_true rfl, Nat.le_of_ble_eq_true rfl⟩ hl.1 rfl (Nat.le_of_ble_eq_true rfl) ⟨Nat.zero_le _, Nat.zero_le _⟩ dK1_readBasics_45 (fun H locs h => ?_)
    refine lv_if_eq (tgt := 74) hx hb dK1_readBasics_48 (by decide) (fun c_8 => ?_) (fun c_8 => ?_)
    · have hf := if_t hf c_8
      refine lv_iconst (v := 0) hx hb dK1_readBasics_74 (by decide) ?_
      cases hf
      exact tf_zret X h rfl dK1_readBasics_75
    · have hf := if_f hf c_8
      exact sK1_readBasics_51 X v2 I_4 L hf h hl
set_option maxHeartbeats 4000000 in
set_option maxRecDepth 100000 in
theorem sK1_readBasics_0 {p : Program} {l : Launch} {e : Env} {s : State} {m : MethodId} {args : Array Value} {below : List Frame} {meth : Method} {c : Code} {G : tf_G} (X : tf_X G 63 "TradeFloor$Command" cK1_readBasics 3 (some .boolean) p s m args meth c) {r : Int32} {I9 : FI} {L9 : FL} (a2 : Int32) (I : FI) (L : FL) (hf : fK1_readBasics a2 I L = some (r, I9, L9)) {H : Heap} {locs : List Loc} {ls : Array Slot} (h : tf_H G 63 (cE G I L) s.heap H locs) (hl : lv_has ls 3 [(0, .ref (al G 5)), (1, .ref (al G 1)), (2, .int a2)]) : W p l e (tf_rm 5 108) s m args below meth c H locs 0 0 (MQ below (tf_Q G 63 (cE G I9 L9) (some (.int r))) args s 0 0 (gA (al G) 63)) (F0 m 0 ls []) := by
  have hx := X.1
  have hb := X.2.1
  have hJ := X.2.2.2.2.2.2.2.2.2
  unfold fK1_readBasics at hf
  refine lv_aload_n hx hb dK1_readBasics_0 rfl (lv_at hl 0 rfl) ?_
  refine lv_aload_n hx hb dK1_readBasics_1 rfl (lv_at hl 1 rfl) ?_
  refine lv_iload_n hx hb dK1_readBasics_2 rfl (lv_at hl 2 rfl) ?_
  refine tf_ldcS X 0 (by decide) rfl rfl dK1_readBasics_3 ?_
  obtain ⟨r_2, h_1, hf⟩ := bn_some hf
  refine tf_callVi (As := [.int a2, .ref (sK G 0)]) (rest := [.ref (al G 5)]) X h 1 (by decide) rfl rfl (mK5_says hJ h_1) bwK5_says w_68 ⟨Nat.le_of_ble_eq_true rfl, Nat.le_of_ble_eq_true rfl⟩ hl.1 rfl (Nat.le_of_ble_eq_true rfl) ⟨Nat.zero_le _, Nat.zero_le _⟩ dK1_readBasics_5 (fun H locs h => ?_)
  refine lv_if_eq (tgt := 15) hx hb dK1_readBasics_8 (by decide) (fun c_3 => ?_) (fun c_3 => ?_)
  · have hf := if_t hf c_3
    refine lv_iconst (v := 1) hx hb dK1_readBasics_15 (by decide) ?_
    exact sK1_readBasics_16 X a2 1 I L hf h hl
  · have hf := if_f hf c_3
    refine lv_iconst (v := 0) hx hb dK1_readBasics_11 (by decide) ?_
    refine lv_goto (tgt := 16) hx hb dK1_readBasics_12 (by decide) ?_
    exact sK1_readBasics_16 X a2 0 I L hf h hl
theorem mK1_readBasics {l : Launch} {G : tf_G} (hJ : gJ (al G) 63) {r : Int32} {I9 : FI} {L9 : FL} {a2 : Int32} {I : FI} {L : FL} (hf : fK1_readBasics a2 I L = some (r, I9, L9)) : tf_Met l G 63 yK1_readBasics cK1_readBasics 3 (some .boolean) 5 108 [.ref (al G 5), .ref (al G 1), .int a2] (cE G I L) (cE G I9 L9) (some (.int r)) :=
  tf_enter (by decide +kernel) hJ (Nat.le_of_ble_eq_true rfl) (fun p e s m args below meth c ls X _ hl h => sK1_readBasics_0 X a2 I L hf h hl)
theorem bwK1_readBasics : tf_cv yK1_readBasics cK1_readBasics 3 (some .boolean) 2 := ⟨w_72, w_73, w_74, w_65, by decide +kernel, by decide +kernel, by decide +kernel⟩

set_option maxHeartbeats 4000000 in
set_option maxRecDepth 100000 in
theorem sK1_readPrice_0 {p : Program} {l : Launch} {e : Env} {s : State} {m : MethodId} {args : Array Value} {below : List Frame} {meth : Method} {c : Code} {G : tf_G} (X : tf_X G 63 "TradeFloor$Command" cK1_readPrice 3 (some .boolean) p s m args meth c) {r : Int32} {I9 : FI} {L9 : FL} (a2 : Int32) (I : FI) (L : FL) (hf : fK1_readPrice a2 I L = some (r, I9, L9)) {H : Heap} {locs : List Loc} {ls : Array Slot} (h : tf_H G 63 (cE G I L) s.heap H locs) (hl : lv_has ls 3 [(0, .ref (al G 5)), (1, .ref (al G 1)), (2, .int a2)]) : W p l e (tf_rm 5 108) s m args below meth c H locs 0 0 (MQ below (tf_Q G 63 (cE G I9 L9) (some (.int r))) args s 0 0 (gA (al G) 63)) (F0 m 0 ls []) := by
  have hx := X.1
  have hb := X.2.1
  have hJ := X.2.2.2.2.2.2.2.2.2
  unfold fK1_readPrice at hf
  refine lv_aload_n hx hb dK1_readPrice_0 rfl (lv_at hl 0 rfl) ?_
  refine lv_aload_n hx hb dK1_readPrice_1 rfl (lv_at hl 1 rfl) ?_
  refine lv_iload_n hx hb dK1_readPrice_2 rfl (lv_at hl 2 rfl) ?_
  refine lv_iconst (v := 1) hx hb dK1_readPrice_3 (by decide) ?_
  refine lv_iadd hx hb dK1_readPrice_4 ?_
  refine lv_iconst (v := 1) hx hb dK1_readPrice_5 (by decide) ?_
  refine lv_sipush (v := 9999) hx hb dK1_readPrice_6 (by decide) ?_
  obtain ⟨r_2, h_1, hf⟩ := bn_some hf
  refine tf_callVi (As := [.int (a2 + 1), .int 1, .int 9999]) (rest := [.ref (al G 5)]) X h 1 (by decide) rfl rfl (mK5_numberFrom hJ h_1) bwK5_numberFrom w_62 ⟨Nat.le_of_ble_eq_true rfl, Nat.le_of_ble_eq_true rfl⟩ hl.1 rfl (Nat.le_of_ble_eq_true rfl) ⟨Nat.zero_le _, Nat.zero_le _⟩ dK1_readPrice_9 (fun H locs h => ?_)
  obtain ⟨I_3, eI_3, hf⟩ := nm_some hf
  refine pf1_price X h eI_3 w_75 dK1_readPrice_12 (fun H locs h => ?_)
  refine lv_aload_n hx hb dK1_readPrice_15 rfl (lv_at hl 1 rfl) ?_
  refine lv_iload_n hx hb dK1_readPrice_16 rfl (lv_at hl 2 rfl) ?_
  refine tf_ldcS X 3 (by decide) rfl rfl dK1_readPrice_17 ?_
  obtain ⟨r_5, h_4, hf⟩ := bn_some hf
  refine tf_callVi (As := [.int a2, .ref (sK G 3)]) (rest := []) X h 1 (by decide) rfl rfl (mK5_says hJ h_4) bwK5_says w_68 ⟨Nat.le_of_ble_eq_true rfl, Nat.le_of_ble_eq_true rfl⟩ hl.1 rfl (Nat.le_of_ble_eq_true rfl) ⟨Nat.zero_le _, Nat.zero_le _⟩ dK1_readPrice_19 (fun H locs h => ?_)
  refine lv_if_eq (tgt := 37) hx hb dK1_readPrice_22 (by decide) (fun c_6 => ?_) (fun c_6 => ?_)
  · have hf := if_t hf c_6
    refine lv_iconst (v := 0) hx hb dK1_readPrice_37 (by decide) ?_
    cases hf
    exact tf_zret X h rfl dK1_readPrice_38
  · have hf := if_f hf c_6
    refine lv_aload_n hx hb dK1_readPrice_25 rfl (lv_at hl 0 rfl) ?_
    refine gf1_price X h w_75 dK1_readPrice_26 ?_
    refine lv_iconst (v := (-1)) hx hb dK1_readPrice_29 (by decide) ?_
    refine lv_icmp_eq (tgt := 37) hx hb dK1_readPrice_30 (by decide) (fun c_7 => ?_) (fun c_7 => ?_)
    · have hf := if_t hf c_7
      refine lv_iconst (v := 0) hx hb dK1_readPrice_37 (by decide) ?_
      cases hf
      exact tf_zret X h rfl dK1_readPrice_38
    · have hf := if_f hf c_7
      refine lv_iconst (v := 1) hx hb dK1_readPrice_33 (by decide) ?_
      refine lv_goto (tgt := 38) hx hb dK1_readPrice_34 (by decide) ?_
      cases hf
      exact tf_zret X h rfl dK1_readPrice_38
theorem mK1_readPrice {l : Launch} {G : tf_G} (hJ : gJ (al G) 63) {r : Int32} {I9 : FI} {L9 : FL} {a2 : Int32} {I : FI} {L : FL} (hf : fK1_readPrice a2 I L = some (r, I9, L9)) : tf_Met l G 63 yK1_readPrice cK1_readPrice 3 (some .boolean) 5 108 [.ref (al G 5), .ref (al G 1), .int a2] (cE G I L) (cE G I9 L9) (some (.int r)) :=
  tf_enter (by decide +kernel) hJ (Nat.le_of_ble_eq_true rfl) (fun p e s m args below meth c ls X _ hl h => sK1_readPrice_0 X a2 I L hf h hl)
theorem bwK1_readPrice : tf_cv yK1_readPrice cK1_readPrice 3 (some .boolean) 2 := ⟨w_76, w_77, w_78, w_65, by decide +kernel, by decide +kernel, by decide +kernel⟩

set_option maxHeartbeats 4000000 in
set_option maxRecDepth 100000 in
theorem sK1_readTicks_0 {p : Program} {l : Launch} {e : Env} {s : State} {m : MethodId} {args : Array Value} {below : List Frame} {meth : Method} {c : Code} {G : tf_G} (X : tf_X G 63 "TradeFloor$Command" cK1_readTicks 3 (some .boolean) p s m args meth c) {r : Int32} {I9 : FI} {L9 : FL} (a2 : Int32) (I : FI) (L : FL) (hf : fK1_readTicks a2 I L = some (r, I9, L9)) {H : Heap} {locs : List Loc} {ls : Array Slot} (h : tf_H G 63 (cE G I L) s.heap H locs) (hl : lv_has ls 3 [(0, .ref (al G 5)), (1, .ref (al G 1)), (2, .int a2)]) : W p l e (tf_rm 2 47) s m args below meth c H locs 0 0 (MQ below (tf_Q G 63 (cE G I9 L9) (some (.int r))) args s 0 0 (gA (al G) 63)) (F0 m 0 ls []) := by
  have hx := X.1
  have hb := X.2.1
  have hJ := X.2.2.2.2.2.2.2.2.2
  unfold fK1_readTicks at hf
  refine lv_aload_n hx hb dK1_readTicks_0 rfl (lv_at hl 0 rfl) ?_
  refine lv_aload_n hx hb dK1_readTicks_1 rfl (lv_at hl 1 rfl) ?_
  refine lv_iload_n hx hb dK1_readTicks_2 rfl (lv_at hl 2 rfl) ?_
  refine lv_iconst (v := 1) hx hb dK1_readTicks_3 (by decide) ?_
  refine lv_bipush (v := 99) hx hb dK1_readTicks_4 (by decide) ?_
  obtain ⟨r_2, h_1, hf⟩ := bn_some hf
  refine tf_callVi (As := [.int a2, .int 1, .int 99]) (rest := [.ref (al G 5)]) X h 1 (by decide) rfl rfl (mK5_numberFrom hJ h_1) bwK5_numberFrom w_62 ⟨Nat.le_of_ble_eq_true rfl, Nat.le_of_ble_eq_true rfl⟩ hl.1 rfl (Nat.le_of_ble_eq_true rfl) ⟨Nat.zero_le _, Nat.zero_le _⟩ dK1_readTicks_6 (fun H locs h => ?_)
  obtain ⟨I_3, eI_3, hf⟩ := nm_some hf
  refine pf1_ticks X h eI_3 w_79 dK1_readTicks_9 (fun H locs h => ?_)
  refine lv_aload_n hx hb dK1_readTicks_12 rfl (lv_at hl 0 rfl) ?_
  refine gf1_ticks X h w_79 dK1_readTicks_13 ?_
  refine lv_iconst (v := (-1)) hx hb dK1_readTicks_16 (by decide) ?_
  refine lv_icmp_eq (tgt := 24) hx hb dK1_readTicks_17 (by decide) (fun c_4 => ?_) (fun c_4 => ?_)
  · have hf := if_t hf c_4
    refine lv_iconst (v := 0) hx hb dK1_readTicks_24 (by decide) ?_
    cases hf
    exact tf_zret X h rfl dK1_readTicks_25
  · have hf := if_f hf c_4
    refine lv_iconst (v := 1) hx hb dK1_readTicks_20 (by decide) ?_
    refine lv_goto (tgt := 25) hx hb dK1_readTicks_21 (by decide) ?_
    cases hf
    exact tf_zret X h rfl dK1_readTicks_25
theorem mK1_readTicks {l : Launch} {G : tf_G} (hJ : gJ (al G) 63) {r : Int32} {I9 : FI} {L9 : FL} {a2 : Int32} {I : FI} {L : FL} (hf : fK1_readTicks a2 I L = some (r, I9, L9)) : tf_Met l G 63 yK1_readTicks cK1_readTicks 3 (some .boolean) 2 47 [.ref (al G 5), .ref (al G 1), .int a2] (cE G I L) (cE G I9 L9) (some (.int r)) :=
  tf_enter (by decide +kernel) hJ (Nat.le_of_ble_eq_true rfl) (fun p e s m args below meth c ls X _ hl h => sK1_readTicks_0 X a2 I L hf h hl)
theorem bwK1_readTicks : tf_cv yK1_readTicks cK1_readTicks 3 (some .boolean) 2 := ⟨w_80, w_81, w_82, w_65, by decide +kernel, by decide +kernel, by decide +kernel⟩

set_option maxHeartbeats 4000000 in
set_option maxRecDepth 100000 in
theorem sK1_readWay_107 {p : Program} {l : Launch} {e : Env} {s : State} {m : MethodId} {args : Array Value} {below : List Frame} {meth : Method} {c : Code} {G : tf_G} (X : tf_X G 63 "TradeFloor$Command" cK1_readWay 3 (some .boolean) p s m args meth c) {r : Int32} {I9 : FI} {L9 : FL} (u0 : Int32) (u1 : Int32) (I : FI) (L : FL) (hf : fK1_readWay_107 u0 u1 I L = some (r, I9, L9)) {H : Heap} {locs : List Loc} {ls : Array Slot} (h : tf_H G 63 (cE G I L) s.heap H locs) (hl : lv_has ls 3 []) : W p l e (tf_rm 5 108) s m args below meth c H locs 0 0 (MQ below (tf_Q G 63 (cE G I9 L9) (some (.int r))) args s 0 0 (gA (al G) 63)) (F0 m 107 ls [.int u0, .int u1]) := by
  have hx := X.1
  have hb := X.2.1
  have hJ := X.2.2.2.2.2.2.2.2.2
  unfold fK1_readWay_107 at hf
  refine lv_icmp_ne (tgt := 114) hx hb dK1_readWay_107 (by decide) (fun c_1 => ?_) (fun c_1 => ?_)
  · have hf := if_f hf c_1
    refine lv_iconst (v := 0) hx hb dK1_readWay_114 (by decide) ?_
    cases hf
    exact tf_zret X h rfl dK1_readWay_115
  · have hf := if_t hf c_1
    refine lv_iconst (v := 1) hx hb dK1_readWay_110 (by decide) ?_
    refine lv_goto (tgt := 115) hx hb dK1_readWay_111 (by decide) ?_
    cases hf
    exact tf_zret X h rfl dK1_readWay_115
set_option maxHeartbeats 4000000 in
set_option maxRecDepth 100000 in
theorem sK1_readWay_86 {p : Program} {l : Launch} {e : Env} {s : State} {m : MethodId} {args : Array Value} {below : List Frame} {meth : Method} {c : Code} {G : tf_G} (X : tf_X G 63 "TradeFloor$Command" cK1_readWay 3 (some .boolean) p s m args meth c) {r : Int32} {I9 : FI} {L9 : FL} (v2 : Int32) (u0 : Int32) (I : FI) (L : FL) (hf : fK1_readWay_86 v2 u0 I L = some (r, I9, L9)) {H : Heap} {locs : List Loc} {ls : Array Slot} (h : tf_H G 63 (cE G I L) s.heap H locs) (hl : lv_has ls 3 [(0, .ref (al G 5)), (1, .ref (al G 1)), (2, .int v2)]) : W p l e (tf_rm 5 108) s m args below meth c H locs 0 0 (MQ below (tf_Q G 63 (cE G I9 L9) (some (.int r))) args s 0 0 (gA (al G) 63)) (F0 m 86 ls [.int u0, .ref (al G 5)]) := by
  have hx := X.1
  have hb := X.2.1
  have hJ := X.2.2.2.2.2.2.2.2.2
  unfold fK1_readWay_86 at hf
  obtain ⟨I_1, eI_1, hf⟩ := nm_some hf
  refine pf1_way X h eI_1 w_83 dK1_readWay_86 (fun H locs h => ?_)
  refine lv_aload_n hx hb dK1_readWay_89 rfl (lv_at hl 1 rfl) ?_
  refine gf5_words X h w_84 dK1_readWay_90 ?_
  refine lv_aload_n hx hb dK1_readWay_93 rfl (lv_at hl 0 rfl) ?_
  refine gf1_way X h w_83 dK1_readWay_94 ?_
  refine lv_if_ne (tgt := 104) hx hb dK1_readWay_97 (by decide) (fun c_2 => ?_) (fun c_2 => ?_)
  · have hf := if_f hf c_2
    refine lv_iload_n hx hb dK1_readWay_104 rfl (lv_at hl 2 rfl) ?_
    refine lv_iconst (v := 1) hx hb dK1_readWay_105 (by decide) ?_
    refine lv_iadd hx hb dK1_readWay_106 ?_
    exact sK1_readWay_107 X (v2 + 1) (I_1 12 0) I_1 L hf h (lv_sub hl [] rfl)
  · have hf := if_t hf c_2
    refine lv_iload_n hx hb dK1_readWay_100 rfl (lv_at hl 2 rfl) ?_
    refine lv_goto (tgt := 107) hx hb dK1_readWay_101 (by decide) ?_
    exact sK1_readWay_107 X v2 (I_1 12 0) I_1 L hf h (lv_sub hl [] rfl)
set_option maxHeartbeats 4000000 in
set_option maxRecDepth 100000 in
theorem sK1_readWay_0 {p : Program} {l : Launch} {e : Env} {s : State} {m : MethodId} {args : Array Value} {below : List Frame} {meth : Method} {c : Code} {G : tf_G} (X : tf_X G 63 "TradeFloor$Command" cK1_readWay 3 (some .boolean) p s m args meth c) {r : Int32} {I9 : FI} {L9 : FL} (a2 : Int32) (I : FI) (L : FL) (hf : fK1_readWay a2 I L = some (r, I9, L9)) {H : Heap} {locs : List Loc} {ls : Array Slot} (h : tf_H G 63 (cE G I L) s.heap H locs) (hl : lv_has ls 3 [(0, .ref (al G 5)), (1, .ref (al G 1)), (2, .int a2)]) : W p l e (tf_rm 5 108) s m args below meth c H locs 0 0 (MQ below (tf_Q G 63 (cE G I9 L9) (some (.int r))) args s 0 0 (gA (al G) 63)) (F0 m 0 ls []) := by
  have hx := X.1
  have hb := X.2.1
  have hJ := X.2.2.2.2.2.2.2.2.2
  unfold fK1_readWay at hf
  refine lv_aload_n hx hb dK1_readWay_0 rfl (lv_at hl 1 rfl) ?_
  refine lv_iload_n hx hb dK1_readWay_1 rfl (lv_at hl 2 rfl) ?_
  refine tf_ldcS X 4 (by decide) rfl rfl dK1_readWay_2 ?_
  obtain ⟨r_2, h_1, hf⟩ := bn_some hf
  refine tf_callVi (As := [.int a2, .ref (sK G 4)]) (rest := []) X h 1 (by decide) rfl rfl (mK5_says hJ h_1) bwK5_says w_68 ⟨Nat.le_of_ble_eq_true rfl, Nat.le_of_ble_eq_true rfl⟩ hl.1 rfl (Nat.le_of_ble_eq_true rfl) ⟨Nat.zero_le _, Nat.zero_le _⟩ dK1_readWay_4 (fun H locs h => ?_)
  refine lv_if_eq (tgt := 42) hx hb dK1_readWay_7 (by decide) (fun c_3 => ?_) (fun c_3 => ?_)
  · have hf := if_t hf c_3
    refine lv_aload_n hx hb dK1_readWay_42 rfl (lv_at hl 0 rfl) ?_
    refine lv_aload_n hx hb dK1_readWay_43 rfl (lv_at hl 1 rfl) ?_
    refine lv_iload_n hx hb dK1_readWay_44 rfl (lv_at hl 2 rfl) ?_
    refine tf_ldcS X 5 (by decide) rfl rfl dK1_readWay_45 ?_
    obtain ⟨r_5, h_4, hf⟩ := bn_some hf
    refine tf_callVi (As := [.int a2, .ref (sK G 5)]) (rest := [.ref (al G 5)]) X h 1 (by decide) rfl rfl (mK5_says hJ h_4) bwK5_says w_68 ⟨Nat.le_of_ble_eq_true rfl, Nat.le_of_ble_eq_true rfl⟩ hl.1 rfl (Nat.le_of_ble_eq_true rfl) ⟨Nat.zero_le _, Nat.zero_le _⟩ dK1_readWay_47 (fun H locs h => ?_)
    refine lv_if_eq (tgt := 57) hx hb dK1_readWay_50 (by decide) (fun c_6 => ?_) (fun c_6 => ?_)
    · have hf := if_t hf c_6
      refine lv_aload_n hx hb dK1_readWay_57 rfl (lv_at hl 1 rfl) ?_
      refine lv_iload_n hx hb dK1_readWay_58 rfl (lv_at hl 2 rfl) ?_
      refine tf_ldcS X 6 (by decide) rfl rfl dK1_readWay_59 ?_
      obtain ⟨r_8, h_7, hf⟩ := bn_some hf
      refine tf_callVi (As := [.int a2, .ref (sK G 6)]) (rest := [.ref (al G 5)]) X h 1 (by decide) rfl rfl (mK5_says hJ h_7) bwK5_says w_68 ⟨Nat.le_of_ble_eq_true rfl, Nat.le_of_ble_eq_true rfl⟩ hl.1 rfl (Nat.le_of_ble_eq_true rfl) ⟨Nat.zero_le _, Nat.zero_le _⟩ dK1_readWay_61 (fun H locs h => ?_)
      refine lv_if_eq (tgt := 71) hx hb dK1_readWay_64 (by decide) (fun c_9 => ?_) (fun c_9 => ?_)
      · have hf := if_t hf c_9
        refine lv_aload_n hx hb dK1_readWay_71 rfl (lv_at hl 1 rfl) ?_
        refine lv_iload_n hx hb dK1_readWay_72 rfl (lv_at hl 2 rfl) ?_
        refine tf_ldcS X 7 (by decide) rfl rfl dK1_readWay_73 ?_
        obtain ⟨r_11, h_10, hf⟩ := bn_some hf
        refine tf_callVi (As := [.int a2, .ref (sK G 7)]) (rest := [.ref (al G 5)]) X h 1 (by decide) rfl rfl (mK5_says hJ h_10) bwK5_says w_68 ⟨Nat.le_of_ble_eq_true rfl, Nat.le_of_ble_eq_true rfl⟩ hl.1 rfl (Nat.le_of_ble_eq_true rfl) ⟨Nat.zero_le _, Nat.zero_le _⟩ dK1_readWay_75 (fun H locs h => ?_)
        refine lv_if_eq (tgt := 85) hx hb dK1_readWay_78 (by decide) (fun c_12 => ?_) (fun c_12 => ?_)
        · have hf := if_t hf c_12
          refine lv_iconst (v := 0) hx hb dK1_readWay_85 (by decide) ?_
          exact sK1_readWay_86 X a2 0 I L hf h hl
        · have hf := if_f hf c_12
          refine lv_iconst (v := 3) hx hb dK1_readWay_81 (by decide) ?_
          refine lv_goto (tgt := 86) hx hb dK1_readWay_82 (by decide) ?_
          exact sK1_readWay_86 X a2 3 I L hf h hl
      · have hf := if_f hf c_9
        refine lv_iconst (v := 2) hx hb dK1_readWay_67 (by decide) ?_
        refine lv_goto (tgt := 86) hx hb dK1_readWay_68 (by decide) ?_
        exact sK1_readWay_86 X a2 2 I L hf h hl
    · have hf := if_f hf c_6
      refine lv_iconst (v := 1) hx hb dK1_readWay_53 (by decide) ?_
      refine lv_goto (tgt := 86) hx hb dK1_readWay_54 (by decide) ?_
      exact sK1_readWay_86 X a2 1 I L hf h hl
  · have hf := if_f hf c_3
    refine lv_aload_n hx hb dK1_readWay_10 rfl (lv_at hl 0 rfl) ?_
    refine lv_iconst (v := 4) hx hb dK1_readWay_11 (by decide) ?_
    obtain ⟨I_13, eI_13, hf⟩ := nm_some hf
    refine pf1_way X h eI_13 w_83 dK1_readWay_12 (fun H locs h => ?_)
    refine lv_aload_n hx hb dK1_readWay_15 rfl (lv_at hl 1 rfl) ?_
    refine gf5_words X h w_84 dK1_readWay_16 ?_
    refine lv_iload_n hx hb dK1_readWay_19 rfl (lv_at hl 2 rfl) ?_
    refine lv_iconst (v := 2) hx hb dK1_readWay_20 (by decide) ?_
    refine lv_iadd hx hb dK1_readWay_21 ?_
    refine lv_icmp_ne (tgt := 40) hx hb dK1_readWay_22 (by decide) (fun c_14 => ?_) (fun c_14 => ?_)
    · have hf := if_f hf c_14
      refine lv_iconst (v := 0) hx hb dK1_readWay_40 (by decide) ?_
      cases hf
      exact tf_zret X h rfl dK1_readWay_41
    · have hf := if_t hf c_14
      refine lv_aload_n hx hb dK1_readWay_25 rfl (lv_at hl 0 rfl) ?_
      refine lv_aload_n hx hb dK1_readWay_26 rfl (lv_at hl 1 rfl) ?_
      refine lv_iload_n hx hb dK1_readWay_27 rfl (lv_at hl 2 rfl) ?_
      refine lv_iconst (v := 1) hx hb dK1_readWay_28 (by decide) ?_
      refine lv_iadd hx hb dK1_readWay_29 ?_
      obtain ⟨r_16, I_17, L_18, h_15, hf⟩ := bq_some hf
      refine tf_callVi (As := [.ref (al G 1), .int (a2 + 1)]) (rest := []) X h 5 (by decide) rfl rfl (mK1_readTicks hJ h_15) bwK1_readTicks w_85 ⟨Nat.le_of_ble_eq_true rfl, Nat.le_of_ble_eq_true rfl⟩ hl.1 rfl (Nat.le_of_ble_eq_true rfl) ⟨Nat.zero_le _, Nat.zero_le _⟩ dK1_readWay_30 (fun H locs h => ?_)
      refine lv_if_eq (tgt := 40) hx hb dK1_readWay_33 (by decide) (fun c_19 => ?_) (fun c_19 => ?_)
      · have hf := if_t hf c_19
        refine lv_iconst (v := 0) hx hb dK1_readWay_40 (by decide) ?_
        cases hf
        exact tf_zret X h rfl dK1_readWay_41
      · have hf := if_f hf c_19
        refine lv_iconst (v := 1) hx hb dK1_readWay_36 (by decide) ?_
        refine lv_goto (tgt := 41) hx hb dK1_readWay_37 (by decide) ?_
        cases hf
        exact tf_zret X h rfl dK1_readWay_41
theorem mK1_readWay {l : Launch} {G : tf_G} (hJ : gJ (al G) 63) {r : Int32} {I9 : FI} {L9 : FL} {a2 : Int32} {I : FI} {L : FL} (hf : fK1_readWay a2 I L = some (r, I9, L9)) : tf_Met l G 63 yK1_readWay cK1_readWay 3 (some .boolean) 5 108 [.ref (al G 5), .ref (al G 1), .int a2] (cE G I L) (cE G I9 L9) (some (.int r)) :=
  tf_enter (by decide +kernel) hJ (Nat.le_of_ble_eq_true rfl) (fun p e s m args below meth c ls X _ hl h => sK1_readWay_0 X a2 I L hf h hl)
theorem bwK1_readWay : tf_cv yK1_readWay cK1_readWay 3 (some .boolean) 2 := ⟨w_86, w_87, w_88, w_65, by decide +kernel, by decide +kernel, by decide +kernel⟩

set_option maxHeartbeats 4000000 in
set_option maxRecDepth 100000 in
theorem sK1_readOrder_36 {p : Program} {l : Launch} {e : Env} {s : State} {m : MethodId} {args : Array Value} {below : List Frame} {meth : Method} {c : Code} {G : tf_G} (X : tf_X G 63 "TradeFloor$Command" cK1_readOrder 2 (some .int) p s m args meth c) {r : Int32} {I9 : FI} {L9 : FL} (I : FI) (L : FL) (hf : fK1_readOrder_36 I L = some (r, I9, L9)) {H : Heap} {locs : List Loc} {ls : Array Slot} (h : tf_H G 63 (cE G I L) s.heap H locs) (hl : lv_has ls 2 [(0, .ref (al G 5)), (1, .ref (al G 1))]) : W p l e (tf_rm 6 130) s m args below meth c H locs 0 0 (MQ below (tf_Q G 63 (cE G I9 L9) (some (.int r))) args s 0 0 (gA (al G) 63)) (F0 m 36 ls []) := by
  have hx := X.1
  have hb := X.2.1
  have hJ := X.2.2.2.2.2.2.2.2.2
  unfold fK1_readOrder_36 at hf
  refine lv_aload_n hx hb dK1_readOrder_36 rfl (lv_at hl 0 rfl) ?_
  refine lv_aload_n hx hb dK1_readOrder_37 rfl (lv_at hl 1 rfl) ?_
  refine lv_iconst (v := 3) hx hb dK1_readOrder_38 (by decide) ?_
  obtain ⟨r_2, I_3, L_4, h_1, hf⟩ := bq_some hf
  refine tf_callVi (As := [.ref (al G 1), .int 3]) (rest := []) X h 5 (by decide) rfl rfl (mK1_readPrice hJ h_1) bwK1_readPrice w_90 ⟨Nat.le_of_ble_eq_true rfl, Nat.le_of_ble_eq_true rfl⟩ hl.1 rfl (Nat.le_of_ble_eq_true rfl) ⟨Nat.zero_le _, Nat.zero_le _⟩ dK1_readOrder_39 (fun H locs h => ?_)
  refine lv_if_eq (tgt := 58) hx hb dK1_readOrder_42 (by decide) (fun c_5 => ?_) (fun c_5 => ?_)
  · have hf := if_t hf c_5
    refine lv_iconst (v := 0) hx hb dK1_readOrder_58 (by decide) ?_
    cases hf
    exact tf_iret X h dK1_readOrder_59
  · have hf := if_f hf c_5
    refine lv_aload_n hx hb dK1_readOrder_45 rfl (lv_at hl 0 rfl) ?_
    refine lv_aload_n hx hb dK1_readOrder_46 rfl (lv_at hl 1 rfl) ?_
    refine lv_iconst (v := 5) hx hb dK1_readOrder_47 (by decide) ?_
    obtain ⟨r_7, I_8, L_9, h_6, hf⟩ := bq_some hf
    refine tf_callVi (As := [.ref (al G 1), .int 5]) (rest := []) X h 5 (by decide) rfl rfl (mK1_readWay hJ h_6) bwK1_readWay w_91 ⟨Nat.le_of_ble_eq_true rfl, Nat.le_of_ble_eq_true rfl⟩ hl.1 rfl (Nat.le_of_ble_eq_true rfl) ⟨Nat.zero_le _, Nat.zero_le _⟩ dK1_readOrder_48 (fun H locs h => ?_)
    refine lv_if_eq (tgt := 58) hx hb dK1_readOrder_51 (by decide) (fun c_10 => ?_) (fun c_10 => ?_)
    · have hf := if_t hf c_10
      refine lv_iconst (v := 0) hx hb dK1_readOrder_58 (by decide) ?_
      cases hf
      exact tf_iret X h dK1_readOrder_59
    · have hf := if_f hf c_10
      refine lv_iconst (v := 4) hx hb dK1_readOrder_54 (by decide) ?_
      refine lv_goto (tgt := 59) hx hb dK1_readOrder_55 (by decide) ?_
      cases hf
      exact tf_iret X h dK1_readOrder_59
set_option maxHeartbeats 4000000 in
set_option maxRecDepth 100000 in
theorem sK1_readOrder_0 {p : Program} {l : Launch} {e : Env} {s : State} {m : MethodId} {args : Array Value} {below : List Frame} {meth : Method} {c : Code} {G : tf_G} (X : tf_X G 63 "TradeFloor$Command" cK1_readOrder 2 (some .int) p s m args meth c) {r : Int32} {I9 : FI} {L9 : FL} (I : FI) (L : FL) (hf : fK1_readOrder I L = some (r, I9, L9)) {H : Heap} {locs : List Loc} {ls : Array Slot} (h : tf_H G 63 (cE G I L) s.heap H locs) (hl : lv_has ls 2 [(0, .ref (al G 5)), (1, .ref (al G 1))]) : W p l e (tf_rm 6 130) s m args below meth c H locs 0 0 (MQ below (tf_Q G 63 (cE G I9 L9) (some (.int r))) args s 0 0 (gA (al G) 63)) (F0 m 0 ls []) := by
  have hx := X.1
  have hb := X.2.1
  have hJ := X.2.2.2.2.2.2.2.2.2
  unfold fK1_readOrder at hf
  refine lv_aload_n hx hb dK1_readOrder_0 rfl (lv_at hl 0 rfl) ?_
  refine lv_aload_n hx hb dK1_readOrder_1 rfl (lv_at hl 1 rfl) ?_
  refine lv_iconst (v := 0) hx hb dK1_readOrder_2 (by decide) ?_
  obtain ⟨r_2, I_3, L_4, h_1, hf⟩ := bq_some hf
  refine tf_callVi (As := [.ref (al G 1), .int 0]) (rest := []) X h 5 (by decide) rfl rfl (mK1_readBasics hJ h_1) bwK1_readBasics w_89 ⟨Nat.le_of_ble_eq_true rfl, Nat.le_of_ble_eq_true rfl⟩ hl.1 rfl (Nat.le_of_ble_eq_true rfl) ⟨Nat.zero_le _, Nat.zero_le _⟩ dK1_readOrder_3 (fun H locs h => ?_)
  refine lv_if_ne (tgt := 11) hx hb dK1_readOrder_6 (by decide) (fun c_5 => ?_) (fun c_5 => ?_)
  · have hf := if_f hf c_5
    refine lv_aload_n hx hb dK1_readOrder_11 rfl (lv_at hl 1 rfl) ?_
    refine gf5_words X h w_84 dK1_readOrder_12 ?_
    refine lv_iconst (v := 4) hx hb dK1_readOrder_15 (by decide) ?_
    refine lv_icmp_ne (tgt := 36) hx hb dK1_readOrder_16 (by decide) (fun c_6 => ?_) (fun c_6 => ?_)
    · have hf := if_f hf c_6
      exact sK1_readOrder_36 X I_3 L_4 hf h hl
    · have hf := if_t hf c_6
      refine lv_aload_n hx hb dK1_readOrder_19 rfl (lv_at hl 1 rfl) ?_
      refine lv_iconst (v := 3) hx hb dK1_readOrder_20 (by decide) ?_
      refine tf_ldcS X 2 (by decide) rfl rfl dK1_readOrder_21 ?_
      obtain ⟨r_8, h_7, hf⟩ := bn_some hf
      refine tf_callVi (As := [.int 3, .ref (sK G 2)]) (rest := []) X h 1 (by decide) rfl rfl (mK5_says hJ h_7) bwK5_says w_68 ⟨Nat.le_of_ble_eq_true rfl, Nat.le_of_ble_eq_true rfl⟩ hl.1 rfl (Nat.le_of_ble_eq_true rfl) ⟨Nat.zero_le _, Nat.zero_le _⟩ dK1_readOrder_23 (fun H locs h => ?_)
      refine lv_if_eq (tgt := 36) hx hb dK1_readOrder_26 (by decide) (fun c_9 => ?_) (fun c_9 => ?_)
      · have hf := if_t hf c_9
        exact sK1_readOrder_36 X I_3 L_4 hf h hl
      · have hf := if_f hf c_9
        refine lv_aload_n hx hb dK1_readOrder_29 rfl (lv_at hl 0 rfl) ?_
        refine lv_iconst (v := 0) hx hb dK1_readOrder_30 (by decide) ?_
        obtain ⟨I_10, eI_10, hf⟩ := nm_some hf
        refine pf1_price X h eI_10 w_75 dK1_readOrder_31 (fun H locs h => ?_)
        refine lv_iconst (v := 5) hx hb dK1_readOrder_34 (by decide) ?_
        cases hf
        exact tf_iret X h dK1_readOrder_35
  · have hf := if_t hf c_5
    refine lv_iconst (v := 0) hx hb dK1_readOrder_9 (by decide) ?_
    cases hf
    exact tf_iret X h dK1_readOrder_10
theorem mK1_readOrder {l : Launch} {G : tf_G} (hJ : gJ (al G) 63) {r : Int32} {I9 : FI} {L9 : FL} {I : FI} {L : FL} (hf : fK1_readOrder I L = some (r, I9, L9)) : tf_Met l G 63 yK1_readOrder cK1_readOrder 2 (some .int) 6 130 [.ref (al G 5), .ref (al G 1)] (cE G I L) (cE G I9 L9) (some (.int r)) :=
  tf_enter (by decide +kernel) hJ (Nat.le_of_ble_eq_true rfl) (fun p e s m args below meth c ls X _ hl h => sK1_readOrder_0 X I L hf h hl)
theorem bwK1_readOrder : tf_cv yK1_readOrder cK1_readOrder 2 (some .int) 1 := ⟨w_92, w_93, w_94, w_65, by decide +kernel, by decide +kernel, by decide +kernel⟩

set_option maxHeartbeats 4000000 in
set_option maxRecDepth 100000 in
theorem sK1_readStop_0 {p : Program} {l : Launch} {e : Env} {s : State} {m : MethodId} {args : Array Value} {below : List Frame} {meth : Method} {c : Code} {G : tf_G} (X : tf_X G 63 "TradeFloor$Command" cK1_readStop 2 (some .int) p s m args meth c) {r : Int32} {I9 : FI} {L9 : FL} (I : FI) (L : FL) (hf : fK1_readStop I L = some (r, I9, L9)) {H : Heap} {locs : List Loc} {ls : Array Slot} (h : tf_H G 63 (cE G I L) s.heap H locs) (hl : lv_has ls 2 [(0, .ref (al G 5)), (1, .ref (al G 1))]) : W p l e (tf_rm 6 130) s m args below meth c H locs 0 0 (MQ below (tf_Q G 63 (cE G I9 L9) (some (.int r))) args s 0 0 (gA (al G) 63)) (F0 m 0 ls []) := by
  have hx := X.1
  have hb := X.2.1
  have hJ := X.2.2.2.2.2.2.2.2.2
  unfold fK1_readStop at hf
  refine lv_aload_n hx hb dK1_readStop_0 rfl (lv_at hl 1 rfl) ?_
  refine gf5_words X h w_84 dK1_readStop_1 ?_
  refine lv_bipush (v := 6) hx hb dK1_readStop_4 (by decide) ?_
  refine lv_icmp_ne (tgt := 32) hx hb dK1_readStop_6 (by decide) (fun c_1 => ?_) (fun c_1 => ?_)
  · have hf := if_f hf c_1
    refine lv_iconst (v := 0) hx hb dK1_readStop_32 (by decide) ?_
    cases hf
    exact tf_iret X h dK1_readStop_33
  · have hf := if_t hf c_1
    refine lv_aload_n hx hb dK1_readStop_9 rfl (lv_at hl 0 rfl) ?_
    refine lv_aload_n hx hb dK1_readStop_10 rfl (lv_at hl 1 rfl) ?_
    refine lv_iconst (v := 1) hx hb dK1_readStop_11 (by decide) ?_
    obtain ⟨r_3, I_4, L_5, h_2, hf⟩ := bq_some hf
    refine tf_callVi (As := [.ref (al G 1), .int 1]) (rest := []) X h 5 (by decide) rfl rfl (mK1_readBasics hJ h_2) bwK1_readBasics w_89 ⟨Nat.le_of_ble_eq_true rfl, Nat.le_of_ble_eq_true rfl⟩ hl.1 rfl (Nat.le_of_ble_eq_true rfl) ⟨Nat.zero_le _, Nat.zero_le _⟩ dK1_readStop_12 (fun H locs h => ?_)
    refine lv_if_eq (tgt := 32) hx hb dK1_readStop_15 (by decide) (fun c_6 => ?_) (fun c_6 => ?_)
    · have hf := if_t hf c_6
      refine lv_iconst (v := 0) hx hb dK1_readStop_32 (by decide) ?_
      cases hf
      exact tf_iret X h dK1_readStop_33
    · have hf := if_f hf c_6
      refine lv_aload_n hx hb dK1_readStop_18 rfl (lv_at hl 0 rfl) ?_
      refine lv_aload_n hx hb dK1_readStop_19 rfl (lv_at hl 1 rfl) ?_
      refine lv_iconst (v := 4) hx hb dK1_readStop_20 (by decide) ?_
      obtain ⟨r_8, I_9, L_10, h_7, hf⟩ := bq_some hf
      refine tf_callVi (As := [.ref (al G 1), .int 4]) (rest := []) X h 5 (by decide) rfl rfl (mK1_readPrice hJ h_7) bwK1_readPrice w_90 ⟨Nat.le_of_ble_eq_true rfl, Nat.le_of_ble_eq_true rfl⟩ hl.1 rfl (Nat.le_of_ble_eq_true rfl) ⟨Nat.zero_le _, Nat.zero_le _⟩ dK1_readStop_21 (fun H locs h => ?_)
      refine lv_if_eq (tgt := 32) hx hb dK1_readStop_24 (by decide) (fun c_11 => ?_) (fun c_11 => ?_)
      · have hf := if_t hf c_11
        refine lv_iconst (v := 0) hx hb dK1_readStop_32 (by decide) ?_
        cases hf
        exact tf_iret X h dK1_readStop_33
      · have hf := if_f hf c_11
        refine lv_bipush (v := 6) hx hb dK1_readStop_27 (by decide) ?_
        refine lv_goto (tgt := 33) hx hb dK1_readStop_29 (by decide) ?_
        cases hf
        exact tf_iret X h dK1_readStop_33
theorem mK1_readStop {l : Launch} {G : tf_G} (hJ : gJ (al G) 63) {r : Int32} {I9 : FI} {L9 : FL} {I : FI} {L : FL} (hf : fK1_readStop I L = some (r, I9, L9)) : tf_Met l G 63 yK1_readStop cK1_readStop 2 (some .int) 6 130 [.ref (al G 5), .ref (al G 1)] (cE G I L) (cE G I9 L9) (some (.int r)) :=
  tf_enter (by decide +kernel) hJ (Nat.le_of_ble_eq_true rfl) (fun p e s m args below meth c ls X _ hl h => sK1_readStop_0 X I L hf h hl)
theorem bwK1_readStop : tf_cv yK1_readStop cK1_readStop 2 (some .int) 1 := ⟨w_95, w_96, w_97, w_65, by decide +kernel, by decide +kernel, by decide +kernel⟩

set_option maxHeartbeats 4000000 in
set_option maxRecDepth 100000 in
theorem sK1_readAmount_0 {p : Program} {l : Launch} {e : Env} {s : State} {m : MethodId} {args : Array Value} {below : List Frame} {meth : Method} {c : Code} {G : tf_G} (X : tf_X G 63 "TradeFloor$Command" cK1_readAmount 3 (some .int) p s m args meth c) {r : Int32} {I9 : FI} {L9 : FL} (a2 : Int32) (I : FI) (L : FL) (hf : fK1_readAmount a2 I L = some (r, I9, L9)) {H : Heap} {locs : List Loc} {ls : Array Slot} (h : tf_H G 63 (cE G I L) s.heap H locs) (hl : lv_has ls 3 [(0, .ref (al G 5)), (1, .ref (al G 1)), (2, .int a2)]) : W p l e (tf_rm 3 69) s m args below meth c H locs 0 0 (MQ below (tf_Q G 63 (cE G I9 L9) (some (.int r))) args s 0 0 (gA (al G) 63)) (F0 m 0 ls []) := by
  have hx := X.1
  have hb := X.2.1
  have hJ := X.2.2.2.2.2.2.2.2.2
  unfold fK1_readAmount at hf
  refine lv_aload_n hx hb dK1_readAmount_0 rfl (lv_at hl 0 rfl) ?_
  refine lv_aload_n hx hb dK1_readAmount_1 rfl (lv_at hl 1 rfl) ?_
  refine lv_iconst (v := 2) hx hb dK1_readAmount_2 (by decide) ?_
  obtain ⟨r_2, h_1, hf⟩ := bn_some hf
  refine tf_callVi (As := [.int 2]) (rest := [.ref (al G 5)]) X h 1 (by decide) rfl rfl (mK5_number hJ h_1) bwK5_number w_98 ⟨Nat.le_of_ble_eq_true rfl, Nat.le_of_ble_eq_true rfl⟩ hl.1 rfl (Nat.le_of_ble_eq_true rfl) ⟨Nat.zero_le _, Nat.zero_le _⟩ dK1_readAmount_3 (fun H locs h => ?_)
  obtain ⟨I_3, eI_3, hf⟩ := nm_some hf
  refine pf1_amount X h eI_3 w_99 dK1_readAmount_6 (fun H locs h => ?_)
  refine lv_aload_n hx hb dK1_readAmount_9 rfl (lv_at hl 1 rfl) ?_
  refine gf5_words X h w_84 dK1_readAmount_10 ?_
  refine lv_iconst (v := 3) hx hb dK1_readAmount_13 (by decide) ?_
  refine lv_icmp_ne (tgt := 38) hx hb dK1_readAmount_14 (by decide) (fun c_4 => ?_) (fun c_4 => ?_)
  · have hf := if_f hf c_4
    refine lv_iconst (v := 0) hx hb dK1_readAmount_38 (by decide) ?_
    cases hf
    exact tf_iret X h dK1_readAmount_39
  · have hf := if_t hf c_4
    refine lv_aload_n hx hb dK1_readAmount_17 rfl (lv_at hl 0 rfl) ?_
    refine lv_aload_n hx hb dK1_readAmount_18 rfl (lv_at hl 1 rfl) ?_
    refine lv_iconst (v := 1) hx hb dK1_readAmount_19 (by decide) ?_
    obtain ⟨r_6, I_7, L_8, h_5, hf⟩ := bq_some hf
    refine tf_callVi (As := [.ref (al G 1), .int 1]) (rest := []) X h 5 (by decide) rfl rfl (mK1_readOwner hJ h_5) bwK1_readOwner w_71 ⟨Nat.le_of_ble_eq_true rfl, Nat.le_of_ble_eq_true rfl⟩ hl.1 rfl (Nat.le_of_ble_eq_true rfl) ⟨Nat.zero_le _, Nat.zero_le _⟩ dK1_readAmount_20 (fun H locs h => ?_)
    refine lv_if_eq (tgt := 38) hx hb dK1_readAmount_23 (by decide) (fun c_9 => ?_) (fun c_9 => ?_)
    · have hf := if_t hf c_9
      refine lv_iconst (v := 0) hx hb dK1_readAmount_38 (by decide) ?_
      cases hf
      exact tf_iret X h dK1_readAmount_39
    · have hf := if_f hf c_9
      refine lv_aload_n hx hb dK1_readAmount_26 rfl (lv_at hl 0 rfl) ?_
      refine gf1_amount X h w_99 dK1_readAmount_27 ?_
      refine lv_iconst (v := (-1)) hx hb dK1_readAmount_30 (by decide) ?_
      refine lv_icmp_eq (tgt := 38) hx hb dK1_readAmount_31 (by decide) (fun c_10 => ?_) (fun c_10 => ?_)
      · have hf := if_t hf c_10
        refine lv_iconst (v := 0) hx hb dK1_readAmount_38 (by decide) ?_
        cases hf
        exact tf_iret X h dK1_readAmount_39
      · have hf := if_f hf c_10
        refine lv_iload_n hx hb dK1_readAmount_34 rfl (lv_at hl 2 rfl) ?_
        refine lv_goto (tgt := 39) hx hb dK1_readAmount_35 (by decide) ?_
        cases hf
        exact tf_iret X h dK1_readAmount_39
theorem mK1_readAmount {l : Launch} {G : tf_G} (hJ : gJ (al G) 63) {r : Int32} {I9 : FI} {L9 : FL} {a2 : Int32} {I : FI} {L : FL} (hf : fK1_readAmount a2 I L = some (r, I9, L9)) : tf_Met l G 63 yK1_readAmount cK1_readAmount 3 (some .int) 3 69 [.ref (al G 5), .ref (al G 1), .int a2] (cE G I L) (cE G I9 L9) (some (.int r)) :=
  tf_enter (by decide +kernel) hJ (Nat.le_of_ble_eq_true rfl) (fun p e s m args below meth c ls X _ hl h => sK1_readAmount_0 X a2 I L hf h hl)
theorem bwK1_readAmount : tf_cv yK1_readAmount cK1_readAmount 3 (some .int) 2 := ⟨w_100, w_101, w_102, w_65, by decide +kernel, by decide +kernel, by decide +kernel⟩

set_option maxHeartbeats 4000000 in
set_option maxRecDepth 100000 in
theorem sK1_readCancel_0 {p : Program} {l : Launch} {e : Env} {s : State} {m : MethodId} {args : Array Value} {below : List Frame} {meth : Method} {c : Code} {G : tf_G} (X : tf_X G 63 "TradeFloor$Command" cK1_readCancel 2 (some .int) p s m args meth c) {r : Int32} {I9 : FI} {L9 : FL} (I : FI) (L : FL) (hf : fK1_readCancel I L = some (r, I9, L9)) {H : Heap} {locs : List Loc} {ls : Array Slot} (h : tf_H G 63 (cE G I L) s.heap H locs) (hl : lv_has ls 2 [(0, .ref (al G 5)), (1, .ref (al G 1))]) : W p l e (tf_rm 3 69) s m args below meth c H locs 0 0 (MQ below (tf_Q G 63 (cE G I9 L9) (some (.int r))) args s 0 0 (gA (al G) 63)) (F0 m 0 ls []) := by
  have hx := X.1
  have hb := X.2.1
  have hJ := X.2.2.2.2.2.2.2.2.2
  unfold fK1_readCancel at hf
  refine lv_aload_n hx hb dK1_readCancel_0 rfl (lv_at hl 0 rfl) ?_
  refine lv_aload_n hx hb dK1_readCancel_1 rfl (lv_at hl 1 rfl) ?_
  refine lv_iconst (v := 2) hx hb dK1_readCancel_2 (by decide) ?_
  obtain ⟨r_2, h_1, hf⟩ := bn_some hf
  refine tf_callVi (As := [.int 2]) (rest := [.ref (al G 5)]) X h 1 (by decide) rfl rfl (mK5_number hJ h_1) bwK5_number w_98 ⟨Nat.le_of_ble_eq_true rfl, Nat.le_of_ble_eq_true rfl⟩ hl.1 rfl (Nat.le_of_ble_eq_true rfl) ⟨Nat.zero_le _, Nat.zero_le _⟩ dK1_readCancel_3 (fun H locs h => ?_)
  obtain ⟨I_3, eI_3, hf⟩ := nm_some hf
  refine pf1_target X h eI_3 w_103 dK1_readCancel_6 (fun H locs h => ?_)
  refine lv_aload_n hx hb dK1_readCancel_9 rfl (lv_at hl 1 rfl) ?_
  refine gf5_words X h w_84 dK1_readCancel_10 ?_
  refine lv_iconst (v := 3) hx hb dK1_readCancel_13 (by decide) ?_
  refine lv_icmp_ne (tgt := 39) hx hb dK1_readCancel_14 (by decide) (fun c_4 => ?_) (fun c_4 => ?_)
  · have hf := if_f hf c_4
    refine lv_iconst (v := 0) hx hb dK1_readCancel_39 (by decide) ?_
    cases hf
    exact tf_iret X h dK1_readCancel_40
  · have hf := if_t hf c_4
    refine lv_aload_n hx hb dK1_readCancel_17 rfl (lv_at hl 0 rfl) ?_
    refine lv_aload_n hx hb dK1_readCancel_18 rfl (lv_at hl 1 rfl) ?_
    refine lv_iconst (v := 1) hx hb dK1_readCancel_19 (by decide) ?_
    obtain ⟨r_6, I_7, L_8, h_5, hf⟩ := bq_some hf
    refine tf_callVi (As := [.ref (al G 1), .int 1]) (rest := []) X h 5 (by decide) rfl rfl (mK1_readOwner hJ h_5) bwK1_readOwner w_71 ⟨Nat.le_of_ble_eq_true rfl, Nat.le_of_ble_eq_true rfl⟩ hl.1 rfl (Nat.le_of_ble_eq_true rfl) ⟨Nat.zero_le _, Nat.zero_le _⟩ dK1_readCancel_20 (fun H locs h => ?_)
    refine lv_if_eq (tgt := 39) hx hb dK1_readCancel_23 (by decide) (fun c_9 => ?_) (fun c_9 => ?_)
    · have hf := if_t hf c_9
      refine lv_iconst (v := 0) hx hb dK1_readCancel_39 (by decide) ?_
      cases hf
      exact tf_iret X h dK1_readCancel_40
    · have hf := if_f hf c_9
      refine lv_aload_n hx hb dK1_readCancel_26 rfl (lv_at hl 0 rfl) ?_
      refine gf1_target X h w_103 dK1_readCancel_27 ?_
      refine lv_iconst (v := (-1)) hx hb dK1_readCancel_30 (by decide) ?_
      refine lv_icmp_eq (tgt := 39) hx hb dK1_readCancel_31 (by decide) (fun c_10 => ?_) (fun c_10 => ?_)
      · have hf := if_t hf c_10
        refine lv_iconst (v := 0) hx hb dK1_readCancel_39 (by decide) ?_
        cases hf
        exact tf_iret X h dK1_readCancel_40
      · have hf := if_f hf c_10
        refine lv_bipush (v := 7) hx hb dK1_readCancel_34 (by decide) ?_
        refine lv_goto (tgt := 40) hx hb dK1_readCancel_36 (by decide) ?_
        cases hf
        exact tf_iret X h dK1_readCancel_40
theorem mK1_readCancel {l : Launch} {G : tf_G} (hJ : gJ (al G) 63) {r : Int32} {I9 : FI} {L9 : FL} {I : FI} {L : FL} (hf : fK1_readCancel I L = some (r, I9, L9)) : tf_Met l G 63 yK1_readCancel cK1_readCancel 2 (some .int) 3 69 [.ref (al G 5), .ref (al G 1)] (cE G I L) (cE G I9 L9) (some (.int r)) :=
  tf_enter (by decide +kernel) hJ (Nat.le_of_ble_eq_true rfl) (fun p e s m args below meth c ls X _ hl h => sK1_readCancel_0 X I L hf h hl)
theorem bwK1_readCancel : tf_cv yK1_readCancel cK1_readCancel 2 (some .int) 1 := ⟨w_104, w_105, w_106, w_65, by decide +kernel, by decide +kernel, by decide +kernel⟩

set_option maxHeartbeats 4000000 in
set_option maxRecDepth 100000 in
theorem sK1_readLess_0 {p : Program} {l : Launch} {e : Env} {s : State} {m : MethodId} {args : Array Value} {below : List Frame} {meth : Method} {c : Code} {G : tf_G} (X : tf_X G 63 "TradeFloor$Command" cK1_readLess 2 (some .int) p s m args meth c) {r : Int32} {I9 : FI} {L9 : FL} (I : FI) (L : FL) (hf : fK1_readLess I L = some (r, I9, L9)) {H : Heap} {locs : List Loc} {ls : Array Slot} (h : tf_H G 63 (cE G I L) s.heap H locs) (hl : lv_has ls 2 [(0, .ref (al G 5)), (1, .ref (al G 1))]) : W p l e (tf_rm 3 69) s m args below meth c H locs 0 0 (MQ below (tf_Q G 63 (cE G I9 L9) (some (.int r))) args s 0 0 (gA (al G) 63)) (F0 m 0 ls []) := by
  have hx := X.1
  have hb := X.2.1
  have hJ := X.2.2.2.2.2.2.2.2.2
  unfold fK1_readLess at hf
  refine lv_aload_n hx hb dK1_readLess_0 rfl (lv_at hl 0 rfl) ?_
  refine lv_aload_n hx hb dK1_readLess_1 rfl (lv_at hl 1 rfl) ?_
  refine lv_iconst (v := 2) hx hb dK1_readLess_2 (by decide) ?_
  obtain ⟨r_2, h_1, hf⟩ := bn_some hf
  refine tf_callVi (As := [.int 2]) (rest := [.ref (al G 5)]) X h 1 (by decide) rfl rfl (mK5_number hJ h_1) bwK5_number w_98 ⟨Nat.le_of_ble_eq_true rfl, Nat.le_of_ble_eq_true rfl⟩ hl.1 rfl (Nat.le_of_ble_eq_true rfl) ⟨Nat.zero_le _, Nat.zero_le _⟩ dK1_readLess_3 (fun H locs h => ?_)
  obtain ⟨I_3, eI_3, hf⟩ := nm_some hf
  refine pf1_target X h eI_3 w_103 dK1_readLess_6 (fun H locs h => ?_)
  refine lv_aload_n hx hb dK1_readLess_9 rfl (lv_at hl 0 rfl) ?_
  refine lv_aload_n hx hb dK1_readLess_10 rfl (lv_at hl 1 rfl) ?_
  refine lv_iconst (v := 3) hx hb dK1_readLess_11 (by decide) ?_
  obtain ⟨r_5, h_4, hf⟩ := bn_some hf
  refine tf_callVi (As := [.int 3]) (rest := [.ref (al G 5)]) X h 1 (by decide) rfl rfl (mK5_number hJ h_4) bwK5_number w_98 ⟨Nat.le_of_ble_eq_true rfl, Nat.le_of_ble_eq_true rfl⟩ hl.1 rfl (Nat.le_of_ble_eq_true rfl) ⟨Nat.zero_le _, Nat.zero_le _⟩ dK1_readLess_12 (fun H locs h => ?_)
  obtain ⟨I_6, eI_6, hf⟩ := nm_some hf
  refine pf1_amount X h eI_6 w_99 dK1_readLess_15 (fun H locs h => ?_)
  refine lv_aload_n hx hb dK1_readLess_18 rfl (lv_at hl 1 rfl) ?_
  refine gf5_words X h w_84 dK1_readLess_19 ?_
  refine lv_iconst (v := 4) hx hb dK1_readLess_22 (by decide) ?_
  refine lv_icmp_ne (tgt := 56) hx hb dK1_readLess_23 (by decide) (fun c_7 => ?_) (fun c_7 => ?_)
  · have hf := if_f hf c_7
    refine lv_iconst (v := 0) hx hb dK1_readLess_56 (by decide) ?_
    cases hf
    exact tf_iret X h dK1_readLess_57
  · have hf := if_t hf c_7
    refine lv_aload_n hx hb dK1_readLess_26 rfl (lv_at hl 0 rfl) ?_
    refine lv_aload_n hx hb dK1_readLess_27 rfl (lv_at hl 1 rfl) ?_
    refine lv_iconst (v := 1) hx hb dK1_readLess_28 (by decide) ?_
    obtain ⟨r_9, I_10, L_11, h_8, hf⟩ := bq_some hf
    refine tf_callVi (As := [.ref (al G 1), .int 1]) (rest := []) X h 5 (by decide) rfl rfl (mK1_readOwner hJ h_8) bwK1_readOwner w_71 ⟨Nat.le_of_ble_eq_true rfl, Nat.le_of_ble_eq_true rfl⟩ hl.1 rfl (Nat.le_of_ble_eq_true rfl) ⟨Nat.zero_le _, Nat.zero_le _⟩ dK1_readLess_29 (fun H locs h => ?_)
    refine lv_if_eq (tgt := 56) hx hb dK1_readLess_32 (by decide) (fun c_12 => ?_) (fun c_12 => ?_)
    · have hf := if_t hf c_12
      refine lv_iconst (v := 0) hx hb dK1_readLess_56 (by decide) ?_
      cases hf
      exact tf_iret X h dK1_readLess_57
    · have hf := if_f hf c_12
      refine lv_aload_n hx hb dK1_readLess_35 rfl (lv_at hl 0 rfl) ?_
      refine gf1_target X h w_103 dK1_readLess_36 ?_
      refine lv_iconst (v := (-1)) hx hb dK1_readLess_39 (by decide) ?_
      refine lv_icmp_eq (tgt := 56) hx hb dK1_readLess_40 (by decide) (fun c_13 => ?_) (fun c_13 => ?_)
      · have hf := if_t hf c_13
        refine lv_iconst (v := 0) hx hb dK1_readLess_56 (by decide) ?_
        cases hf
        exact tf_iret X h dK1_readLess_57
      · have hf := if_f hf c_13
        refine lv_aload_n hx hb dK1_readLess_43 rfl (lv_at hl 0 rfl) ?_
        refine gf1_amount X h w_99 dK1_readLess_44 ?_
        refine lv_iconst (v := (-1)) hx hb dK1_readLess_47 (by decide) ?_
        refine lv_icmp_eq (tgt := 56) hx hb dK1_readLess_48 (by decide) (fun c_14 => ?_) (fun c_14 => ?_)
        · have hf := if_t hf c_14
          refine lv_iconst (v := 0) hx hb dK1_readLess_56 (by decide) ?_
          cases hf
          exact tf_iret X h dK1_readLess_57
        · have hf := if_f hf c_14
          refine lv_bipush (v := 8) hx hb dK1_readLess_51 (by decide) ?_
          refine lv_goto (tgt := 57) hx hb dK1_readLess_53 (by decide) ?_
          cases hf
          exact tf_iret X h dK1_readLess_57
theorem mK1_readLess {l : Launch} {G : tf_G} (hJ : gJ (al G) 63) {r : Int32} {I9 : FI} {L9 : FL} {I : FI} {L : FL} (hf : fK1_readLess I L = some (r, I9, L9)) : tf_Met l G 63 yK1_readLess cK1_readLess 2 (some .int) 3 69 [.ref (al G 5), .ref (al G 1)] (cE G I L) (cE G I9 L9) (some (.int r)) :=
  tf_enter (by decide +kernel) hJ (Nat.le_of_ble_eq_true rfl) (fun p e s m args below meth c ls X _ hl h => sK1_readLess_0 X I L hf h hl)
theorem bwK1_readLess : tf_cv yK1_readLess cK1_readLess 2 (some .int) 1 := ⟨w_107, w_108, w_109, w_65, by decide +kernel, by decide +kernel, by decide +kernel⟩

set_option maxHeartbeats 4000000 in
set_option maxRecDepth 100000 in
theorem sK1_readTick_0 {p : Program} {l : Launch} {e : Env} {s : State} {m : MethodId} {args : Array Value} {below : List Frame} {meth : Method} {c : Code} {G : tf_G} (X : tf_X G 63 "TradeFloor$Command" cK1_readTick 2 (some .int) p s m args meth c) {r : Int32} {I9 : FI} {L9 : FL} (I : FI) (L : FL) (hf : fK1_readTick I L = some (r, I9, L9)) {H : Heap} {locs : List Loc} {ls : Array Slot} (h : tf_H G 63 (cE G I L) s.heap H locs) (hl : lv_has ls 2 [(0, .ref (al G 5)), (1, .ref (al G 1))]) : W p l e (tf_rm 3 69) s m args below meth c H locs 0 0 (MQ below (tf_Q G 63 (cE G I9 L9) (some (.int r))) args s 0 0 (gA (al G) 63)) (F0 m 0 ls []) := by
  have hx := X.1
  have hb := X.2.1
  have hJ := X.2.2.2.2.2.2.2.2.2
  unfold fK1_readTick at hf
  refine lv_aload_n hx hb dK1_readTick_0 rfl (lv_at hl 1 rfl) ?_
  refine gf5_words X h w_84 dK1_readTick_1 ?_
  refine lv_iconst (v := 2) hx hb dK1_readTick_4 (by decide) ?_
  refine lv_icmp_ne (tgt := 22) hx hb dK1_readTick_5 (by decide) (fun c_1 => ?_) (fun c_1 => ?_)
  · have hf := if_f hf c_1
    refine lv_iconst (v := 0) hx hb dK1_readTick_22 (by decide) ?_
    cases hf
    exact tf_iret X h dK1_readTick_23
  · have hf := if_t hf c_1
    refine lv_aload_n hx hb dK1_readTick_8 rfl (lv_at hl 0 rfl) ?_
    refine lv_aload_n hx hb dK1_readTick_9 rfl (lv_at hl 1 rfl) ?_
    refine lv_iconst (v := 1) hx hb dK1_readTick_10 (by decide) ?_
    obtain ⟨r_3, I_4, L_5, h_2, hf⟩ := bq_some hf
    refine tf_callVi (As := [.ref (al G 1), .int 1]) (rest := []) X h 5 (by decide) rfl rfl (mK1_readTicks hJ h_2) bwK1_readTicks w_85 ⟨Nat.le_of_ble_eq_true rfl, Nat.le_of_ble_eq_true rfl⟩ hl.1 rfl (Nat.le_of_ble_eq_true rfl) ⟨Nat.zero_le _, Nat.zero_le _⟩ dK1_readTick_11 (fun H locs h => ?_)
    refine lv_if_eq (tgt := 22) hx hb dK1_readTick_14 (by decide) (fun c_6 => ?_) (fun c_6 => ?_)
    · have hf := if_t hf c_6
      refine lv_iconst (v := 0) hx hb dK1_readTick_22 (by decide) ?_
      cases hf
      exact tf_iret X h dK1_readTick_23
    · have hf := if_f hf c_6
      refine lv_bipush (v := 9) hx hb dK1_readTick_17 (by decide) ?_
      refine lv_goto (tgt := 23) hx hb dK1_readTick_19 (by decide) ?_
      cases hf
      exact tf_iret X h dK1_readTick_23
theorem mK1_readTick {l : Launch} {G : tf_G} (hJ : gJ (al G) 63) {r : Int32} {I9 : FI} {L9 : FL} {I : FI} {L : FL} (hf : fK1_readTick I L = some (r, I9, L9)) : tf_Met l G 63 yK1_readTick cK1_readTick 2 (some .int) 3 69 [.ref (al G 5), .ref (al G 1)] (cE G I L) (cE G I9 L9) (some (.int r)) :=
  tf_enter (by decide +kernel) hJ (Nat.le_of_ble_eq_true rfl) (fun p e s m args below meth c ls X _ hl h => sK1_readTick_0 X I L hf h hl)
theorem bwK1_readTick : tf_cv yK1_readTick cK1_readTick 2 (some .int) 1 := ⟨w_110, w_111, w_112, w_65, by decide +kernel, by decide +kernel, by decide +kernel⟩

set_option maxHeartbeats 4000000 in
set_option maxRecDepth 100000 in
theorem sK1_read_33 {p : Program} {l : Launch} {e : Env} {s : State} {m : MethodId} {args : Array Value} {below : List Frame} {meth : Method} {c : Code} {G : tf_G} (X : tf_X G 63 "TradeFloor$Command" cK1_read 2 none p s m args meth c) {I9 : FI} {L9 : FL} (I : FI) (L : FL) (hf : fK1_read_33 I L = some (I9, L9)) {H : Heap} {locs : List Loc} {ls : Array Slot} (h : tf_H G 63 (cE G I L) s.heap H locs) (hl : lv_has ls 2 [(0, .ref (al G 5)), (1, .ref (al G 1))]) : W p l e (tf_rm 7 151) s m args below meth c H locs 0 0 (MQ below (tf_Q G 63 (cE G I9 L9) (none)) args s 0 0 (gA (al G) 63)) (F0 m 33 ls []) := by
  have hx := X.1
  have hb := X.2.1
  have hJ := X.2.2.2.2.2.2.2.2.2
  unfold fK1_read_33 at hf
  refine lv_aload_n hx hb dK1_read_33 rfl (lv_at hl 0 rfl) ?_
  refine lv_aload_n hx hb dK1_read_34 rfl (lv_at hl 0 rfl) ?_
  refine lv_aload_n hx hb dK1_read_35 rfl (lv_at hl 1 rfl) ?_
  obtain ⟨r_2, I_3, L_4, h_1, hf⟩ := bq_some hf
  refine tf_callVi (As := [.ref (al G 1)]) (rest := [.ref (al G 5)]) X h 5 (by decide) rfl rfl (mK1_readOrder hJ h_1) bwK1_readOrder w_120 ⟨Nat.le_of_ble_eq_true rfl, Nat.le_of_ble_eq_true rfl⟩ hl.1 rfl (Nat.le_of_ble_eq_true rfl) ⟨Nat.zero_le _, Nat.zero_le _⟩ dK1_read_36 (fun H locs h => ?_)
  obtain ⟨I_5, eI_5, hf⟩ := nm_some hf
  refine pf1_verb X h eI_5 w_113 dK1_read_39 (fun H locs h => ?_)
  refine lv_goto (tgt := 199) hx hb dK1_read_42 (by decide) ?_
  cases hf
  exact tf_vret X h dK1_read_199
set_option maxHeartbeats 4000000 in
set_option maxRecDepth 100000 in
theorem sK1_read_0 {p : Program} {l : Launch} {e : Env} {s : State} {m : MethodId} {args : Array Value} {below : List Frame} {meth : Method} {c : Code} {G : tf_G} (X : tf_X G 63 "TradeFloor$Command" cK1_read 2 none p s m args meth c) {I9 : FI} {L9 : FL} (I : FI) (L : FL) (hf : fK1_read I L = some (I9, L9)) {H : Heap} {locs : List Loc} {ls : Array Slot} (h : tf_H G 63 (cE G I L) s.heap H locs) (hl : lv_has ls 2 [(0, .ref (al G 5)), (1, .ref (al G 1))]) : W p l e (tf_rm 7 151) s m args below meth c H locs 0 0 (MQ below (tf_Q G 63 (cE G I9 L9) (none)) args s 0 0 (gA (al G) 63)) (F0 m 0 ls []) := by
  have hx := X.1
  have hb := X.2.1
  have hJ := X.2.2.2.2.2.2.2.2.2
  unfold fK1_read at hf
  refine lv_aload_n hx hb dK1_read_0 rfl (lv_at hl 0 rfl) ?_
  refine lv_iconst (v := 0) hx hb dK1_read_1 (by decide) ?_
  obtain ⟨I_1, eI_1, hf⟩ := nm_some hf
  refine pf1_verb X h eI_1 w_113 dK1_read_2 (fun H locs h => ?_)
  refine lv_aload_n hx hb dK1_read_5 rfl (lv_at hl 1 rfl) ?_
  obtain ⟨r_3, I_4, L_5, h_2, hf⟩ := bq_some hf
  refine tf_callVi (As := []) (rest := []) X h 1 (by decide) rfl rfl (mK5_cutIntoWords hJ h_2) bwK5_cutIntoWords w_114 ⟨Nat.le_of_ble_eq_true rfl, Nat.le_of_ble_eq_true rfl⟩ hl.1 rfl (Nat.le_of_ble_eq_true rfl) ⟨Nat.zero_le _, Nat.zero_le _⟩ dK1_read_6 (fun H locs h => ?_)
  refine lv_if_ne (tgt := 13) hx hb dK1_read_9 (by decide) (fun c_6 => ?_) (fun c_6 => ?_)
  · have hf := if_f hf c_6
    refine lv_aload_n hx hb dK1_read_13 rfl (lv_at hl 1 rfl) ?_
    refine lv_iconst (v := 0) hx hb dK1_read_14 (by decide) ?_
    refine tf_ldcS X 0 (by decide) rfl rfl dK1_read_15 ?_
    obtain ⟨r_8, h_7, hf⟩ := bn_some hf
    refine tf_callVi (As := [.int 0, .ref (sK G 0)]) (rest := []) X h 1 (by decide) rfl rfl (mK5_says hJ h_7) bwK5_says w_68 ⟨Nat.le_of_ble_eq_true rfl, Nat.le_of_ble_eq_true rfl⟩ hl.1 rfl (Nat.le_of_ble_eq_true rfl) ⟨Nat.zero_le _, Nat.zero_le _⟩ dK1_read_17 (fun H locs h => ?_)
    refine lv_if_ne (tgt := 33) hx hb dK1_read_20 (by decide) (fun c_9 => ?_) (fun c_9 => ?_)
    · have hf := if_f hf c_9
      exact sK1_read_33 X I_4 L_5 hf h hl
    · have hf := if_t hf c_9
      refine lv_aload_n hx hb dK1_read_23 rfl (lv_at hl 1 rfl) ?_
      refine lv_iconst (v := 0) hx hb dK1_read_24 (by decide) ?_
      refine tf_ldcS X 1 (by decide) rfl rfl dK1_read_25 ?_
      obtain ⟨r_11, h_10, hf⟩ := bn_some hf
      refine tf_callVi (As := [.int 0, .ref (sK G 1)]) (rest := []) X h 1 (by decide) rfl rfl (mK5_says hJ h_10) bwK5_says w_68 ⟨Nat.le_of_ble_eq_true rfl, Nat.le_of_ble_eq_true rfl⟩ hl.1 rfl (Nat.le_of_ble_eq_true rfl) ⟨Nat.zero_le _, Nat.zero_le _⟩ dK1_read_27 (fun H locs h => ?_)
      refine lv_if_eq (tgt := 45) hx hb dK1_read_30 (by decide) (fun c_12 => ?_) (fun c_12 => ?_)
      · have hf := if_t hf c_12
        refine lv_aload_n hx hb dK1_read_45 rfl (lv_at hl 1 rfl) ?_
        refine lv_iconst (v := 0) hx hb dK1_read_46 (by decide) ?_
        refine tf_ldcS X 8 (by decide) rfl rfl dK1_read_47 ?_
        obtain ⟨r_14, h_13, hf⟩ := bn_some hf
        refine tf_callVi (As := [.int 0, .ref (sK G 8)]) (rest := []) X h 1 (by decide) rfl rfl (mK5_says hJ h_13) bwK5_says w_68 ⟨Nat.le_of_ble_eq_true rfl, Nat.le_of_ble_eq_true rfl⟩ hl.1 rfl (Nat.le_of_ble_eq_true rfl) ⟨Nat.zero_le _, Nat.zero_le _⟩ dK1_read_49 (fun H locs h => ?_)
        refine lv_if_eq (tgt := 67) hx hb dK1_read_52 (by decide) (fun c_15 => ?_) (fun c_15 => ?_)
        · have hf := if_t hf c_15
          refine lv_aload_n hx hb dK1_read_67 rfl (lv_at hl 1 rfl) ?_
          refine lv_iconst (v := 0) hx hb dK1_read_68 (by decide) ?_
          refine tf_ldcS X 9 (by decide) rfl rfl dK1_read_69 ?_
          obtain ⟨r_17, h_16, hf⟩ := bn_some hf
          refine tf_callVi (As := [.int 0, .ref (sK G 9)]) (rest := []) X h 1 (by decide) rfl rfl (mK5_says hJ h_16) bwK5_says w_68 ⟨Nat.le_of_ble_eq_true rfl, Nat.le_of_ble_eq_true rfl⟩ hl.1 rfl (Nat.le_of_ble_eq_true rfl) ⟨Nat.zero_le _, Nat.zero_le _⟩ dK1_read_71 (fun H locs h => ?_)
          refine lv_if_eq (tgt := 90) hx hb dK1_read_74 (by decide) (fun c_18 => ?_) (fun c_18 => ?_)
          · have hf := if_t hf c_18
            refine lv_aload_n hx hb dK1_read_90 rfl (lv_at hl 1 rfl) ?_
            refine lv_iconst (v := 0) hx hb dK1_read_91 (by decide) ?_
            refine tf_ldcS X 10 (by decide) rfl rfl dK1_read_92 ?_
            obtain ⟨r_20, h_19, hf⟩ := bn_some hf
            refine tf_callVi (As := [.int 0, .ref (sK G 10)]) (rest := []) X h 1 (by decide) rfl rfl (mK5_says hJ h_19) bwK5_says w_68 ⟨Nat.le_of_ble_eq_true rfl, Nat.le_of_ble_eq_true rfl⟩ hl.1 rfl (Nat.le_of_ble_eq_true rfl) ⟨Nat.zero_le _, Nat.zero_le _⟩ dK1_read_94 (fun H locs h => ?_)
            refine lv_if_eq (tgt := 113) hx hb dK1_read_97 (by decide) (fun c_21 => ?_) (fun c_21 => ?_)
            · have hf := if_t hf c_21
              refine lv_aload_n hx hb dK1_read_113 rfl (lv_at hl 1 rfl) ?_
              refine lv_iconst (v := 0) hx hb dK1_read_114 (by decide) ?_
              refine tf_ldcS X 11 (by decide) rfl rfl dK1_read_115 ?_
              obtain ⟨r_23, h_22, hf⟩ := bn_some hf
              refine tf_callVi (As := [.int 0, .ref (sK G 11)]) (rest := []) X h 1 (by decide) rfl rfl (mK5_says hJ h_22) bwK5_says w_68 ⟨Nat.le_of_ble_eq_true rfl, Nat.le_of_ble_eq_true rfl⟩ hl.1 rfl (Nat.le_of_ble_eq_true rfl) ⟨Nat.zero_le _, Nat.zero_le _⟩ dK1_read_117 (fun H locs h => ?_)
              refine lv_if_eq (tgt := 136) hx hb dK1_read_120 (by decide) (fun c_24 => ?_) (fun c_24 => ?_)
              · have hf := if_t hf c_24
                refine lv_aload_n hx hb dK1_read_136 rfl (lv_at hl 1 rfl) ?_
                refine lv_iconst (v := 0) hx hb dK1_read_137 (by decide) ?_
                refine tf_ldcS X 12 (by decide) rfl rfl dK1_read_138 ?_
                obtain ⟨r_26, h_25, hf⟩ := bn_some hf
                refine tf_callVi (As := [.int 0, .ref (sK G 12)]) (rest := []) X h 1 (by decide) rfl rfl (mK5_says hJ h_25) bwK5_says w_68 ⟨Nat.le_of_ble_eq_true rfl, Nat.le_of_ble_eq_true rfl⟩ hl.1 rfl (Nat.le_of_ble_eq_true rfl) ⟨Nat.zero_le _, Nat.zero_le _⟩ dK1_read_140 (fun H locs h => ?_)
                refine lv_if_eq (tgt := 158) hx hb dK1_read_143 (by decide) (fun c_27 => ?_) (fun c_27 => ?_)
                · have hf := if_t hf c_27
                  refine lv_aload_n hx hb dK1_read_158 rfl (lv_at hl 1 rfl) ?_
                  refine lv_iconst (v := 0) hx hb dK1_read_159 (by decide) ?_
                  refine tf_ldcS X 13 (by decide) rfl rfl dK1_read_160 ?_
                  obtain ⟨r_29, h_28, hf⟩ := bn_some hf
                  refine tf_callVi (As := [.int 0, .ref (sK G 13)]) (rest := []) X h 1 (by decide) rfl rfl (mK5_says hJ h_28) bwK5_says w_68 ⟨Nat.le_of_ble_eq_true rfl, Nat.le_of_ble_eq_true rfl⟩ hl.1 rfl (Nat.le_of_ble_eq_true rfl) ⟨Nat.zero_le _, Nat.zero_le _⟩ dK1_read_162 (fun H locs h => ?_)
                  refine lv_if_eq (tgt := 180) hx hb dK1_read_165 (by decide) (fun c_30 => ?_) (fun c_30 => ?_)
                  · have hf := if_t hf c_30
                    refine lv_aload_n hx hb dK1_read_180 rfl (lv_at hl 1 rfl) ?_
                    refine lv_iconst (v := 0) hx hb dK1_read_181 (by decide) ?_
                    refine tf_ldcS X 14 (by decide) rfl rfl dK1_read_182 ?_
                    obtain ⟨r_32, h_31, hf⟩ := bn_some hf
                    refine tf_callVi (As := [.int 0, .ref (sK G 14)]) (rest := []) X h 1 (by decide) rfl rfl (mK5_says hJ h_31) bwK5_says w_68 ⟨Nat.le_of_ble_eq_true rfl, Nat.le_of_ble_eq_true rfl⟩ hl.1 rfl (Nat.le_of_ble_eq_true rfl) ⟨Nat.zero_le _, Nat.zero_le _⟩ dK1_read_184 (fun H locs h => ?_)
                    refine lv_if_eq (tgt := 199) hx hb dK1_read_187 (by decide) (fun c_33 => ?_) (fun c_33 => ?_)
                    · have hf := if_t hf c_33
                      cases hf
                      exact tf_vret X h dK1_read_199
                    · have hf := if_f hf c_33
                      refine lv_aload_n hx hb dK1_read_190 rfl (lv_at hl 0 rfl) ?_
                      refine lv_aload_n hx hb dK1_read_191 rfl (lv_at hl 0 rfl) ?_
                      refine lv_aload_n hx hb dK1_read_192 rfl (lv_at hl 1 rfl) ?_
                      obtain ⟨r_35, I_36, L_37, h_34, hf⟩ := bq_some hf
                      refine tf_callVi (As := [.ref (al G 1)]) (rest := [.ref (al G 5)]) X h 5 (by decide) rfl rfl (mK1_readTick hJ h_34) bwK1_readTick w_115 ⟨Nat.le_of_ble_eq_true rfl, Nat.le_of_ble_eq_true rfl⟩ hl.1 rfl (Nat.le_of_ble_eq_true rfl) ⟨Nat.zero_le _, Nat.zero_le _⟩ dK1_read_193 (fun H locs h => ?_)
                      obtain ⟨I_38, eI_38, hf⟩ := nm_some hf
                      refine pf1_verb X h eI_38 w_113 dK1_read_196 (fun H locs h => ?_)
                      cases hf
                      exact tf_vret X h dK1_read_199
                  · have hf := if_f hf c_30
                    refine lv_aload_n hx hb dK1_read_168 rfl (lv_at hl 0 rfl) ?_
                    refine lv_aload_n hx hb dK1_read_169 rfl (lv_at hl 0 rfl) ?_
                    refine lv_aload_n hx hb dK1_read_170 rfl (lv_at hl 1 rfl) ?_
                    obtain ⟨r_40, I_41, L_42, h_39, hf⟩ := bq_some hf
                    refine tf_callVi (As := [.ref (al G 1)]) (rest := [.ref (al G 5)]) X h 5 (by decide) rfl rfl (mK1_readLess hJ h_39) bwK1_readLess w_116 ⟨Nat.le_of_ble_eq_true rfl, Nat.le_of_ble_eq_true rfl⟩ hl.1 rfl (Nat.le_of_ble_eq_true rfl) ⟨Nat.zero_le _, Nat.zero_le _⟩ dK1_read_171 (fun H locs h => ?_)
                    obtain ⟨I_43, eI_43, hf⟩ := nm_some hf
                    refine pf1_verb X h eI_43 w_113 dK1_read_174 (fun H locs h => ?_)
                    refine lv_goto (tgt := 199) hx hb dK1_read_177 (by decide) ?_
                    cases hf
                    exact tf_vret X h dK1_read_199
                · have hf := if_f hf c_27
                  refine lv_aload_n hx hb dK1_read_146 rfl (lv_at hl 0 rfl) ?_
                  refine lv_aload_n hx hb dK1_read_147 rfl (lv_at hl 0 rfl) ?_
                  refine lv_aload_n hx hb dK1_read_148 rfl (lv_at hl 1 rfl) ?_
                  obtain ⟨r_45, I_46, L_47, h_44, hf⟩ := bq_some hf
                  refine tf_callVi (As := [.ref (al G 1)]) (rest := [.ref (al G 5)]) X h 5 (by decide) rfl rfl (mK1_readCancel hJ h_44) bwK1_readCancel w_117 ⟨Nat.le_of_ble_eq_true rfl, Nat.le_of_ble_eq_true rfl⟩ hl.1 rfl (Nat.le_of_ble_eq_true rfl) ⟨Nat.zero_le _, Nat.zero_le _⟩ dK1_read_149 (fun H locs h => ?_)
                  obtain ⟨I_48, eI_48, hf⟩ := nm_some hf
                  refine pf1_verb X h eI_48 w_113 dK1_read_152 (fun H locs h => ?_)
                  refine lv_goto (tgt := 199) hx hb dK1_read_155 (by decide) ?_
                  cases hf
                  exact tf_vret X h dK1_read_199
              · have hf := if_f hf c_24
                refine lv_aload_n hx hb dK1_read_123 rfl (lv_at hl 0 rfl) ?_
                refine lv_aload_n hx hb dK1_read_124 rfl (lv_at hl 0 rfl) ?_
                refine lv_aload_n hx hb dK1_read_125 rfl (lv_at hl 1 rfl) ?_
                refine lv_iconst (v := 3) hx hb dK1_read_126 (by decide) ?_
                obtain ⟨r_50, I_51, L_52, h_49, hf⟩ := bq_some hf
                refine tf_callVi (As := [.ref (al G 1), .int 3]) (rest := [.ref (al G 5)]) X h 5 (by decide) rfl rfl (mK1_readAmount hJ h_49) bwK1_readAmount w_118 ⟨Nat.le_of_ble_eq_true rfl, Nat.le_of_ble_eq_true rfl⟩ hl.1 rfl (Nat.le_of_ble_eq_true rfl) ⟨Nat.zero_le _, Nat.zero_le _⟩ dK1_read_127 (fun H locs h => ?_)
                obtain ⟨I_53, eI_53, hf⟩ := nm_some hf
                refine pf1_verb X h eI_53 w_113 dK1_read_130 (fun H locs h => ?_)
                refine lv_goto (tgt := 199) hx hb dK1_read_133 (by decide) ?_
                cases hf
                exact tf_vret X h dK1_read_199
            · have hf := if_f hf c_21
              refine lv_aload_n hx hb dK1_read_100 rfl (lv_at hl 0 rfl) ?_
              refine lv_aload_n hx hb dK1_read_101 rfl (lv_at hl 0 rfl) ?_
              refine lv_aload_n hx hb dK1_read_102 rfl (lv_at hl 1 rfl) ?_
              refine lv_iconst (v := 2) hx hb dK1_read_103 (by decide) ?_
              obtain ⟨r_55, I_56, L_57, h_54, hf⟩ := bq_some hf
              refine tf_callVi (As := [.ref (al G 1), .int 2]) (rest := [.ref (al G 5)]) X h 5 (by decide) rfl rfl (mK1_readAmount hJ h_54) bwK1_readAmount w_118 ⟨Nat.le_of_ble_eq_true rfl, Nat.le_of_ble_eq_true rfl⟩ hl.1 rfl (Nat.le_of_ble_eq_true rfl) ⟨Nat.zero_le _, Nat.zero_le _⟩ dK1_read_104 (fun H locs h => ?_)
              obtain ⟨I_58, eI_58, hf⟩ := nm_some hf
              refine pf1_verb X h eI_58 w_113 dK1_read_107 (fun H locs h => ?_)
              refine lv_goto (tgt := 199) hx hb dK1_read_110 (by decide) ?_
              cases hf
              exact tf_vret X h dK1_read_199
          · have hf := if_f hf c_18
            refine lv_aload_n hx hb dK1_read_77 rfl (lv_at hl 0 rfl) ?_
            refine lv_aload_n hx hb dK1_read_78 rfl (lv_at hl 0 rfl) ?_
            refine lv_aload_n hx hb dK1_read_79 rfl (lv_at hl 1 rfl) ?_
            refine lv_iconst (v := 1) hx hb dK1_read_80 (by decide) ?_
            obtain ⟨r_60, I_61, L_62, h_59, hf⟩ := bq_some hf
            refine tf_callVi (As := [.ref (al G 1), .int 1]) (rest := [.ref (al G 5)]) X h 5 (by decide) rfl rfl (mK1_readAmount hJ h_59) bwK1_readAmount w_118 ⟨Nat.le_of_ble_eq_true rfl, Nat.le_of_ble_eq_true rfl⟩ hl.1 rfl (Nat.le_of_ble_eq_true rfl) ⟨Nat.zero_le _, Nat.zero_le _⟩ dK1_read_81 (fun H locs h => ?_)
            obtain ⟨I_63, eI_63, hf⟩ := nm_some hf
            refine pf1_verb X h eI_63 w_113 dK1_read_84 (fun H locs h => ?_)
            refine lv_goto (tgt := 199) hx hb dK1_read_87 (by decide) ?_
            cases hf
            exact tf_vret X h dK1_read_199
        · have hf := if_f hf c_15
          refine lv_aload_n hx hb dK1_read_55 rfl (lv_at hl 0 rfl) ?_
          refine lv_aload_n hx hb dK1_read_56 rfl (lv_at hl 0 rfl) ?_
          refine lv_aload_n hx hb dK1_read_57 rfl (lv_at hl 1 rfl) ?_
          obtain ⟨r_65, I_66, L_67, h_64, hf⟩ := bq_some hf
          refine tf_callVi (As := [.ref (al G 1)]) (rest := [.ref (al G 5)]) X h 5 (by decide) rfl rfl (mK1_readStop hJ h_64) bwK1_readStop w_119 ⟨Nat.le_of_ble_eq_true rfl, Nat.le_of_ble_eq_true rfl⟩ hl.1 rfl (Nat.le_of_ble_eq_true rfl) ⟨Nat.zero_le _, Nat.zero_le _⟩ dK1_read_58 (fun H locs h => ?_)
          obtain ⟨I_68, eI_68, hf⟩ := nm_some hf
          refine pf1_verb X h eI_68 w_113 dK1_read_61 (fun H locs h => ?_)
          refine lv_goto (tgt := 199) hx hb dK1_read_64 (by decide) ?_
          cases hf
          exact tf_vret X h dK1_read_199
      · have hf := if_f hf c_12
        exact sK1_read_33 X I_4 L_5 hf h hl
  · have hf := if_t hf c_6
    cases hf
    exact tf_vret X h dK1_read_12
theorem mK1_read {l : Launch} {G : tf_G} (hJ : gJ (al G) 63) {I9 : FI} {L9 : FL} {I : FI} {L : FL} (hf : fK1_read I L = some (I9, L9)) : tf_Met l G 63 yK1_read cK1_read 2 none 7 151 [.ref (al G 5), .ref (al G 1)] (cE G I L) (cE G I9 L9) (none) :=
  tf_enter (by decide +kernel) hJ (Nat.le_of_ble_eq_true rfl) (fun p e s m args below meth c ls X _ hl h => sK1_read_0 X I L hf h hl)
theorem bwK1_read : tf_cv yK1_read cK1_read 2 none 1 := ⟨w_121, w_122, w_123, w_65, by decide +kernel, by decide +kernel, by decide +kernel⟩
