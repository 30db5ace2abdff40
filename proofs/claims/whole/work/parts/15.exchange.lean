set_option maxHeartbeats 4000000 in
set_option maxRecDepth 100000 in
theorem sK2_moveAmount_0 {p : Program} {l : Launch} {e : Env} {s : State} {m : MethodId} {args : Array Value} {below : List Frame} {meth : Method} {c : Code} {G : tf_G} (X : tf_X G 63 "TradeFloor$Exchange" cK2_moveAmount 3 (some .int) p s m args meth c) {r : Int32} {I9 : FI} {L9 : FL} (I : FI) (L : FL) (hf : fK2_moveAmount I L = some (r, I9, L9)) {H : Heap} {locs : List Loc} {ls : Array Slot} (h : tf_H G 63 (cE G I L) s.heap H locs) (hl : lv_has ls 3 [(0, .ref (al G 6)), (1, .ref (al G 5))]) : W p l e (tf_rm 1 20) s m args below meth c H locs 0 0 (MQ below (tf_Q G 63 (cE G I9 L9) (some (.int r))) args s 0 0 (gA (al G) 63)) (F0 m 0 ls []) := by
  have hx := X.1
  have hb := X.2.1
  have hJ := X.2.2.2.2.2.2.2.2.2
  unfold fK2_moveAmount at hf
  refine lv_aload_n hx hb dK2_moveAmount_0 rfl (lv_at hl 0 rfl) ?_
  refine gf2_accounts X h w_124 dK2_moveAmount_1 ?_
  refine lv_aload_n hx hb dK2_moveAmount_4 rfl (lv_at hl 1 rfl) ?_
  refine gf1_owner X h w_125 dK2_moveAmount_5 ?_
  obtain ⟨o_2, qo_2, hi_1, hf⟩ := g8_some hf
  refine gac_7 X h o_2 qo_2 hi_1 dK2_moveAmount_8 ?_
  refine lv_astore_n (lv' := [(2, .ref (al G (o_2.val + 15))), (0, .ref (al G 6)), (1, .ref (al G 5))]) hx hb dK2_moveAmount_9 rfl hl (by decide) rfl (fun ls hl => ?_)
  refine lv_aload_n hx hb dK2_moveAmount_10 rfl (lv_at hl 2 rfl) ?_
  refine gf1_verb X h w_126 dK2_moveAmount_11 ?_
  refine lv_iconst (v := 2) hx hb dK2_moveAmount_14 (by decide) ?_
  refine lv_icmp_ne (tgt := 35) hx hb dK2_moveAmount_15 (by decide) (fun c_3 => ?_) (fun c_3 => ?_)
  · have hf := if_f hf c_3
    refine lv_aload_n hx hb dK2_moveAmount_35 rfl (lv_at hl 2 rfl) ?_
    refine gf1_verb X h w_126 dK2_moveAmount_36 ?_
    refine lv_iconst (v := 1) hx hb dK2_moveAmount_39 (by decide) ?_
    refine lv_icmp_ne (tgt := 60) hx hb dK2_moveAmount_40 (by decide) (fun c_4 => ?_) (fun c_4 => ?_)
    · have hf := if_f hf c_4
      refine lv_aload_n hx hb dK2_moveAmount_60 rfl (lv_at hl 0 rfl) ?_
      obtain ⟨r_6, h_5, hf⟩ := bn_some hf
      refine tf_callVl (As := []) (rest := []) X h (o_2.val + 15) (by omega) (cE_ac o_2) rfl (mK0_freeCash hJ h_5) bwK0_freeCash w_127 ⟨Nat.le_of_ble_eq_true rfl, Nat.le_of_ble_eq_true rfl⟩ hl.1 rfl (Nat.le_of_ble_eq_true rfl) ⟨Nat.zero_le _, Nat.zero_le _⟩ dK2_moveAmount_61 (fun H locs h => ?_)
      refine lv_aload_n hx hb dK2_moveAmount_64 rfl (lv_at hl 2 rfl) ?_
      refine gf1_amount X h w_128 dK2_moveAmount_65 ?_
      refine lv_i2l hx hb dK2_moveAmount_68 rfl ?_
      refine W.lcmp hx hb dK2_moveAmount_69 ?_
      refine lv_if_ge (tgt := 76) hx hb dK2_moveAmount_70 (by decide) (fun c_7 => ?_) (fun c_7 => ?_)
      · have hf := if_t hf c_7
        refine lv_aload_n hx hb dK2_moveAmount_76 rfl (lv_at hl 0 rfl) ?_
        refine lv_dup hx hb dK2_moveAmount_77 rfl ?_
        refine gf0_cash X h o_2 w_129 dK2_moveAmount_78 ?_
        refine lv_aload_n hx hb dK2_moveAmount_81 rfl (lv_at hl 2 rfl) ?_
        refine gf1_amount X h w_128 dK2_moveAmount_82 ?_
        refine lv_i2l hx hb dK2_moveAmount_85 rfl ?_
        refine lv_lsub hx hb dK2_moveAmount_86 ?_
        obtain ⟨L_8, eL_8, hf⟩ := nm_some hf
        refine pf0_cash X h o_2 eL_8 w_129 dK2_moveAmount_87 (fun H locs h => ?_)
        refine lv_aload_n hx hb dK2_moveAmount_90 rfl (lv_at hl 2 rfl) ?_
        refine gf1_amount X h w_128 dK2_moveAmount_91 ?_
        cases hf
        exact tf_iret X h dK2_moveAmount_94
      · have hf := if_f hf c_7
        refine lv_bipush (v := (-16)) hx hb dK2_moveAmount_73 (by decide) ?_
        cases hf
        exact tf_iret X h dK2_moveAmount_75
    · have hf := if_t hf c_4
      refine lv_aload_n hx hb dK2_moveAmount_43 rfl (lv_at hl 0 rfl) ?_
      refine lv_dup hx hb dK2_moveAmount_44 rfl ?_
      refine gf0_cash X h o_2 w_129 dK2_moveAmount_45 ?_
      refine lv_aload_n hx hb dK2_moveAmount_48 rfl (lv_at hl 2 rfl) ?_
      refine gf1_amount X h w_128 dK2_moveAmount_49 ?_
      refine lv_i2l hx hb dK2_moveAmount_52 rfl ?_
      refine lv_ladd hx hb dK2_moveAmount_53 ?_
      obtain ⟨L_9, eL_9, hf⟩ := nm_some hf
      refine pf0_cash X h o_2 eL_9 w_129 dK2_moveAmount_54 (fun H locs h => ?_)
      refine lv_goto (tgt := 90) hx hb dK2_moveAmount_57 (by decide) ?_
      refine lv_aload_n hx hb dK2_moveAmount_90 rfl (lv_at hl 2 rfl) ?_
      refine gf1_amount X h w_128 dK2_moveAmount_91 ?_
      cases hf
      exact tf_iret X h dK2_moveAmount_94
  · have hf := if_t hf c_3
    refine lv_aload_n hx hb dK2_moveAmount_18 rfl (lv_at hl 0 rfl) ?_
    refine lv_dup hx hb dK2_moveAmount_19 rfl ?_
    refine gf0_goods X h o_2 w_130 dK2_moveAmount_20 ?_
    refine lv_aload_n hx hb dK2_moveAmount_23 rfl (lv_at hl 2 rfl) ?_
    refine gf1_amount X h w_128 dK2_moveAmount_24 ?_
    refine lv_i2l hx hb dK2_moveAmount_27 rfl ?_
    refine lv_ladd hx hb dK2_moveAmount_28 ?_
    obtain ⟨L_10, eL_10, hf⟩ := nm_some hf
    refine pf0_goods X h o_2 eL_10 w_130 dK2_moveAmount_29 (fun H locs h => ?_)
    refine lv_goto (tgt := 90) hx hb dK2_moveAmount_32 (by decide) ?_
    refine lv_aload_n hx hb dK2_moveAmount_90 rfl (lv_at hl 2 rfl) ?_
    refine gf1_amount X h w_128 dK2_moveAmount_91 ?_
    cases hf
    exact tf_iret X h dK2_moveAmount_94
theorem mK2_moveAmount {l : Launch} {G : tf_G} (hJ : gJ (al G) 63) {r : Int32} {I9 : FI} {L9 : FL} {I : FI} {L : FL} (hf : fK2_moveAmount I L = some (r, I9, L9)) : tf_Met l G 63 yK2_moveAmount cK2_moveAmount 3 (some .int) 1 20 [.ref (al G 6), .ref (al G 5)] (cE G I L) (cE G I9 L9) (some (.int r)) :=
  tf_enter (by decide +kernel) hJ (Nat.le_of_ble_eq_true rfl) (fun p e s m args below meth c ls X _ hl h => sK2_moveAmount_0 X I L hf h hl)
theorem bwK2_moveAmount : tf_cv yK2_moveAmount cK2_moveAmount 3 (some .int) 1 := ⟨w_131, w_133, w_134, w_132, by decide +kernel, by decide +kernel, by decide +kernel⟩

set_option maxHeartbeats 4000000 in
set_option maxRecDepth 100000 in
theorem sK2_hasFunds_0 {p : Program} {l : Launch} {e : Env} {s : State} {m : MethodId} {args : Array Value} {below : List Frame} {meth : Method} {c : Code} {G : tf_G} (X : tf_X G 63 "TradeFloor$Exchange" cK2_hasFunds 3 (some .boolean) p s m args meth c) {r : Int32} (I : FI) (L : FL) (hf : fK2_hasFunds I L = some r) {H : Heap} {locs : List Loc} {ls : Array Slot} (h : tf_H G 63 (cE G I L) s.heap H locs) (hl : lv_has ls 3 [(0, .ref (al G 6)), (1, .ref (al G 5))]) : W p l e (tf_rm 1 20) s m args below meth c H locs 0 0 (MQ below (tf_Q G 63 (cE G I L) (some (.int r))) args s 0 0 (gA (al G) 63)) (F0 m 0 ls []) := by
  have hx := X.1
  have hb := X.2.1
  have hJ := X.2.2.2.2.2.2.2.2.2
  unfold fK2_hasFunds at hf
  refine lv_aload_n hx hb dK2_hasFunds_0 rfl (lv_at hl 0 rfl) ?_
  refine gf2_accounts X h w_124 dK2_hasFunds_1 ?_
  refine lv_aload_n hx hb dK2_hasFunds_4 rfl (lv_at hl 1 rfl) ?_
  refine gf1_owner X h w_125 dK2_hasFunds_5 ?_
  obtain ⟨o_2, qo_2, hi_1, hf⟩ := g8_some hf
  refine gac_7 X h o_2 qo_2 hi_1 dK2_hasFunds_8 ?_
  refine lv_astore_n (lv' := [(2, .ref (al G (o_2.val + 15))), (0, .ref (al G 6)), (1, .ref (al G 5))]) hx hb dK2_hasFunds_9 rfl hl (by decide) rfl (fun ls hl => ?_)
  refine lv_aload_n hx hb dK2_hasFunds_10 rfl (lv_at hl 2 rfl) ?_
  refine gf1_side X h w_140 dK2_hasFunds_11 ?_
  refine lv_iconst (v := 1) hx hb dK2_hasFunds_14 (by decide) ?_
  refine lv_icmp_ne (tgt := 37) hx hb dK2_hasFunds_15 (by decide) (fun c_3 => ?_) (fun c_3 => ?_)
  · have hf := if_f hf c_3
    refine lv_aload_n hx hb dK2_hasFunds_37 rfl (lv_at hl 0 rfl) ?_
    obtain ⟨r_5, h_4, hf⟩ := bn_some hf
    refine tf_callVl (As := []) (rest := []) X h (o_2.val + 15) (by omega) (cE_ac o_2) rfl (mK0_freeCash hJ h_4) bwK0_freeCash w_127 ⟨Nat.le_of_ble_eq_true rfl, Nat.le_of_ble_eq_true rfl⟩ hl.1 rfl (Nat.le_of_ble_eq_true rfl) ⟨Nat.zero_le _, Nat.zero_le _⟩ dK2_hasFunds_38 (fun H locs h => ?_)
    refine lv_aload_n hx hb dK2_hasFunds_41 rfl (lv_at hl 2 rfl) ?_
    refine gf1_quantity X h w_141 dK2_hasFunds_42 ?_
    refine lv_i2l hx hb dK2_hasFunds_45 rfl ?_
    refine lv_aload_n hx hb dK2_hasFunds_46 rfl (lv_at hl 2 rfl) ?_
    refine gf1_price X h w_142 dK2_hasFunds_47 ?_
    refine lv_i2l hx hb dK2_hasFunds_50 rfl ?_
    refine lv_lmul hx hb dK2_hasFunds_51 ?_
    refine W.lcmp hx hb dK2_hasFunds_52 ?_
    refine lv_if_lt (tgt := 60) hx hb dK2_hasFunds_53 (by decide) (fun c_6 => ?_) (fun c_6 => ?_)
    · have hf := if_t hf c_6
      refine lv_iconst (v := 0) hx hb dK2_hasFunds_60 (by decide) ?_
      cases hf
      exact tf_zret X h rfl dK2_hasFunds_61
    · have hf := if_f hf c_6
      refine lv_iconst (v := 1) hx hb dK2_hasFunds_56 (by decide) ?_
      refine lv_goto (tgt := 61) hx hb dK2_hasFunds_57 (by decide) ?_
      cases hf
      exact tf_zret X h rfl dK2_hasFunds_61
  · have hf := if_t hf c_3
    refine lv_aload_n hx hb dK2_hasFunds_18 rfl (lv_at hl 0 rfl) ?_
    obtain ⟨r_8, h_7, hf⟩ := bn_some hf
    refine tf_callVl (As := []) (rest := []) X h (o_2.val + 15) (by omega) (cE_ac o_2) rfl (mK0_freeGoods hJ h_7) bwK0_freeGoods w_143 ⟨Nat.le_of_ble_eq_true rfl, Nat.le_of_ble_eq_true rfl⟩ hl.1 rfl (Nat.le_of_ble_eq_true rfl) ⟨Nat.zero_le _, Nat.zero_le _⟩ dK2_hasFunds_19 (fun H locs h => ?_)
    refine lv_aload_n hx hb dK2_hasFunds_22 rfl (lv_at hl 2 rfl) ?_
    refine gf1_quantity X h w_141 dK2_hasFunds_23 ?_
    refine lv_i2l hx hb dK2_hasFunds_26 rfl ?_
    refine W.lcmp hx hb dK2_hasFunds_27 ?_
    refine lv_if_lt (tgt := 35) hx hb dK2_hasFunds_28 (by decide) (fun c_9 => ?_) (fun c_9 => ?_)
    · have hf := if_t hf c_9
      refine lv_iconst (v := 0) hx hb dK2_hasFunds_35 (by decide) ?_
      cases hf
      exact tf_zret X h rfl dK2_hasFunds_36
    · have hf := if_f hf c_9
      refine lv_iconst (v := 1) hx hb dK2_hasFunds_31 (by decide) ?_
      refine lv_goto (tgt := 36) hx hb dK2_hasFunds_32 (by decide) ?_
      cases hf
      exact tf_zret X h rfl dK2_hasFunds_36
theorem mK2_hasFunds {l : Launch} {G : tf_G} (hJ : gJ (al G) 63) {r : Int32} {I : FI} {L : FL} (hf : fK2_hasFunds I L = some r) : tf_Met l G 63 yK2_hasFunds cK2_hasFunds 3 (some .boolean) 1 20 [.ref (al G 6), .ref (al G 5)] (cE G I L) (cE G I L) (some (.int r)) :=
  tf_enter (by decide +kernel) hJ (Nat.le_of_ble_eq_true rfl) (fun p e s m args below meth c ls X _ hl h => sK2_hasFunds_0 X I L hf h hl)
theorem bwK2_hasFunds : tf_cv yK2_hasFunds cK2_hasFunds 3 (some .boolean) 1 := ⟨w_144, w_145, w_146, w_132, by decide +kernel, by decide +kernel, by decide +kernel⟩

set_option maxHeartbeats 4000000 in
set_option maxRecDepth 100000 in
theorem sK2_findsItsMatches_67 {p : Program} {l : Launch} {e : Env} {s : State} {m : MethodId} {args : Array Value} {below : List Frame} {meth : Method} {c : Code} {G : tf_G} (X : tf_X G 63 "TradeFloor$Exchange" cK2_findsItsMatches 3 (some .boolean) p s m args meth c) {r : Int32} (I : FI) (L : FL) (hf : fK2_findsItsMatches_67 I L = some r) {H : Heap} {locs : List Loc} {ls : Array Slot} (h : tf_H G 63 (cE G I L) s.heap H locs) (hl : lv_has ls 3 []) : W p l e (tf_rm 3 69) s m args below meth c H locs 0 0 (MQ below (tf_Q G 63 (cE G I L) (some (.int r))) args s 0 0 (gA (al G) 63)) (F0 m 67 ls []) := by
  have hx := X.1
  have hb := X.2.1
  have hJ := X.2.2.2.2.2.2.2.2.2
  unfold fK2_findsItsMatches_67 at hf
  refine lv_iconst (v := 1) hx hb dK2_findsItsMatches_67 (by decide) ?_
  refine lv_goto (tgt := 72) hx hb dK2_findsItsMatches_68 (by decide) ?_
  cases hf
  exact tf_zret X h rfl dK2_findsItsMatches_72
set_option maxHeartbeats 4000000 in
set_option maxRecDepth 100000 in
theorem sK2_findsItsMatches_0 {p : Program} {l : Launch} {e : Env} {s : State} {m : MethodId} {args : Array Value} {below : List Frame} {meth : Method} {c : Code} {G : tf_G} (X : tf_X G 63 "TradeFloor$Exchange" cK2_findsItsMatches 3 (some .boolean) p s m args meth c) {r : Int32} (I : FI) (L : FL) (hf : fK2_findsItsMatches I L = some r) {H : Heap} {locs : List Loc} {ls : Array Slot} (h : tf_H G 63 (cE G I L) s.heap H locs) (hl : lv_has ls 3 [(0, .ref (al G 6)), (1, .ref (al G 5))]) : W p l e (tf_rm 3 69) s m args below meth c H locs 0 0 (MQ below (tf_Q G 63 (cE G I L) (some (.int r))) args s 0 0 (gA (al G) 63)) (F0 m 0 ls []) := by
  have hx := X.1
  have hb := X.2.1
  have hJ := X.2.2.2.2.2.2.2.2.2
  unfold fK2_findsItsMatches at hf
  refine lv_iconst (v := 1) hx hb dK2_findsItsMatches_0 (by decide) ?_
  refine lv_aload_n hx hb dK2_findsItsMatches_1 rfl (lv_at hl 1 rfl) ?_
  refine gf1_side X h w_140 dK2_findsItsMatches_2 ?_
  refine lv_isub hx hb dK2_findsItsMatches_5 ?_
  refine lv_topi (fun x_1 ex_1 => ?_)
  have hf := nm_at hf ex_1
  refine lv_istore_n (lv' := [(2, .int x_1), (0, .ref (al G 6)), (1, .ref (al G 5))]) hx hb dK2_findsItsMatches_6 rfl hl (by decide) rfl (fun ls hl => ?_)
  refine lv_aload_n hx hb dK2_findsItsMatches_7 rfl (lv_at hl 2 rfl) ?_
  refine gf1_way X h w_168 dK2_findsItsMatches_8 ?_
  refine lv_iconst (v := 3) hx hb dK2_findsItsMatches_11 (by decide) ?_
  refine lv_icmp_ne (tgt := 36) hx hb dK2_findsItsMatches_12 (by decide) (fun c_2 => ?_) (fun c_2 => ?_)
  · have hf := if_f hf c_2
    refine lv_aload_n hx hb dK2_findsItsMatches_36 rfl (lv_at hl 2 rfl) ?_
    refine gf1_way X h w_168 dK2_findsItsMatches_37 ?_
    refine lv_iconst (v := 2) hx hb dK2_findsItsMatches_40 (by decide) ?_
    refine lv_icmp_ne (tgt := 67) hx hb dK2_findsItsMatches_41 (by decide) (fun c_3 => ?_) (fun c_3 => ?_)
    · have hf := if_f hf c_3
      exact sK2_findsItsMatches_67 X I L hf h (lv_sub hl [] rfl)
    · have hf := if_t hf c_3
      refine lv_aload_n hx hb dK2_findsItsMatches_44 rfl (lv_at hl 1 rfl) ?_
      refine gf2_orders X h w_169 dK2_findsItsMatches_45 ?_
      refine lv_iload_n hx hb dK2_findsItsMatches_48 rfl (lv_at hl 0 rfl) ?_
      refine lv_aload_n hx hb dK2_findsItsMatches_49 rfl (lv_at hl 2 rfl) ?_
      refine gf1_price X h w_142 dK2_findsItsMatches_50 ?_
      refine lv_aload_n hx hb dK2_findsItsMatches_53 rfl (lv_at hl 2 rfl) ?_
      refine gf1_owner X h w_125 dK2_findsItsMatches_54 ?_
      obtain ⟨r_5, h_4, hf⟩ := bn_some hf
      refine tf_callVi (As := [.int x_1, .int (I 15 4), .int (I 15 1)]) (rest := []) X h 8 (by decide) rfl rfl (mK4_matchesOfOthers hJ h_4) bwK4_matchesOfOthers w_170 ⟨Nat.le_of_ble_eq_true rfl, Nat.le_of_ble_eq_true rfl⟩ hl.1 rfl (Nat.le_of_ble_eq_true rfl) ⟨Nat.zero_le _, Nat.zero_le _⟩ dK2_findsItsMatches_57 (fun H locs h => ?_)
      refine lv_aload_n hx hb dK2_findsItsMatches_60 rfl (lv_at hl 2 rfl) ?_
      refine gf1_quantity X h w_141 dK2_findsItsMatches_61 ?_
      refine lv_icmp_lt (tgt := 71) hx hb dK2_findsItsMatches_64 (by decide) (fun c_6 => ?_) (fun c_6 => ?_)
      · have hf := if_t hf c_6
        refine lv_iconst (v := 0) hx hb dK2_findsItsMatches_71 (by decide) ?_
        cases hf
        exact tf_zret X h rfl dK2_findsItsMatches_72
      · have hf := if_f hf c_6
        exact sK2_findsItsMatches_67 X I L hf h (lv_sub hl [] rfl)
  · have hf := if_t hf c_2
    refine lv_aload_n hx hb dK2_findsItsMatches_15 rfl (lv_at hl 1 rfl) ?_
    refine gf2_orders X h w_169 dK2_findsItsMatches_16 ?_
    refine lv_iload_n hx hb dK2_findsItsMatches_19 rfl (lv_at hl 0 rfl) ?_
    refine lv_aload_n hx hb dK2_findsItsMatches_20 rfl (lv_at hl 2 rfl) ?_
    refine gf1_price X h w_142 dK2_findsItsMatches_21 ?_
    obtain ⟨r_8, h_7, hf⟩ := bn_some hf
    refine tf_callVq (As := [.int x_1, .int (I 15 4)]) (rest := []) X h 8 (by decide) rfl rfl (mK4_firstMatch hJ h_7) bwK4_firstMatch w_171 ⟨Nat.le_of_ble_eq_true rfl, Nat.le_of_ble_eq_true rfl⟩ hl.1 rfl (Nat.le_of_ble_eq_true rfl) ⟨Nat.zero_le _, Nat.zero_le _⟩ dK2_findsItsMatches_24 (fun H locs h => ?_)
    rcases r_8 with _ | o_9
    · have hf := mo_n hf
      replace hl : lv_has ls 3 [(2, .int x_1), (0, .ref (al G 6)), (1, .ref (al G 5))] := hl
      refine lv_ifnonnullN hx hb dK2_findsItsMatches_27 ?_
      refine lv_iconst (v := 1) hx hb dK2_findsItsMatches_30 (by decide) ?_
      refine lv_goto (tgt := 35) hx hb dK2_findsItsMatches_31 (by decide) ?_
      cases hf
      exact tf_zret X h rfl dK2_findsItsMatches_35
    · have hf := mo_s hf
      replace hl : lv_has ls 3 [(2, .int x_1), (0, .ref (al G 6)), (1, .ref (al G 5))] := hl
      refine lv_ifnonnull (tgt := 34) hx hb dK2_findsItsMatches_27 (by decide) ?_
      refine lv_iconst (v := 0) hx hb dK2_findsItsMatches_34 (by decide) ?_
      cases hf
      exact tf_zret X h rfl dK2_findsItsMatches_35
theorem mK2_findsItsMatches {l : Launch} {G : tf_G} (hJ : gJ (al G) 63) {r : Int32} {I : FI} {L : FL} (hf : fK2_findsItsMatches I L = some r) : tf_Met l G 63 yK2_findsItsMatches cK2_findsItsMatches 3 (some .boolean) 3 69 [.ref (al G 6), .ref (al G 5)] (cE G I L) (cE G I L) (some (.int r)) :=
  tf_enter (by decide +kernel) hJ (Nat.le_of_ble_eq_true rfl) (fun p e s m args below meth c ls X _ hl h => sK2_findsItsMatches_0 X I L hf h hl)
theorem bwK2_findsItsMatches : tf_cv yK2_findsItsMatches cK2_findsItsMatches 3 (some .boolean) 1 := ⟨w_172, w_173, w_174, w_132, by decide +kernel, by decide +kernel, by decide +kernel⟩

set_option maxHeartbeats 4000000 in
set_option maxRecDepth 100000 in
theorem sK2_hold_0 {p : Program} {l : Launch} {e : Env} {s : State} {m : MethodId} {args : Array Value} {below : List Frame} {meth : Method} {c : Code} {G : tf_G} (X : tf_X G 63 "TradeFloor$Exchange" cK2_hold 4 none p s m args meth c) {I9 : FI} {L9 : FL} (a1 : Fin 40) (a2 : Int32) (I : FI) (L : FL) (hf : fK2_hold a1 a2 I L = some (I9, L9)) {H : Heap} {locs : List Loc} {ls : Array Slot} (h : tf_H G 63 (cE G I L) s.heap H locs) (hl : lv_has ls 4 [(0, .ref (al G 6)), (1, .ref (al G (a1.val + 23))), (2, .int a2)]) : W p l e (tf_rm 0 0) s m args below meth c H locs 0 0 (MQ below (tf_Q G 63 (cE G I9 L9) (none)) args s 0 0 (gA (al G) 63)) (F0 m 0 ls []) := by
  have hx := X.1
  have hb := X.2.1
  have hJ := X.2.2.2.2.2.2.2.2.2
  unfold fK2_hold at hf
  refine lv_aload_n hx hb dK2_hold_0 rfl (lv_at hl 0 rfl) ?_
  refine gf2_accounts X h w_124 dK2_hold_1 ?_
  refine lv_aload_n hx hb dK2_hold_4 rfl (lv_at hl 1 rfl) ?_
  refine gf3_owner X h a1 w_183 dK2_hold_5 ?_
  obtain ⟨o_2, qo_2, hi_1, hf⟩ := g8_some hf
  refine gac_7 X h o_2 qo_2 hi_1 dK2_hold_8 ?_
  refine lv_astore_n (lv' := [(3, .ref (al G (o_2.val + 15))), (0, .ref (al G 6)), (1, .ref (al G (a1.val + 23))), (2, .int a2)]) hx hb dK2_hold_9 rfl hl (by decide) rfl (fun ls hl => ?_)
  refine lv_aload_n hx hb dK2_hold_10 rfl (lv_at hl 2 rfl) ?_
  refine gf3_side X h a1 w_184 dK2_hold_11 ?_
  refine lv_iconst (v := 1) hx hb dK2_hold_14 (by decide) ?_
  refine lv_icmp_ne (tgt := 32) hx hb dK2_hold_15 (by decide) (fun c_3 => ?_) (fun c_3 => ?_)
  · have hf := if_f hf c_3
    refine lv_aload_n hx hb dK2_hold_32 rfl (lv_at hl 0 rfl) ?_
    refine lv_dup hx hb dK2_hold_33 rfl ?_
    refine gf0_heldCash X h o_2 w_185 dK2_hold_34 ?_
    refine lv_iload_n hx hb dK2_hold_37 rfl (lv_at hl 3 rfl) ?_
    refine lv_i2l hx hb dK2_hold_38 rfl ?_
    refine lv_aload_n hx hb dK2_hold_39 rfl (lv_at hl 2 rfl) ?_
    refine gf3_price X h a1 w_186 dK2_hold_40 ?_
    refine lv_i2l hx hb dK2_hold_43 rfl ?_
    refine lv_lmul hx hb dK2_hold_44 ?_
    refine lv_ladd hx hb dK2_hold_45 ?_
    obtain ⟨L_4, eL_4, hf⟩ := nm_some hf
    refine pf0_heldCash X h o_2 eL_4 w_185 dK2_hold_46 (fun H locs h => ?_)
    cases hf
    exact tf_vret X h dK2_hold_49
  · have hf := if_t hf c_3
    refine lv_aload_n hx hb dK2_hold_18 rfl (lv_at hl 0 rfl) ?_
    refine lv_dup hx hb dK2_hold_19 rfl ?_
    refine gf0_heldGoods X h o_2 w_187 dK2_hold_20 ?_
    refine lv_iload_n hx hb dK2_hold_23 rfl (lv_at hl 3 rfl) ?_
    refine lv_i2l hx hb dK2_hold_24 rfl ?_
    refine lv_ladd hx hb dK2_hold_25 ?_
    obtain ⟨L_5, eL_5, hf⟩ := nm_some hf
    refine pf0_heldGoods X h o_2 eL_5 w_187 dK2_hold_26 (fun H locs h => ?_)
    refine lv_goto (tgt := 49) hx hb dK2_hold_29 (by decide) ?_
    cases hf
    exact tf_vret X h dK2_hold_49
theorem mK2_hold {l : Launch} {G : tf_G} (hJ : gJ (al G) 63) {I9 : FI} {L9 : FL} {a1 : Fin 40} {a2 : Int32} {I : FI} {L : FL} (hf : fK2_hold a1 a2 I L = some (I9, L9)) : tf_Met l G 63 yK2_hold cK2_hold 4 none 0 0 [.ref (al G 6), .ref (al G (a1.val + 23)), .int a2] (cE G I L) (cE G I9 L9) (none) :=
  tf_enter (by decide +kernel) hJ (Nat.le_of_ble_eq_true rfl) (fun p e s m args below meth c ls X _ hl h => sK2_hold_0 X a1 a2 I L hf h hl)
theorem bwK2_hold : tf_cv yK2_hold cK2_hold 4 none 2 := ⟨w_188, w_189, w_190, w_132, by decide +kernel, by decide +kernel, by decide +kernel⟩

set_option maxHeartbeats 4000000 in
set_option maxRecDepth 100000 in
theorem sK2_cancel_17 {p : Program} {l : Launch} {e : Env} {s : State} {m : MethodId} {args : Array Value} {below : List Frame} {meth : Method} {c : Code} {G : tf_G} (X : tf_X G 63 "TradeFloor$Exchange" cK2_cancel 2 none p s m args meth c) {I9 : FI} {L9 : FL} (v1 : Fin 40) (I : FI) (L : FL) (hf : fK2_cancel_17 v1 I L = some (I9, L9)) {H : Heap} {locs : List Loc} {ls : Array Slot} (h : tf_H G 63 (cE G I L) s.heap H locs) (hl : lv_has ls 2 [(1, .ref (al G (v1.val + 23)))]) : W p l e (tf_rm 1 23) s m args below meth c H locs 0 0 (MQ below (tf_Q G 63 (cE G I9 L9) (none)) args s 0 0 (gA (al G) 63)) (F0 m 17 ls []) := by
  have hx := X.1
  have hb := X.2.1
  have hJ := X.2.2.2.2.2.2.2.2.2
  unfold fK2_cancel_17 at hf
  refine lv_aload_n hx hb dK2_cancel_17 rfl (lv_at hl 0 rfl) ?_
  refine lv_iconst (v := 2) hx hb dK2_cancel_18 (by decide) ?_
  obtain ⟨I_1, eI_1, hf⟩ := nm_some hf
  refine pf3_state X h v1 eI_1 w_191 dK2_cancel_19 (fun H locs h => ?_)
  cases hf
  exact tf_vret X h dK2_cancel_22
set_option maxHeartbeats 4000000 in
set_option maxRecDepth 100000 in
theorem sK2_cancel_0 {p : Program} {l : Launch} {e : Env} {s : State} {m : MethodId} {args : Array Value} {below : List Frame} {meth : Method} {c : Code} {G : tf_G} (X : tf_X G 63 "TradeFloor$Exchange" cK2_cancel 2 none p s m args meth c) {I9 : FI} {L9 : FL} (a1 : Fin 40) (I : FI) (L : FL) (hf : fK2_cancel a1 I L = some (I9, L9)) {H : Heap} {locs : List Loc} {ls : Array Slot} (h : tf_H G 63 (cE G I L) s.heap H locs) (hl : lv_has ls 2 [(0, .ref (al G 6)), (1, .ref (al G (a1.val + 23)))]) : W p l e (tf_rm 1 23) s m args below meth c H locs 0 0 (MQ below (tf_Q G 63 (cE G I9 L9) (none)) args s 0 0 (gA (al G) 63)) (F0 m 0 ls []) := by
  have hx := X.1
  have hb := X.2.1
  have hJ := X.2.2.2.2.2.2.2.2.2
  unfold fK2_cancel at hf
  refine lv_aload_n hx hb dK2_cancel_0 rfl (lv_at hl 1 rfl) ?_
  refine gf3_state X h a1 w_191 dK2_cancel_1 ?_
  refine lv_if_ne (tgt := 17) hx hb dK2_cancel_4 (by decide) (fun c_1 => ?_) (fun c_1 => ?_)
  · have hf := if_f hf c_1
    exact sK2_cancel_17 X a1 I L hf h (lv_sub hl [1] rfl)
  · have hf := if_t hf c_1
    refine lv_aload_n hx hb dK2_cancel_7 rfl (lv_at hl 0 rfl) ?_
    refine lv_aload_n hx hb dK2_cancel_8 rfl (lv_at hl 1 rfl) ?_
    refine lv_aload_n hx hb dK2_cancel_9 rfl (lv_at hl 1 rfl) ?_
    refine gf3_left X h a1 w_192 dK2_cancel_10 ?_
    refine lv_ineg hx hb dK2_cancel_13 ?_
    obtain ⟨I_3, L_4, h_2, hf⟩ := bv_some hf
    refine tf_callVv (As := [.ref (al G (a1.val + 23)), .int (-(I 2 a1.val))]) (rest := []) X h 6 (by decide) rfl rfl (mK2_hold hJ h_2) bwK2_hold w_193 ⟨Nat.le_of_ble_eq_true rfl, Nat.le_of_ble_eq_true rfl⟩ hl.1 rfl (Nat.le_of_ble_eq_true rfl) ⟨Nat.zero_le _, Nat.zero_le _⟩ dK2_cancel_14 (fun H locs h => ?_)
    exact sK2_cancel_17 X a1 I_3 L_4 hf h (lv_sub hl [1] rfl)
theorem mK2_cancel {l : Launch} {G : tf_G} (hJ : gJ (al G) 63) {I9 : FI} {L9 : FL} {a1 : Fin 40} {I : FI} {L : FL} (hf : fK2_cancel a1 I L = some (I9, L9)) : tf_Met l G 63 yK2_cancel cK2_cancel 2 none 1 23 [.ref (al G 6), .ref (al G (a1.val + 23))] (cE G I L) (cE G I9 L9) (none) :=
  tf_enter (by decide +kernel) hJ (Nat.le_of_ble_eq_true rfl) (fun p e s m args below meth c ls X _ hl h => sK2_cancel_0 X a1 I L hf h hl)
theorem bwK2_cancel : tf_cv yK2_cancel cK2_cancel 2 none 1 := ⟨w_194, w_195, w_196, w_132, by decide +kernel, by decide +kernel, by decide +kernel⟩

set_option maxHeartbeats 4000000 in
set_option maxRecDepth 100000 in
theorem sK2_payable_0 {p : Program} {l : Launch} {e : Env} {s : State} {m : MethodId} {args : Array Value} {below : List Frame} {meth : Method} {c : Code} {G : tf_G} (X : tf_X G 63 "TradeFloor$Exchange" cK2_payable 4 (some .int) p s m args meth c) {r : Int32} (a1 : Fin 40) (a2 : Int32) (a3 : Int32) (I : FI) (L : FL) (hf : fK2_payable a1 a2 a3 I L = some r) {H : Heap} {locs : List Loc} {ls : Array Slot} (h : tf_H G 63 (cE G I L) s.heap H locs) (hl : lv_has ls 4 [(0, .ref (al G 6)), (1, .ref (al G (a1.val + 23))), (2, .int a2), (3, .int a3)]) : W p l e (tf_rm 1 23) s m args below meth c H locs 0 0 (MQ below (tf_Q G 63 (cE G I L) (some (.int r))) args s 0 0 (gA (al G) 63)) (F0 m 0 ls []) := by
  have hx := X.1
  have hb := X.2.1
  have hJ := X.2.2.2.2.2.2.2.2.2
  unfold fK2_payable at hf
  refine lv_aload_n hx hb dK2_payable_0 rfl (lv_at hl 1 rfl) ?_
  refine gf3_side X h a1 w_184 dK2_payable_1 ?_
  refine lv_iconst (v := 1) hx hb dK2_payable_4 (by decide) ?_
  refine lv_icmp_eq (tgt := 12) hx hb dK2_payable_5 (by decide) (fun c_1 => ?_) (fun c_1 => ?_)
  · have hf := if_t hf c_1
    refine lv_iload_n hx hb dK2_payable_12 rfl (lv_at hl 3 rfl) ?_
    cases hf
    exact tf_iret X h dK2_payable_13
  · have hf := if_f hf c_1
    refine lv_iload_n hx hb dK2_payable_8 rfl (lv_at hl 2 rfl) ?_
    refine lv_if_gt (tgt := 14) hx hb dK2_payable_9 (by decide) (fun c_2 => ?_) (fun c_2 => ?_)
    · have hf := if_t hf c_2
      refine lv_iload_n hx hb dK2_payable_14 rfl (lv_at hl 3 rfl) ?_
      refine lv_i2l hx hb dK2_payable_15 rfl ?_
      refine lv_aload_n hx hb dK2_payable_16 rfl (lv_at hl 0 rfl) ?_
      refine gf2_accounts X h w_124 dK2_payable_17 ?_
      refine lv_aload_n hx hb dK2_payable_20 rfl (lv_at hl 1 rfl) ?_
      refine gf3_owner X h a1 w_183 dK2_payable_21 ?_
      obtain ⟨o_4, qo_4, hi_3, hf⟩ := g8_some hf
      refine gac_7 X h o_4 qo_4 hi_3 dK2_payable_24 ?_
      obtain ⟨r_6, h_5, hf⟩ := bn_some hf
      refine tf_callVl (As := []) (rest := [.long a3.toInt64]) X h (o_4.val + 15) (by omega) (cE_ac o_4) rfl (mK0_freeCash hJ h_5) bwK0_freeCash w_127 ⟨Nat.le_of_ble_eq_true rfl, Nat.le_of_ble_eq_true rfl⟩ hl.1 rfl (Nat.le_of_ble_eq_true rfl) ⟨Nat.zero_le _, Nat.zero_le _⟩ dK2_payable_25 (fun H locs h => ?_)
      refine lv_iload_n hx hb dK2_payable_28 rfl (lv_at hl 2 rfl) ?_
      refine lv_i2l hx hb dK2_payable_29 rfl ?_
      obtain ⟨hd_7, hf⟩ := ck_some hf
      refine lv_ldiv hx hb dK2_payable_30 (of_decide_eq_true hd_7) ?_
      refine va_mmin_long hx hb (by rw [X.2.2.2.1]; exact hl.1.symm) X.2.2.2.2.1 (X.2.2.2.2.2.2.1 _ w_197) (X.2.2.2.2.2.2.1 _ w_198) (X.2.2.2.2.2.2.1 _ w_199) (X.2.2.2.2.2.2.1 _ w_200) (Nat.le_of_ble_eq_true rfl) (Nat.le_of_ble_eq_true rfl) (Nat.zero_le _) (Nat.zero_le _) dK2_payable_31 ?_
      refine lv_l2i hx hb dK2_payable_34 rfl ?_
      cases hf
      exact tf_iret X h dK2_payable_35
    · have hf := if_f hf c_2
      refine lv_iload_n hx hb dK2_payable_12 rfl (lv_at hl 3 rfl) ?_
      cases hf
      exact tf_iret X h dK2_payable_13
theorem mK2_payable {l : Launch} {G : tf_G} (hJ : gJ (al G) 63) {r : Int32} {a1 : Fin 40} {a2 : Int32} {a3 : Int32} {I : FI} {L : FL} (hf : fK2_payable a1 a2 a3 I L = some r) : tf_Met l G 63 yK2_payable cK2_payable 4 (some .int) 1 23 [.ref (al G 6), .ref (al G (a1.val + 23)), .int a2, .int a3] (cE G I L) (cE G I L) (some (.int r)) :=
  tf_enter (by decide +kernel) hJ (Nat.le_of_ble_eq_true rfl) (fun p e s m args below meth c ls X _ hl h => sK2_payable_0 X a1 a2 a3 I L hf h hl)
theorem bwK2_payable : tf_cv yK2_payable cK2_payable 4 (some .int) 3 := ⟨w_201, w_202, w_203, w_132, by decide +kernel, by decide +kernel, by decide +kernel⟩

set_option maxHeartbeats 4000000 in
set_option maxRecDepth 100000 in
theorem sK2_settle_157 {p : Program} {l : Launch} {e : Env} {s : State} {m : MethodId} {args : Array Value} {below : List Frame} {meth : Method} {c : Code} {G : tf_G} (X : tf_X G 63 "TradeFloor$Exchange" cK2_settle 8 none p s m args meth c) {I9 : FI} {L9 : FL} (v2 : Fin 40) (v3 : Int32) (v4 : Int32) (v5 : Int32) (I : FI) (L : FL) (hf : fK2_settle_157 v2 v3 v4 v5 I L = some (I9, L9)) {H : Heap} {locs : List Loc} {ls : Array Slot} (h : tf_H G 63 (cE G I L) s.heap H locs) (hl : lv_has ls 8 [(0, .ref (al G 6)), (2, .ref (al G (v2.val + 23))), (3, .int v3), (4, .int v4), (5, .int v5)]) : W p l e (tf_rm 1 25) s m args below meth c H locs 0 0 (MQ below (tf_Q G 63 (cE G I9 L9) (none)) args s 0 0 (gA (al G) 63)) (F0 m 157 ls []) := by
  have hx := X.1
  have hb := X.2.1
  have hJ := X.2.2.2.2.2.2.2.2.2
  unfold fK2_settle_157 at hf
  refine lv_aload_n hx hb dK2_settle_157 rfl (lv_at hl 0 rfl) ?_
  refine lv_aload_n hx hb dK2_settle_158 rfl (lv_at hl 1 rfl) ?_
  refine gf3_price X h v2 w_186 dK2_settle_159 ?_
  obtain ⟨I_1, eI_1, hf⟩ := nm_some hf
  refine pf2_last X h eI_1 w_213 dK2_settle_162 (fun H locs h => ?_)
  refine lv_aload_n hx hb dK2_settle_165 rfl (lv_at hl 0 rfl) ?_
  refine gf2_trades X h w_214 dK2_settle_166 ?_
  refine lv_iload hx hb dK2_settle_169 (lv_at hl 3 rfl) ?_
  refine lv_iload hx hb dK2_settle_171 (lv_at hl 4 rfl) ?_
  refine lv_aload_n hx hb dK2_settle_173 rfl (lv_at hl 1 rfl) ?_
  refine gf3_price X h v2 w_186 dK2_settle_174 ?_
  refine lv_iload_n hx hb dK2_settle_177 rfl (lv_at hl 2 rfl) ?_
  obtain ⟨I_3, L_4, h_2, hf⟩ := bv_some hf
  refine tf_callVv (As := [.int v4, .int v5, .int (I_1 3 v2.val), .int v3]) (rest := []) X h 10 (by decide) rfl rfl (mK6_add hJ h_2) bwK6_add w_215 ⟨Nat.le_of_ble_eq_true rfl, Nat.le_of_ble_eq_true rfl⟩ hl.1 rfl (Nat.le_of_ble_eq_true rfl) ⟨Nat.zero_le _, Nat.zero_le _⟩ dK2_settle_178 (fun H locs h => ?_)
  cases hf
  exact tf_vret X h dK2_settle_181
set_option maxHeartbeats 4000000 in
set_option maxRecDepth 100000 in
theorem sK2_settle_38 {p : Program} {l : Launch} {e : Env} {s : State} {m : MethodId} {args : Array Value} {below : List Frame} {meth : Method} {c : Code} {G : tf_G} (X : tf_X G 63 "TradeFloor$Exchange" cK2_settle 8 none p s m args meth c) {I9 : FI} {L9 : FL} (v1 : Fin 40) (v2 : Fin 40) (v3 : Int32) (v4 : Int32) (u0 : Int32) (I : FI) (L : FL) (hf : fK2_settle_38 v1 v2 v3 v4 u0 I L = some (I9, L9)) {H : Heap} {locs : List Loc} {ls : Array Slot} (h : tf_H G 63 (cE G I L) s.heap H locs) (hl : lv_has ls 8 [(0, .ref (al G 6)), (1, .ref (al G (v1.val + 23))), (2, .ref (al G (v2.val + 23))), (3, .int v3), (4, .int v4)]) : W p l e (tf_rm 1 25) s m args below meth c H locs 0 0 (MQ below (tf_Q G 63 (cE G I9 L9) (none)) args s 0 0 (gA (al G) 63)) (F0 m 38 ls [.int u0]) := by
  have hx := X.1
  have hb := X.2.1
  have hJ := X.2.2.2.2.2.2.2.2.2
  unfold fK2_settle_38 at hf
  refine lv_istore (lv' := [(5, .int u0), (0, .ref (al G 6)), (1, .ref (al G (v1.val + 23))), (2, .ref (al G (v2.val + 23))), (3, .int v3), (4, .int v4)]) hx hb dK2_settle_38 hl (by decide) rfl (fun ls hl => ?_)
  refine lv_iload_n hx hb dK2_settle_40 rfl (lv_at hl 4 rfl) ?_
  refine lv_i2l hx hb dK2_settle_41 rfl ?_
  refine lv_aload_n hx hb dK2_settle_42 rfl (lv_at hl 3 rfl) ?_
  refine gf3_price X h v2 w_186 dK2_settle_43 ?_
  refine lv_i2l hx hb dK2_settle_46 rfl ?_
  refine lv_lmul hx hb dK2_settle_47 ?_
  refine lv_topl (fun x_1 ex_1 => ?_)
  have hf := nm_at hf ex_1
  refine lv_lstore (lv' := [(6, .long x_1), (5, .int u0), (0, .ref (al G 6)), (1, .ref (al G (v1.val + 23))), (2, .ref (al G (v2.val + 23))), (3, .int v3), (4, .int v4)]) hx hb dK2_settle_48 hl (by decide) rfl (fun ls hl => ?_)
  refine lv_aload_n hx hb dK2_settle_50 rfl (lv_at hl 2 rfl) ?_
  refine gf2_accounts X h w_124 dK2_settle_51 ?_
  refine lv_iload hx hb dK2_settle_54 (lv_at hl 6 rfl) ?_
  obtain ⟨o_3, qo_3, hi_2, hf⟩ := g8_some hf
  refine gac_7 X h o_3 qo_3 hi_2 dK2_settle_56 ?_
  refine lv_dup hx hb dK2_settle_57 rfl ?_
  refine gf0_cash X h o_3 w_129 dK2_settle_58 ?_
  refine lv_lload hx hb dK2_settle_61 (lv_at hl 0 rfl) ?_
  refine lv_lsub hx hb dK2_settle_63 ?_
  obtain ⟨L_4, eL_4, hf⟩ := nm_some hf
  refine pf0_cash X h o_3 eL_4 w_129 dK2_settle_64 (fun H locs h => ?_)
  refine lv_aload_n hx hb dK2_settle_67 rfl (lv_at hl 2 rfl) ?_
  refine gf2_accounts X h w_124 dK2_settle_68 ?_
  refine lv_iload hx hb dK2_settle_71 (lv_at hl 6 rfl) ?_
  obtain ⟨o_6, qo_6, hi_5, hf⟩ := g8_some hf
  refine gac_7 X h o_6 qo_6 hi_5 dK2_settle_73 ?_
  refine lv_dup hx hb dK2_settle_74 rfl ?_
  refine gf0_goods X h o_6 w_130 dK2_settle_75 ?_
  refine lv_iload_n hx hb dK2_settle_78 rfl (lv_at hl 5 rfl) ?_
  refine lv_i2l hx hb dK2_settle_79 rfl ?_
  refine lv_ladd hx hb dK2_settle_80 ?_
  obtain ⟨L_7, eL_7, hf⟩ := nm_some hf
  refine pf0_goods X h o_6 eL_7 w_130 dK2_settle_81 (fun H locs h => ?_)
  refine lv_aload_n hx hb dK2_settle_84 rfl (lv_at hl 2 rfl) ?_
  refine gf2_accounts X h w_124 dK2_settle_85 ?_
  refine lv_iload hx hb dK2_settle_88 (lv_at hl 1 rfl) ?_
  obtain ⟨o_9, qo_9, hi_8, hf⟩ := g8_some hf
  refine gac_7 X h o_9 qo_9 hi_8 dK2_settle_90 ?_
  refine lv_dup hx hb dK2_settle_91 rfl ?_
  refine gf0_cash X h o_9 w_129 dK2_settle_92 ?_
  refine lv_lload hx hb dK2_settle_95 (lv_at hl 0 rfl) ?_
  refine lv_ladd hx hb dK2_settle_97 ?_
  obtain ⟨L_10, eL_10, hf⟩ := nm_some hf
  refine pf0_cash X h o_9 eL_10 w_129 dK2_settle_98 (fun H locs h => ?_)
  refine lv_aload_n hx hb dK2_settle_101 rfl (lv_at hl 2 rfl) ?_
  refine gf2_accounts X h w_124 dK2_settle_102 ?_
  refine lv_iload hx hb dK2_settle_105 (lv_at hl 1 rfl) ?_
  obtain ⟨o_12, qo_12, hi_11, hf⟩ := g8_some hf
  refine gac_7 X h o_12 qo_12 hi_11 dK2_settle_107 ?_
  refine lv_dup hx hb dK2_settle_108 rfl ?_
  refine gf0_goods X h o_12 w_130 dK2_settle_109 ?_
  refine lv_iload_n hx hb dK2_settle_112 rfl (lv_at hl 5 rfl) ?_
  refine lv_i2l hx hb dK2_settle_113 rfl ?_
  refine lv_lsub hx hb dK2_settle_114 ?_
  obtain ⟨L_13, eL_13, hf⟩ := nm_some hf
  refine pf0_goods X h o_12 eL_13 w_130 dK2_settle_115 (fun H locs h => ?_)
  refine lv_aload_n hx hb dK2_settle_118 rfl (lv_at hl 2 rfl) ?_
  refine lv_aload_n hx hb dK2_settle_119 rfl (lv_at hl 4 rfl) ?_
  refine lv_iload_n hx hb dK2_settle_120 rfl (lv_at hl 5 rfl) ?_
  refine lv_ineg hx hb dK2_settle_121 ?_
  obtain ⟨I_15, L_16, h_14, hf⟩ := bv_some hf
  refine tf_callVv (As := [.ref (al G (v2.val + 23)), .int (-v3)]) (rest := []) X h 6 (by decide) rfl rfl (mK2_hold hJ h_14) bwK2_hold w_193 ⟨Nat.le_of_ble_eq_true rfl, Nat.le_of_ble_eq_true rfl⟩ hl.1 rfl (Nat.le_of_ble_eq_true rfl) ⟨Nat.zero_le _, Nat.zero_le _⟩ dK2_settle_122 (fun H locs h => ?_)
  refine lv_aload_n hx hb dK2_settle_125 rfl (lv_at hl 3 rfl) ?_
  refine lv_dup hx hb dK2_settle_126 rfl ?_
  refine gf3_left X h v1 w_192 dK2_settle_127 ?_
  refine lv_iload_n hx hb dK2_settle_130 rfl (lv_at hl 5 rfl) ?_
  refine lv_isub hx hb dK2_settle_131 ?_
  obtain ⟨I_17, eI_17, hf⟩ := nm_some hf
  refine pf3_left X h v1 eI_17 w_192 dK2_settle_132 (fun H locs h => ?_)
  refine lv_aload_n hx hb dK2_settle_135 rfl (lv_at hl 4 rfl) ?_
  refine lv_dup hx hb dK2_settle_136 rfl ?_
  refine gf3_left X h v2 w_192 dK2_settle_137 ?_
  refine lv_iload_n hx hb dK2_settle_140 rfl (lv_at hl 5 rfl) ?_
  refine lv_isub hx hb dK2_settle_141 ?_
  obtain ⟨I_18, eI_18, hf⟩ := nm_some hf
  refine pf3_left X h v2 eI_18 w_192 dK2_settle_142 (fun H locs h => ?_)
  refine lv_aload_n hx hb dK2_settle_145 rfl (lv_at hl 4 rfl) ?_
  refine gf3_left X h v2 w_192 dK2_settle_146 ?_
  refine lv_if_ne (tgt := 157) hx hb dK2_settle_149 (by decide) (fun c_19 => ?_) (fun c_19 => ?_)
  · have hf := if_f hf c_19
    exact sK2_settle_157 X v2 v3 v4 u0 I_18 L_16 hf h (lv_sub hl [2, 4, 5, 6, 1] rfl)
  · have hf := if_t hf c_19
    refine lv_aload_n hx hb dK2_settle_152 rfl (lv_at hl 4 rfl) ?_
    refine lv_iconst (v := 2) hx hb dK2_settle_153 (by decide) ?_
    obtain ⟨I_20, eI_20, hf⟩ := nm_some hf
    refine pf3_state X h v2 eI_20 w_191 dK2_settle_154 (fun H locs h => ?_)
    exact sK2_settle_157 X v2 v3 v4 u0 I_20 L_16 hf h (lv_sub hl [2, 4, 5, 6, 1] rfl)
set_option maxHeartbeats 4000000 in
set_option maxRecDepth 100000 in
theorem sK2_settle_18 {p : Program} {l : Launch} {e : Env} {s : State} {m : MethodId} {args : Array Value} {below : List Frame} {meth : Method} {c : Code} {G : tf_G} (X : tf_X G 63 "TradeFloor$Exchange" cK2_settle 8 none p s m args meth c) {I9 : FI} {L9 : FL} (v1 : Fin 40) (v2 : Fin 40) (v3 : Int32) (u0 : Int32) (I : FI) (L : FL) (hf : fK2_settle_18 v1 v2 v3 u0 I L = some (I9, L9)) {H : Heap} {locs : List Loc} {ls : Array Slot} (h : tf_H G 63 (cE G I L) s.heap H locs) (hl : lv_has ls 8 [(0, .ref (al G 6)), (1, .ref (al G (v1.val + 23))), (2, .ref (al G (v2.val + 23))), (3, .int v3)]) : W p l e (tf_rm 1 25) s m args below meth c H locs 0 0 (MQ below (tf_Q G 63 (cE G I9 L9) (none)) args s 0 0 (gA (al G) 63)) (F0 m 18 ls [.int u0]) := by
  have hx := X.1
  have hb := X.2.1
  have hJ := X.2.2.2.2.2.2.2.2.2
  unfold fK2_settle_18 at hf
  refine lv_istore (lv' := [(4, .int u0), (0, .ref (al G 6)), (1, .ref (al G (v1.val + 23))), (2, .ref (al G (v2.val + 23))), (3, .int v3)]) hx hb dK2_settle_18 hl (by decide) rfl (fun ls hl => ?_)
  refine lv_aload_n hx hb dK2_settle_20 rfl (lv_at hl 2 rfl) ?_
  refine gf3_side X h v1 w_184 dK2_settle_21 ?_
  refine lv_if_ne (tgt := 34) hx hb dK2_settle_24 (by decide) (fun c_1 => ?_) (fun c_1 => ?_)
  · have hf := if_f hf c_1
    refine lv_aload_n hx hb dK2_settle_34 rfl (lv_at hl 2 rfl) ?_
    refine gf3_owner X h v1 w_183 dK2_settle_35 ?_
    exact sK2_settle_38 X v1 v2 v3 u0 (I 0 v1.val) I L hf h (lv_sub hl [1, 2, 3, 4, 0] rfl)
  · have hf := if_t hf c_1
    refine lv_aload_n hx hb dK2_settle_27 rfl (lv_at hl 3 rfl) ?_
    refine gf3_owner X h v2 w_183 dK2_settle_28 ?_
    refine lv_goto (tgt := 38) hx hb dK2_settle_31 (by decide) ?_
    exact sK2_settle_38 X v1 v2 v3 u0 (I 0 v2.val) I L hf h (lv_sub hl [1, 2, 3, 4, 0] rfl)
set_option maxHeartbeats 4000000 in
set_option maxRecDepth 100000 in
theorem sK2_settle_0 {p : Program} {l : Launch} {e : Env} {s : State} {m : MethodId} {args : Array Value} {below : List Frame} {meth : Method} {c : Code} {G : tf_G} (X : tf_X G 63 "TradeFloor$Exchange" cK2_settle 8 none p s m args meth c) {I9 : FI} {L9 : FL} (a1 : Fin 40) (a2 : Fin 40) (a3 : Int32) (I : FI) (L : FL) (hf : fK2_settle a1 a2 a3 I L = some (I9, L9)) {H : Heap} {locs : List Loc} {ls : Array Slot} (h : tf_H G 63 (cE G I L) s.heap H locs) (hl : lv_has ls 8 [(0, .ref (al G 6)), (1, .ref (al G (a1.val + 23))), (2, .ref (al G (a2.val + 23))), (3, .int a3)]) : W p l e (tf_rm 1 25) s m args below meth c H locs 0 0 (MQ below (tf_Q G 63 (cE G I9 L9) (none)) args s 0 0 (gA (al G) 63)) (F0 m 0 ls []) := by
  have hx := X.1
  have hb := X.2.1
  have hJ := X.2.2.2.2.2.2.2.2.2
  unfold fK2_settle at hf
  refine lv_aload_n hx hb dK2_settle_0 rfl (lv_at hl 1 rfl) ?_
  refine gf3_side X h a1 w_184 dK2_settle_1 ?_
  refine lv_if_ne (tgt := 14) hx hb dK2_settle_4 (by decide) (fun c_1 => ?_) (fun c_1 => ?_)
  · have hf := if_f hf c_1
    refine lv_aload_n hx hb dK2_settle_14 rfl (lv_at hl 2 rfl) ?_
    refine gf3_owner X h a2 w_183 dK2_settle_15 ?_
    exact sK2_settle_18 X a1 a2 a3 (I 0 a2.val) I L hf h hl
  · have hf := if_t hf c_1
    refine lv_aload_n hx hb dK2_settle_7 rfl (lv_at hl 1 rfl) ?_
    refine gf3_owner X h a1 w_183 dK2_settle_8 ?_
    refine lv_goto (tgt := 18) hx hb dK2_settle_11 (by decide) ?_
    exact sK2_settle_18 X a1 a2 a3 (I 0 a1.val) I L hf h hl
theorem mK2_settle {l : Launch} {G : tf_G} (hJ : gJ (al G) 63) {I9 : FI} {L9 : FL} {a1 : Fin 40} {a2 : Fin 40} {a3 : Int32} {I : FI} {L : FL} (hf : fK2_settle a1 a2 a3 I L = some (I9, L9)) : tf_Met l G 63 yK2_settle cK2_settle 8 none 1 25 [.ref (al G 6), .ref (al G (a1.val + 23)), .ref (al G (a2.val + 23)), .int a3] (cE G I L) (cE G I9 L9) (none) :=
  tf_enter (by decide +kernel) hJ (Nat.le_of_ble_eq_true rfl) (fun p e s m args below meth c ls X _ hl h => sK2_settle_0 X a1 a2 a3 I L hf h hl)
theorem bwK2_settle : tf_cv yK2_settle cK2_settle 8 none 3 := ⟨w_216, w_217, w_218, w_132, by decide +kernel, by decide +kernel, by decide +kernel⟩

set_option maxHeartbeats 4000000 in
set_option maxRecDepth 100000 in
theorem sK2_meet_105 {p : Program} {l : Launch} {e : Env} {s : State} {m : MethodId} {args : Array Value} {below : List Frame} {meth : Method} {c : Code} {G : tf_G} (X : tf_X G 63 "TradeFloor$Exchange" cK2_meet 8 none p s m args meth c) {I9 : FI} {L9 : FL} (k6 : Fin 40 → Int32 → Int32 → Int32 → FI → FL → Option (FI × FL)) (hk6 : ∀ (v1 : Fin 40) (v2 : Int32) (v4 : Int32) (v5 : Int32) (I : FI) (L : FL), k6 v1 v2 v4 v5 I L = some (I9, L9) → ∀ {H : Heap} {locs : List Loc} {ls : Array Slot}, tf_H G 63 (cE G I L) s.heap H locs → lv_has ls 8 [(0, .ref (al G 6)), (1, .ref (al G (v1.val + 23))), (2, .int v2), (4, .int v4), (5, .int v5)] → W p l e (tf_rm 3 69) s m args below meth c H locs 0 0 (MQ below (tf_Q G 63 (cE G I9 L9) (none)) args s 0 0 (gA (al G) 63)) (F0 m 6 ls [])) (v1 : Fin 40) (v2 : Int32) (v4 : Int32) (v5 : Int32) (I : FI) (L : FL) (hf : fK2_meet_105 k6 v1 v2 v4 v5 I L = some (I9, L9)) {H : Heap} {locs : List Loc} {ls : Array Slot} (h : tf_H G 63 (cE G I L) s.heap H locs) (hl : lv_has ls 8 [(0, .ref (al G 6)), (1, .ref (al G (v1.val + 23))), (2, .int v2), (4, .int v4), (5, .int v5)]) : W p l e (tf_rm 3 69) s m args below meth c H locs 0 0 (MQ below (tf_Q G 63 (cE G I9 L9) (none)) args s 0 0 (gA (al G) 63)) (F0 m 105 ls []) := by
  have hx := X.1
  have hb := X.2.1
  have hJ := X.2.2.2.2.2.2.2.2.2
  unfold fK2_meet_105 at hf
  obtain ⟨x_1, ex_1, hf⟩ := nm_some hf
  refine lv_iinc (v := x_1) (lv' := [(5, .int x_1), (0, .ref (al G 6)), (1, .ref (al G (v1.val + 23))), (2, .int v2), (4, .int v4)]) hx hb dK2_meet_105 hl (k := 4) rfl (by rw [ex_1]; rfl) (by decide) rfl (fun ls hl => ?_)
  refine lv_goto (tgt := 6) hx hb dK2_meet_108 (by decide) ?_
  exact hk6 v1 v2 v4 x_1 I L hf h (lv_sub hl [1, 2, 3, 4, 0] rfl)
set_option maxHeartbeats 4000000 in
set_option maxRecDepth 100000 in
theorem sK2_meet_6 {p : Program} {l : Launch} {e : Env} {s : State} {m : MethodId} {args : Array Value} {below : List Frame} {meth : Method} {c : Code} {G : tf_G} (X : tf_X G 63 "TradeFloor$Exchange" cK2_meet 8 none p s m args meth c) {I9 : FI} {L9 : FL} (k6 : Fin 40 → Int32 → Int32 → Int32 → FI → FL → Option (FI × FL)) (hk6 : ∀ (v1 : Fin 40) (v2 : Int32) (v4 : Int32) (v5 : Int32) (I : FI) (L : FL), k6 v1 v2 v4 v5 I L = some (I9, L9) → ∀ {H : Heap} {locs : List Loc} {ls : Array Slot}, tf_H G 63 (cE G I L) s.heap H locs → lv_has ls 8 [(0, .ref (al G 6)), (1, .ref (al G (v1.val + 23))), (2, .int v2), (4, .int v4), (5, .int v5)] → W p l e (tf_rm 3 69) s m args below meth c H locs 0 0 (MQ below (tf_Q G 63 (cE G I9 L9) (none)) args s 0 0 (gA (al G) 63)) (F0 m 6 ls [])) (v1 : Fin 40) (v2 : Int32) (v4 : Int32) (v5 : Int32) (I : FI) (L : FL) (hf : bK2_meet_6 k6 v1 v2 v4 v5 I L = some (I9, L9)) {H : Heap} {locs : List Loc} {ls : Array Slot} (h : tf_H G 63 (cE G I L) s.heap H locs) (hl : lv_has ls 8 [(0, .ref (al G 6)), (1, .ref (al G (v1.val + 23))), (2, .int v2), (4, .int v4), (5, .int v5)]) : W p l e (tf_rm 3 69) s m args below meth c H locs 0 0 (MQ below (tf_Q G 63 (cE G I9 L9) (none)) args s 0 0 (gA (al G) 63)) (F0 m 6 ls []) := by
  have hx := X.1
  have hb := X.2.1
  have hJ := X.2.2.2.2.2.2.2.2.2
  unfold bK2_meet_6 at hf
  refine lv_iload hx hb dK2_meet_6 (lv_at hl 4 rfl) ?_
  refine lv_bipush (v := 42) hx hb dK2_meet_8 (by decide) ?_
  refine lv_icmp_ge (tgt := 111) hx hb dK2_meet_10 (by decide) (fun c_1 => ?_) (fun c_1 => ?_)
  · have hf := if_t hf c_1
    cases hf
    exact tf_vret X h dK2_meet_111
  · have hf := if_f hf c_1
    refine lv_iload hx hb dK2_meet_13 (lv_at hl 3 rfl) ?_
    refine lv_if_le (tgt := 111) hx hb dK2_meet_15 (by decide) (fun c_2 => ?_) (fun c_2 => ?_)
    · have hf := if_t hf c_2
      cases hf
      exact tf_vret X h dK2_meet_111
    · have hf := if_f hf c_2
      refine lv_aload_n hx hb dK2_meet_18 rfl (lv_at hl 0 rfl) ?_
      refine gf2_orders X h w_169 dK2_meet_19 ?_
      refine lv_iconst (v := 1) hx hb dK2_meet_22 (by decide) ?_
      refine lv_aload_n hx hb dK2_meet_23 rfl (lv_at hl 1 rfl) ?_
      refine gf3_side X h v1 w_184 dK2_meet_24 ?_
      refine lv_isub hx hb dK2_meet_27 ?_
      refine lv_iload_n hx hb dK2_meet_28 rfl (lv_at hl 2 rfl) ?_
      obtain ⟨r_4, h_3, hf⟩ := bn_some hf
      refine tf_callVq (As := [.int (1 - (I 1 v1.val)), .int v2]) (rest := []) X h 8 (by decide) rfl rfl (mK4_firstMatch hJ h_3) bwK4_firstMatch w_171 ⟨Nat.le_of_ble_eq_true rfl, Nat.le_of_ble_eq_true rfl⟩ hl.1 rfl (Nat.le_of_ble_eq_true rfl) ⟨Nat.zero_le _, Nat.zero_le _⟩ dK2_meet_29 (fun H locs h => ?_)
      refine lv_astoreO (lv' := [(6, rO G r_4), (0, .ref (al G 6)), (1, .ref (al G (v1.val + 23))), (2, .int v2), (4, .int v4), (5, .int v5)]) hx hb dK2_meet_32 hl (by decide) rfl (fun ls hl => ?_)
      refine lv_aloadO hx hb dK2_meet_34 (lv_at hl 0 rfl) ?_
      rcases r_4 with _ | o_5
      · have hf := mo_n hf
        replace hl : lv_has ls 8 [(6, .null), (0, .ref (al G 6)), (1, .ref (al G (v1.val + 23))), (2, .int v2), (4, .int v4), (5, .int v5)] := hl
        refine lv_ifnonnullN hx hb dK2_meet_36 ?_
        cases hf
        exact tf_vret X h dK2_meet_39
      · have hf := mo_s hf
        replace hl : lv_has ls 8 [(6, .ref (al G (o_5.val + 23))), (0, .ref (al G 6)), (1, .ref (al G (v1.val + 23))), (2, .int v2), (4, .int v4), (5, .int v5)] := hl
        refine lv_ifnonnull (tgt := 40) hx hb dK2_meet_36 (by decide) ?_
        refine lv_aload hx hb dK2_meet_40 (lv_at hl 0 rfl) ?_
        refine gf3_owner X h o_5 w_183 dK2_meet_42 ?_
        refine lv_aload_n hx hb dK2_meet_45 rfl (lv_at hl 2 rfl) ?_
        refine gf3_owner X h v1 w_183 dK2_meet_46 ?_
        refine lv_icmp_ne (tgt := 61) hx hb dK2_meet_49 (by decide) (fun c_6 => ?_) (fun c_6 => ?_)
        · have hf := if_f hf c_6
          refine lv_aload_n hx hb dK2_meet_61 rfl (lv_at hl 1 rfl) ?_
          refine lv_aload_n hx hb dK2_meet_62 rfl (lv_at hl 2 rfl) ?_
          refine lv_aload hx hb dK2_meet_63 (lv_at hl 0 rfl) ?_
          refine gf3_price X h o_5 w_186 dK2_meet_65 ?_
          refine lv_iload hx hb dK2_meet_68 (lv_at hl 4 rfl) ?_
          refine lv_aload hx hb dK2_meet_70 (lv_at hl 0 rfl) ?_
          refine gf3_left X h o_5 w_192 dK2_meet_72 ?_
          refine va_mmin hx hb (by rw [X.2.2.2.1]; exact hl.1.symm) X.2.2.2.2.1 (X.2.2.2.2.2.2.1 _ w_219) (X.2.2.2.2.2.2.1 _ w_220) (X.2.2.2.2.2.2.1 _ w_199) (X.2.2.2.2.2.2.1 _ w_221) (Nat.le_of_ble_eq_true rfl) (Nat.le_of_ble_eq_true rfl) (Nat.zero_le _) (Nat.zero_le _) dK2_meet_75 ?_
          obtain ⟨r_8, h_7, hf⟩ := bn_some hf
          refine tf_callVi (As := [.ref (al G (v1.val + 23)), .int (I 3 o_5.val), .int (if I 2 o_5.val < v4 then I 2 o_5.val else v4)]) (rest := []) X h 6 (by decide) rfl rfl (mK2_payable hJ h_7) bwK2_payable w_222 ⟨Nat.le_of_ble_eq_true rfl, Nat.le_of_ble_eq_true rfl⟩ hl.1 rfl (Nat.le_of_ble_eq_true rfl) ⟨Nat.zero_le _, Nat.zero_le _⟩ dK2_meet_78 (fun H locs h => ?_)
          refine lv_istore (lv' := [(7, .int r_8), (6, .ref (al G (o_5.val + 23))), (0, .ref (al G 6)), (1, .ref (al G (v1.val + 23))), (2, .int v2), (4, .int v4), (5, .int v5)]) hx hb dK2_meet_81 hl (by decide) rfl (fun ls hl => ?_)
          refine lv_iload hx hb dK2_meet_83 (lv_at hl 0 rfl) ?_
          refine lv_if_ne (tgt := 89) hx hb dK2_meet_85 (by decide) (fun c_9 => ?_) (fun c_9 => ?_)
          · have hf := if_f hf c_9
            refine lv_aload_n hx hb dK2_meet_89 rfl (lv_at hl 2 rfl) ?_
            refine lv_aload_n hx hb dK2_meet_90 rfl (lv_at hl 3 rfl) ?_
            refine lv_aload hx hb dK2_meet_91 (lv_at hl 1 rfl) ?_
            refine lv_iload hx hb dK2_meet_93 (lv_at hl 0 rfl) ?_
            obtain ⟨I_11, L_12, h_10, hf⟩ := bv_some hf
            refine tf_callVv (As := [.ref (al G (v1.val + 23)), .ref (al G (o_5.val + 23)), .int r_8]) (rest := []) X h 6 (by decide) rfl rfl (mK2_settle hJ h_10) bwK2_settle w_223 ⟨Nat.le_of_ble_eq_true rfl, Nat.le_of_ble_eq_true rfl⟩ hl.1 rfl (Nat.le_of_ble_eq_true rfl) ⟨Nat.zero_le _, Nat.zero_le _⟩ dK2_meet_95 (fun H locs h => ?_)
            refine lv_iload hx hb dK2_meet_98 (lv_at hl 5 rfl) ?_
            refine lv_iload hx hb dK2_meet_100 (lv_at hl 0 rfl) ?_
            refine lv_isub hx hb dK2_meet_102 ?_
            refine lv_topi (fun x_13 ex_13 => ?_)
            have hf := nm_at hf ex_13
            refine lv_istore (lv' := [(4, .int x_13), (7, .int r_8), (6, .ref (al G (o_5.val + 23))), (0, .ref (al G 6)), (1, .ref (al G (v1.val + 23))), (2, .int v2), (5, .int v5)]) hx hb dK2_meet_103 hl (by decide) rfl (fun ls hl => ?_)
            exact sK2_meet_105 X k6 hk6 v1 v2 x_13 v5 I_11 L_12 hf h (lv_sub hl [3, 4, 5, 0, 6] rfl)
          · have hf := if_t hf c_9
            cases hf
            exact tf_vret X h dK2_meet_88
        · have hf := if_t hf c_6
          refine lv_aload_n hx hb dK2_meet_52 rfl (lv_at hl 1 rfl) ?_
          refine lv_aload hx hb dK2_meet_53 (lv_at hl 0 rfl) ?_
          obtain ⟨I_15, L_16, h_14, hf⟩ := bv_some hf
          refine tf_callVv (As := [.ref (al G (o_5.val + 23))]) (rest := []) X h 6 (by decide) rfl rfl (mK2_cancel hJ h_14) bwK2_cancel w_224 ⟨Nat.le_of_ble_eq_true rfl, Nat.le_of_ble_eq_true rfl⟩ hl.1 rfl (Nat.le_of_ble_eq_true rfl) ⟨Nat.zero_le _, Nat.zero_le _⟩ dK2_meet_55 (fun H locs h => ?_)
          refine lv_goto (tgt := 105) hx hb dK2_meet_58 (by decide) ?_
          exact sK2_meet_105 X k6 hk6 v1 v2 v4 v5 I_15 L_16 hf h (lv_sub hl [1, 2, 3, 4, 5] rfl)
theorem lK2_meet_6 {p : Program} {l : Launch} {e : Env} {s : State} {m : MethodId} {args : Array Value} {below : List Frame} {meth : Method} {c : Code} {G : tf_G} (X : tf_X G 63 "TradeFloor$Exchange" cK2_meet 8 none p s m args meth c) {I9 : FI} {L9 : FL} : ∀ (n : Nat), ∀ (v1 : Fin 40) (v2 : Int32) (v4 : Int32) (v5 : Int32) (I : FI) (L : FL), fK2_meet_6 n v1 v2 v4 v5 I L = some (I9, L9) → ∀ {H : Heap} {locs : List Loc} {ls : Array Slot}, tf_H G 63 (cE G I L) s.heap H locs → lv_has ls 8 [(0, .ref (al G 6)), (1, .ref (al G (v1.val + 23))), (2, .int v2), (4, .int v4), (5, .int v5)] → W p l e (tf_rm 3 69) s m args below meth c H locs 0 0 (MQ below (tf_Q G 63 (cE G I9 L9) (none)) args s 0 0 (gA (al G) 63)) (F0 m 6 ls []) := by
  intro n
  induction n with
  | zero =>
    intro v1 v2 v4 v5 I L hf
    exact absurd hf (by simp [fK2_meet_6])
  | succ n ih =>
    intro v1 v2 v4 v5 I L hf H locs ls h hl
    exact sK2_meet_6 X (fK2_meet_6 n) ih v1 v2 v4 v5 I L hf h hl
set_option maxHeartbeats 4000000 in
set_option maxRecDepth 100000 in
theorem sK2_meet_0 {p : Program} {l : Launch} {e : Env} {s : State} {m : MethodId} {args : Array Value} {below : List Frame} {meth : Method} {c : Code} {G : tf_G} (X : tf_X G 63 "TradeFloor$Exchange" cK2_meet 8 none p s m args meth c) {I9 : FI} {L9 : FL} (a1 : Fin 40) (a2 : Int32) (a3 : Int32) (I : FI) (L : FL) (hf : fK2_meet a1 a2 a3 I L = some (I9, L9)) {H : Heap} {locs : List Loc} {ls : Array Slot} (h : tf_H G 63 (cE G I L) s.heap H locs) (hl : lv_has ls 8 [(0, .ref (al G 6)), (1, .ref (al G (a1.val + 23))), (2, .int a2), (3, .int a3)]) : W p l e (tf_rm 3 69) s m args below meth c H locs 0 0 (MQ below (tf_Q G 63 (cE G I9 L9) (none)) args s 0 0 (gA (al G) 63)) (F0 m 0 ls []) := by
  have hx := X.1
  have hb := X.2.1
  have hJ := X.2.2.2.2.2.2.2.2.2
  unfold fK2_meet at hf
  refine lv_iload_n hx hb dK2_meet_0 rfl (lv_at hl 3 rfl) ?_
  refine lv_istore (lv' := [(4, .int a3), (0, .ref (al G 6)), (1, .ref (al G (a1.val + 23))), (2, .int a2), (3, .int a3)]) hx hb dK2_meet_1 hl (by decide) rfl (fun ls hl => ?_)
  refine lv_iconst (v := 0) hx hb dK2_meet_3 (by decide) ?_
  refine lv_istore (lv' := [(5, .int 0), (4, .int a3), (0, .ref (al G 6)), (1, .ref (al G (a1.val + 23))), (2, .int a2), (3, .int a3)]) hx hb dK2_meet_4 hl (by decide) rfl (fun ls hl => ?_)
  exact lK2_meet_6 X FU a1 a2 a3 0 I L hf h (lv_sub hl [2, 3, 4, 1, 0] rfl)
theorem mK2_meet {l : Launch} {G : tf_G} (hJ : gJ (al G) 63) {I9 : FI} {L9 : FL} {a1 : Fin 40} {a2 : Int32} {a3 : Int32} {I : FI} {L : FL} (hf : fK2_meet a1 a2 a3 I L = some (I9, L9)) : tf_Met l G 63 yK2_meet cK2_meet 8 none 3 69 [.ref (al G 6), .ref (al G (a1.val + 23)), .int a2, .int a3] (cE G I L) (cE G I9 L9) (none) :=
  tf_enter (by decide +kernel) hJ (Nat.le_of_ble_eq_true rfl) (fun p e s m args below meth c ls X _ hl h => sK2_meet_0 X a1 a2 a3 I L hf h hl)
theorem bwK2_meet : tf_cv yK2_meet cK2_meet 8 none 3 := ⟨w_225, w_226, w_227, w_132, by decide +kernel, by decide +kernel, by decide +kernel⟩

set_option maxHeartbeats 4000000 in
set_option maxRecDepth 100000 in
theorem sK2_placeLimit_109 {p : Program} {l : Launch} {e : Env} {s : State} {m : MethodId} {args : Array Value} {below : List Frame} {meth : Method} {c : Code} {G : tf_G} (X : tf_X G 63 "TradeFloor$Exchange" cK2_placeLimit 4 (some .int) p s m args meth c) {r : Int32} {I9 : FI} {L9 : FL} (v2 : Int32) (v3 : Fin 40) (u0 : Int32) (u1 : Fin 40) (I : FI) (L : FL) (hf : fK2_placeLimit_109 v2 v3 u0 u1 I L = some (r, I9, L9)) {H : Heap} {locs : List Loc} {ls : Array Slot} (h : tf_H G 63 (cE G I L) s.heap H locs) (hl : lv_has ls 4 [(0, .ref (al G 6)), (2, .int v2), (3, .ref (al G (v3.val + 23)))]) : W p l e (tf_rm 4 96) s m args below meth c H locs 0 0 (MQ below (tf_Q G 63 (cE G I9 L9) (some (.int r))) args s 0 0 (gA (al G) 63)) (F0 m 109 ls [.int u0, .ref (al G (u1.val + 23))]) := by
  have hx := X.1
  have hb := X.2.1
  have hJ := X.2.2.2.2.2.2.2.2.2
  unfold fK2_placeLimit_109 at hf
  obtain ⟨I_1, eI_1, hf⟩ := nm_some hf
  refine pf3_end X h u1 eI_1 w_236 dK2_placeLimit_109 (fun H locs h => ?_)
  refine lv_aload_n hx hb dK2_placeLimit_112 rfl (lv_at hl 0 rfl) ?_
  refine lv_aload_n hx hb dK2_placeLimit_113 rfl (lv_at hl 2 rfl) ?_
  refine lv_aload_n hx hb dK2_placeLimit_114 rfl (lv_at hl 2 rfl) ?_
  refine gf3_left X h v3 w_192 dK2_placeLimit_115 ?_
  obtain ⟨I_3, L_4, h_2, hf⟩ := bv_some hf
  refine tf_callVv (As := [.ref (al G (v3.val + 23)), .int (I_1 2 v3.val)]) (rest := []) X h 6 (by decide) rfl rfl (mK2_hold hJ h_2) bwK2_hold w_193 ⟨Nat.le_of_ble_eq_true rfl, Nat.le_of_ble_eq_true rfl⟩ hl.1 rfl (Nat.le_of_ble_eq_true rfl) ⟨Nat.zero_le _, Nat.zero_le _⟩ dK2_placeLimit_118 (fun H locs h => ?_)
  refine lv_iload_n hx hb dK2_placeLimit_121 rfl (lv_at hl 1 rfl) ?_
  cases hf
  exact tf_iret X h dK2_placeLimit_122
set_option maxHeartbeats 4000000 in
set_option maxRecDepth 100000 in
theorem sK2_placeLimit_0 {p : Program} {l : Launch} {e : Env} {s : State} {m : MethodId} {args : Array Value} {below : List Frame} {meth : Method} {c : Code} {G : tf_G} (X : tf_X G 63 "TradeFloor$Exchange" cK2_placeLimit 4 (some .int) p s m args meth c) {r : Int32} {I9 : FI} {L9 : FL} (I : FI) (L : FL) (hf : fK2_placeLimit I L = some (r, I9, L9)) {H : Heap} {locs : List Loc} {ls : Array Slot} (h : tf_H G 63 (cE G I L) s.heap H locs) (hl : lv_has ls 4 [(0, .ref (al G 6)), (1, .ref (al G 5))]) : W p l e (tf_rm 4 96) s m args below meth c H locs 0 0 (MQ below (tf_Q G 63 (cE G I9 L9) (some (.int r))) args s 0 0 (gA (al G) 63)) (F0 m 0 ls []) := by
  have hx := X.1
  have hb := X.2.1
  have hJ := X.2.2.2.2.2.2.2.2.2
  unfold fK2_placeLimit at hf
  refine lv_aload_n hx hb dK2_placeLimit_0 rfl (lv_at hl 0 rfl) ?_
  refine gf2_orders X h w_169 dK2_placeLimit_1 ?_
  obtain ⟨r_2, h_1, hf⟩ := bn_some hf
  refine tf_callVi (As := []) (rest := []) X h 8 (by decide) rfl rfl (mK4_isFull hJ h_1) bwK4_isFull w_228 ⟨Nat.le_of_ble_eq_true rfl, Nat.le_of_ble_eq_true rfl⟩ hl.1 rfl (Nat.le_of_ble_eq_true rfl) ⟨Nat.zero_le _, Nat.zero_le _⟩ dK2_placeLimit_4 (fun H locs h => ?_)
  refine lv_if_eq (tgt := 13) hx hb dK2_placeLimit_7 (by decide) (fun c_3 => ?_) (fun c_3 => ?_)
  · have hf := if_t hf c_3
    refine lv_aload_n hx hb dK2_placeLimit_13 rfl (lv_at hl 0 rfl) ?_
    refine lv_aload_n hx hb dK2_placeLimit_14 rfl (lv_at hl 1 rfl) ?_
    obtain ⟨r_5, h_4, hf⟩ := bn_some hf
    refine tf_callVi (As := [.ref (al G 5)]) (rest := []) X h 6 (by decide) rfl rfl (mK2_hasFunds hJ h_4) bwK2_hasFunds w_229 ⟨Nat.le_of_ble_eq_true rfl, Nat.le_of_ble_eq_true rfl⟩ hl.1 rfl (Nat.le_of_ble_eq_true rfl) ⟨Nat.zero_le _, Nat.zero_le _⟩ dK2_placeLimit_15 (fun H locs h => ?_)
    refine lv_if_ne (tgt := 24) hx hb dK2_placeLimit_18 (by decide) (fun c_6 => ?_) (fun c_6 => ?_)
    · have hf := if_f hf c_6
      refine lv_aload_n hx hb dK2_placeLimit_24 rfl (lv_at hl 0 rfl) ?_
      refine lv_aload_n hx hb dK2_placeLimit_25 rfl (lv_at hl 1 rfl) ?_
      obtain ⟨r_8, h_7, hf⟩ := bn_some hf
      refine tf_callVi (As := [.ref (al G 5)]) (rest := []) X h 6 (by decide) rfl rfl (mK2_findsItsMatches hJ h_7) bwK2_findsItsMatches w_230 ⟨Nat.le_of_ble_eq_true rfl, Nat.le_of_ble_eq_true rfl⟩ hl.1 rfl (Nat.le_of_ble_eq_true rfl) ⟨Nat.zero_le _, Nat.zero_le _⟩ dK2_placeLimit_26 (fun H locs h => ?_)
      refine lv_if_ne (tgt := 35) hx hb dK2_placeLimit_29 (by decide) (fun c_9 => ?_) (fun c_9 => ?_)
      · have hf := if_f hf c_9
        refine lv_aload_n hx hb dK2_placeLimit_35 rfl (lv_at hl 0 rfl) ?_
        refine gf2_orders X h w_169 dK2_placeLimit_36 ?_
        refine lv_aload_n hx hb dK2_placeLimit_39 rfl (lv_at hl 1 rfl) ?_
        obtain ⟨r_11, I_12, L_13, h_10, hf⟩ := bq_some hf
        refine tf_callVi (As := [.ref (al G 5)]) (rest := []) X h 8 (by decide) rfl rfl (mK4_enter hJ h_10) bwK4_enter w_231 ⟨Nat.le_of_ble_eq_true rfl, Nat.le_of_ble_eq_true rfl⟩ hl.1 rfl (Nat.le_of_ble_eq_true rfl) ⟨Nat.zero_le _, Nat.zero_le _⟩ dK2_placeLimit_40 (fun H locs h => ?_)
        refine lv_istore_n (lv' := [(2, .int r_11), (0, .ref (al G 6)), (1, .ref (al G 5))]) hx hb dK2_placeLimit_43 rfl hl (by decide) rfl (fun ls hl => ?_)
        refine lv_aload_n hx hb dK2_placeLimit_44 rfl (lv_at hl 1 rfl) ?_
        refine gf2_orders X h w_169 dK2_placeLimit_45 ?_
        refine gf4_rows X h w_232 dK2_placeLimit_48 ?_
        refine lv_iload_n hx hb dK2_placeLimit_51 rfl (lv_at hl 0 rfl) ?_
        obtain ⟨o_15, qo_15, hi_14, hf⟩ := g40_some hf
        refine gac_9 X h o_15 qo_15 hi_14 dK2_placeLimit_52 ?_
        refine lv_astore_n (lv' := [(3, .ref (al G (o_15.val + 23))), (2, .int r_11), (0, .ref (al G 6)), (1, .ref (al G 5))]) hx hb dK2_placeLimit_53 rfl hl (by decide) rfl (fun ls hl => ?_)
        refine lv_aload_n hx hb dK2_placeLimit_54 rfl (lv_at hl 2 rfl) ?_
        refine lv_aload_n hx hb dK2_placeLimit_55 rfl (lv_at hl 0 rfl) ?_
        refine lv_aload_n hx hb dK2_placeLimit_56 rfl (lv_at hl 0 rfl) ?_
        refine gf3_price X h o_15 w_186 dK2_placeLimit_57 ?_
        refine lv_aload_n hx hb dK2_placeLimit_60 rfl (lv_at hl 0 rfl) ?_
        refine gf3_left X h o_15 w_192 dK2_placeLimit_61 ?_
        obtain ⟨I_17, L_18, h_16, hf⟩ := bv_some hf
        refine tf_callVv (As := [.ref (al G (o_15.val + 23)), .int (I_12 3 o_15.val), .int (I_12 2 o_15.val)]) (rest := []) X h 6 (by decide) rfl rfl (mK2_meet hJ h_16) bwK2_meet w_233 ⟨Nat.le_of_ble_eq_true rfl, Nat.le_of_ble_eq_true rfl⟩ hl.1 rfl (Nat.le_of_ble_eq_true rfl) ⟨Nat.zero_le _, Nat.zero_le _⟩ dK2_placeLimit_64 (fun H locs h => ?_)
        refine lv_aload_n hx hb dK2_placeLimit_67 rfl (lv_at hl 0 rfl) ?_
        refine gf3_left X h o_15 w_192 dK2_placeLimit_68 ?_
        refine lv_if_le (tgt := 121) hx hb dK2_placeLimit_71 (by decide) (fun c_19 => ?_) (fun c_19 => ?_)
        · have hf := if_t hf c_19
          refine lv_iload_n hx hb dK2_placeLimit_121 rfl (lv_at hl 1 rfl) ?_
          cases hf
          exact tf_iret X h dK2_placeLimit_122
        · have hf := if_f hf c_19
          refine lv_aload_n hx hb dK2_placeLimit_74 rfl (lv_at hl 3 rfl) ?_
          refine gf1_way X h w_168 dK2_placeLimit_75 ?_
          refine lv_iconst (v := 1) hx hb dK2_placeLimit_78 (by decide) ?_
          refine lv_icmp_eq (tgt := 121) hx hb dK2_placeLimit_79 (by decide) (fun c_20 => ?_) (fun c_20 => ?_)
          · have hf := if_t hf c_20
            refine lv_iload_n hx hb dK2_placeLimit_121 rfl (lv_at hl 1 rfl) ?_
            cases hf
            exact tf_iret X h dK2_placeLimit_122
          · have hf := if_f hf c_20
            refine lv_aload_n hx hb dK2_placeLimit_82 rfl (lv_at hl 0 rfl) ?_
            refine lv_iconst (v := 0) hx hb dK2_placeLimit_83 (by decide) ?_
            obtain ⟨I_21, eI_21, hf⟩ := nm_some hf
            refine pf3_state X h o_15 eI_21 w_191 dK2_placeLimit_84 (fun H locs h => ?_)
            refine lv_aload_n hx hb dK2_placeLimit_87 rfl (lv_at hl 0 rfl) ?_
            refine lv_aload_n hx hb dK2_placeLimit_88 rfl (lv_at hl 3 rfl) ?_
            refine gf1_way X h w_168 dK2_placeLimit_89 ?_
            refine lv_iconst (v := 4) hx hb dK2_placeLimit_92 (by decide) ?_
            refine lv_icmp_ne (tgt := 108) hx hb dK2_placeLimit_93 (by decide) (fun c_22 => ?_) (fun c_22 => ?_)
            · have hf := if_f hf c_22
              refine lv_iconst (v := (-1)) hx hb dK2_placeLimit_108 (by decide) ?_
              exact sK2_placeLimit_109 X r_11 o_15 (-1) o_15 I_21 L_18 hf h (lv_sub hl [2, 1, 0] rfl)
            · have hf := if_t hf c_22
              refine lv_aload_n hx hb dK2_placeLimit_96 rfl (lv_at hl 2 rfl) ?_
              refine gf2_now X h w_234 dK2_placeLimit_97 ?_
              refine lv_aload_n hx hb dK2_placeLimit_100 rfl (lv_at hl 3 rfl) ?_
              refine gf1_ticks X h w_235 dK2_placeLimit_101 ?_
              refine lv_iadd hx hb dK2_placeLimit_104 ?_
              refine lv_goto (tgt := 109) hx hb dK2_placeLimit_105 (by decide) ?_
              exact sK2_placeLimit_109 X r_11 o_15 ((I_21 11 5) + (I_21 15 6)) o_15 I_21 L_18 hf h (lv_sub hl [2, 1, 0] rfl)
      · have hf := if_t hf c_9
        refine lv_bipush (v := (-17)) hx hb dK2_placeLimit_32 (by decide) ?_
        cases hf
        exact tf_iret X h dK2_placeLimit_34
    · have hf := if_t hf c_6
      refine lv_bipush (v := (-16)) hx hb dK2_placeLimit_21 (by decide) ?_
      cases hf
      exact tf_iret X h dK2_placeLimit_23
  · have hf := if_f hf c_3
    refine lv_bipush (v := (-15)) hx hb dK2_placeLimit_10 (by decide) ?_
    cases hf
    exact tf_iret X h dK2_placeLimit_12
theorem mK2_placeLimit {l : Launch} {G : tf_G} (hJ : gJ (al G) 63) {r : Int32} {I9 : FI} {L9 : FL} {I : FI} {L : FL} (hf : fK2_placeLimit I L = some (r, I9, L9)) : tf_Met l G 63 yK2_placeLimit cK2_placeLimit 4 (some .int) 4 96 [.ref (al G 6), .ref (al G 5)] (cE G I L) (cE G I9 L9) (some (.int r)) :=
  tf_enter (by decide +kernel) hJ (Nat.le_of_ble_eq_true rfl) (fun p e s m args below meth c ls X _ hl h => sK2_placeLimit_0 X I L hf h hl)
theorem bwK2_placeLimit : tf_cv yK2_placeLimit cK2_placeLimit 4 (some .int) 1 := ⟨w_237, w_238, w_239, w_132, by decide +kernel, by decide +kernel, by decide +kernel⟩

set_option maxHeartbeats 4000000 in
set_option maxRecDepth 100000 in
theorem sK2_placeAny_32 {p : Program} {l : Launch} {e : Env} {s : State} {m : MethodId} {args : Array Value} {below : List Frame} {meth : Method} {c : Code} {G : tf_G} (X : tf_X G 63 "TradeFloor$Exchange" cK2_placeAny 3 (some .int) p s m args meth c) {r : Int32} {I9 : FI} {L9 : FL} (I : FI) (L : FL) (hf : fK2_placeAny_32 I L = some (r, I9, L9)) {H : Heap} {locs : List Loc} {ls : Array Slot} (h : tf_H G 63 (cE G I L) s.heap H locs) (hl : lv_has ls 3 [(0, .ref (al G 6)), (1, .ref (al G 5))]) : W p l e (tf_rm 4 96) s m args below meth c H locs 0 0 (MQ below (tf_Q G 63 (cE G I9 L9) (some (.int r))) args s 0 0 (gA (al G) 63)) (F0 m 32 ls []) := by
  have hx := X.1
  have hb := X.2.1
  have hJ := X.2.2.2.2.2.2.2.2.2
  unfold fK2_placeAny_32 at hf
  refine lv_aload_n hx hb dK2_placeAny_32 rfl (lv_at hl 0 rfl) ?_
  refine gf2_orders X h w_169 dK2_placeAny_33 ?_
  refine lv_aload_n hx hb dK2_placeAny_36 rfl (lv_at hl 1 rfl) ?_
  obtain ⟨r_2, I_3, L_4, h_1, hf⟩ := bq_some hf
  refine tf_callVi (As := [.ref (al G 5)]) (rest := []) X h 8 (by decide) rfl rfl (mK4_enter hJ h_1) bwK4_enter w_231 ⟨Nat.le_of_ble_eq_true rfl, Nat.le_of_ble_eq_true rfl⟩ hl.1 rfl (Nat.le_of_ble_eq_true rfl) ⟨Nat.zero_le _, Nat.zero_le _⟩ dK2_placeAny_37 (fun H locs h => ?_)
  refine lv_istore_n (lv' := [(2, .int r_2), (0, .ref (al G 6)), (1, .ref (al G 5))]) hx hb dK2_placeAny_40 rfl hl (by decide) rfl (fun ls hl => ?_)
  refine lv_aload_n hx hb dK2_placeAny_41 rfl (lv_at hl 1 rfl) ?_
  refine lv_aload_n hx hb dK2_placeAny_42 rfl (lv_at hl 1 rfl) ?_
  refine gf2_orders X h w_169 dK2_placeAny_43 ?_
  refine gf4_rows X h w_232 dK2_placeAny_46 ?_
  refine lv_iload_n hx hb dK2_placeAny_49 rfl (lv_at hl 0 rfl) ?_
  obtain ⟨o_6, qo_6, hi_5, hf⟩ := g40_some hf
  refine gac_9 X h o_6 qo_6 hi_5 dK2_placeAny_50 ?_
  refine lv_iconst (v := 0) hx hb dK2_placeAny_51 (by decide) ?_
  refine lv_aload_n hx hb dK2_placeAny_52 rfl (lv_at hl 2 rfl) ?_
  refine gf1_quantity X h w_141 dK2_placeAny_53 ?_
  obtain ⟨I_8, L_9, h_7, hf⟩ := bv_some hf
  refine tf_callVv (As := [.ref (al G (o_6.val + 23)), .int 0, .int (I_3 15 3)]) (rest := []) X h 6 (by decide) rfl rfl (mK2_meet hJ h_7) bwK2_meet w_233 ⟨Nat.le_of_ble_eq_true rfl, Nat.le_of_ble_eq_true rfl⟩ hl.1 rfl (Nat.le_of_ble_eq_true rfl) ⟨Nat.zero_le _, Nat.zero_le _⟩ dK2_placeAny_56 (fun H locs h => ?_)
  refine lv_iload_n hx hb dK2_placeAny_59 rfl (lv_at hl 0 rfl) ?_
  cases hf
  exact tf_iret X h dK2_placeAny_60
set_option maxHeartbeats 4000000 in
set_option maxRecDepth 100000 in
theorem sK2_placeAny_0 {p : Program} {l : Launch} {e : Env} {s : State} {m : MethodId} {args : Array Value} {below : List Frame} {meth : Method} {c : Code} {G : tf_G} (X : tf_X G 63 "TradeFloor$Exchange" cK2_placeAny 3 (some .int) p s m args meth c) {r : Int32} {I9 : FI} {L9 : FL} (I : FI) (L : FL) (hf : fK2_placeAny I L = some (r, I9, L9)) {H : Heap} {locs : List Loc} {ls : Array Slot} (h : tf_H G 63 (cE G I L) s.heap H locs) (hl : lv_has ls 3 [(0, .ref (al G 6)), (1, .ref (al G 5))]) : W p l e (tf_rm 4 96) s m args below meth c H locs 0 0 (MQ below (tf_Q G 63 (cE G I9 L9) (some (.int r))) args s 0 0 (gA (al G) 63)) (F0 m 0 ls []) := by
  have hx := X.1
  have hb := X.2.1
  have hJ := X.2.2.2.2.2.2.2.2.2
  unfold fK2_placeAny at hf
  refine lv_aload_n hx hb dK2_placeAny_0 rfl (lv_at hl 0 rfl) ?_
  refine gf2_orders X h w_169 dK2_placeAny_1 ?_
  obtain ⟨r_2, h_1, hf⟩ := bn_some hf
  refine tf_callVi (As := []) (rest := []) X h 8 (by decide) rfl rfl (mK4_isFull hJ h_1) bwK4_isFull w_228 ⟨Nat.le_of_ble_eq_true rfl, Nat.le_of_ble_eq_true rfl⟩ hl.1 rfl (Nat.le_of_ble_eq_true rfl) ⟨Nat.zero_le _, Nat.zero_le _⟩ dK2_placeAny_4 (fun H locs h => ?_)
  refine lv_if_eq (tgt := 13) hx hb dK2_placeAny_7 (by decide) (fun c_3 => ?_) (fun c_3 => ?_)
  · have hf := if_t hf c_3
    refine lv_aload_n hx hb dK2_placeAny_13 rfl (lv_at hl 1 rfl) ?_
    refine gf1_side X h w_140 dK2_placeAny_14 ?_
    refine lv_iconst (v := 1) hx hb dK2_placeAny_17 (by decide) ?_
    refine lv_icmp_ne (tgt := 32) hx hb dK2_placeAny_18 (by decide) (fun c_4 => ?_) (fun c_4 => ?_)
    · have hf := if_f hf c_4
      exact sK2_placeAny_32 X I L hf h hl
    · have hf := if_t hf c_4
      refine lv_aload_n hx hb dK2_placeAny_21 rfl (lv_at hl 0 rfl) ?_
      refine lv_aload_n hx hb dK2_placeAny_22 rfl (lv_at hl 1 rfl) ?_
      obtain ⟨r_6, h_5, hf⟩ := bn_some hf
      refine tf_callVi (As := [.ref (al G 5)]) (rest := []) X h 6 (by decide) rfl rfl (mK2_hasFunds hJ h_5) bwK2_hasFunds w_229 ⟨Nat.le_of_ble_eq_true rfl, Nat.le_of_ble_eq_true rfl⟩ hl.1 rfl (Nat.le_of_ble_eq_true rfl) ⟨Nat.zero_le _, Nat.zero_le _⟩ dK2_placeAny_23 (fun H locs h => ?_)
      refine lv_if_ne (tgt := 32) hx hb dK2_placeAny_26 (by decide) (fun c_7 => ?_) (fun c_7 => ?_)
      · have hf := if_f hf c_7
        exact sK2_placeAny_32 X I L hf h hl
      · have hf := if_t hf c_7
        refine lv_bipush (v := (-16)) hx hb dK2_placeAny_29 (by decide) ?_
        cases hf
        exact tf_iret X h dK2_placeAny_31
  · have hf := if_f hf c_3
    refine lv_bipush (v := (-15)) hx hb dK2_placeAny_10 (by decide) ?_
    cases hf
    exact tf_iret X h dK2_placeAny_12
theorem mK2_placeAny {l : Launch} {G : tf_G} (hJ : gJ (al G) 63) {r : Int32} {I9 : FI} {L9 : FL} {I : FI} {L : FL} (hf : fK2_placeAny I L = some (r, I9, L9)) : tf_Met l G 63 yK2_placeAny cK2_placeAny 3 (some .int) 4 96 [.ref (al G 6), .ref (al G 5)] (cE G I L) (cE G I9 L9) (some (.int r)) :=
  tf_enter (by decide +kernel) hJ (Nat.le_of_ble_eq_true rfl) (fun p e s m args below meth c ls X _ hl h => sK2_placeAny_0 X I L hf h hl)
theorem bwK2_placeAny : tf_cv yK2_placeAny cK2_placeAny 3 (some .int) 1 := ⟨w_240, w_241, w_242, w_132, by decide +kernel, by decide +kernel, by decide +kernel⟩

set_option maxHeartbeats 4000000 in
set_option maxRecDepth 100000 in
theorem sK2_placeStop_0 {p : Program} {l : Launch} {e : Env} {s : State} {m : MethodId} {args : Array Value} {below : List Frame} {meth : Method} {c : Code} {G : tf_G} (X : tf_X G 63 "TradeFloor$Exchange" cK2_placeStop 3 (some .int) p s m args meth c) {r : Int32} {I9 : FI} {L9 : FL} (I : FI) (L : FL) (hf : fK2_placeStop I L = some (r, I9, L9)) {H : Heap} {locs : List Loc} {ls : Array Slot} (h : tf_H G 63 (cE G I L) s.heap H locs) (hl : lv_has ls 3 [(0, .ref (al G 6)), (1, .ref (al G 5))]) : W p l e (tf_rm 1 23) s m args below meth c H locs 0 0 (MQ below (tf_Q G 63 (cE G I9 L9) (some (.int r))) args s 0 0 (gA (al G) 63)) (F0 m 0 ls []) := by
  have hx := X.1
  have hb := X.2.1
  have hJ := X.2.2.2.2.2.2.2.2.2
  unfold fK2_placeStop at hf
  refine lv_aload_n hx hb dK2_placeStop_0 rfl (lv_at hl 0 rfl) ?_
  refine gf2_orders X h w_169 dK2_placeStop_1 ?_
  obtain ⟨r_2, h_1, hf⟩ := bn_some hf
  refine tf_callVi (As := []) (rest := []) X h 8 (by decide) rfl rfl (mK4_isFull hJ h_1) bwK4_isFull w_228 ⟨Nat.le_of_ble_eq_true rfl, Nat.le_of_ble_eq_true rfl⟩ hl.1 rfl (Nat.le_of_ble_eq_true rfl) ⟨Nat.zero_le _, Nat.zero_le _⟩ dK2_placeStop_4 (fun H locs h => ?_)
  refine lv_if_eq (tgt := 13) hx hb dK2_placeStop_7 (by decide) (fun c_3 => ?_) (fun c_3 => ?_)
  · have hf := if_t hf c_3
    refine lv_aload_n hx hb dK2_placeStop_13 rfl (lv_at hl 0 rfl) ?_
    refine gf2_orders X h w_169 dK2_placeStop_14 ?_
    refine lv_aload_n hx hb dK2_placeStop_17 rfl (lv_at hl 1 rfl) ?_
    obtain ⟨r_5, I_6, L_7, h_4, hf⟩ := bq_some hf
    refine tf_callVi (As := [.ref (al G 5)]) (rest := []) X h 8 (by decide) rfl rfl (mK4_enter hJ h_4) bwK4_enter w_231 ⟨Nat.le_of_ble_eq_true rfl, Nat.le_of_ble_eq_true rfl⟩ hl.1 rfl (Nat.le_of_ble_eq_true rfl) ⟨Nat.zero_le _, Nat.zero_le _⟩ dK2_placeStop_18 (fun H locs h => ?_)
    refine lv_istore_n (lv' := [(2, .int r_5), (0, .ref (al G 6)), (1, .ref (al G 5))]) hx hb dK2_placeStop_21 rfl hl (by decide) rfl (fun ls hl => ?_)
    refine lv_aload_n hx hb dK2_placeStop_22 rfl (lv_at hl 1 rfl) ?_
    refine gf2_orders X h w_169 dK2_placeStop_23 ?_
    refine gf4_rows X h w_232 dK2_placeStop_26 ?_
    refine lv_iload_n hx hb dK2_placeStop_29 rfl (lv_at hl 0 rfl) ?_
    obtain ⟨o_9, qo_9, hi_8, hf⟩ := g40_some hf
    refine gac_9 X h o_9 qo_9 hi_8 dK2_placeStop_30 ?_
    refine lv_iconst (v := 1) hx hb dK2_placeStop_31 (by decide) ?_
    obtain ⟨I_10, eI_10, hf⟩ := nm_some hf
    refine pf3_state X h o_9 eI_10 w_191 dK2_placeStop_32 (fun H locs h => ?_)
    refine lv_iload_n hx hb dK2_placeStop_35 rfl (lv_at hl 0 rfl) ?_
    cases hf
    exact tf_iret X h dK2_placeStop_36
  · have hf := if_f hf c_3
    refine lv_bipush (v := (-15)) hx hb dK2_placeStop_10 (by decide) ?_
    cases hf
    exact tf_iret X h dK2_placeStop_12
theorem mK2_placeStop {l : Launch} {G : tf_G} (hJ : gJ (al G) 63) {r : Int32} {I9 : FI} {L9 : FL} {I : FI} {L : FL} (hf : fK2_placeStop I L = some (r, I9, L9)) : tf_Met l G 63 yK2_placeStop cK2_placeStop 3 (some .int) 1 23 [.ref (al G 6), .ref (al G 5)] (cE G I L) (cE G I9 L9) (some (.int r)) :=
  tf_enter (by decide +kernel) hJ (Nat.le_of_ble_eq_true rfl) (fun p e s m args below meth c ls X _ hl h => sK2_placeStop_0 X I L hf h hl)
theorem bwK2_placeStop : tf_cv yK2_placeStop cK2_placeStop 3 (some .int) 1 := ⟨w_243, w_244, w_245, w_132, by decide +kernel, by decide +kernel, by decide +kernel⟩

set_option maxHeartbeats 4000000 in
set_option maxRecDepth 100000 in
theorem sK2_refusalOfTarget_0 {p : Program} {l : Launch} {e : Env} {s : State} {m : MethodId} {args : Array Value} {below : List Frame} {meth : Method} {c : Code} {G : tf_G} (X : tf_X G 63 "TradeFloor$Exchange" cK2_refusalOfTarget 3 (some .int) p s m args meth c) {r : Int32} (I : FI) (L : FL) (hf : fK2_refusalOfTarget I L = some r) {H : Heap} {locs : List Loc} {ls : Array Slot} (h : tf_H G 63 (cE G I L) s.heap H locs) (hl : lv_has ls 3 [(0, .ref (al G 6)), (1, .ref (al G 5))]) : W p l e (tf_rm 1 21) s m args below meth c H locs 0 0 (MQ below (tf_Q G 63 (cE G I L) (some (.int r))) args s 0 0 (gA (al G) 63)) (F0 m 0 ls []) := by
  have hx := X.1
  have hb := X.2.1
  have hJ := X.2.2.2.2.2.2.2.2.2
  unfold fK2_refusalOfTarget at hf
  refine lv_aload_n hx hb dK2_refusalOfTarget_0 rfl (lv_at hl 0 rfl) ?_
  refine gf2_orders X h w_169 dK2_refusalOfTarget_1 ?_
  refine lv_aload_n hx hb dK2_refusalOfTarget_4 rfl (lv_at hl 1 rfl) ?_
  refine gf1_target X h w_249 dK2_refusalOfTarget_5 ?_
  obtain ⟨r_2, h_1, hf⟩ := bn_some hf
  refine tf_callVi (As := [.int (I 15 7)]) (rest := []) X h 8 (by decide) rfl rfl (mK4_has hJ h_1) bwK4_has w_250 ⟨Nat.le_of_ble_eq_true rfl, Nat.le_of_ble_eq_true rfl⟩ hl.1 rfl (Nat.le_of_ble_eq_true rfl) ⟨Nat.zero_le _, Nat.zero_le _⟩ dK2_refusalOfTarget_8 (fun H locs h => ?_)
  refine lv_if_ne (tgt := 17) hx hb dK2_refusalOfTarget_11 (by decide) (fun c_3 => ?_) (fun c_3 => ?_)
  · have hf := if_f hf c_3
    refine lv_aload_n hx hb dK2_refusalOfTarget_17 rfl (lv_at hl 0 rfl) ?_
    refine gf2_orders X h w_169 dK2_refusalOfTarget_18 ?_
    refine gf4_rows X h w_232 dK2_refusalOfTarget_21 ?_
    refine lv_aload_n hx hb dK2_refusalOfTarget_24 rfl (lv_at hl 1 rfl) ?_
    refine gf1_target X h w_249 dK2_refusalOfTarget_25 ?_
    obtain ⟨o_5, qo_5, hi_4, hf⟩ := g40_some hf
    refine gac_9 X h o_5 qo_5 hi_4 dK2_refusalOfTarget_28 ?_
    refine lv_astore_n (lv' := [(2, .ref (al G (o_5.val + 23))), (0, .ref (al G 6)), (1, .ref (al G 5))]) hx hb dK2_refusalOfTarget_29 rfl hl (by decide) rfl (fun ls hl => ?_)
    refine lv_aload_n hx hb dK2_refusalOfTarget_30 rfl (lv_at hl 0 rfl) ?_
    refine gf3_owner X h o_5 w_183 dK2_refusalOfTarget_31 ?_
    refine lv_aload_n hx hb dK2_refusalOfTarget_34 rfl (lv_at hl 2 rfl) ?_
    refine gf1_owner X h w_125 dK2_refusalOfTarget_35 ?_
    refine lv_icmp_eq (tgt := 44) hx hb dK2_refusalOfTarget_38 (by decide) (fun c_6 => ?_) (fun c_6 => ?_)
    · have hf := if_t hf c_6
      refine lv_aload_n hx hb dK2_refusalOfTarget_44 rfl (lv_at hl 0 rfl) ?_
      refine gf3_state X h o_5 w_191 dK2_refusalOfTarget_45 ?_
      refine lv_iconst (v := 2) hx hb dK2_refusalOfTarget_48 (by decide) ?_
      refine lv_icmp_ne (tgt := 57) hx hb dK2_refusalOfTarget_49 (by decide) (fun c_7 => ?_) (fun c_7 => ?_)
      · have hf := if_f hf c_7
        refine lv_iconst (v := 0) hx hb dK2_refusalOfTarget_57 (by decide) ?_
        cases hf
        exact tf_iret X h dK2_refusalOfTarget_58
      · have hf := if_t hf c_7
        refine lv_bipush (v := (-14)) hx hb dK2_refusalOfTarget_52 (by decide) ?_
        refine lv_goto (tgt := 58) hx hb dK2_refusalOfTarget_54 (by decide) ?_
        cases hf
        exact tf_iret X h dK2_refusalOfTarget_58
    · have hf := if_f hf c_6
      refine lv_bipush (v := (-13)) hx hb dK2_refusalOfTarget_41 (by decide) ?_
      cases hf
      exact tf_iret X h dK2_refusalOfTarget_43
  · have hf := if_t hf c_3
    refine lv_bipush (v := (-12)) hx hb dK2_refusalOfTarget_14 (by decide) ?_
    cases hf
    exact tf_iret X h dK2_refusalOfTarget_16
theorem mK2_refusalOfTarget {l : Launch} {G : tf_G} (hJ : gJ (al G) 63) {r : Int32} {I : FI} {L : FL} (hf : fK2_refusalOfTarget I L = some r) : tf_Met l G 63 yK2_refusalOfTarget cK2_refusalOfTarget 3 (some .int) 1 21 [.ref (al G 6), .ref (al G 5)] (cE G I L) (cE G I L) (some (.int r)) :=
  tf_enter (by decide +kernel) hJ (Nat.le_of_ble_eq_true rfl) (fun p e s m args below meth c ls X _ hl h => sK2_refusalOfTarget_0 X I L hf h hl)
theorem bwK2_refusalOfTarget : tf_cv yK2_refusalOfTarget cK2_refusalOfTarget 3 (some .int) 1 := ⟨w_251, w_252, w_253, w_132, by decide +kernel, by decide +kernel, by decide +kernel⟩

set_option maxHeartbeats 4000000 in
set_option maxRecDepth 100000 in
theorem sK2_cancelAsked_0 {p : Program} {l : Launch} {e : Env} {s : State} {m : MethodId} {args : Array Value} {below : List Frame} {meth : Method} {c : Code} {G : tf_G} (X : tf_X G 63 "TradeFloor$Exchange" cK2_cancelAsked 4 (some .int) p s m args meth c) {r : Int32} {I9 : FI} {L9 : FL} (I : FI) (L : FL) (hf : fK2_cancelAsked I L = some (r, I9, L9)) {H : Heap} {locs : List Loc} {ls : Array Slot} (h : tf_H G 63 (cE G I L) s.heap H locs) (hl : lv_has ls 4 [(0, .ref (al G 6)), (1, .ref (al G 5))]) : W p l e (tf_rm 2 44) s m args below meth c H locs 0 0 (MQ below (tf_Q G 63 (cE G I9 L9) (some (.int r))) args s 0 0 (gA (al G) 63)) (F0 m 0 ls []) := by
  have hx := X.1
  have hb := X.2.1
  have hJ := X.2.2.2.2.2.2.2.2.2
  unfold fK2_cancelAsked at hf
  refine lv_aload_n hx hb dK2_cancelAsked_0 rfl (lv_at hl 0 rfl) ?_
  refine lv_aload_n hx hb dK2_cancelAsked_1 rfl (lv_at hl 1 rfl) ?_
  obtain ⟨r_2, h_1, hf⟩ := bn_some hf
  refine tf_callVi (As := [.ref (al G 5)]) (rest := []) X h 6 (by decide) rfl rfl (mK2_refusalOfTarget hJ h_1) bwK2_refusalOfTarget w_254 ⟨Nat.le_of_ble_eq_true rfl, Nat.le_of_ble_eq_true rfl⟩ hl.1 rfl (Nat.le_of_ble_eq_true rfl) ⟨Nat.zero_le _, Nat.zero_le _⟩ dK2_cancelAsked_2 (fun H locs h => ?_)
  refine lv_istore_n (lv' := [(2, .int r_2), (0, .ref (al G 6)), (1, .ref (al G 5))]) hx hb dK2_cancelAsked_5 rfl hl (by decide) rfl (fun ls hl => ?_)
  refine lv_iload_n hx hb dK2_cancelAsked_6 rfl (lv_at hl 0 rfl) ?_
  refine lv_if_eq (tgt := 12) hx hb dK2_cancelAsked_7 (by decide) (fun c_3 => ?_) (fun c_3 => ?_)
  · have hf := if_t hf c_3
    refine lv_aload_n hx hb dK2_cancelAsked_12 rfl (lv_at hl 1 rfl) ?_
    refine gf2_orders X h w_169 dK2_cancelAsked_13 ?_
    refine gf4_rows X h w_232 dK2_cancelAsked_16 ?_
    refine lv_aload_n hx hb dK2_cancelAsked_19 rfl (lv_at hl 2 rfl) ?_
    refine gf1_target X h w_249 dK2_cancelAsked_20 ?_
    obtain ⟨o_5, qo_5, hi_4, hf⟩ := g40_some hf
    refine gac_9 X h o_5 qo_5 hi_4 dK2_cancelAsked_23 ?_
    refine lv_astore_n (lv' := [(3, .ref (al G (o_5.val + 23))), (2, .int r_2), (0, .ref (al G 6)), (1, .ref (al G 5))]) hx hb dK2_cancelAsked_24 rfl hl (by decide) rfl (fun ls hl => ?_)
    refine lv_aload_n hx hb dK2_cancelAsked_25 rfl (lv_at hl 2 rfl) ?_
    refine lv_aload_n hx hb dK2_cancelAsked_26 rfl (lv_at hl 0 rfl) ?_
    obtain ⟨I_7, L_8, h_6, hf⟩ := bv_some hf
    refine tf_callVv (As := [.ref (al G (o_5.val + 23))]) (rest := []) X h 6 (by decide) rfl rfl (mK2_cancel hJ h_6) bwK2_cancel w_224 ⟨Nat.le_of_ble_eq_true rfl, Nat.le_of_ble_eq_true rfl⟩ hl.1 rfl (Nat.le_of_ble_eq_true rfl) ⟨Nat.zero_le _, Nat.zero_le _⟩ dK2_cancelAsked_27 (fun H locs h => ?_)
    refine lv_aload_n hx hb dK2_cancelAsked_30 rfl (lv_at hl 0 rfl) ?_
    refine gf3_left X h o_5 w_192 dK2_cancelAsked_31 ?_
    cases hf
    exact tf_iret X h dK2_cancelAsked_34
  · have hf := if_f hf c_3
    refine lv_iload_n hx hb dK2_cancelAsked_10 rfl (lv_at hl 0 rfl) ?_
    cases hf
    exact tf_iret X h dK2_cancelAsked_11
theorem mK2_cancelAsked {l : Launch} {G : tf_G} (hJ : gJ (al G) 63) {r : Int32} {I9 : FI} {L9 : FL} {I : FI} {L : FL} (hf : fK2_cancelAsked I L = some (r, I9, L9)) : tf_Met l G 63 yK2_cancelAsked cK2_cancelAsked 4 (some .int) 2 44 [.ref (al G 6), .ref (al G 5)] (cE G I L) (cE G I9 L9) (some (.int r)) :=
  tf_enter (by decide +kernel) hJ (Nat.le_of_ble_eq_true rfl) (fun p e s m args below meth c ls X _ hl h => sK2_cancelAsked_0 X I L hf h hl)
theorem bwK2_cancelAsked : tf_cv yK2_cancelAsked cK2_cancelAsked 4 (some .int) 1 := ⟨w_255, w_256, w_257, w_132, by decide +kernel, by decide +kernel, by decide +kernel⟩

set_option maxHeartbeats 4000000 in
set_option maxRecDepth 100000 in
theorem sK2_lessen_56 {p : Program} {l : Launch} {e : Env} {s : State} {m : MethodId} {args : Array Value} {below : List Frame} {meth : Method} {c : Code} {G : tf_G} (X : tf_X G 63 "TradeFloor$Exchange" cK2_lessen 4 (some .int) p s m args meth c) {r : Int32} {I9 : FI} {L9 : FL} (v3 : Fin 40) (I : FI) (L : FL) (hf : fK2_lessen_56 v3 I L = some (r, I9, L9)) {H : Heap} {locs : List Loc} {ls : Array Slot} (h : tf_H G 63 (cE G I L) s.heap H locs) (hl : lv_has ls 4 [(1, .ref (al G 5)), (3, .ref (al G (v3.val + 23)))]) : W p l e (tf_rm 2 43) s m args below meth c H locs 0 0 (MQ below (tf_Q G 63 (cE G I9 L9) (some (.int r))) args s 0 0 (gA (al G) 63)) (F0 m 56 ls []) := by
  have hx := X.1
  have hb := X.2.1
  have hJ := X.2.2.2.2.2.2.2.2.2
  unfold fK2_lessen_56 at hf
  refine lv_aload_n hx hb dK2_lessen_56 rfl (lv_at hl 1 rfl) ?_
  refine lv_dup hx hb dK2_lessen_57 rfl ?_
  refine gf3_left X h v3 w_192 dK2_lessen_58 ?_
  refine lv_aload_n hx hb dK2_lessen_61 rfl (lv_at hl 0 rfl) ?_
  refine gf1_amount X h w_128 dK2_lessen_62 ?_
  refine lv_isub hx hb dK2_lessen_65 ?_
  obtain ⟨I_1, eI_1, hf⟩ := nm_some hf
  refine pf3_left X h v3 eI_1 w_192 dK2_lessen_66 (fun H locs h => ?_)
  refine lv_aload_n hx hb dK2_lessen_69 rfl (lv_at hl 1 rfl) ?_
  refine gf3_left X h v3 w_192 dK2_lessen_70 ?_
  cases hf
  exact tf_iret X h dK2_lessen_73
set_option maxHeartbeats 4000000 in
set_option maxRecDepth 100000 in
theorem sK2_lessen_0 {p : Program} {l : Launch} {e : Env} {s : State} {m : MethodId} {args : Array Value} {below : List Frame} {meth : Method} {c : Code} {G : tf_G} (X : tf_X G 63 "TradeFloor$Exchange" cK2_lessen 4 (some .int) p s m args meth c) {r : Int32} {I9 : FI} {L9 : FL} (I : FI) (L : FL) (hf : fK2_lessen I L = some (r, I9, L9)) {H : Heap} {locs : List Loc} {ls : Array Slot} (h : tf_H G 63 (cE G I L) s.heap H locs) (hl : lv_has ls 4 [(0, .ref (al G 6)), (1, .ref (al G 5))]) : W p l e (tf_rm 2 43) s m args below meth c H locs 0 0 (MQ below (tf_Q G 63 (cE G I9 L9) (some (.int r))) args s 0 0 (gA (al G) 63)) (F0 m 0 ls []) := by
  have hx := X.1
  have hb := X.2.1
  have hJ := X.2.2.2.2.2.2.2.2.2
  unfold fK2_lessen at hf
  refine lv_aload_n hx hb dK2_lessen_0 rfl (lv_at hl 0 rfl) ?_
  refine lv_aload_n hx hb dK2_lessen_1 rfl (lv_at hl 1 rfl) ?_
  obtain ⟨r_2, h_1, hf⟩ := bn_some hf
  refine tf_callVi (As := [.ref (al G 5)]) (rest := []) X h 6 (by decide) rfl rfl (mK2_refusalOfTarget hJ h_1) bwK2_refusalOfTarget w_254 ⟨Nat.le_of_ble_eq_true rfl, Nat.le_of_ble_eq_true rfl⟩ hl.1 rfl (Nat.le_of_ble_eq_true rfl) ⟨Nat.zero_le _, Nat.zero_le _⟩ dK2_lessen_2 (fun H locs h => ?_)
  refine lv_istore_n (lv' := [(2, .int r_2), (0, .ref (al G 6)), (1, .ref (al G 5))]) hx hb dK2_lessen_5 rfl hl (by decide) rfl (fun ls hl => ?_)
  refine lv_iload_n hx hb dK2_lessen_6 rfl (lv_at hl 0 rfl) ?_
  refine lv_if_eq (tgt := 12) hx hb dK2_lessen_7 (by decide) (fun c_3 => ?_) (fun c_3 => ?_)
  · have hf := if_t hf c_3
    refine lv_aload_n hx hb dK2_lessen_12 rfl (lv_at hl 1 rfl) ?_
    refine gf2_orders X h w_169 dK2_lessen_13 ?_
    refine gf4_rows X h w_232 dK2_lessen_16 ?_
    refine lv_aload_n hx hb dK2_lessen_19 rfl (lv_at hl 2 rfl) ?_
    refine gf1_target X h w_249 dK2_lessen_20 ?_
    obtain ⟨o_5, qo_5, hi_4, hf⟩ := g40_some hf
    refine gac_9 X h o_5 qo_5 hi_4 dK2_lessen_23 ?_
    refine lv_astore_n (lv' := [(3, .ref (al G (o_5.val + 23))), (2, .int r_2), (0, .ref (al G 6)), (1, .ref (al G 5))]) hx hb dK2_lessen_24 rfl hl (by decide) rfl (fun ls hl => ?_)
    refine lv_aload_n hx hb dK2_lessen_25 rfl (lv_at hl 3 rfl) ?_
    refine gf1_amount X h w_128 dK2_lessen_26 ?_
    refine lv_aload_n hx hb dK2_lessen_29 rfl (lv_at hl 0 rfl) ?_
    refine gf3_left X h o_5 w_192 dK2_lessen_30 ?_
    refine lv_icmp_lt (tgt := 39) hx hb dK2_lessen_33 (by decide) (fun c_6 => ?_) (fun c_6 => ?_)
    · have hf := if_t hf c_6
      refine lv_aload_n hx hb dK2_lessen_39 rfl (lv_at hl 0 rfl) ?_
      refine gf3_state X h o_5 w_191 dK2_lessen_40 ?_
      refine lv_if_ne (tgt := 56) hx hb dK2_lessen_43 (by decide) (fun c_7 => ?_) (fun c_7 => ?_)
      · have hf := if_f hf c_7
        exact sK2_lessen_56 X o_5 I L hf h (lv_sub hl [3, 0] rfl)
      · have hf := if_t hf c_7
        refine lv_aload_n hx hb dK2_lessen_46 rfl (lv_at hl 2 rfl) ?_
        refine lv_aload_n hx hb dK2_lessen_47 rfl (lv_at hl 0 rfl) ?_
        refine lv_aload_n hx hb dK2_lessen_48 rfl (lv_at hl 3 rfl) ?_
        refine gf1_amount X h w_128 dK2_lessen_49 ?_
        refine lv_ineg hx hb dK2_lessen_52 ?_
        obtain ⟨I_9, L_10, h_8, hf⟩ := bv_some hf
        refine tf_callVv (As := [.ref (al G (o_5.val + 23)), .int (-(I 15 8))]) (rest := []) X h 6 (by decide) rfl rfl (mK2_hold hJ h_8) bwK2_hold w_193 ⟨Nat.le_of_ble_eq_true rfl, Nat.le_of_ble_eq_true rfl⟩ hl.1 rfl (Nat.le_of_ble_eq_true rfl) ⟨Nat.zero_le _, Nat.zero_le _⟩ dK2_lessen_53 (fun H locs h => ?_)
        exact sK2_lessen_56 X o_5 I_9 L_10 hf h (lv_sub hl [3, 0] rfl)
    · have hf := if_f hf c_6
      refine lv_bipush (v := (-11)) hx hb dK2_lessen_36 (by decide) ?_
      cases hf
      exact tf_iret X h dK2_lessen_38
  · have hf := if_f hf c_3
    refine lv_iload_n hx hb dK2_lessen_10 rfl (lv_at hl 0 rfl) ?_
    cases hf
    exact tf_iret X h dK2_lessen_11
theorem mK2_lessen {l : Launch} {G : tf_G} (hJ : gJ (al G) 63) {r : Int32} {I9 : FI} {L9 : FL} {I : FI} {L : FL} (hf : fK2_lessen I L = some (r, I9, L9)) : tf_Met l G 63 yK2_lessen cK2_lessen 4 (some .int) 2 43 [.ref (al G 6), .ref (al G 5)] (cE G I L) (cE G I9 L9) (some (.int r)) :=
  tf_enter (by decide +kernel) hJ (Nat.le_of_ble_eq_true rfl) (fun p e s m args below meth c ls X _ hl h => sK2_lessen_0 X I L hf h hl)
theorem bwK2_lessen : tf_cv yK2_lessen cK2_lessen 4 (some .int) 1 := ⟨w_258, w_259, w_260, w_132, by decide +kernel, by decide +kernel, by decide +kernel⟩

set_option maxHeartbeats 4000000 in
set_option maxRecDepth 100000 in
theorem sK2_endOrdersOfNow_51 {p : Program} {l : Launch} {e : Env} {s : State} {m : MethodId} {args : Array Value} {below : List Frame} {meth : Method} {c : Code} {G : tf_G} (X : tf_X G 63 "TradeFloor$Exchange" cK2_endOrdersOfNow 4 (some .int) p s m args meth c) {r : Int32} {I9 : FI} {L9 : FL} (k4 : Int32 → Int32 → FI → FL → Option (Int32 × FI × FL)) (hk4 : ∀ (v1 : Int32) (v2 : Int32) (I : FI) (L : FL), k4 v1 v2 I L = some (r, I9, L9) → ∀ {H : Heap} {locs : List Loc} {ls : Array Slot}, tf_H G 63 (cE G I L) s.heap H locs → lv_has ls 4 [(0, .ref (al G 6)), (1, .int v1), (2, .int v2)] → W p l e (tf_rm 2 44) s m args below meth c H locs 0 0 (MQ below (tf_Q G 63 (cE G I9 L9) (some (.int r))) args s 0 0 (gA (al G) 63)) (F0 m 4 ls [])) (v1 : Int32) (v2 : Int32) (I : FI) (L : FL) (hf : fK2_endOrdersOfNow_51 k4 v1 v2 I L = some (r, I9, L9)) {H : Heap} {locs : List Loc} {ls : Array Slot} (h : tf_H G 63 (cE G I L) s.heap H locs) (hl : lv_has ls 4 [(0, .ref (al G 6)), (1, .int v1), (2, .int v2)]) : W p l e (tf_rm 2 44) s m args below meth c H locs 0 0 (MQ below (tf_Q G 63 (cE G I9 L9) (some (.int r))) args s 0 0 (gA (al G) 63)) (F0 m 51 ls []) := by
  have hx := X.1
  have hb := X.2.1
  have hJ := X.2.2.2.2.2.2.2.2.2
  unfold fK2_endOrdersOfNow_51 at hf
  obtain ⟨x_1, ex_1, hf⟩ := nm_some hf
  refine lv_iinc (v := x_1) (lv' := [(2, .int x_1), (0, .ref (al G 6)), (1, .int v1)]) hx hb dK2_endOrdersOfNow_51 hl (k := 2) rfl (by rw [ex_1]; rfl) (by decide) rfl (fun ls hl => ?_)
  refine lv_goto (tgt := 4) hx hb dK2_endOrdersOfNow_54 (by decide) ?_
  exact hk4 v1 x_1 I L hf h (lv_sub hl [1, 2, 0] rfl)
set_option maxHeartbeats 4000000 in
set_option maxRecDepth 100000 in
theorem sK2_endOrdersOfNow_4 {p : Program} {l : Launch} {e : Env} {s : State} {m : MethodId} {args : Array Value} {below : List Frame} {meth : Method} {c : Code} {G : tf_G} (X : tf_X G 63 "TradeFloor$Exchange" cK2_endOrdersOfNow 4 (some .int) p s m args meth c) {r : Int32} {I9 : FI} {L9 : FL} (k4 : Int32 → Int32 → FI → FL → Option (Int32 × FI × FL)) (hk4 : ∀ (v1 : Int32) (v2 : Int32) (I : FI) (L : FL), k4 v1 v2 I L = some (r, I9, L9) → ∀ {H : Heap} {locs : List Loc} {ls : Array Slot}, tf_H G 63 (cE G I L) s.heap H locs → lv_has ls 4 [(0, .ref (al G 6)), (1, .int v1), (2, .int v2)] → W p l e (tf_rm 2 44) s m args below meth c H locs 0 0 (MQ below (tf_Q G 63 (cE G I9 L9) (some (.int r))) args s 0 0 (gA (al G) 63)) (F0 m 4 ls [])) (v1 : Int32) (v2 : Int32) (I : FI) (L : FL) (hf : bK2_endOrdersOfNow_4 k4 v1 v2 I L = some (r, I9, L9)) {H : Heap} {locs : List Loc} {ls : Array Slot} (h : tf_H G 63 (cE G I L) s.heap H locs) (hl : lv_has ls 4 [(0, .ref (al G 6)), (1, .int v1), (2, .int v2)]) : W p l e (tf_rm 2 44) s m args below meth c H locs 0 0 (MQ below (tf_Q G 63 (cE G I9 L9) (some (.int r))) args s 0 0 (gA (al G) 63)) (F0 m 4 ls []) := by
  have hx := X.1
  have hb := X.2.1
  have hJ := X.2.2.2.2.2.2.2.2.2
  unfold bK2_endOrdersOfNow_4 at hf
  refine lv_iload_n hx hb dK2_endOrdersOfNow_4 rfl (lv_at hl 2 rfl) ?_
  refine lv_aload_n hx hb dK2_endOrdersOfNow_5 rfl (lv_at hl 0 rfl) ?_
  refine gf2_orders X h w_169 dK2_endOrdersOfNow_6 ?_
  refine gf4_size X h w_261 dK2_endOrdersOfNow_9 ?_
  refine lv_icmp_ge (tgt := 57) hx hb dK2_endOrdersOfNow_12 (by decide) (fun c_1 => ?_) (fun c_1 => ?_)
  · have hf := if_t hf c_1
    refine lv_iload_n hx hb dK2_endOrdersOfNow_57 rfl (lv_at hl 1 rfl) ?_
    cases hf
    exact tf_iret X h dK2_endOrdersOfNow_58
  · have hf := if_f hf c_1
    refine lv_aload_n hx hb dK2_endOrdersOfNow_15 rfl (lv_at hl 0 rfl) ?_
    refine gf2_orders X h w_169 dK2_endOrdersOfNow_16 ?_
    refine gf4_rows X h w_232 dK2_endOrdersOfNow_19 ?_
    refine lv_iload_n hx hb dK2_endOrdersOfNow_22 rfl (lv_at hl 2 rfl) ?_
    obtain ⟨o_3, qo_3, hi_2, hf⟩ := g40_some hf
    refine gac_9 X h o_3 qo_3 hi_2 dK2_endOrdersOfNow_23 ?_
    refine lv_astore_n (lv' := [(3, .ref (al G (o_3.val + 23))), (0, .ref (al G 6)), (1, .int v1), (2, .int v2)]) hx hb dK2_endOrdersOfNow_24 rfl hl (by decide) rfl (fun ls hl => ?_)
    refine lv_aload_n hx hb dK2_endOrdersOfNow_25 rfl (lv_at hl 0 rfl) ?_
    refine gf3_state X h o_3 w_191 dK2_endOrdersOfNow_26 ?_
    refine lv_if_ne (tgt := 51) hx hb dK2_endOrdersOfNow_29 (by decide) (fun c_4 => ?_) (fun c_4 => ?_)
    · have hf := if_f hf c_4
      exact sK2_endOrdersOfNow_51 X k4 hk4 v1 v2 I L hf h (lv_sub hl [1, 2, 3] rfl)
    · have hf := if_t hf c_4
      refine lv_aload_n hx hb dK2_endOrdersOfNow_32 rfl (lv_at hl 0 rfl) ?_
      refine gf3_end X h o_3 w_236 dK2_endOrdersOfNow_33 ?_
      refine lv_aload_n hx hb dK2_endOrdersOfNow_36 rfl (lv_at hl 1 rfl) ?_
      refine gf2_now X h w_234 dK2_endOrdersOfNow_37 ?_
      refine lv_icmp_ne (tgt := 51) hx hb dK2_endOrdersOfNow_40 (by decide) (fun c_5 => ?_) (fun c_5 => ?_)
      · have hf := if_f hf c_5
        exact sK2_endOrdersOfNow_51 X k4 hk4 v1 v2 I L hf h (lv_sub hl [1, 2, 3] rfl)
      · have hf := if_t hf c_5
        refine lv_aload_n hx hb dK2_endOrdersOfNow_43 rfl (lv_at hl 1 rfl) ?_
        refine lv_aload_n hx hb dK2_endOrdersOfNow_44 rfl (lv_at hl 0 rfl) ?_
        obtain ⟨I_7, L_8, h_6, hf⟩ := bv_some hf
        refine tf_callVv (As := [.ref (al G (o_3.val + 23))]) (rest := []) X h 6 (by decide) rfl rfl (mK2_cancel hJ h_6) bwK2_cancel w_224 ⟨Nat.le_of_ble_eq_true rfl, Nat.le_of_ble_eq_true rfl⟩ hl.1 rfl (Nat.le_of_ble_eq_true rfl) ⟨Nat.zero_le _, Nat.zero_le _⟩ dK2_endOrdersOfNow_45 (fun H locs h => ?_)
        obtain ⟨x_9, ex_9, hf⟩ := nm_some hf
        refine lv_iinc (v := x_9) (lv' := [(1, .int x_9), (3, .ref (al G (o_3.val + 23))), (0, .ref (al G 6)), (2, .int v2)]) hx hb dK2_endOrdersOfNow_48 hl (k := 2) rfl (by rw [ex_9]; rfl) (by decide) rfl (fun ls hl => ?_)
        exact sK2_endOrdersOfNow_51 X k4 hk4 x_9 v2 I_7 L_8 hf h (lv_sub hl [2, 0, 3] rfl)
theorem lK2_endOrdersOfNow_4 {p : Program} {l : Launch} {e : Env} {s : State} {m : MethodId} {args : Array Value} {below : List Frame} {meth : Method} {c : Code} {G : tf_G} (X : tf_X G 63 "TradeFloor$Exchange" cK2_endOrdersOfNow 4 (some .int) p s m args meth c) {r : Int32} {I9 : FI} {L9 : FL} : ∀ (n : Nat), ∀ (v1 : Int32) (v2 : Int32) (I : FI) (L : FL), fK2_endOrdersOfNow_4 n v1 v2 I L = some (r, I9, L9) → ∀ {H : Heap} {locs : List Loc} {ls : Array Slot}, tf_H G 63 (cE G I L) s.heap H locs → lv_has ls 4 [(0, .ref (al G 6)), (1, .int v1), (2, .int v2)] → W p l e (tf_rm 2 44) s m args below meth c H locs 0 0 (MQ below (tf_Q G 63 (cE G I9 L9) (some (.int r))) args s 0 0 (gA (al G) 63)) (F0 m 4 ls []) := by
  intro n
  induction n with
  | zero =>
    intro v1 v2 I L hf
    exact absurd hf (by simp [fK2_endOrdersOfNow_4])
  | succ n ih =>
    intro v1 v2 I L hf H locs ls h hl
    exact sK2_endOrdersOfNow_4 X (fK2_endOrdersOfNow_4 n) ih v1 v2 I L hf h hl
set_option maxHeartbeats 4000000 in
set_option maxRecDepth 100000 in
theorem sK2_endOrdersOfNow_0 {p : Program} {l : Launch} {e : Env} {s : State} {m : MethodId} {args : Array Value} {below : List Frame} {meth : Method} {c : Code} {G : tf_G} (X : tf_X G 63 "TradeFloor$Exchange" cK2_endOrdersOfNow 4 (some .int) p s m args meth c) {r : Int32} {I9 : FI} {L9 : FL} (I : FI) (L : FL) (hf : fK2_endOrdersOfNow I L = some (r, I9, L9)) {H : Heap} {locs : List Loc} {ls : Array Slot} (h : tf_H G 63 (cE G I L) s.heap H locs) (hl : lv_has ls 4 [(0, .ref (al G 6))]) : W p l e (tf_rm 2 44) s m args below meth c H locs 0 0 (MQ below (tf_Q G 63 (cE G I9 L9) (some (.int r))) args s 0 0 (gA (al G) 63)) (F0 m 0 ls []) := by
  have hx := X.1
  have hb := X.2.1
  have hJ := X.2.2.2.2.2.2.2.2.2
  unfold fK2_endOrdersOfNow at hf
  refine lv_iconst (v := 0) hx hb dK2_endOrdersOfNow_0 (by decide) ?_
  refine lv_istore_n (lv' := [(1, .int 0), (0, .ref (al G 6))]) hx hb dK2_endOrdersOfNow_1 rfl hl (by decide) rfl (fun ls hl => ?_)
  refine lv_iconst (v := 0) hx hb dK2_endOrdersOfNow_2 (by decide) ?_
  refine lv_istore_n (lv' := [(2, .int 0), (1, .int 0), (0, .ref (al G 6))]) hx hb dK2_endOrdersOfNow_3 rfl hl (by decide) rfl (fun ls hl => ?_)
  exact lK2_endOrdersOfNow_4 X FU 0 0 I L hf h (lv_sub hl [2, 1, 0] rfl)
theorem mK2_endOrdersOfNow {l : Launch} {G : tf_G} (hJ : gJ (al G) 63) {r : Int32} {I9 : FI} {L9 : FL} {I : FI} {L : FL} (hf : fK2_endOrdersOfNow I L = some (r, I9, L9)) : tf_Met l G 63 yK2_endOrdersOfNow cK2_endOrdersOfNow 4 (some .int) 2 44 [.ref (al G 6)] (cE G I L) (cE G I9 L9) (some (.int r)) :=
  tf_enter (by decide +kernel) hJ (Nat.le_of_ble_eq_true rfl) (fun p e s m args below meth c ls X _ hl h => sK2_endOrdersOfNow_0 X I L hf h hl)
theorem bwK2_endOrdersOfNow : tf_cv yK2_endOrdersOfNow cK2_endOrdersOfNow 4 (some .int) 0 := ⟨w_262, w_263, w_264, w_132, by decide +kernel, by decide +kernel, by decide +kernel⟩

set_option maxHeartbeats 4000000 in
set_option maxRecDepth 100000 in
theorem sK2_passTime_4 {p : Program} {l : Launch} {e : Env} {s : State} {m : MethodId} {args : Array Value} {below : List Frame} {meth : Method} {c : Code} {G : tf_G} (X : tf_X G 63 "TradeFloor$Exchange" cK2_passTime 4 (some .int) p s m args meth c) {r : Int32} {I9 : FI} {L9 : FL} (k4 : Int32 → Int32 → Int32 → FI → FL → Option (Int32 × FI × FL)) (hk4 : ∀ (v1 : Int32) (v2 : Int32) (v3 : Int32) (I : FI) (L : FL), k4 v1 v2 v3 I L = some (r, I9, L9) → ∀ {H : Heap} {locs : List Loc} {ls : Array Slot}, tf_H G 63 (cE G I L) s.heap H locs → lv_has ls 4 [(0, .ref (al G 6)), (1, .int v1), (2, .int v2), (3, .int v3)] → W p l e (tf_rm 3 67) s m args below meth c H locs 0 0 (MQ below (tf_Q G 63 (cE G I9 L9) (some (.int r))) args s 0 0 (gA (al G) 63)) (F0 m 4 ls [])) (v1 : Int32) (v2 : Int32) (v3 : Int32) (I : FI) (L : FL) (hf : bK2_passTime_4 k4 v1 v2 v3 I L = some (r, I9, L9)) {H : Heap} {locs : List Loc} {ls : Array Slot} (h : tf_H G 63 (cE G I L) s.heap H locs) (hl : lv_has ls 4 [(0, .ref (al G 6)), (1, .int v1), (2, .int v2), (3, .int v3)]) : W p l e (tf_rm 3 67) s m args below meth c H locs 0 0 (MQ below (tf_Q G 63 (cE G I9 L9) (some (.int r))) args s 0 0 (gA (al G) 63)) (F0 m 4 ls []) := by
  have hx := X.1
  have hb := X.2.1
  have hJ := X.2.2.2.2.2.2.2.2.2
  unfold bK2_passTime_4 at hf
  refine lv_iload_n hx hb dK2_passTime_4 rfl (lv_at hl 3 rfl) ?_
  refine lv_iload_n hx hb dK2_passTime_5 rfl (lv_at hl 1 rfl) ?_
  refine lv_icmp_ge (tgt := 32) hx hb dK2_passTime_6 (by decide) (fun c_1 => ?_) (fun c_1 => ?_)
  · have hf := if_t hf c_1
    refine lv_iload_n hx hb dK2_passTime_32 rfl (lv_at hl 2 rfl) ?_
    cases hf
    exact tf_iret X h dK2_passTime_33
  · have hf := if_f hf c_1
    refine lv_aload_n hx hb dK2_passTime_9 rfl (lv_at hl 0 rfl) ?_
    refine lv_dup hx hb dK2_passTime_10 rfl ?_
    refine gf2_now X h w_234 dK2_passTime_11 ?_
    refine lv_iconst (v := 1) hx hb dK2_passTime_14 (by decide) ?_
    refine lv_iadd hx hb dK2_passTime_15 ?_
    obtain ⟨I_2, eI_2, hf⟩ := nm_some hf
    refine pf2_now X h eI_2 w_234 dK2_passTime_16 (fun H locs h => ?_)
    refine lv_iload_n hx hb dK2_passTime_19 rfl (lv_at hl 2 rfl) ?_
    refine lv_aload_n hx hb dK2_passTime_20 rfl (lv_at hl 0 rfl) ?_
    obtain ⟨r_4, I_5, L_6, h_3, hf⟩ := bq_some hf
    refine tf_callVi (As := []) (rest := [.int v2]) X h 6 (by decide) rfl rfl (mK2_endOrdersOfNow hJ h_3) bwK2_endOrdersOfNow w_265 ⟨Nat.le_of_ble_eq_true rfl, Nat.le_of_ble_eq_true rfl⟩ hl.1 rfl (Nat.le_of_ble_eq_true rfl) ⟨Nat.zero_le _, Nat.zero_le _⟩ dK2_passTime_21 (fun H locs h => ?_)
    refine lv_iadd hx hb dK2_passTime_24 ?_
    refine lv_topi (fun x_7 ex_7 => ?_)
    have hf := nm_at hf ex_7
    refine lv_istore_n (lv' := [(2, .int x_7), (0, .ref (al G 6)), (1, .int v1), (3, .int v3)]) hx hb dK2_passTime_25 rfl hl (by decide) rfl (fun ls hl => ?_)
    obtain ⟨x_8, ex_8, hf⟩ := nm_some hf
    refine lv_iinc (v := x_8) (lv' := [(3, .int x_8), (2, .int x_7), (0, .ref (al G 6)), (1, .int v1)]) hx hb dK2_passTime_26 hl (k := 3) rfl (by rw [ex_8]; rfl) (by decide) rfl (fun ls hl => ?_)
    refine lv_goto (tgt := 4) hx hb dK2_passTime_29 (by decide) ?_
    exact hk4 v1 x_7 x_8 I_5 L_6 hf h (lv_sub hl [2, 3, 1, 0] rfl)
theorem lK2_passTime_4 {p : Program} {l : Launch} {e : Env} {s : State} {m : MethodId} {args : Array Value} {below : List Frame} {meth : Method} {c : Code} {G : tf_G} (X : tf_X G 63 "TradeFloor$Exchange" cK2_passTime 4 (some .int) p s m args meth c) {r : Int32} {I9 : FI} {L9 : FL} : ∀ (n : Nat), ∀ (v1 : Int32) (v2 : Int32) (v3 : Int32) (I : FI) (L : FL), fK2_passTime_4 n v1 v2 v3 I L = some (r, I9, L9) → ∀ {H : Heap} {locs : List Loc} {ls : Array Slot}, tf_H G 63 (cE G I L) s.heap H locs → lv_has ls 4 [(0, .ref (al G 6)), (1, .int v1), (2, .int v2), (3, .int v3)] → W p l e (tf_rm 3 67) s m args below meth c H locs 0 0 (MQ below (tf_Q G 63 (cE G I9 L9) (some (.int r))) args s 0 0 (gA (al G) 63)) (F0 m 4 ls []) := by
  intro n
  induction n with
  | zero =>
    intro v1 v2 v3 I L hf
    exact absurd hf (by simp [fK2_passTime_4])
  | succ n ih =>
    intro v1 v2 v3 I L hf H locs ls h hl
    exact sK2_passTime_4 X (fK2_passTime_4 n) ih v1 v2 v3 I L hf h hl
set_option maxHeartbeats 4000000 in
set_option maxRecDepth 100000 in
theorem sK2_passTime_0 {p : Program} {l : Launch} {e : Env} {s : State} {m : MethodId} {args : Array Value} {below : List Frame} {meth : Method} {c : Code} {G : tf_G} (X : tf_X G 63 "TradeFloor$Exchange" cK2_passTime 4 (some .int) p s m args meth c) {r : Int32} {I9 : FI} {L9 : FL} (a1 : Int32) (I : FI) (L : FL) (hf : fK2_passTime a1 I L = some (r, I9, L9)) {H : Heap} {locs : List Loc} {ls : Array Slot} (h : tf_H G 63 (cE G I L) s.heap H locs) (hl : lv_has ls 4 [(0, .ref (al G 6)), (1, .int a1)]) : W p l e (tf_rm 3 67) s m args below meth c H locs 0 0 (MQ below (tf_Q G 63 (cE G I9 L9) (some (.int r))) args s 0 0 (gA (al G) 63)) (F0 m 0 ls []) := by
  have hx := X.1
  have hb := X.2.1
  have hJ := X.2.2.2.2.2.2.2.2.2
  unfold fK2_passTime at hf
  refine lv_iconst (v := 0) hx hb dK2_passTime_0 (by decide) ?_
  refine lv_istore_n (lv' := [(2, .int 0), (0, .ref (al G 6)), (1, .int a1)]) hx hb dK2_passTime_1 rfl hl (by decide) rfl (fun ls hl => ?_)
  refine lv_iconst (v := 0) hx hb dK2_passTime_2 (by decide) ?_
  refine lv_istore_n (lv' := [(3, .int 0), (2, .int 0), (0, .ref (al G 6)), (1, .int a1)]) hx hb dK2_passTime_3 rfl hl (by decide) rfl (fun ls hl => ?_)
  exact lK2_passTime_4 X FU a1 0 0 I L hf h (lv_sub hl [2, 3, 1, 0] rfl)
theorem mK2_passTime {l : Launch} {G : tf_G} (hJ : gJ (al G) 63) {r : Int32} {I9 : FI} {L9 : FL} {a1 : Int32} {I : FI} {L : FL} (hf : fK2_passTime a1 I L = some (r, I9, L9)) : tf_Met l G 63 yK2_passTime cK2_passTime 4 (some .int) 3 67 [.ref (al G 6), .int a1] (cE G I L) (cE G I9 L9) (some (.int r)) :=
  tf_enter (by decide +kernel) hJ (Nat.le_of_ble_eq_true rfl) (fun p e s m args below meth c ls X _ hl h => sK2_passTime_0 X a1 I L hf h hl)
theorem bwK2_passTime : tf_cv yK2_passTime cK2_passTime 4 (some .int) 1 := ⟨w_266, w_267, w_268, w_132, by decide +kernel, by decide +kernel, by decide +kernel⟩

set_option maxHeartbeats 4000000 in
set_option maxRecDepth 100000 in
theorem sK2_perform_0 {p : Program} {l : Launch} {e : Env} {s : State} {m : MethodId} {args : Array Value} {below : List Frame} {meth : Method} {c : Code} {G : tf_G} (X : tf_X G 63 "TradeFloor$Exchange" cK2_perform 2 (some .int) p s m args meth c) {r : Int32} {I9 : FI} {L9 : FL} (I : FI) (L : FL) (hf : fK2_perform I L = some (r, I9, L9)) {H : Heap} {locs : List Loc} {ls : Array Slot} (h : tf_H G 63 (cE G I L) s.heap H locs) (hl : lv_has ls 2 [(0, .ref (al G 6)), (1, .ref (al G 5))]) : W p l e (tf_rm 5 119) s m args below meth c H locs 0 0 (MQ below (tf_Q G 63 (cE G I9 L9) (some (.int r))) args s 0 0 (gA (al G) 63)) (F0 m 0 ls []) := by
  have hx := X.1
  have hb := X.2.1
  have hJ := X.2.2.2.2.2.2.2.2.2
  unfold fK2_perform at hf
  refine lv_aload_n hx hb dK2_perform_0 rfl (lv_at hl 1 rfl) ?_
  refine gf1_verb X h w_126 dK2_perform_1 ?_
  rcases Decidable.em ((I 15 0) = 1) with c_1 | c_1
  · have hf := if_t hf c_1
    refine lv_tableIn (off := 52) (tgt := 56) hx hb dK2_perform_4 (by rw [c_1]; decide) (by rw [c_1]; decide) (by rw [c_1]; rfl) (by decide) ?_
    refine lv_aload_n hx hb dK2_perform_56 rfl (lv_at hl 0 rfl) ?_
    refine lv_aload_n hx hb dK2_perform_57 rfl (lv_at hl 1 rfl) ?_
    obtain ⟨r_3, I_4, L_5, h_2, hf⟩ := bq_some hf
    refine tf_callVi (As := [.ref (al G 5)]) (rest := []) X h 6 (by decide) rfl rfl (mK2_moveAmount hJ h_2) bwK2_moveAmount w_269 ⟨Nat.le_of_ble_eq_true rfl, Nat.le_of_ble_eq_true rfl⟩ hl.1 rfl (Nat.le_of_ble_eq_true rfl) ⟨Nat.zero_le _, Nat.zero_le _⟩ dK2_perform_58 (fun H locs h => ?_)
    cases hf
    exact tf_iret X h dK2_perform_61
  · have hf := if_f hf c_1
    rcases Decidable.em ((I 15 0) = 2) with c_6 | c_6
    · have hf := if_t hf c_6
      refine lv_tableIn (off := 52) (tgt := 56) hx hb dK2_perform_4 (by rw [c_6]; decide) (by rw [c_6]; decide) (by rw [c_6]; rfl) (by decide) ?_
      refine lv_aload_n hx hb dK2_perform_56 rfl (lv_at hl 0 rfl) ?_
      refine lv_aload_n hx hb dK2_perform_57 rfl (lv_at hl 1 rfl) ?_
      obtain ⟨r_8, I_9, L_10, h_7, hf⟩ := bq_some hf
      refine tf_callVi (As := [.ref (al G 5)]) (rest := []) X h 6 (by decide) rfl rfl (mK2_moveAmount hJ h_7) bwK2_moveAmount w_269 ⟨Nat.le_of_ble_eq_true rfl, Nat.le_of_ble_eq_true rfl⟩ hl.1 rfl (Nat.le_of_ble_eq_true rfl) ⟨Nat.zero_le _, Nat.zero_le _⟩ dK2_perform_58 (fun H locs h => ?_)
      cases hf
      exact tf_iret X h dK2_perform_61
    · have hf := if_f hf c_6
      rcases Decidable.em ((I 15 0) = 3) with c_11 | c_11
      · have hf := if_t hf c_11
        refine lv_tableIn (off := 52) (tgt := 56) hx hb dK2_perform_4 (by rw [c_11]; decide) (by rw [c_11]; decide) (by rw [c_11]; rfl) (by decide) ?_
        refine lv_aload_n hx hb dK2_perform_56 rfl (lv_at hl 0 rfl) ?_
        refine lv_aload_n hx hb dK2_perform_57 rfl (lv_at hl 1 rfl) ?_
        obtain ⟨r_13, I_14, L_15, h_12, hf⟩ := bq_some hf
        refine tf_callVi (As := [.ref (al G 5)]) (rest := []) X h 6 (by decide) rfl rfl (mK2_moveAmount hJ h_12) bwK2_moveAmount w_269 ⟨Nat.le_of_ble_eq_true rfl, Nat.le_of_ble_eq_true rfl⟩ hl.1 rfl (Nat.le_of_ble_eq_true rfl) ⟨Nat.zero_le _, Nat.zero_le _⟩ dK2_perform_58 (fun H locs h => ?_)
        cases hf
        exact tf_iret X h dK2_perform_61
      · have hf := if_f hf c_11
        rcases Decidable.em ((I 15 0) = 4) with c_16 | c_16
        · have hf := if_t hf c_16
          refine lv_tableIn (off := 58) (tgt := 62) hx hb dK2_perform_4 (by rw [c_16]; decide) (by rw [c_16]; decide) (by rw [c_16]; rfl) (by decide) ?_
          refine lv_aload_n hx hb dK2_perform_62 rfl (lv_at hl 0 rfl) ?_
          refine lv_aload_n hx hb dK2_perform_63 rfl (lv_at hl 1 rfl) ?_
          obtain ⟨r_18, I_19, L_20, h_17, hf⟩ := bq_some hf
          refine tf_callVi (As := [.ref (al G 5)]) (rest := []) X h 6 (by decide) rfl rfl (mK2_placeLimit hJ h_17) bwK2_placeLimit w_270 ⟨Nat.le_of_ble_eq_true rfl, Nat.le_of_ble_eq_true rfl⟩ hl.1 rfl (Nat.le_of_ble_eq_true rfl) ⟨Nat.zero_le _, Nat.zero_le _⟩ dK2_perform_64 (fun H locs h => ?_)
          cases hf
          exact tf_iret X h dK2_perform_67
        · have hf := if_f hf c_16
          rcases Decidable.em ((I 15 0) = 5) with c_21 | c_21
          · have hf := if_t hf c_21
            refine lv_tableIn (off := 64) (tgt := 68) hx hb dK2_perform_4 (by rw [c_21]; decide) (by rw [c_21]; decide) (by rw [c_21]; rfl) (by decide) ?_
            refine lv_aload_n hx hb dK2_perform_68 rfl (lv_at hl 0 rfl) ?_
            refine lv_aload_n hx hb dK2_perform_69 rfl (lv_at hl 1 rfl) ?_
            obtain ⟨r_23, I_24, L_25, h_22, hf⟩ := bq_some hf
            refine tf_callVi (As := [.ref (al G 5)]) (rest := []) X h 6 (by decide) rfl rfl (mK2_placeAny hJ h_22) bwK2_placeAny w_271 ⟨Nat.le_of_ble_eq_true rfl, Nat.le_of_ble_eq_true rfl⟩ hl.1 rfl (Nat.le_of_ble_eq_true rfl) ⟨Nat.zero_le _, Nat.zero_le _⟩ dK2_perform_70 (fun H locs h => ?_)
            cases hf
            exact tf_iret X h dK2_perform_73
          · have hf := if_f hf c_21
            rcases Decidable.em ((I 15 0) = 6) with c_26 | c_26
            · have hf := if_t hf c_26
              refine lv_tableIn (off := 70) (tgt := 74) hx hb dK2_perform_4 (by rw [c_26]; decide) (by rw [c_26]; decide) (by rw [c_26]; rfl) (by decide) ?_
              refine lv_aload_n hx hb dK2_perform_74 rfl (lv_at hl 0 rfl) ?_
              refine lv_aload_n hx hb dK2_perform_75 rfl (lv_at hl 1 rfl) ?_
              obtain ⟨r_28, I_29, L_30, h_27, hf⟩ := bq_some hf
              refine tf_callVi (As := [.ref (al G 5)]) (rest := []) X h 6 (by decide) rfl rfl (mK2_placeStop hJ h_27) bwK2_placeStop w_272 ⟨Nat.le_of_ble_eq_true rfl, Nat.le_of_ble_eq_true rfl⟩ hl.1 rfl (Nat.le_of_ble_eq_true rfl) ⟨Nat.zero_le _, Nat.zero_le _⟩ dK2_perform_76 (fun H locs h => ?_)
              cases hf
              exact tf_iret X h dK2_perform_79
            · have hf := if_f hf c_26
              rcases Decidable.em ((I 15 0) = 7) with c_31 | c_31
              · have hf := if_t hf c_31
                refine lv_tableIn (off := 76) (tgt := 80) hx hb dK2_perform_4 (by rw [c_31]; decide) (by rw [c_31]; decide) (by rw [c_31]; rfl) (by decide) ?_
                refine lv_aload_n hx hb dK2_perform_80 rfl (lv_at hl 0 rfl) ?_
                refine lv_aload_n hx hb dK2_perform_81 rfl (lv_at hl 1 rfl) ?_
                obtain ⟨r_33, I_34, L_35, h_32, hf⟩ := bq_some hf
                refine tf_callVi (As := [.ref (al G 5)]) (rest := []) X h 6 (by decide) rfl rfl (mK2_cancelAsked hJ h_32) bwK2_cancelAsked w_273 ⟨Nat.le_of_ble_eq_true rfl, Nat.le_of_ble_eq_true rfl⟩ hl.1 rfl (Nat.le_of_ble_eq_true rfl) ⟨Nat.zero_le _, Nat.zero_le _⟩ dK2_perform_82 (fun H locs h => ?_)
                cases hf
                exact tf_iret X h dK2_perform_85
              · have hf := if_f hf c_31
                rcases Decidable.em ((I 15 0) = 8) with c_36 | c_36
                · have hf := if_t hf c_36
                  refine lv_tableIn (off := 82) (tgt := 86) hx hb dK2_perform_4 (by rw [c_36]; decide) (by rw [c_36]; decide) (by rw [c_36]; rfl) (by decide) ?_
                  refine lv_aload_n hx hb dK2_perform_86 rfl (lv_at hl 0 rfl) ?_
                  refine lv_aload_n hx hb dK2_perform_87 rfl (lv_at hl 1 rfl) ?_
                  obtain ⟨r_38, I_39, L_40, h_37, hf⟩ := bq_some hf
                  refine tf_callVi (As := [.ref (al G 5)]) (rest := []) X h 6 (by decide) rfl rfl (mK2_lessen hJ h_37) bwK2_lessen w_274 ⟨Nat.le_of_ble_eq_true rfl, Nat.le_of_ble_eq_true rfl⟩ hl.1 rfl (Nat.le_of_ble_eq_true rfl) ⟨Nat.zero_le _, Nat.zero_le _⟩ dK2_perform_88 (fun H locs h => ?_)
                  cases hf
                  exact tf_iret X h dK2_perform_91
                · have hf := if_f hf c_36
                  rcases Decidable.em ((I 15 0) = 9) with c_41 | c_41
                  · have hf := if_t hf c_41
                    refine lv_tableIn (off := 88) (tgt := 92) hx hb dK2_perform_4 (by rw [c_41]; decide) (by rw [c_41]; decide) (by rw [c_41]; rfl) (by decide) ?_
                    refine lv_aload_n hx hb dK2_perform_92 rfl (lv_at hl 0 rfl) ?_
                    refine lv_aload_n hx hb dK2_perform_93 rfl (lv_at hl 1 rfl) ?_
                    refine gf1_ticks X h w_235 dK2_perform_94 ?_
                    obtain ⟨r_43, I_44, L_45, h_42, hf⟩ := bq_some hf
                    refine tf_callVi (As := [.int (I 15 6)]) (rest := []) X h 6 (by decide) rfl rfl (mK2_passTime hJ h_42) bwK2_passTime w_275 ⟨Nat.le_of_ble_eq_true rfl, Nat.le_of_ble_eq_true rfl⟩ hl.1 rfl (Nat.le_of_ble_eq_true rfl) ⟨Nat.zero_le _, Nat.zero_le _⟩ dK2_perform_97 (fun H locs h => ?_)
                    cases hf
                    exact tf_iret X h dK2_perform_100
                  · have hf := if_f hf c_41
                    refine lv_tableOut (tgt := 101) hx hb dK2_perform_4 (by have n0 := lv_neT (a := 1) c_1 (by decide) ; have n1 := lv_neT (a := 2) c_6 (by decide) ; have n2 := lv_neT (a := 3) c_11 (by decide) ; have n3 := lv_neT (a := 4) c_16 (by decide) ; have n4 := lv_neT (a := 5) c_21 (by decide) ; have n5 := lv_neT (a := 6) c_26 (by decide) ; have n6 := lv_neT (a := 7) c_31 (by decide) ; have n7 := lv_neT (a := 8) c_36 (by decide) ; have n8 := lv_neT (a := 9) c_41 (by decide) ; omega) (by decide) ?_
                    refine lv_bipush (v := (-11)) hx hb dK2_perform_101 (by decide) ?_
                    cases hf
                    exact tf_iret X h dK2_perform_103
theorem mK2_perform {l : Launch} {G : tf_G} (hJ : gJ (al G) 63) {r : Int32} {I9 : FI} {L9 : FL} {I : FI} {L : FL} (hf : fK2_perform I L = some (r, I9, L9)) : tf_Met l G 63 yK2_perform cK2_perform 2 (some .int) 5 119 [.ref (al G 6), .ref (al G 5)] (cE G I L) (cE G I9 L9) (some (.int r)) :=
  tf_enter (by decide +kernel) hJ (Nat.le_of_ble_eq_true rfl) (fun p e s m args below meth c ls X _ hl h => sK2_perform_0 X I L hf h hl)
theorem bwK2_perform : tf_cv yK2_perform cK2_perform 2 (some .int) 1 := ⟨w_276, w_277, w_278, w_132, by decide +kernel, by decide +kernel, by decide +kernel⟩

set_option maxHeartbeats 4000000 in
set_option maxRecDepth 100000 in
theorem sK2_wakeStops_58 {p : Program} {l : Launch} {e : Env} {s : State} {m : MethodId} {args : Array Value} {below : List Frame} {meth : Method} {c : Code} {G : tf_G} (X : tf_X G 63 "TradeFloor$Exchange" cK2_wakeStops 5 none p s m args meth c) {I9 : FI} {L9 : FL} (k2 : Int32 → FI → FL → Option (FI × FL)) (hk2 : ∀ (v1 : Int32) (I : FI) (L : FL), k2 v1 I L = some (I9, L9) → ∀ {H : Heap} {locs : List Loc} {ls : Array Slot}, tf_H G 63 (cE G I L) s.heap H locs → lv_has ls 5 [(0, .ref (al G 6)), (1, .int v1)] → W p l e (tf_rm 4 96) s m args below meth c H locs 0 0 (MQ below (tf_Q G 63 (cE G I9 L9) (none)) args s 0 0 (gA (al G) 63)) (F0 m 2 ls [])) (v1 : Int32) (v2 : Fin 40) (u0 : Int64) (I : FI) (L : FL) (hf : fK2_wakeStops_58 k2 v1 v2 u0 I L = some (I9, L9)) {H : Heap} {locs : List Loc} {ls : Array Slot} (h : tf_H G 63 (cE G I L) s.heap H locs) (hl : lv_has ls 5 [(0, .ref (al G 6)), (1, .int v1), (2, .ref (al G (v2.val + 23)))]) : W p l e (tf_rm 4 96) s m args below meth c H locs 0 0 (MQ below (tf_Q G 63 (cE G I9 L9) (none)) args s 0 0 (gA (al G) 63)) (F0 m 58 ls [.long u0]) := by
  have hx := X.1
  have hb := X.2.1
  have hJ := X.2.2.2.2.2.2.2.2.2
  unfold fK2_wakeStops_58 at hf
  refine lv_lstore_n (lv' := [(3, .long u0), (0, .ref (al G 6)), (1, .int v1), (2, .ref (al G (v2.val + 23)))]) hx hb dK2_wakeStops_58 rfl hl (by decide) rfl (fun ls hl => ?_)
  refine lv_aload_n hx hb dK2_wakeStops_59 rfl (lv_at hl 1 rfl) ?_
  refine lv_aload_n hx hb dK2_wakeStops_60 rfl (lv_at hl 3 rfl) ?_
  refine lv_iconst (v := 0) hx hb dK2_wakeStops_61 (by decide) ?_
  refine lv_lload_n hx hb dK2_wakeStops_62 rfl (lv_at hl 0 rfl) ?_
  refine lv_aload_n hx hb dK2_wakeStops_63 rfl (lv_at hl 3 rfl) ?_
  refine gf3_left X h v2 w_192 dK2_wakeStops_64 ?_
  refine lv_i2l hx hb dK2_wakeStops_67 rfl ?_
  refine va_mmin_long hx hb (by rw [X.2.2.2.1]; exact hl.1.symm) X.2.2.2.2.1 (X.2.2.2.2.2.2.1 _ w_197) (X.2.2.2.2.2.2.1 _ w_198) (X.2.2.2.2.2.2.1 _ w_199) (X.2.2.2.2.2.2.1 _ w_200) (Nat.le_of_ble_eq_true rfl) (Nat.le_of_ble_eq_true rfl) (Nat.zero_le _) (Nat.zero_le _) dK2_wakeStops_68 ?_
  refine lv_l2i hx hb dK2_wakeStops_71 rfl ?_
  obtain ⟨I_2, L_3, h_1, hf⟩ := bv_some hf
  refine tf_callVv (As := [.ref (al G (v2.val + 23)), .int 0, .int ((if (I 2 v2.val).toInt64 < u0 then (I 2 v2.val).toInt64 else u0).toInt32)]) (rest := []) X h 6 (by decide) rfl rfl (mK2_meet hJ h_1) bwK2_meet w_233 ⟨Nat.le_of_ble_eq_true rfl, Nat.le_of_ble_eq_true rfl⟩ hl.1 rfl (Nat.le_of_ble_eq_true rfl) ⟨Nat.zero_le _, Nat.zero_le _⟩ dK2_wakeStops_72 (fun H locs h => ?_)
  obtain ⟨x_4, ex_4, hf⟩ := nm_some hf
  refine lv_iinc (v := x_4) (lv' := [(1, .int x_4), (3, .long u0), (0, .ref (al G 6)), (2, .ref (al G (v2.val + 23)))]) hx hb dK2_wakeStops_75 hl (k := 2) rfl (by rw [ex_4]; rfl) (by decide) rfl (fun ls hl => ?_)
  refine lv_goto (tgt := 2) hx hb dK2_wakeStops_78 (by decide) ?_
  exact hk2 x_4 I_2 L_3 hf h (lv_sub hl [2, 0] rfl)
set_option maxHeartbeats 4000000 in
set_option maxRecDepth 100000 in
theorem sK2_wakeStops_2 {p : Program} {l : Launch} {e : Env} {s : State} {m : MethodId} {args : Array Value} {below : List Frame} {meth : Method} {c : Code} {G : tf_G} (X : tf_X G 63 "TradeFloor$Exchange" cK2_wakeStops 5 none p s m args meth c) {I9 : FI} {L9 : FL} (k2 : Int32 → FI → FL → Option (FI × FL)) (hk2 : ∀ (v1 : Int32) (I : FI) (L : FL), k2 v1 I L = some (I9, L9) → ∀ {H : Heap} {locs : List Loc} {ls : Array Slot}, tf_H G 63 (cE G I L) s.heap H locs → lv_has ls 5 [(0, .ref (al G 6)), (1, .int v1)] → W p l e (tf_rm 4 96) s m args below meth c H locs 0 0 (MQ below (tf_Q G 63 (cE G I9 L9) (none)) args s 0 0 (gA (al G) 63)) (F0 m 2 ls [])) (v1 : Int32) (I : FI) (L : FL) (hf : bK2_wakeStops_2 k2 v1 I L = some (I9, L9)) {H : Heap} {locs : List Loc} {ls : Array Slot} (h : tf_H G 63 (cE G I L) s.heap H locs) (hl : lv_has ls 5 [(0, .ref (al G 6)), (1, .int v1)]) : W p l e (tf_rm 4 96) s m args below meth c H locs 0 0 (MQ below (tf_Q G 63 (cE G I9 L9) (none)) args s 0 0 (gA (al G) 63)) (F0 m 2 ls []) := by
  have hx := X.1
  have hb := X.2.1
  have hJ := X.2.2.2.2.2.2.2.2.2
  unfold bK2_wakeStops_2 at hf
  refine lv_iload_n hx hb dK2_wakeStops_2 rfl (lv_at hl 1 rfl) ?_
  refine lv_bipush (v := 40) hx hb dK2_wakeStops_3 (by decide) ?_
  refine lv_icmp_ge (tgt := 81) hx hb dK2_wakeStops_5 (by decide) (fun c_1 => ?_) (fun c_1 => ?_)
  · have hf := if_t hf c_1
    cases hf
    exact tf_vret X h dK2_wakeStops_81
  · have hf := if_f hf c_1
    refine lv_aload_n hx hb dK2_wakeStops_8 rfl (lv_at hl 0 rfl) ?_
    refine gf2_orders X h w_169 dK2_wakeStops_9 ?_
    refine lv_aload_n hx hb dK2_wakeStops_12 rfl (lv_at hl 0 rfl) ?_
    refine gf2_last X h w_213 dK2_wakeStops_13 ?_
    obtain ⟨r_3, h_2, hf⟩ := bn_some hf
    refine tf_callVq (As := [.int (I 11 4)]) (rest := []) X h 8 (by decide) rfl rfl (mK4_firstWakingStop hJ h_2) bwK4_firstWakingStop w_285 ⟨Nat.le_of_ble_eq_true rfl, Nat.le_of_ble_eq_true rfl⟩ hl.1 rfl (Nat.le_of_ble_eq_true rfl) ⟨Nat.zero_le _, Nat.zero_le _⟩ dK2_wakeStops_16 (fun H locs h => ?_)
    refine lv_astore_nO (lv' := [(2, rO G r_3), (0, .ref (al G 6)), (1, .int v1)]) hx hb dK2_wakeStops_19 rfl hl (by decide) rfl (fun ls hl => ?_)
    refine lv_aload_nO hx hb dK2_wakeStops_20 rfl (lv_at hl 0 rfl) ?_
    rcases r_3 with _ | o_4
    · have hf := mo_n hf
      replace hl : lv_has ls 5 [(2, .null), (0, .ref (al G 6)), (1, .int v1)] := hl
      refine lv_ifnonnullN hx hb dK2_wakeStops_21 ?_
      cases hf
      exact tf_vret X h dK2_wakeStops_24
    · have hf := mo_s hf
      replace hl : lv_has ls 5 [(2, .ref (al G (o_4.val + 23))), (0, .ref (al G 6)), (1, .int v1)] := hl
      refine lv_ifnonnull (tgt := 25) hx hb dK2_wakeStops_21 (by decide) ?_
      refine lv_aload_n hx hb dK2_wakeStops_25 rfl (lv_at hl 0 rfl) ?_
      refine lv_iconst (v := 2) hx hb dK2_wakeStops_26 (by decide) ?_
      obtain ⟨I_5, eI_5, hf⟩ := nm_some hf
      refine pf3_state X h o_4 eI_5 w_191 dK2_wakeStops_27 (fun H locs h => ?_)
      refine lv_aload_n hx hb dK2_wakeStops_30 rfl (lv_at hl 0 rfl) ?_
      refine gf3_side X h o_4 w_184 dK2_wakeStops_31 ?_
      refine lv_iconst (v := 1) hx hb dK2_wakeStops_34 (by decide) ?_
      refine lv_icmp_ne (tgt := 53) hx hb dK2_wakeStops_35 (by decide) (fun c_6 => ?_) (fun c_6 => ?_)
      · have hf := if_f hf c_6
        refine lv_aload_n hx hb dK2_wakeStops_53 rfl (lv_at hl 0 rfl) ?_
        refine gf3_left X h o_4 w_192 dK2_wakeStops_54 ?_
        refine lv_i2l hx hb dK2_wakeStops_57 rfl ?_
        exact sK2_wakeStops_58 X k2 hk2 v1 o_4 ((I_5 2 o_4.val).toInt64) I_5 L hf h (lv_sub hl [1, 2, 0] rfl)
      · have hf := if_t hf c_6
        refine lv_aload_n hx hb dK2_wakeStops_38 rfl (lv_at hl 1 rfl) ?_
        refine gf2_accounts X h w_124 dK2_wakeStops_39 ?_
        refine lv_aload_n hx hb dK2_wakeStops_42 rfl (lv_at hl 0 rfl) ?_
        refine gf3_owner X h o_4 w_183 dK2_wakeStops_43 ?_
        obtain ⟨o_8, qo_8, hi_7, hf⟩ := g8_some hf
        refine gac_7 X h o_8 qo_8 hi_7 dK2_wakeStops_46 ?_
        obtain ⟨r_10, h_9, hf⟩ := bn_some hf
        refine tf_callVl (As := []) (rest := []) X h (o_8.val + 15) (by omega) (cE_ac o_8) rfl (mK0_freeGoods hJ h_9) bwK0_freeGoods w_143 ⟨Nat.le_of_ble_eq_true rfl, Nat.le_of_ble_eq_true rfl⟩ hl.1 rfl (Nat.le_of_ble_eq_true rfl) ⟨Nat.zero_le _, Nat.zero_le _⟩ dK2_wakeStops_47 (fun H locs h => ?_)
        refine lv_goto (tgt := 58) hx hb dK2_wakeStops_50 (by decide) ?_
        exact sK2_wakeStops_58 X k2 hk2 v1 o_4 r_10 I_5 L hf h (lv_sub hl [1, 2, 0] rfl)
theorem lK2_wakeStops_2 {p : Program} {l : Launch} {e : Env} {s : State} {m : MethodId} {args : Array Value} {below : List Frame} {meth : Method} {c : Code} {G : tf_G} (X : tf_X G 63 "TradeFloor$Exchange" cK2_wakeStops 5 none p s m args meth c) {I9 : FI} {L9 : FL} : ∀ (n : Nat), ∀ (v1 : Int32) (I : FI) (L : FL), fK2_wakeStops_2 n v1 I L = some (I9, L9) → ∀ {H : Heap} {locs : List Loc} {ls : Array Slot}, tf_H G 63 (cE G I L) s.heap H locs → lv_has ls 5 [(0, .ref (al G 6)), (1, .int v1)] → W p l e (tf_rm 4 96) s m args below meth c H locs 0 0 (MQ below (tf_Q G 63 (cE G I9 L9) (none)) args s 0 0 (gA (al G) 63)) (F0 m 2 ls []) := by
  intro n
  induction n with
  | zero =>
    intro v1 I L hf
    exact absurd hf (by simp [fK2_wakeStops_2])
  | succ n ih =>
    intro v1 I L hf H locs ls h hl
    exact sK2_wakeStops_2 X (fK2_wakeStops_2 n) ih v1 I L hf h hl
set_option maxHeartbeats 4000000 in
set_option maxRecDepth 100000 in
theorem sK2_wakeStops_0 {p : Program} {l : Launch} {e : Env} {s : State} {m : MethodId} {args : Array Value} {below : List Frame} {meth : Method} {c : Code} {G : tf_G} (X : tf_X G 63 "TradeFloor$Exchange" cK2_wakeStops 5 none p s m args meth c) {I9 : FI} {L9 : FL} (I : FI) (L : FL) (hf : fK2_wakeStops I L = some (I9, L9)) {H : Heap} {locs : List Loc} {ls : Array Slot} (h : tf_H G 63 (cE G I L) s.heap H locs) (hl : lv_has ls 5 [(0, .ref (al G 6))]) : W p l e (tf_rm 4 96) s m args below meth c H locs 0 0 (MQ below (tf_Q G 63 (cE G I9 L9) (none)) args s 0 0 (gA (al G) 63)) (F0 m 0 ls []) := by
  have hx := X.1
  have hb := X.2.1
  have hJ := X.2.2.2.2.2.2.2.2.2
  unfold fK2_wakeStops at hf
  refine lv_iconst (v := 0) hx hb dK2_wakeStops_0 (by decide) ?_
  refine lv_istore_n (lv' := [(1, .int 0), (0, .ref (al G 6))]) hx hb dK2_wakeStops_1 rfl hl (by decide) rfl (fun ls hl => ?_)
  exact lK2_wakeStops_2 X FU 0 I L hf h (lv_sub hl [1, 0] rfl)
theorem mK2_wakeStops {l : Launch} {G : tf_G} (hJ : gJ (al G) 63) {I9 : FI} {L9 : FL} {I : FI} {L : FL} (hf : fK2_wakeStops I L = some (I9, L9)) : tf_Met l G 63 yK2_wakeStops cK2_wakeStops 5 none 4 96 [.ref (al G 6)] (cE G I L) (cE G I9 L9) (none) :=
  tf_enter (by decide +kernel) hJ (Nat.le_of_ble_eq_true rfl) (fun p e s m args below meth c ls X _ hl h => sK2_wakeStops_0 X I L hf h hl)
theorem bwK2_wakeStops : tf_cv yK2_wakeStops cK2_wakeStops 5 none 0 := ⟨w_286, w_287, w_288, w_132, by decide +kernel, by decide +kernel, by decide +kernel⟩
