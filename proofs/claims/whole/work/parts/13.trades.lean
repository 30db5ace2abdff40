set_option maxHeartbeats 4000000 in
set_option maxRecDepth 100000 in
theorem sK6_add_0 {p : Program} {l : Launch} {e : Env} {s : State} {m : MethodId} {args : Array Value} {below : List Frame} {meth : Method} {c : Code} {G : tf_G} (X : tf_X G 63 "TradeFloor$Trades" cK6_add 6 none p s m args meth c) {I9 : FI} {L9 : FL} (a1 : Int32) (a2 : Int32) (a3 : Int32) (a4 : Int32) (I : FI) (L : FL) (hf : fK6_add a1 a2 a3 a4 I L = some (I9, L9)) {H : Heap} {locs : List Loc} {ls : Array Slot} (h : tf_H G 63 (cE G I L) s.heap H locs) (hl : lv_has ls 6 [(0, .ref (al G 10)), (1, .int a1), (2, .int a2), (3, .int a3), (4, .int a4)]) : W p l e (tf_rm 0 0) s m args below meth c H locs 0 0 (MQ below (tf_Q G 63 (cE G I9 L9) (none)) args s 0 0 (gA (al G) 63)) (F0 m 0 ls []) := by
  have hx := X.1
  have hb := X.2.1
  have hJ := X.2.2.2.2.2.2.2.2.2
  unfold fK6_add at hf
  refine lv_aload_n hx hb dK6_add_0 rfl (lv_at hl 0 rfl) ?_
  refine gf6_made X h w_204 dK6_add_1 ?_
  refine lv_sipush (v := 200) hx hb dK6_add_4 (by decide) ?_
  refine lv_irem hx hb dK6_add_7 (by decide) ?_
  refine lv_topi (fun x_1 ex_1 => ?_)
  have hf := nm_at hf ex_1
  refine lv_istore (lv' := [(5, .int x_1), (0, .ref (al G 10)), (1, .int a1), (2, .int a2), (3, .int a3), (4, .int a4)]) hx hb dK6_add_8 hl (by decide) rfl (fun ls hl => ?_)
  refine lv_aload_n hx hb dK6_add_10 rfl (lv_at hl 1 rfl) ?_
  refine gf6_buyers X h w_205 dK6_add_11 ?_
  refine lv_iload hx hb dK6_add_14 (lv_at hl 0 rfl) ?_
  refine lv_iload_n hx hb dK6_add_16 rfl (lv_at hl 2 rfl) ?_
  obtain ⟨hi_2, hf⟩ := ck_some hf
  obtain ⟨I_3, eI_3, hf⟩ := nm_some hf
  refine pac_11 X h (inb_in hi_2) eI_3 dK6_add_17 (fun H locs h => ?_)
  refine lv_aload_n hx hb dK6_add_18 rfl (lv_at hl 1 rfl) ?_
  refine gf6_sellers X h w_206 dK6_add_19 ?_
  refine lv_iload hx hb dK6_add_22 (lv_at hl 0 rfl) ?_
  refine lv_iload_n hx hb dK6_add_24 rfl (lv_at hl 3 rfl) ?_
  obtain ⟨hi_4, hf⟩ := ck_some hf
  obtain ⟨I_5, eI_5, hf⟩ := nm_some hf
  refine pac_12 X h (inb_in hi_4) eI_5 dK6_add_25 (fun H locs h => ?_)
  refine lv_aload_n hx hb dK6_add_26 rfl (lv_at hl 1 rfl) ?_
  refine gf6_prices X h w_207 dK6_add_27 ?_
  refine lv_iload hx hb dK6_add_30 (lv_at hl 0 rfl) ?_
  refine lv_iload_n hx hb dK6_add_32 rfl (lv_at hl 4 rfl) ?_
  obtain ⟨hi_6, hf⟩ := ck_some hf
  obtain ⟨I_7, eI_7, hf⟩ := nm_some hf
  refine pac_13 X h (inb_in hi_6) eI_7 dK6_add_33 (fun H locs h => ?_)
  refine lv_aload_n hx hb dK6_add_34 rfl (lv_at hl 1 rfl) ?_
  refine gf6_quantities X h w_208 dK6_add_35 ?_
  refine lv_iload hx hb dK6_add_38 (lv_at hl 0 rfl) ?_
  refine lv_iload hx hb dK6_add_40 (lv_at hl 5 rfl) ?_
  obtain ⟨hi_8, hf⟩ := ck_some hf
  obtain ⟨I_9, eI_9, hf⟩ := nm_some hf
  refine pac_14 X h (inb_in hi_8) eI_9 dK6_add_42 (fun H locs h => ?_)
  refine lv_aload_n hx hb dK6_add_43 rfl (lv_at hl 1 rfl) ?_
  refine lv_dup hx hb dK6_add_44 rfl ?_
  refine gf6_made X h w_204 dK6_add_45 ?_
  refine lv_iconst (v := 1) hx hb dK6_add_48 (by decide) ?_
  refine lv_iadd hx hb dK6_add_49 ?_
  obtain ⟨I_10, eI_10, hf⟩ := nm_some hf
  refine pf6_made X h eI_10 w_204 dK6_add_50 (fun H locs h => ?_)
  cases hf
  exact tf_vret X h dK6_add_53
theorem mK6_add {l : Launch} {G : tf_G} (hJ : gJ (al G) 63) {I9 : FI} {L9 : FL} {a1 : Int32} {a2 : Int32} {a3 : Int32} {a4 : Int32} {I : FI} {L : FL} (hf : fK6_add a1 a2 a3 a4 I L = some (I9, L9)) : tf_Met l G 63 yK6_add cK6_add 6 none 0 0 [.ref (al G 10), .int a1, .int a2, .int a3, .int a4] (cE G I L) (cE G I9 L9) (none) :=
  tf_enter (by decide +kernel) hJ (Nat.le_of_ble_eq_true rfl) (fun p e s m args below meth c ls X _ hl h => sK6_add_0 X a1 a2 a3 a4 I L hf h hl)
theorem bwK6_add : tf_cv yK6_add cK6_add 6 none 4 := ⟨w_209, w_211, w_212, w_210, by decide +kernel, by decide +kernel, by decide +kernel⟩

set_option maxHeartbeats 4000000 in
set_option maxRecDepth 100000 in
theorem sK6_look_0 {p : Program} {l : Launch} {e : Env} {s : State} {m : MethodId} {args : Array Value} {below : List Frame} {meth : Method} {c : Code} {G : tf_G} (X : tf_X G 63 "TradeFloor$Trades" cK6_look 4 (some .int) p s m args meth c) {r : Int32} (a1 : Int32) (a2 : Int32) (I : FI) (L : FL) (hf : fK6_look a1 a2 I L = some r) {H : Heap} {locs : List Loc} {ls : Array Slot} (h : tf_H G 63 (cE G I L) s.heap H locs) (hl : lv_has ls 4 [(0, .ref (al G 10)), (1, .int a1), (2, .int a2)]) : W p l e (tf_rm 0 0) s m args below meth c H locs 0 0 (MQ below (tf_Q G 63 (cE G I L) (some (.int r))) args s 0 0 (gA (al G) 63)) (F0 m 0 ls []) := by
  have hx := X.1
  have hb := X.2.1
  have hJ := X.2.2.2.2.2.2.2.2.2
  unfold fK6_look at hf
  refine lv_iload_n hx hb dK6_look_0 rfl (lv_at hl 1 rfl) ?_
  refine lv_if_lt (tgt := 24) hx hb dK6_look_1 (by decide) (fun c_1 => ?_) (fun c_1 => ?_)
  · have hf := if_t hf c_1
    refine lv_iconst (v := (-1)) hx hb dK6_look_24 (by decide) ?_
    cases hf
    exact tf_iret X h dK6_look_25
  · have hf := if_f hf c_1
    refine lv_iload_n hx hb dK6_look_4 rfl (lv_at hl 1 rfl) ?_
    refine lv_aload_n hx hb dK6_look_5 rfl (lv_at hl 0 rfl) ?_
    refine gf6_made X h w_204 dK6_look_6 ?_
    refine lv_icmp_ge (tgt := 24) hx hb dK6_look_9 (by decide) (fun c_2 => ?_) (fun c_2 => ?_)
    · have hf := if_t hf c_2
      refine lv_iconst (v := (-1)) hx hb dK6_look_24 (by decide) ?_
      cases hf
      exact tf_iret X h dK6_look_25
    · have hf := if_f hf c_2
      refine lv_iload_n hx hb dK6_look_12 rfl (lv_at hl 1 rfl) ?_
      refine lv_aload_n hx hb dK6_look_13 rfl (lv_at hl 0 rfl) ?_
      refine gf6_made X h w_204 dK6_look_14 ?_
      refine lv_sipush (v := 200) hx hb dK6_look_17 (by decide) ?_
      refine lv_isub hx hb dK6_look_20 ?_
      refine lv_icmp_ge (tgt := 26) hx hb dK6_look_21 (by decide) (fun c_3 => ?_) (fun c_3 => ?_)
      · have hf := if_t hf c_3
        refine lv_iload_n hx hb dK6_look_26 rfl (lv_at hl 1 rfl) ?_
        refine lv_sipush (v := 200) hx hb dK6_look_27 (by decide) ?_
        refine lv_irem hx hb dK6_look_30 (by decide) ?_
        refine lv_topi (fun x_4 ex_4 => ?_)
        have hf := nm_at hf ex_4
        refine lv_istore_n (lv' := [(3, .int x_4), (0, .ref (al G 10)), (1, .int a1), (2, .int a2)]) hx hb dK6_look_31 rfl hl (by decide) rfl (fun ls hl => ?_)
        refine lv_iload_n hx hb dK6_look_32 rfl (lv_at hl 3 rfl) ?_
        rcases Decidable.em (a2 = 0) with c_5 | c_5
        · have hf := if_t hf c_5
          refine lv_tableIn (off := 31) (tgt := 64) hx hb dK6_look_33 (by rw [c_5]; decide) (by rw [c_5]; decide) (by rw [c_5]; rfl) (by decide) ?_
          refine lv_aload_n hx hb dK6_look_64 rfl (lv_at hl 1 rfl) ?_
          refine gf6_buyers X h w_205 dK6_look_65 ?_
          refine lv_iload_n hx hb dK6_look_68 rfl (lv_at hl 0 rfl) ?_
          obtain ⟨hi_6, hf⟩ := ck_some hf
          refine gac_11 X h (inb_in hi_6) dK6_look_69 ?_
          cases hf
          exact tf_iret X h dK6_look_70
        · have hf := if_f hf c_5
          rcases Decidable.em (a2 = 1) with c_7 | c_7
          · have hf := if_t hf c_7
            refine lv_tableIn (off := 38) (tgt := 71) hx hb dK6_look_33 (by rw [c_7]; decide) (by rw [c_7]; decide) (by rw [c_7]; rfl) (by decide) ?_
            refine lv_aload_n hx hb dK6_look_71 rfl (lv_at hl 1 rfl) ?_
            refine gf6_sellers X h w_206 dK6_look_72 ?_
            refine lv_iload_n hx hb dK6_look_75 rfl (lv_at hl 0 rfl) ?_
            obtain ⟨hi_8, hf⟩ := ck_some hf
            refine gac_12 X h (inb_in hi_8) dK6_look_76 ?_
            cases hf
            exact tf_iret X h dK6_look_77
          · have hf := if_f hf c_7
            rcases Decidable.em (a2 = 2) with c_9 | c_9
            · have hf := if_t hf c_9
              refine lv_tableIn (off := 45) (tgt := 78) hx hb dK6_look_33 (by rw [c_9]; decide) (by rw [c_9]; decide) (by rw [c_9]; rfl) (by decide) ?_
              refine lv_aload_n hx hb dK6_look_78 rfl (lv_at hl 1 rfl) ?_
              refine gf6_prices X h w_207 dK6_look_79 ?_
              refine lv_iload_n hx hb dK6_look_82 rfl (lv_at hl 0 rfl) ?_
              obtain ⟨hi_10, hf⟩ := ck_some hf
              refine gac_13 X h (inb_in hi_10) dK6_look_83 ?_
              cases hf
              exact tf_iret X h dK6_look_84
            · have hf := if_f hf c_9
              rcases Decidable.em (a2 = 3) with c_11 | c_11
              · have hf := if_t hf c_11
                refine lv_tableIn (off := 52) (tgt := 85) hx hb dK6_look_33 (by rw [c_11]; decide) (by rw [c_11]; decide) (by rw [c_11]; rfl) (by decide) ?_
                refine lv_aload_n hx hb dK6_look_85 rfl (lv_at hl 1 rfl) ?_
                refine gf6_quantities X h w_208 dK6_look_86 ?_
                refine lv_iload_n hx hb dK6_look_89 rfl (lv_at hl 0 rfl) ?_
                obtain ⟨hi_12, hf⟩ := ck_some hf
                refine gac_14 X h (inb_in hi_12) dK6_look_90 ?_
                cases hf
                exact tf_iret X h dK6_look_91
              · have hf := if_f hf c_11
                refine lv_tableOut (tgt := 92) hx hb dK6_look_33 (by have n0 := lv_neT (a := 0) c_5 (by decide) ; have n1 := lv_neT (a := 1) c_7 (by decide) ; have n2 := lv_neT (a := 2) c_9 (by decide) ; have n3 := lv_neT (a := 3) c_11 (by decide) ; omega) (by decide) ?_
                refine lv_iconst (v := (-1)) hx hb dK6_look_92 (by decide) ?_
                cases hf
                exact tf_iret X h dK6_look_93
      · have hf := if_f hf c_3
        refine lv_iconst (v := (-1)) hx hb dK6_look_24 (by decide) ?_
        cases hf
        exact tf_iret X h dK6_look_25
theorem mK6_look {l : Launch} {G : tf_G} (hJ : gJ (al G) 63) {r : Int32} {a1 : Int32} {a2 : Int32} {I : FI} {L : FL} (hf : fK6_look a1 a2 I L = some r) : tf_Met l G 63 yK6_look cK6_look 4 (some .int) 0 0 [.ref (al G 10), .int a1, .int a2] (cE G I L) (cE G I L) (some (.int r)) :=
  tf_enter (by decide +kernel) hJ (Nat.le_of_ble_eq_true rfl) (fun p e s m args below meth c ls X _ hl h => sK6_look_0 X a1 a2 I L hf h hl)
theorem bwK6_look : tf_cv yK6_look cK6_look 4 (some .int) 2 := ⟨w_317, w_318, w_319, w_210, by decide +kernel, by decide +kernel, by decide +kernel⟩
