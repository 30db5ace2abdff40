set_option maxHeartbeats 4000000 in
set_option maxRecDepth 100000 in
theorem sK5_cutIntoWords_89 {p : Program} {l : Launch} {e : Env} {s : State} {m : MethodId} {args : Array Value} {below : List Frame} {meth : Method} {c : Code} {G : tf_G} (X : tf_X G 63 "TradeFloor$Tape" cK5_cutIntoWords 3 (some .boolean) p s m args meth c) {r : Int32} {I9 : FI} {L9 : FL} (k9 : Int32 → Int32 → FI → FL → Option (Int32 × FI × FL)) (hk9 : ∀ (v1 : Int32) (v2 : Int32) (I : FI) (L : FL), k9 v1 v2 I L = some (r, I9, L9) → ∀ {H : Heap} {locs : List Loc} {ls : Array Slot}, tf_H G 63 (cE G I L) s.heap H locs → lv_has ls 3 [(0, .ref (al G 1)), (1, .int v1), (2, .int v2)] → W p l e (tf_rm 0 0) s m args below meth c H locs 0 0 (MQ below (tf_Q G 63 (cE G I9 L9) (some (.int r))) args s 0 0 (gA (al G) 63)) (F0 m 9 ls [])) (v1 : Int32) (v2 : Int32) (I : FI) (L : FL) (hf : fK5_cutIntoWords_89 k9 v1 v2 I L = some (r, I9, L9)) {H : Heap} {locs : List Loc} {ls : Array Slot} (h : tf_H G 63 (cE G I L) s.heap H locs) (hl : lv_has ls 3 [(0, .ref (al G 1)), (1, .int v1), (2, .int v2)]) : W p l e (tf_rm 0 0) s m args below meth c H locs 0 0 (MQ below (tf_Q G 63 (cE G I9 L9) (some (.int r))) args s 0 0 (gA (al G) 63)) (F0 m 89 ls []) := by
  have hx := X.1
  have hb := X.2.1
  have hJ := X.2.2.2.2.2.2.2.2.2
  unfold fK5_cutIntoWords_89 at hf
  obtain ⟨x_1, ex_1, hf⟩ := nm_some hf
  refine lv_iinc (v := x_1) (lv' := [(2, .int x_1), (0, .ref (al G 1)), (1, .int v1)]) hx hb dK5_cutIntoWords_89 hl (k := 2) rfl (by rw [ex_1]; rfl) (by decide) rfl (fun ls hl => ?_)
  refine lv_goto (tgt := 9) hx hb dK5_cutIntoWords_92 (by decide) ?_
  exact hk9 v1 x_1 I L hf h (lv_sub hl [1, 2, 0] rfl)
set_option maxHeartbeats 4000000 in
set_option maxRecDepth 100000 in
theorem sK5_cutIntoWords_39 {p : Program} {l : Launch} {e : Env} {s : State} {m : MethodId} {args : Array Value} {below : List Frame} {meth : Method} {c : Code} {G : tf_G} (X : tf_X G 63 "TradeFloor$Tape" cK5_cutIntoWords 3 (some .boolean) p s m args meth c) {r : Int32} {I9 : FI} {L9 : FL} (k9 : Int32 → Int32 → FI → FL → Option (Int32 × FI × FL)) (hk9 : ∀ (v1 : Int32) (v2 : Int32) (I : FI) (L : FL), k9 v1 v2 I L = some (r, I9, L9) → ∀ {H : Heap} {locs : List Loc} {ls : Array Slot}, tf_H G 63 (cE G I L) s.heap H locs → lv_has ls 3 [(0, .ref (al G 1)), (1, .int v1), (2, .int v2)] → W p l e (tf_rm 0 0) s m args below meth c H locs 0 0 (MQ below (tf_Q G 63 (cE G I9 L9) (some (.int r))) args s 0 0 (gA (al G) 63)) (F0 m 9 ls [])) (v1 : Int32) (v2 : Int32) (I : FI) (L : FL) (hf : fK5_cutIntoWords_39 k9 v1 v2 I L = some (r, I9, L9)) {H : Heap} {locs : List Loc} {ls : Array Slot} (h : tf_H G 63 (cE G I L) s.heap H locs) (hl : lv_has ls 3 [(0, .ref (al G 1)), (1, .int v1), (2, .int v2)]) : W p l e (tf_rm 0 0) s m args below meth c H locs 0 0 (MQ below (tf_Q G 63 (cE G I9 L9) (some (.int r))) args s 0 0 (gA (al G) 63)) (F0 m 39 ls []) := by
  have hx := X.1
  have hb := X.2.1
  have hJ := X.2.2.2.2.2.2.2.2.2
  unfold fK5_cutIntoWords_39 at hf
  refine lv_iload_n hx hb dK5_cutIntoWords_39 rfl (lv_at hl 2 rfl) ?_
  refine lv_iload_n hx hb dK5_cutIntoWords_40 rfl (lv_at hl 1 rfl) ?_
  refine lv_icmp_eq (tgt := 53) hx hb dK5_cutIntoWords_41 (by decide) (fun c_1 => ?_) (fun c_1 => ?_)
  · have hf := if_t hf c_1
    refine lv_iconst (v := 0) hx hb dK5_cutIntoWords_53 (by decide) ?_
    cases hf
    exact tf_zret X h rfl dK5_cutIntoWords_54
  · have hf := if_f hf c_1
    refine lv_aload_n hx hb dK5_cutIntoWords_44 rfl (lv_at hl 0 rfl) ?_
    refine gf5_words X h w_41 dK5_cutIntoWords_45 ?_
    refine lv_bipush (v := 7) hx hb dK5_cutIntoWords_48 (by decide) ?_
    refine lv_icmp_lt (tgt := 55) hx hb dK5_cutIntoWords_50 (by decide) (fun c_2 => ?_) (fun c_2 => ?_)
    · have hf := if_t hf c_2
      refine lv_aload_n hx hb dK5_cutIntoWords_55 rfl (lv_at hl 0 rfl) ?_
      refine gf5_starts X h w_44 dK5_cutIntoWords_56 ?_
      refine lv_aload_n hx hb dK5_cutIntoWords_59 rfl (lv_at hl 0 rfl) ?_
      refine gf5_words X h w_41 dK5_cutIntoWords_60 ?_
      refine lv_iload_n hx hb dK5_cutIntoWords_63 rfl (lv_at hl 1 rfl) ?_
      obtain ⟨hi_3, hf⟩ := ck_some hf
      obtain ⟨I_4, eI_4, hf⟩ := nm_some hf
      refine pac_3 X h (inb_in hi_3) eI_4 dK5_cutIntoWords_64 (fun H locs h => ?_)
      refine lv_aload_n hx hb dK5_cutIntoWords_65 rfl (lv_at hl 0 rfl) ?_
      refine gf5_ends X h w_45 dK5_cutIntoWords_66 ?_
      refine lv_aload_n hx hb dK5_cutIntoWords_69 rfl (lv_at hl 0 rfl) ?_
      refine gf5_words X h w_41 dK5_cutIntoWords_70 ?_
      refine lv_iload_n hx hb dK5_cutIntoWords_73 rfl (lv_at hl 2 rfl) ?_
      obtain ⟨hi_5, hf⟩ := ck_some hf
      obtain ⟨I_6, eI_6, hf⟩ := nm_some hf
      refine pac_4 X h (inb_in hi_5) eI_6 dK5_cutIntoWords_74 (fun H locs h => ?_)
      refine lv_aload_n hx hb dK5_cutIntoWords_75 rfl (lv_at hl 0 rfl) ?_
      refine lv_dup hx hb dK5_cutIntoWords_76 rfl ?_
      refine gf5_words X h w_41 dK5_cutIntoWords_77 ?_
      refine lv_iconst (v := 1) hx hb dK5_cutIntoWords_80 (by decide) ?_
      refine lv_iadd hx hb dK5_cutIntoWords_81 ?_
      obtain ⟨I_7, eI_7, hf⟩ := nm_some hf
      refine pf5_words X h eI_7 w_41 dK5_cutIntoWords_82 (fun H locs h => ?_)
      refine lv_iload_n hx hb dK5_cutIntoWords_85 rfl (lv_at hl 2 rfl) ?_
      refine lv_iconst (v := 1) hx hb dK5_cutIntoWords_86 (by decide) ?_
      refine lv_iadd hx hb dK5_cutIntoWords_87 ?_
      refine lv_topi (fun x_8 ex_8 => ?_)
      have hf := nm_at hf ex_8
      refine lv_istore_n (lv' := [(1, .int x_8), (0, .ref (al G 1)), (2, .int v2)]) hx hb dK5_cutIntoWords_88 rfl hl (by decide) rfl (fun ls hl => ?_)
      exact sK5_cutIntoWords_89 X k9 hk9 x_8 v2 I_7 L hf h (lv_sub hl [1, 0, 2] rfl)
    · have hf := if_f hf c_2
      refine lv_iconst (v := 0) hx hb dK5_cutIntoWords_53 (by decide) ?_
      cases hf
      exact tf_zret X h rfl dK5_cutIntoWords_54
set_option maxHeartbeats 4000000 in
set_option maxRecDepth 100000 in
theorem sK5_cutIntoWords_9 {p : Program} {l : Launch} {e : Env} {s : State} {m : MethodId} {args : Array Value} {below : List Frame} {meth : Method} {c : Code} {G : tf_G} (X : tf_X G 63 "TradeFloor$Tape" cK5_cutIntoWords 3 (some .boolean) p s m args meth c) {r : Int32} {I9 : FI} {L9 : FL} (k9 : Int32 → Int32 → FI → FL → Option (Int32 × FI × FL)) (hk9 : ∀ (v1 : Int32) (v2 : Int32) (I : FI) (L : FL), k9 v1 v2 I L = some (r, I9, L9) → ∀ {H : Heap} {locs : List Loc} {ls : Array Slot}, tf_H G 63 (cE G I L) s.heap H locs → lv_has ls 3 [(0, .ref (al G 1)), (1, .int v1), (2, .int v2)] → W p l e (tf_rm 0 0) s m args below meth c H locs 0 0 (MQ below (tf_Q G 63 (cE G I9 L9) (some (.int r))) args s 0 0 (gA (al G) 63)) (F0 m 9 ls [])) (v1 : Int32) (v2 : Int32) (I : FI) (L : FL) (hf : bK5_cutIntoWords_9 k9 v1 v2 I L = some (r, I9, L9)) {H : Heap} {locs : List Loc} {ls : Array Slot} (h : tf_H G 63 (cE G I L) s.heap H locs) (hl : lv_has ls 3 [(0, .ref (al G 1)), (1, .int v1), (2, .int v2)]) : W p l e (tf_rm 0 0) s m args below meth c H locs 0 0 (MQ below (tf_Q G 63 (cE G I9 L9) (some (.int r))) args s 0 0 (gA (al G) 63)) (F0 m 9 ls []) := by
  have hx := X.1
  have hb := X.2.1
  have hJ := X.2.2.2.2.2.2.2.2.2
  unfold bK5_cutIntoWords_9 at hf
  refine lv_iload_n hx hb dK5_cutIntoWords_9 rfl (lv_at hl 2 rfl) ?_
  refine lv_aload_n hx hb dK5_cutIntoWords_10 rfl (lv_at hl 0 rfl) ?_
  refine gf5_size X h w_42 dK5_cutIntoWords_11 ?_
  refine lv_icmp_gt (tgt := 95) hx hb dK5_cutIntoWords_14 (by decide) (fun c_1 => ?_) (fun c_1 => ?_)
  · have hf := if_t hf c_1
    refine lv_iconst (v := 1) hx hb dK5_cutIntoWords_95 (by decide) ?_
    cases hf
    exact tf_zret X h rfl dK5_cutIntoWords_96
  · have hf := if_f hf c_1
    refine lv_iload_n hx hb dK5_cutIntoWords_17 rfl (lv_at hl 2 rfl) ?_
    refine lv_aload_n hx hb dK5_cutIntoWords_18 rfl (lv_at hl 0 rfl) ?_
    refine gf5_size X h w_42 dK5_cutIntoWords_19 ?_
    refine lv_icmp_ge (tgt := 39) hx hb dK5_cutIntoWords_22 (by decide) (fun c_2 => ?_) (fun c_2 => ?_)
    · have hf := if_t hf c_2
      exact sK5_cutIntoWords_39 X k9 hk9 v1 v2 I L hf h hl
    · have hf := if_f hf c_2
      refine lv_aload_n hx hb dK5_cutIntoWords_25 rfl (lv_at hl 0 rfl) ?_
      refine gf5_signs X h w_43 dK5_cutIntoWords_26 ?_
      refine lv_iload_n hx hb dK5_cutIntoWords_29 rfl (lv_at hl 2 rfl) ?_
      obtain ⟨hi_3, hf⟩ := ck_some hf
      refine gac_2 X h (inb_in hi_3) dK5_cutIntoWords_30 ?_
      refine lv_bipush (v := 32) hx hb dK5_cutIntoWords_31 (by decide) ?_
      refine lv_icmp_eq (tgt := 39) hx hb dK5_cutIntoWords_33 (by decide) (fun c_4 => ?_) (fun c_4 => ?_)
      · have hf := if_t hf c_4
        exact sK5_cutIntoWords_39 X k9 hk9 v1 v2 I L hf h hl
      · have hf := if_f hf c_4
        refine lv_goto (tgt := 89) hx hb dK5_cutIntoWords_36 (by decide) ?_
        exact sK5_cutIntoWords_89 X k9 hk9 v1 v2 I L hf h hl
theorem lK5_cutIntoWords_9 {p : Program} {l : Launch} {e : Env} {s : State} {m : MethodId} {args : Array Value} {below : List Frame} {meth : Method} {c : Code} {G : tf_G} (X : tf_X G 63 "TradeFloor$Tape" cK5_cutIntoWords 3 (some .boolean) p s m args meth c) {r : Int32} {I9 : FI} {L9 : FL} : ∀ (n : Nat), ∀ (v1 : Int32) (v2 : Int32) (I : FI) (L : FL), fK5_cutIntoWords_9 n v1 v2 I L = some (r, I9, L9) → ∀ {H : Heap} {locs : List Loc} {ls : Array Slot}, tf_H G 63 (cE G I L) s.heap H locs → lv_has ls 3 [(0, .ref (al G 1)), (1, .int v1), (2, .int v2)] → W p l e (tf_rm 0 0) s m args below meth c H locs 0 0 (MQ below (tf_Q G 63 (cE G I9 L9) (some (.int r))) args s 0 0 (gA (al G) 63)) (F0 m 9 ls []) := by
  intro n
  induction n with
  | zero =>
    intro v1 v2 I L hf
    exact absurd hf (by simp [fK5_cutIntoWords_9])
  | succ n ih =>
    intro v1 v2 I L hf H locs ls h hl
    exact sK5_cutIntoWords_9 X (fK5_cutIntoWords_9 n) ih v1 v2 I L hf h hl
set_option maxHeartbeats 4000000 in
set_option maxRecDepth 100000 in
theorem sK5_cutIntoWords_0 {p : Program} {l : Launch} {e : Env} {s : State} {m : MethodId} {args : Array Value} {below : List Frame} {meth : Method} {c : Code} {G : tf_G} (X : tf_X G 63 "TradeFloor$Tape" cK5_cutIntoWords 3 (some .boolean) p s m args meth c) {r : Int32} {I9 : FI} {L9 : FL} (I : FI) (L : FL) (hf : fK5_cutIntoWords I L = some (r, I9, L9)) {H : Heap} {locs : List Loc} {ls : Array Slot} (h : tf_H G 63 (cE G I L) s.heap H locs) (hl : lv_has ls 3 [(0, .ref (al G 1))]) : W p l e (tf_rm 0 0) s m args below meth c H locs 0 0 (MQ below (tf_Q G 63 (cE G I9 L9) (some (.int r))) args s 0 0 (gA (al G) 63)) (F0 m 0 ls []) := by
  have hx := X.1
  have hb := X.2.1
  have hJ := X.2.2.2.2.2.2.2.2.2
  unfold fK5_cutIntoWords at hf
  refine lv_aload_n hx hb dK5_cutIntoWords_0 rfl (lv_at hl 0 rfl) ?_
  refine lv_iconst (v := 0) hx hb dK5_cutIntoWords_1 (by decide) ?_
  obtain ⟨I_1, eI_1, hf⟩ := nm_some hf
  refine pf5_words X h eI_1 w_41 dK5_cutIntoWords_2 (fun H locs h => ?_)
  refine lv_iconst (v := 0) hx hb dK5_cutIntoWords_5 (by decide) ?_
  refine lv_istore_n (lv' := [(1, .int 0), (0, .ref (al G 1))]) hx hb dK5_cutIntoWords_6 rfl hl (by decide) rfl (fun ls hl => ?_)
  refine lv_iconst (v := 0) hx hb dK5_cutIntoWords_7 (by decide) ?_
  refine lv_istore_n (lv' := [(2, .int 0), (1, .int 0), (0, .ref (al G 1))]) hx hb dK5_cutIntoWords_8 rfl hl (by decide) rfl (fun ls hl => ?_)
  exact lK5_cutIntoWords_9 X FU 0 0 I_1 L hf h (lv_sub hl [2, 1, 0] rfl)
theorem mK5_cutIntoWords {l : Launch} {G : tf_G} (hJ : gJ (al G) 63) {r : Int32} {I9 : FI} {L9 : FL} {I : FI} {L : FL} (hf : fK5_cutIntoWords I L = some (r, I9, L9)) : tf_Met l G 63 yK5_cutIntoWords cK5_cutIntoWords 3 (some .boolean) 0 0 [.ref (al G 1)] (cE G I L) (cE G I9 L9) (some (.int r)) :=
  tf_enter (by decide +kernel) hJ (Nat.le_of_ble_eq_true rfl) (fun p e s m args below meth c ls X _ hl h => sK5_cutIntoWords_0 X I L hf h hl)
theorem bwK5_cutIntoWords : tf_cv yK5_cutIntoWords cK5_cutIntoWords 3 (some .boolean) 0 := ⟨w_46, w_48, w_49, w_47, by decide +kernel, by decide +kernel, by decide +kernel⟩

set_option maxHeartbeats 4000000 in
set_option maxRecDepth 100000 in
theorem sK5_says_36 {p : Program} {l : Launch} {e : Env} {s : State} {m : MethodId} {args : Array Value} {below : List Frame} {meth : Method} {c : Code} {G : tf_G} (X : tf_X G 63 "TradeFloor$Tape" cK5_says 4 (some .boolean) p s m args meth c) {r : Int32} (k36 : Int32 → Nat → Int32 → FI → FL → Option (Int32)) (hk36 : ∀ (v1 : Int32) (v2 : Nat) (v3 : Int32) (I : FI) (L : FL), k36 v1 v2 v3 I L = some r → ∀ {H : Heap} {locs : List Loc} {ls : Array Slot}, tf_H G 63 (cE G I L) s.heap H locs → lv_has ls 4 [(0, .ref (al G 1)), (1, .int v1), (2, .ref (sK G v2)), (3, .int v3)] → W p l e (tf_rm 4 85) s m args below meth c H locs 0 0 (MQ below (tf_Q G 63 (cE G I L) (some (.int r))) args s 0 0 (gA (al G) 63)) (F0 m 36 ls [])) (v1 : Int32) (v2 : Nat) (v3 : Int32) (I : FI) (L : FL) (hf : bK5_says_36 k36 v1 v2 v3 I L = some r) {H : Heap} {locs : List Loc} {ls : Array Slot} (h : tf_H G 63 (cE G I L) s.heap H locs) (hl : lv_has ls 4 [(0, .ref (al G 1)), (1, .int v1), (2, .ref (sK G v2)), (3, .int v3)]) : W p l e (tf_rm 4 85) s m args below meth c H locs 0 0 (MQ below (tf_Q G 63 (cE G I L) (some (.int r))) args s 0 0 (gA (al G) 63)) (F0 m 36 ls []) := by
  have hx := X.1
  have hb := X.2.1
  have hJ := X.2.2.2.2.2.2.2.2.2
  unfold bK5_says_36 at hf
  refine lv_iload_n hx hb dK5_says_36 rfl (lv_at hl 3 rfl) ?_
  refine lv_aload_n hx hb dK5_says_37 rfl (lv_at hl 2 rfl) ?_
  obtain ⟨hs_1, hf⟩ := ck_some hf
  refine tf_len X h (of_decide_eq_true hs_1) w_50 ⟨Nat.le_of_ble_eq_true rfl, Nat.le_of_ble_eq_true rfl⟩ hl.1 (Nat.le_of_ble_eq_true rfl) dK5_says_38 (fun H locs h => ?_)
  refine lv_icmp_ge (tgt := 73) hx hb dK5_says_41 (by decide) (fun c_2 => ?_) (fun c_2 => ?_)
  · have hf := if_t hf c_2
    refine lv_iconst (v := 1) hx hb dK5_says_73 (by decide) ?_
    cases hf
    exact tf_zret X h rfl dK5_says_74
  · have hf := if_f hf c_2
    refine lv_aload_n hx hb dK5_says_44 rfl (lv_at hl 0 rfl) ?_
    refine gf5_signs X h w_43 dK5_says_45 ?_
    refine lv_aload_n hx hb dK5_says_48 rfl (lv_at hl 0 rfl) ?_
    refine gf5_starts X h w_44 dK5_says_49 ?_
    refine lv_iload_n hx hb dK5_says_52 rfl (lv_at hl 1 rfl) ?_
    obtain ⟨hi_3, hf⟩ := ck_some hf
    refine gac_3 X h (inb_in hi_3) dK5_says_53 ?_
    refine lv_iload_n hx hb dK5_says_54 rfl (lv_at hl 3 rfl) ?_
    refine lv_iadd hx hb dK5_says_55 ?_
    obtain ⟨hi_4, hf⟩ := ck_some hf
    refine gac_2 X h (inb_in hi_4) dK5_says_56 ?_
    refine lv_aload_n hx hb dK5_says_57 rfl (lv_at hl 2 rfl) ?_
    refine lv_iload_n hx hb dK5_says_58 rfl (lv_at hl 3 rfl) ?_
    obtain ⟨hs_5, hf⟩ := ck_some hf
    obtain ⟨hs_6, hf⟩ := ck_some hf
    refine tf_chr X h (of_decide_eq_true hs_5) (inb_in hs_6) w_51 ⟨Nat.le_of_ble_eq_true rfl, Nat.le_of_ble_eq_true rfl⟩ hl.1 (Nat.le_of_ble_eq_true rfl) dK5_says_59 (fun H locs h => ?_)
    refine lv_icmp_eq (tgt := 67) hx hb dK5_says_62 (by decide) (fun c_7 => ?_) (fun c_7 => ?_)
    · have hf := if_t hf c_7
      obtain ⟨x_8, ex_8, hf⟩ := nm_some hf
      refine lv_iinc (v := x_8) (lv' := [(3, .int x_8), (0, .ref (al G 1)), (1, .int v1), (2, .ref (sK G v2))]) hx hb dK5_says_67 hl (k := 3) rfl (by rw [ex_8]; rfl) (by decide) rfl (fun ls hl => ?_)
      refine lv_goto (tgt := 36) hx hb dK5_says_70 (by decide) ?_
      exact hk36 v1 v2 x_8 I L hf h (lv_sub hl [1, 2, 3, 0] rfl)
    · have hf := if_f hf c_7
      refine lv_iconst (v := 0) hx hb dK5_says_65 (by decide) ?_
      cases hf
      exact tf_zret X h rfl dK5_says_66
theorem lK5_says_36 {p : Program} {l : Launch} {e : Env} {s : State} {m : MethodId} {args : Array Value} {below : List Frame} {meth : Method} {c : Code} {G : tf_G} (X : tf_X G 63 "TradeFloor$Tape" cK5_says 4 (some .boolean) p s m args meth c) {r : Int32} : ∀ (n : Nat), ∀ (v1 : Int32) (v2 : Nat) (v3 : Int32) (I : FI) (L : FL), fK5_says_36 n v1 v2 v3 I L = some r → ∀ {H : Heap} {locs : List Loc} {ls : Array Slot}, tf_H G 63 (cE G I L) s.heap H locs → lv_has ls 4 [(0, .ref (al G 1)), (1, .int v1), (2, .ref (sK G v2)), (3, .int v3)] → W p l e (tf_rm 4 85) s m args below meth c H locs 0 0 (MQ below (tf_Q G 63 (cE G I L) (some (.int r))) args s 0 0 (gA (al G) 63)) (F0 m 36 ls []) := by
  intro n
  induction n with
  | zero =>
    intro v1 v2 v3 I L hf
    exact absurd hf (by simp [fK5_says_36])
  | succ n ih =>
    intro v1 v2 v3 I L hf H locs ls h hl
    exact sK5_says_36 X (fK5_says_36 n) ih v1 v2 v3 I L hf h hl
set_option maxHeartbeats 4000000 in
set_option maxRecDepth 100000 in
theorem sK5_says_0 {p : Program} {l : Launch} {e : Env} {s : State} {m : MethodId} {args : Array Value} {below : List Frame} {meth : Method} {c : Code} {G : tf_G} (X : tf_X G 63 "TradeFloor$Tape" cK5_says 4 (some .boolean) p s m args meth c) {r : Int32} (a1 : Int32) (a2 : Nat) (I : FI) (L : FL) (hf : fK5_says a1 a2 I L = some r) {H : Heap} {locs : List Loc} {ls : Array Slot} (h : tf_H G 63 (cE G I L) s.heap H locs) (hl : lv_has ls 4 [(0, .ref (al G 1)), (1, .int a1), (2, .ref (sK G a2))]) : W p l e (tf_rm 4 85) s m args below meth c H locs 0 0 (MQ below (tf_Q G 63 (cE G I L) (some (.int r))) args s 0 0 (gA (al G) 63)) (F0 m 0 ls []) := by
  have hx := X.1
  have hb := X.2.1
  have hJ := X.2.2.2.2.2.2.2.2.2
  unfold fK5_says at hf
  refine lv_iload_n hx hb dK5_says_0 rfl (lv_at hl 1 rfl) ?_
  refine lv_if_lt (tgt := 32) hx hb dK5_says_1 (by decide) (fun c_1 => ?_) (fun c_1 => ?_)
  · have hf := if_t hf c_1
    refine lv_iconst (v := 0) hx hb dK5_says_32 (by decide) ?_
    cases hf
    exact tf_zret X h rfl dK5_says_33
  · have hf := if_f hf c_1
    refine lv_iload_n hx hb dK5_says_4 rfl (lv_at hl 1 rfl) ?_
    refine lv_aload_n hx hb dK5_says_5 rfl (lv_at hl 0 rfl) ?_
    refine gf5_words X h w_41 dK5_says_6 ?_
    refine lv_icmp_ge (tgt := 32) hx hb dK5_says_9 (by decide) (fun c_2 => ?_) (fun c_2 => ?_)
    · have hf := if_t hf c_2
      refine lv_iconst (v := 0) hx hb dK5_says_32 (by decide) ?_
      cases hf
      exact tf_zret X h rfl dK5_says_33
    · have hf := if_f hf c_2
      refine lv_aload_n hx hb dK5_says_12 rfl (lv_at hl 0 rfl) ?_
      refine gf5_ends X h w_45 dK5_says_13 ?_
      refine lv_iload_n hx hb dK5_says_16 rfl (lv_at hl 1 rfl) ?_
      obtain ⟨hi_3, hf⟩ := ck_some hf
      refine gac_4 X h (inb_in hi_3) dK5_says_17 ?_
      refine lv_aload_n hx hb dK5_says_18 rfl (lv_at hl 0 rfl) ?_
      refine gf5_starts X h w_44 dK5_says_19 ?_
      refine lv_iload_n hx hb dK5_says_22 rfl (lv_at hl 1 rfl) ?_
      obtain ⟨hi_4, hf⟩ := ck_some hf
      refine gac_3 X h (inb_in hi_4) dK5_says_23 ?_
      refine lv_isub hx hb dK5_says_24 ?_
      refine lv_aload_n hx hb dK5_says_25 rfl (lv_at hl 2 rfl) ?_
      obtain ⟨hs_5, hf⟩ := ck_some hf
      refine tf_len X h (of_decide_eq_true hs_5) w_50 ⟨Nat.le_of_ble_eq_true rfl, Nat.le_of_ble_eq_true rfl⟩ hl.1 (Nat.le_of_ble_eq_true rfl) dK5_says_26 (fun H locs h => ?_)
      refine lv_icmp_eq (tgt := 34) hx hb dK5_says_29 (by decide) (fun c_6 => ?_) (fun c_6 => ?_)
      · have hf := if_t hf c_6
        refine lv_iconst (v := 0) hx hb dK5_says_34 (by decide) ?_
        refine lv_istore_n (lv' := [(3, .int 0), (0, .ref (al G 1)), (1, .int a1), (2, .ref (sK G a2))]) hx hb dK5_says_35 rfl hl (by decide) rfl (fun ls hl => ?_)
        exact lK5_says_36 X FU a1 a2 0 I L hf h (lv_sub hl [1, 2, 3, 0] rfl)
      · have hf := if_f hf c_6
        refine lv_iconst (v := 0) hx hb dK5_says_32 (by decide) ?_
        cases hf
        exact tf_zret X h rfl dK5_says_33
theorem mK5_says {l : Launch} {G : tf_G} (hJ : gJ (al G) 63) {r : Int32} {a1 : Int32} {a2 : Nat} {I : FI} {L : FL} (hf : fK5_says a1 a2 I L = some r) : tf_Met l G 63 yK5_says cK5_says 4 (some .boolean) 4 85 [.ref (al G 1), .int a1, .ref (sK G a2)] (cE G I L) (cE G I L) (some (.int r)) :=
  tf_enter (by decide +kernel) hJ (Nat.le_of_ble_eq_true rfl) (fun p e s m args below meth c ls X _ hl h => sK5_says_0 X a1 a2 I L hf h hl)
theorem bwK5_says : tf_cv yK5_says cK5_says 4 (some .boolean) 2 := ⟨w_52, w_53, w_54, w_47, by decide +kernel, by decide +kernel, by decide +kernel⟩

set_option maxHeartbeats 4000000 in
set_option maxRecDepth 100000 in
theorem sK5_number_41 {p : Program} {l : Launch} {e : Env} {s : State} {m : MethodId} {args : Array Value} {below : List Frame} {meth : Method} {c : Code} {G : tf_G} (X : tf_X G 63 "TradeFloor$Tape" cK5_number 4 (some .int) p s m args meth c) {r : Int32} (k41 : Int32 → Int32 → Int32 → FI → FL → Option (Int32)) (hk41 : ∀ (v1 : Int32) (v2 : Int32) (v3 : Int32) (I : FI) (L : FL), k41 v1 v2 v3 I L = some r → ∀ {H : Heap} {locs : List Loc} {ls : Array Slot}, tf_H G 63 (cE G I L) s.heap H locs → lv_has ls 4 [(0, .ref (al G 1)), (1, .int v1), (2, .int v2), (3, .int v3)] → W p l e (tf_rm 0 0) s m args below meth c H locs 0 0 (MQ below (tf_Q G 63 (cE G I L) (some (.int r))) args s 0 0 (gA (al G) 63)) (F0 m 41 ls [])) (v1 : Int32) (v2 : Int32) (v3 : Int32) (I : FI) (L : FL) (hf : bK5_number_41 k41 v1 v2 v3 I L = some r) {H : Heap} {locs : List Loc} {ls : Array Slot} (h : tf_H G 63 (cE G I L) s.heap H locs) (hl : lv_has ls 4 [(0, .ref (al G 1)), (1, .int v1), (2, .int v2), (3, .int v3)]) : W p l e (tf_rm 0 0) s m args below meth c H locs 0 0 (MQ below (tf_Q G 63 (cE G I L) (some (.int r))) args s 0 0 (gA (al G) 63)) (F0 m 41 ls []) := by
  have hx := X.1
  have hb := X.2.1
  have hJ := X.2.2.2.2.2.2.2.2.2
  unfold bK5_number_41 at hf
  refine lv_iload_n hx hb dK5_number_41 rfl (lv_at hl 3 rfl) ?_
  refine lv_aload_n hx hb dK5_number_42 rfl (lv_at hl 0 rfl) ?_
  refine gf5_ends X h w_45 dK5_number_43 ?_
  refine lv_iload_n hx hb dK5_number_46 rfl (lv_at hl 1 rfl) ?_
  obtain ⟨hi_1, hf⟩ := ck_some hf
  refine gac_4 X h (inb_in hi_1) dK5_number_47 ?_
  refine lv_icmp_ge (tgt := 96) hx hb dK5_number_48 (by decide) (fun c_2 => ?_) (fun c_2 => ?_)
  · have hf := if_t hf c_2
    refine lv_iload_n hx hb dK5_number_96 rfl (lv_at hl 2 rfl) ?_
    cases hf
    exact tf_iret X h dK5_number_97
  · have hf := if_f hf c_2
    refine lv_aload_n hx hb dK5_number_51 rfl (lv_at hl 0 rfl) ?_
    refine gf5_signs X h w_43 dK5_number_52 ?_
    refine lv_iload_n hx hb dK5_number_55 rfl (lv_at hl 3 rfl) ?_
    obtain ⟨hi_3, hf⟩ := ck_some hf
    refine gac_2 X h (inb_in hi_3) dK5_number_56 ?_
    refine lv_bipush (v := 48) hx hb dK5_number_57 (by decide) ?_
    refine lv_icmp_lt (tgt := 73) hx hb dK5_number_59 (by decide) (fun c_4 => ?_) (fun c_4 => ?_)
    · have hf := if_t hf c_4
      refine lv_iconst (v := (-1)) hx hb dK5_number_73 (by decide) ?_
      cases hf
      exact tf_iret X h dK5_number_74
    · have hf := if_f hf c_4
      refine lv_aload_n hx hb dK5_number_62 rfl (lv_at hl 0 rfl) ?_
      refine gf5_signs X h w_43 dK5_number_63 ?_
      refine lv_iload_n hx hb dK5_number_66 rfl (lv_at hl 3 rfl) ?_
      obtain ⟨hi_5, hf⟩ := ck_some hf
      refine gac_2 X h (inb_in hi_5) dK5_number_67 ?_
      refine lv_bipush (v := 57) hx hb dK5_number_68 (by decide) ?_
      refine lv_icmp_le (tgt := 75) hx hb dK5_number_70 (by decide) (fun c_6 => ?_) (fun c_6 => ?_)
      · have hf := if_t hf c_6
        refine lv_iload_n hx hb dK5_number_75 rfl (lv_at hl 2 rfl) ?_
        refine lv_bipush (v := 10) hx hb dK5_number_76 (by decide) ?_
        refine lv_imul hx hb dK5_number_78 ?_
        refine lv_aload_n hx hb dK5_number_79 rfl (lv_at hl 0 rfl) ?_
        refine gf5_signs X h w_43 dK5_number_80 ?_
        refine lv_iload_n hx hb dK5_number_83 rfl (lv_at hl 3 rfl) ?_
        obtain ⟨hi_7, hf⟩ := ck_some hf
        refine gac_2 X h (inb_in hi_7) dK5_number_84 ?_
        refine lv_iadd hx hb dK5_number_85 ?_
        refine lv_bipush (v := 48) hx hb dK5_number_86 (by decide) ?_
        refine lv_isub hx hb dK5_number_88 ?_
        refine lv_topi (fun x_8 ex_8 => ?_)
        have hf := nm_at hf ex_8
        refine lv_istore_n (lv' := [(2, .int x_8), (0, .ref (al G 1)), (1, .int v1), (3, .int v3)]) hx hb dK5_number_89 rfl hl (by decide) rfl (fun ls hl => ?_)
        obtain ⟨x_9, ex_9, hf⟩ := nm_some hf
        refine lv_iinc (v := x_9) (lv' := [(3, .int x_9), (2, .int x_8), (0, .ref (al G 1)), (1, .int v1)]) hx hb dK5_number_90 hl (k := 3) rfl (by rw [ex_9]; rfl) (by decide) rfl (fun ls hl => ?_)
        refine lv_goto (tgt := 41) hx hb dK5_number_93 (by decide) ?_
        exact hk41 v1 x_8 x_9 I L hf h (lv_sub hl [2, 3, 1, 0] rfl)
      · have hf := if_f hf c_6
        refine lv_iconst (v := (-1)) hx hb dK5_number_73 (by decide) ?_
        cases hf
        exact tf_iret X h dK5_number_74
theorem lK5_number_41 {p : Program} {l : Launch} {e : Env} {s : State} {m : MethodId} {args : Array Value} {below : List Frame} {meth : Method} {c : Code} {G : tf_G} (X : tf_X G 63 "TradeFloor$Tape" cK5_number 4 (some .int) p s m args meth c) {r : Int32} : ∀ (n : Nat), ∀ (v1 : Int32) (v2 : Int32) (v3 : Int32) (I : FI) (L : FL), fK5_number_41 n v1 v2 v3 I L = some r → ∀ {H : Heap} {locs : List Loc} {ls : Array Slot}, tf_H G 63 (cE G I L) s.heap H locs → lv_has ls 4 [(0, .ref (al G 1)), (1, .int v1), (2, .int v2), (3, .int v3)] → W p l e (tf_rm 0 0) s m args below meth c H locs 0 0 (MQ below (tf_Q G 63 (cE G I L) (some (.int r))) args s 0 0 (gA (al G) 63)) (F0 m 41 ls []) := by
  intro n
  induction n with
  | zero =>
    intro v1 v2 v3 I L hf
    exact absurd hf (by simp [fK5_number_41])
  | succ n ih =>
    intro v1 v2 v3 I L hf H locs ls h hl
    exact sK5_number_41 X (fK5_number_41 n) ih v1 v2 v3 I L hf h hl
set_option maxHeartbeats 4000000 in
set_option maxRecDepth 100000 in
theorem sK5_number_0 {p : Program} {l : Launch} {e : Env} {s : State} {m : MethodId} {args : Array Value} {below : List Frame} {meth : Method} {c : Code} {G : tf_G} (X : tf_X G 63 "TradeFloor$Tape" cK5_number 4 (some .int) p s m args meth c) {r : Int32} (a1 : Int32) (I : FI) (L : FL) (hf : fK5_number a1 I L = some r) {H : Heap} {locs : List Loc} {ls : Array Slot} (h : tf_H G 63 (cE G I L) s.heap H locs) (hl : lv_has ls 4 [(0, .ref (al G 1)), (1, .int a1)]) : W p l e (tf_rm 0 0) s m args below meth c H locs 0 0 (MQ below (tf_Q G 63 (cE G I L) (some (.int r))) args s 0 0 (gA (al G) 63)) (F0 m 0 ls []) := by
  have hx := X.1
  have hb := X.2.1
  have hJ := X.2.2.2.2.2.2.2.2.2
  unfold fK5_number at hf
  refine lv_iload_n hx hb dK5_number_0 rfl (lv_at hl 1 rfl) ?_
  refine lv_if_lt (tgt := 30) hx hb dK5_number_1 (by decide) (fun c_1 => ?_) (fun c_1 => ?_)
  · have hf := if_t hf c_1
    refine lv_iconst (v := (-1)) hx hb dK5_number_30 (by decide) ?_
    cases hf
    exact tf_iret X h dK5_number_31
  · have hf := if_f hf c_1
    refine lv_iload_n hx hb dK5_number_4 rfl (lv_at hl 1 rfl) ?_
    refine lv_aload_n hx hb dK5_number_5 rfl (lv_at hl 0 rfl) ?_
    refine gf5_words X h w_41 dK5_number_6 ?_
    refine lv_icmp_ge (tgt := 30) hx hb dK5_number_9 (by decide) (fun c_2 => ?_) (fun c_2 => ?_)
    · have hf := if_t hf c_2
      refine lv_iconst (v := (-1)) hx hb dK5_number_30 (by decide) ?_
      cases hf
      exact tf_iret X h dK5_number_31
    · have hf := if_f hf c_2
      refine lv_aload_n hx hb dK5_number_12 rfl (lv_at hl 0 rfl) ?_
      refine gf5_ends X h w_45 dK5_number_13 ?_
      refine lv_iload_n hx hb dK5_number_16 rfl (lv_at hl 1 rfl) ?_
      obtain ⟨hi_3, hf⟩ := ck_some hf
      refine gac_4 X h (inb_in hi_3) dK5_number_17 ?_
      refine lv_aload_n hx hb dK5_number_18 rfl (lv_at hl 0 rfl) ?_
      refine gf5_starts X h w_44 dK5_number_19 ?_
      refine lv_iload_n hx hb dK5_number_22 rfl (lv_at hl 1 rfl) ?_
      obtain ⟨hi_4, hf⟩ := ck_some hf
      refine gac_3 X h (inb_in hi_4) dK5_number_23 ?_
      refine lv_isub hx hb dK5_number_24 ?_
      refine lv_bipush (v := 7) hx hb dK5_number_25 (by decide) ?_
      refine lv_icmp_le (tgt := 32) hx hb dK5_number_27 (by decide) (fun c_5 => ?_) (fun c_5 => ?_)
      · have hf := if_t hf c_5
        refine lv_iconst (v := 0) hx hb dK5_number_32 (by decide) ?_
        refine lv_istore_n (lv' := [(2, .int 0), (0, .ref (al G 1)), (1, .int a1)]) hx hb dK5_number_33 rfl hl (by decide) rfl (fun ls hl => ?_)
        refine lv_aload_n hx hb dK5_number_34 rfl (lv_at hl 1 rfl) ?_
        refine gf5_starts X h w_44 dK5_number_35 ?_
        refine lv_iload_n hx hb dK5_number_38 rfl (lv_at hl 2 rfl) ?_
        obtain ⟨hi_6, hf⟩ := ck_some hf
        refine gac_3 X h (inb_in hi_6) dK5_number_39 ?_
        refine lv_topi (fun x_7 ex_7 => ?_)
        have hf := nm_at hf ex_7
        refine lv_istore_n (lv' := [(3, .int x_7), (2, .int 0), (0, .ref (al G 1)), (1, .int a1)]) hx hb dK5_number_40 rfl hl (by decide) rfl (fun ls hl => ?_)
        exact lK5_number_41 X FU a1 0 x_7 I L hf h (lv_sub hl [2, 3, 1, 0] rfl)
      · have hf := if_f hf c_5
        refine lv_iconst (v := (-1)) hx hb dK5_number_30 (by decide) ?_
        cases hf
        exact tf_iret X h dK5_number_31
theorem mK5_number {l : Launch} {G : tf_G} (hJ : gJ (al G) 63) {r : Int32} {a1 : Int32} {I : FI} {L : FL} (hf : fK5_number a1 I L = some r) : tf_Met l G 63 yK5_number cK5_number 4 (some .int) 0 0 [.ref (al G 1), .int a1] (cE G I L) (cE G I L) (some (.int r)) :=
  tf_enter (by decide +kernel) hJ (Nat.le_of_ble_eq_true rfl) (fun p e s m args below meth c ls X _ hl h => sK5_number_0 X a1 I L hf h hl)
theorem bwK5_number : tf_cv yK5_number cK5_number 4 (some .int) 1 := ⟨w_55, w_56, w_57, w_47, by decide +kernel, by decide +kernel, by decide +kernel⟩

set_option maxHeartbeats 4000000 in
set_option maxRecDepth 100000 in
theorem sK5_numberFrom_0 {p : Program} {l : Launch} {e : Env} {s : State} {m : MethodId} {args : Array Value} {below : List Frame} {meth : Method} {c : Code} {G : tf_G} (X : tf_X G 63 "TradeFloor$Tape" cK5_numberFrom 5 (some .int) p s m args meth c) {r : Int32} (a1 : Int32) (a2 : Int32) (a3 : Int32) (I : FI) (L : FL) (hf : fK5_numberFrom a1 a2 a3 I L = some r) {H : Heap} {locs : List Loc} {ls : Array Slot} (h : tf_H G 63 (cE G I L) s.heap H locs) (hl : lv_has ls 5 [(0, .ref (al G 1)), (1, .int a1), (2, .int a2), (3, .int a3)]) : W p l e (tf_rm 1 23) s m args below meth c H locs 0 0 (MQ below (tf_Q G 63 (cE G I L) (some (.int r))) args s 0 0 (gA (al G) 63)) (F0 m 0 ls []) := by
  have hx := X.1
  have hb := X.2.1
  have hJ := X.2.2.2.2.2.2.2.2.2
  unfold fK5_numberFrom at hf
  refine lv_aload_n hx hb dK5_numberFrom_0 rfl (lv_at hl 0 rfl) ?_
  refine lv_iload_n hx hb dK5_numberFrom_1 rfl (lv_at hl 1 rfl) ?_
  obtain ⟨r_2, h_1, hf⟩ := bn_some hf
  refine tf_callVi (As := [.int a1]) (rest := []) X h 1 (by decide) rfl rfl (mK5_number hJ h_1) bwK5_number w_58 ⟨Nat.le_of_ble_eq_true rfl, Nat.le_of_ble_eq_true rfl⟩ hl.1 rfl (Nat.le_of_ble_eq_true rfl) ⟨Nat.zero_le _, Nat.zero_le _⟩ dK5_numberFrom_2 (fun H locs h => ?_)
  refine lv_istore (lv' := [(4, .int r_2), (0, .ref (al G 1)), (1, .int a1), (2, .int a2), (3, .int a3)]) hx hb dK5_numberFrom_5 hl (by decide) rfl (fun ls hl => ?_)
  refine lv_iload hx hb dK5_numberFrom_7 (lv_at hl 0 rfl) ?_
  refine lv_iload_n hx hb dK5_numberFrom_9 rfl (lv_at hl 3 rfl) ?_
  refine lv_icmp_lt (tgt := 24) hx hb dK5_numberFrom_10 (by decide) (fun c_3 => ?_) (fun c_3 => ?_)
  · have hf := if_t hf c_3
    refine lv_iconst (v := (-1)) hx hb dK5_numberFrom_24 (by decide) ?_
    cases hf
    exact tf_iret X h dK5_numberFrom_25
  · have hf := if_f hf c_3
    refine lv_iload hx hb dK5_numberFrom_13 (lv_at hl 0 rfl) ?_
    refine lv_iload_n hx hb dK5_numberFrom_15 rfl (lv_at hl 4 rfl) ?_
    refine lv_icmp_gt (tgt := 24) hx hb dK5_numberFrom_16 (by decide) (fun c_4 => ?_) (fun c_4 => ?_)
    · have hf := if_t hf c_4
      refine lv_iconst (v := (-1)) hx hb dK5_numberFrom_24 (by decide) ?_
      cases hf
      exact tf_iret X h dK5_numberFrom_25
    · have hf := if_f hf c_4
      refine lv_iload hx hb dK5_numberFrom_19 (lv_at hl 0 rfl) ?_
      refine lv_goto (tgt := 25) hx hb dK5_numberFrom_21 (by decide) ?_
      cases hf
      exact tf_iret X h dK5_numberFrom_25
theorem mK5_numberFrom {l : Launch} {G : tf_G} (hJ : gJ (al G) 63) {r : Int32} {a1 : Int32} {a2 : Int32} {a3 : Int32} {I : FI} {L : FL} (hf : fK5_numberFrom a1 a2 a3 I L = some r) : tf_Met l G 63 yK5_numberFrom cK5_numberFrom 5 (some .int) 1 23 [.ref (al G 1), .int a1, .int a2, .int a3] (cE G I L) (cE G I L) (some (.int r)) :=
  tf_enter (by decide +kernel) hJ (Nat.le_of_ble_eq_true rfl) (fun p e s m args below meth c ls X _ hl h => sK5_numberFrom_0 X a1 a2 a3 I L hf h hl)
theorem bwK5_numberFrom : tf_cv yK5_numberFrom cK5_numberFrom 5 (some .int) 3 := ⟨w_59, w_60, w_61, w_47, by decide +kernel, by decide +kernel, by decide +kernel⟩

set_option maxHeartbeats 4000000 in
set_option maxRecDepth 100000 in
theorem sK5_signsOf_22 {p : Program} {l : Launch} {e : Env} {s : State} {m : MethodId} {args : Array Value} {below : List Frame} {meth : Method} {c : Code} {G : tf_G} (X : tf_X G 63 "TradeFloor$Tape" cK5_signsOf 3 (some .int) p s m args meth c) {r : Int32} (k5 : Int32 → Int32 → Int32 → FI → FL → Option (Int32)) (hk5 : ∀ (v0 : Int32) (v1 : Int32) (v2 : Int32) (I : FI) (L : FL), k5 v0 v1 v2 I L = some r → ∀ {H : Heap} {locs : List Loc} {ls : Array Slot}, tf_H G 63 (cE G I L) s.heap H locs → lv_has ls 3 [(0, .int v0), (1, .int v1), (2, .int v2)] → W p l e (tf_rm 0 0) s m args below meth c H locs 0 0 (MQ below (tf_Q G 63 (cE G I L) (some (.int r))) args s 0 0 (gA (al G) 63)) (F0 m 5 ls [])) (v0 : Int32) (v1 : Int32) (v2 : Int32) (I : FI) (L : FL) (hf : fK5_signsOf_22 k5 v0 v1 v2 I L = some r) {H : Heap} {locs : List Loc} {ls : Array Slot} (h : tf_H G 63 (cE G I L) s.heap H locs) (hl : lv_has ls 3 [(0, .int v0), (1, .int v1), (2, .int v2)]) : W p l e (tf_rm 0 0) s m args below meth c H locs 0 0 (MQ below (tf_Q G 63 (cE G I L) (some (.int r))) args s 0 0 (gA (al G) 63)) (F0 m 22 ls []) := by
  have hx := X.1
  have hb := X.2.1
  have hJ := X.2.2.2.2.2.2.2.2.2
  unfold fK5_signsOf_22 at hf
  obtain ⟨x_1, ex_1, hf⟩ := nm_some hf
  refine lv_iinc (v := x_1) (lv' := [(2, .int x_1), (0, .int v0), (1, .int v1)]) hx hb dK5_signsOf_22 hl (k := 2) rfl (by rw [ex_1]; rfl) (by decide) rfl (fun ls hl => ?_)
  refine lv_goto (tgt := 5) hx hb dK5_signsOf_25 (by decide) ?_
  exact hk5 v0 v1 x_1 I L hf h (lv_sub hl [1, 2, 0] rfl)
set_option maxHeartbeats 4000000 in
set_option maxRecDepth 100000 in
theorem sK5_signsOf_5 {p : Program} {l : Launch} {e : Env} {s : State} {m : MethodId} {args : Array Value} {below : List Frame} {meth : Method} {c : Code} {G : tf_G} (X : tf_X G 63 "TradeFloor$Tape" cK5_signsOf 3 (some .int) p s m args meth c) {r : Int32} (k5 : Int32 → Int32 → Int32 → FI → FL → Option (Int32)) (hk5 : ∀ (v0 : Int32) (v1 : Int32) (v2 : Int32) (I : FI) (L : FL), k5 v0 v1 v2 I L = some r → ∀ {H : Heap} {locs : List Loc} {ls : Array Slot}, tf_H G 63 (cE G I L) s.heap H locs → lv_has ls 3 [(0, .int v0), (1, .int v1), (2, .int v2)] → W p l e (tf_rm 0 0) s m args below meth c H locs 0 0 (MQ below (tf_Q G 63 (cE G I L) (some (.int r))) args s 0 0 (gA (al G) 63)) (F0 m 5 ls [])) (v0 : Int32) (v1 : Int32) (v2 : Int32) (I : FI) (L : FL) (hf : bK5_signsOf_5 k5 v0 v1 v2 I L = some r) {H : Heap} {locs : List Loc} {ls : Array Slot} (h : tf_H G 63 (cE G I L) s.heap H locs) (hl : lv_has ls 3 [(0, .int v0), (1, .int v1), (2, .int v2)]) : W p l e (tf_rm 0 0) s m args below meth c H locs 0 0 (MQ below (tf_Q G 63 (cE G I L) (some (.int r))) args s 0 0 (gA (al G) 63)) (F0 m 5 ls []) := by
  have hx := X.1
  have hb := X.2.1
  have hJ := X.2.2.2.2.2.2.2.2.2
  unfold bK5_signsOf_5 at hf
  refine lv_iload_n hx hb dK5_signsOf_5 rfl (lv_at hl 2 rfl) ?_
  refine lv_if_lt (tgt := 28) hx hb dK5_signsOf_6 (by decide) (fun c_1 => ?_) (fun c_1 => ?_)
  · have hf := if_t hf c_1
    refine lv_iload_n hx hb dK5_signsOf_28 rfl (lv_at hl 1 rfl) ?_
    cases hf
    exact tf_iret X h dK5_signsOf_29
  · have hf := if_f hf c_1
    refine lv_iload_n hx hb dK5_signsOf_9 rfl (lv_at hl 0 rfl) ?_
    refine lv_iload_n hx hb dK5_signsOf_10 rfl (lv_at hl 2 rfl) ?_
    refine lv_iushr hx hb dK5_signsOf_11 rfl ?_
    refine lv_sipush (v := 255) hx hb dK5_signsOf_12 (by decide) ?_
    refine lv_iand hx hb dK5_signsOf_15 ?_
    refine lv_if_eq (tgt := 22) hx hb dK5_signsOf_16 (by decide) (fun c_2 => ?_) (fun c_2 => ?_)
    · have hf := if_t hf c_2
      exact sK5_signsOf_22 X k5 hk5 v0 v1 v2 I L hf h hl
    · have hf := if_f hf c_2
      obtain ⟨x_3, ex_3, hf⟩ := nm_some hf
      refine lv_iinc (v := x_3) (lv' := [(1, .int x_3), (0, .int v0), (2, .int v2)]) hx hb dK5_signsOf_19 hl (k := 1) rfl (by rw [ex_3]; rfl) (by decide) rfl (fun ls hl => ?_)
      exact sK5_signsOf_22 X k5 hk5 v0 x_3 v2 I L hf h (lv_sub hl [1, 0, 2] rfl)
theorem lK5_signsOf_5 {p : Program} {l : Launch} {e : Env} {s : State} {m : MethodId} {args : Array Value} {below : List Frame} {meth : Method} {c : Code} {G : tf_G} (X : tf_X G 63 "TradeFloor$Tape" cK5_signsOf 3 (some .int) p s m args meth c) {r : Int32} : ∀ (n : Nat), ∀ (v0 : Int32) (v1 : Int32) (v2 : Int32) (I : FI) (L : FL), fK5_signsOf_5 n v0 v1 v2 I L = some r → ∀ {H : Heap} {locs : List Loc} {ls : Array Slot}, tf_H G 63 (cE G I L) s.heap H locs → lv_has ls 3 [(0, .int v0), (1, .int v1), (2, .int v2)] → W p l e (tf_rm 0 0) s m args below meth c H locs 0 0 (MQ below (tf_Q G 63 (cE G I L) (some (.int r))) args s 0 0 (gA (al G) 63)) (F0 m 5 ls []) := by
  intro n
  induction n with
  | zero =>
    intro v0 v1 v2 I L hf
    exact absurd hf (by simp [fK5_signsOf_5])
  | succ n ih =>
    intro v0 v1 v2 I L hf H locs ls h hl
    exact sK5_signsOf_5 X (fK5_signsOf_5 n) ih v0 v1 v2 I L hf h hl
set_option maxHeartbeats 4000000 in
set_option maxRecDepth 100000 in
theorem sK5_signsOf_0 {p : Program} {l : Launch} {e : Env} {s : State} {m : MethodId} {args : Array Value} {below : List Frame} {meth : Method} {c : Code} {G : tf_G} (X : tf_X G 63 "TradeFloor$Tape" cK5_signsOf 3 (some .int) p s m args meth c) {r : Int32} (a0 : Int32) (I : FI) (L : FL) (hf : fK5_signsOf a0 I L = some r) {H : Heap} {locs : List Loc} {ls : Array Slot} (h : tf_H G 63 (cE G I L) s.heap H locs) (hl : lv_has ls 3 [(0, .int a0)]) : W p l e (tf_rm 0 0) s m args below meth c H locs 0 0 (MQ below (tf_Q G 63 (cE G I L) (some (.int r))) args s 0 0 (gA (al G) 63)) (F0 m 0 ls []) := by
  have hx := X.1
  have hb := X.2.1
  have hJ := X.2.2.2.2.2.2.2.2.2
  unfold fK5_signsOf at hf
  refine lv_iconst (v := 0) hx hb dK5_signsOf_0 (by decide) ?_
  refine lv_istore_n (lv' := [(1, .int 0), (0, .int a0)]) hx hb dK5_signsOf_1 rfl hl (by decide) rfl (fun ls hl => ?_)
  refine lv_bipush (v := 24) hx hb dK5_signsOf_2 (by decide) ?_
  refine lv_istore_n (lv' := [(2, .int 24), (1, .int 0), (0, .int a0)]) hx hb dK5_signsOf_4 rfl hl (by decide) rfl (fun ls hl => ?_)
  exact lK5_signsOf_5 X FU a0 0 24 I L hf h (lv_sub hl [2, 1, 0] rfl)
theorem mK5_signsOf {l : Launch} {G : tf_G} (hJ : gJ (al G) 63) {r : Int32} {a0 : Int32} {I : FI} {L : FL} (hf : fK5_signsOf a0 I L = some r) : tf_Met l G 63 yK5_signsOf cK5_signsOf 3 (some .int) 0 0 [.int a0] (cE G I L) (cE G I L) (some (.int r)) :=
  tf_enter (by decide +kernel) hJ (Nat.le_of_ble_eq_true rfl) (fun p e s m args below meth c ls X _ hl h => sK5_signsOf_0 X a0 I L hf h hl)
theorem bwK5_signsOf : tf_cs yK5_signsOf cK5_signsOf 3 (some .int) 1 := ⟨w_308, w_309, w_47, by decide +kernel, by decide +kernel, by decide +kernel⟩

set_option maxHeartbeats 4000000 in
set_option maxRecDepth 100000 in
theorem sK5_add_65 {p : Program} {l : Launch} {e : Env} {s : State} {m : MethodId} {args : Array Value} {below : List Frame} {meth : Method} {c : Code} {G : tf_G} (X : tf_X G 63 "TradeFloor$Tape" cK5_add 4 (some .int) p s m args meth c) {r : Int32} {I9 : FI} {L9 : FL} (k20 : Int32 → Int32 → FI → FL → Option (Int32 × FI × FL)) (hk20 : ∀ (v1 : Int32) (v2 : Int32) (I : FI) (L : FL), k20 v1 v2 I L = some (r, I9, L9) → ∀ {H : Heap} {locs : List Loc} {ls : Array Slot}, tf_H G 63 (cE G I L) s.heap H locs → lv_has ls 4 [(0, .ref (al G 1)), (1, .int v1), (2, .int v2)] → W p l e (tf_rm 1 22) s m args below meth c H locs 0 0 (MQ below (tf_Q G 63 (cE G I9 L9) (some (.int r))) args s 0 0 (gA (al G) 63)) (F0 m 20 ls [])) (v1 : Int32) (v2 : Int32) (I : FI) (L : FL) (hf : fK5_add_65 k20 v1 v2 I L = some (r, I9, L9)) {H : Heap} {locs : List Loc} {ls : Array Slot} (h : tf_H G 63 (cE G I L) s.heap H locs) (hl : lv_has ls 4 [(0, .ref (al G 1)), (1, .int v1), (2, .int v2)]) : W p l e (tf_rm 1 22) s m args below meth c H locs 0 0 (MQ below (tf_Q G 63 (cE G I9 L9) (some (.int r))) args s 0 0 (gA (al G) 63)) (F0 m 65 ls []) := by
  have hx := X.1
  have hb := X.2.1
  have hJ := X.2.2.2.2.2.2.2.2.2
  unfold fK5_add_65 at hf
  obtain ⟨x_1, ex_1, hf⟩ := nm_some hf
  refine lv_iinc (v := x_1) (lv' := [(2, .int x_1), (0, .ref (al G 1)), (1, .int v1)]) hx hb dK5_add_65 hl (k := 2) rfl (by rw [ex_1]; rfl) (by decide) rfl (fun ls hl => ?_)
  refine lv_goto (tgt := 20) hx hb dK5_add_68 (by decide) ?_
  exact hk20 v1 x_1 I L hf h (lv_sub hl [1, 2, 0] rfl)
set_option maxHeartbeats 4000000 in
set_option maxRecDepth 100000 in
theorem sK5_add_20 {p : Program} {l : Launch} {e : Env} {s : State} {m : MethodId} {args : Array Value} {below : List Frame} {meth : Method} {c : Code} {G : tf_G} (X : tf_X G 63 "TradeFloor$Tape" cK5_add 4 (some .int) p s m args meth c) {r : Int32} {I9 : FI} {L9 : FL} (k20 : Int32 → Int32 → FI → FL → Option (Int32 × FI × FL)) (hk20 : ∀ (v1 : Int32) (v2 : Int32) (I : FI) (L : FL), k20 v1 v2 I L = some (r, I9, L9) → ∀ {H : Heap} {locs : List Loc} {ls : Array Slot}, tf_H G 63 (cE G I L) s.heap H locs → lv_has ls 4 [(0, .ref (al G 1)), (1, .int v1), (2, .int v2)] → W p l e (tf_rm 1 22) s m args below meth c H locs 0 0 (MQ below (tf_Q G 63 (cE G I9 L9) (some (.int r))) args s 0 0 (gA (al G) 63)) (F0 m 20 ls [])) (v1 : Int32) (v2 : Int32) (I : FI) (L : FL) (hf : bK5_add_20 k20 v1 v2 I L = some (r, I9, L9)) {H : Heap} {locs : List Loc} {ls : Array Slot} (h : tf_H G 63 (cE G I L) s.heap H locs) (hl : lv_has ls 4 [(0, .ref (al G 1)), (1, .int v1), (2, .int v2)]) : W p l e (tf_rm 1 22) s m args below meth c H locs 0 0 (MQ below (tf_Q G 63 (cE G I9 L9) (some (.int r))) args s 0 0 (gA (al G) 63)) (F0 m 20 ls []) := by
  have hx := X.1
  have hb := X.2.1
  have hJ := X.2.2.2.2.2.2.2.2.2
  unfold bK5_add_20 at hf
  refine lv_iload_n hx hb dK5_add_20 rfl (lv_at hl 2 rfl) ?_
  refine lv_if_lt (tgt := 71) hx hb dK5_add_21 (by decide) (fun c_1 => ?_) (fun c_1 => ?_)
  · have hf := if_t hf c_1
    refine lv_aload_n hx hb dK5_add_71 rfl (lv_at hl 0 rfl) ?_
    refine gf5_size X h w_42 dK5_add_72 ?_
    cases hf
    exact tf_iret X h dK5_add_75
  · have hf := if_f hf c_1
    refine lv_iload_n hx hb dK5_add_24 rfl (lv_at hl 1 rfl) ?_
    refine lv_iload_n hx hb dK5_add_25 rfl (lv_at hl 2 rfl) ?_
    refine lv_iushr hx hb dK5_add_26 rfl ?_
    refine lv_sipush (v := 255) hx hb dK5_add_27 (by decide) ?_
    refine lv_iand hx hb dK5_add_30 ?_
    refine lv_topi (fun x_2 ex_2 => ?_)
    have hf := nm_at hf ex_2
    refine lv_istore_n (lv' := [(3, .int x_2), (0, .ref (al G 1)), (1, .int v1), (2, .int v2)]) hx hb dK5_add_31 rfl hl (by decide) rfl (fun ls hl => ?_)
    refine lv_iload_n hx hb dK5_add_32 rfl (lv_at hl 0 rfl) ?_
    refine lv_if_eq (tgt := 65) hx hb dK5_add_33 (by decide) (fun c_3 => ?_) (fun c_3 => ?_)
    · have hf := if_t hf c_3
      exact sK5_add_65 X k20 hk20 v1 v2 I L hf h (lv_sub hl [1, 2, 3] rfl)
    · have hf := if_f hf c_3
      refine lv_aload_n hx hb dK5_add_36 rfl (lv_at hl 1 rfl) ?_
      refine gf5_size X h w_42 dK5_add_37 ?_
      refine lv_bipush (v := 40) hx hb dK5_add_40 (by decide) ?_
      refine lv_icmp_ge (tgt := 65) hx hb dK5_add_42 (by decide) (fun c_4 => ?_) (fun c_4 => ?_)
      · have hf := if_t hf c_4
        exact sK5_add_65 X k20 hk20 v1 v2 I L hf h (lv_sub hl [1, 2, 3] rfl)
      · have hf := if_f hf c_4
        refine lv_aload_n hx hb dK5_add_45 rfl (lv_at hl 1 rfl) ?_
        refine gf5_signs X h w_43 dK5_add_46 ?_
        refine lv_aload_n hx hb dK5_add_49 rfl (lv_at hl 1 rfl) ?_
        refine gf5_size X h w_42 dK5_add_50 ?_
        refine lv_iload_n hx hb dK5_add_53 rfl (lv_at hl 0 rfl) ?_
        obtain ⟨hi_5, hf⟩ := ck_some hf
        obtain ⟨I_6, eI_6, hf⟩ := nm_some hf
        refine pac_2 X h (inb_in hi_5) eI_6 dK5_add_54 (fun H locs h => ?_)
        refine lv_aload_n hx hb dK5_add_55 rfl (lv_at hl 1 rfl) ?_
        refine lv_dup hx hb dK5_add_56 rfl ?_
        refine gf5_size X h w_42 dK5_add_57 ?_
        refine lv_iconst (v := 1) hx hb dK5_add_60 (by decide) ?_
        refine lv_iadd hx hb dK5_add_61 ?_
        obtain ⟨I_7, eI_7, hf⟩ := nm_some hf
        refine pf5_size X h eI_7 w_42 dK5_add_62 (fun H locs h => ?_)
        exact sK5_add_65 X k20 hk20 v1 v2 I_7 L hf h (lv_sub hl [1, 2, 3] rfl)
theorem lK5_add_20 {p : Program} {l : Launch} {e : Env} {s : State} {m : MethodId} {args : Array Value} {below : List Frame} {meth : Method} {c : Code} {G : tf_G} (X : tf_X G 63 "TradeFloor$Tape" cK5_add 4 (some .int) p s m args meth c) {r : Int32} {I9 : FI} {L9 : FL} : ∀ (n : Nat), ∀ (v1 : Int32) (v2 : Int32) (I : FI) (L : FL), fK5_add_20 n v1 v2 I L = some (r, I9, L9) → ∀ {H : Heap} {locs : List Loc} {ls : Array Slot}, tf_H G 63 (cE G I L) s.heap H locs → lv_has ls 4 [(0, .ref (al G 1)), (1, .int v1), (2, .int v2)] → W p l e (tf_rm 1 22) s m args below meth c H locs 0 0 (MQ below (tf_Q G 63 (cE G I9 L9) (some (.int r))) args s 0 0 (gA (al G) 63)) (F0 m 20 ls []) := by
  intro n
  induction n with
  | zero =>
    intro v1 v2 I L hf
    exact absurd hf (by simp [fK5_add_20])
  | succ n ih =>
    intro v1 v2 I L hf H locs ls h hl
    exact sK5_add_20 X (fK5_add_20 n) ih v1 v2 I L hf h hl
set_option maxHeartbeats 4000000 in
set_option maxRecDepth 100000 in
theorem sK5_add_0 {p : Program} {l : Launch} {e : Env} {s : State} {m : MethodId} {args : Array Value} {below : List Frame} {meth : Method} {c : Code} {G : tf_G} (X : tf_X G 63 "TradeFloor$Tape" cK5_add 4 (some .int) p s m args meth c) {r : Int32} {I9 : FI} {L9 : FL} (a1 : Int32) (I : FI) (L : FL) (hf : fK5_add a1 I L = some (r, I9, L9)) {H : Heap} {locs : List Loc} {ls : Array Slot} (h : tf_H G 63 (cE G I L) s.heap H locs) (hl : lv_has ls 4 [(0, .ref (al G 1)), (1, .int a1)]) : W p l e (tf_rm 1 22) s m args below meth c H locs 0 0 (MQ below (tf_Q G 63 (cE G I9 L9) (some (.int r))) args s 0 0 (gA (al G) 63)) (F0 m 0 ls []) := by
  have hx := X.1
  have hb := X.2.1
  have hJ := X.2.2.2.2.2.2.2.2.2
  unfold fK5_add at hf
  refine lv_aload_n hx hb dK5_add_0 rfl (lv_at hl 0 rfl) ?_
  refine gf5_size X h w_42 dK5_add_1 ?_
  refine lv_iload_n hx hb dK5_add_4 rfl (lv_at hl 1 rfl) ?_
  obtain ⟨r_2, h_1, hf⟩ := bn_some hf
  refine tf_callSi (As := [.int a1]) (rest := [.int (I 11 0)]) X h (mK5_signsOf hJ h_1) bwK5_signsOf w_310 ⟨Nat.le_of_ble_eq_true rfl, Nat.le_of_ble_eq_true rfl⟩ hl.1 rfl (Nat.le_of_ble_eq_true rfl) ⟨Nat.zero_le _, Nat.zero_le _⟩ dK5_add_5 (fun H locs h => ?_)
  refine lv_iadd hx hb dK5_add_8 ?_
  refine lv_bipush (v := 40) hx hb dK5_add_9 (by decide) ?_
  refine lv_icmp_le (tgt := 17) hx hb dK5_add_11 (by decide) (fun c_3 => ?_) (fun c_3 => ?_)
  · have hf := if_t hf c_3
    refine lv_bipush (v := 24) hx hb dK5_add_17 (by decide) ?_
    refine lv_istore_n (lv' := [(2, .int 24), (0, .ref (al G 1)), (1, .int a1)]) hx hb dK5_add_19 rfl hl (by decide) rfl (fun ls hl => ?_)
    exact lK5_add_20 X FU a1 24 I L hf h (lv_sub hl [1, 2, 0] rfl)
  · have hf := if_f hf c_3
    refine lv_bipush (v := (-3)) hx hb dK5_add_14 (by decide) ?_
    cases hf
    exact tf_iret X h dK5_add_16
theorem mK5_add {l : Launch} {G : tf_G} (hJ : gJ (al G) 63) {r : Int32} {I9 : FI} {L9 : FL} {a1 : Int32} {I : FI} {L : FL} (hf : fK5_add a1 I L = some (r, I9, L9)) : tf_Met l G 63 yK5_add cK5_add 4 (some .int) 1 22 [.ref (al G 1), .int a1] (cE G I L) (cE G I9 L9) (some (.int r)) :=
  tf_enter (by decide +kernel) hJ (Nat.le_of_ble_eq_true rfl) (fun p e s m args below meth c ls X _ hl h => sK5_add_0 X a1 I L hf h hl)
theorem bwK5_add : tf_cv yK5_add cK5_add 4 (some .int) 1 := ⟨w_311, w_312, w_313, w_47, by decide +kernel, by decide +kernel, by decide +kernel⟩

set_option maxHeartbeats 4000000 in
set_option maxRecDepth 100000 in
theorem sK5_clear_0 {p : Program} {l : Launch} {e : Env} {s : State} {m : MethodId} {args : Array Value} {below : List Frame} {meth : Method} {c : Code} {G : tf_G} (X : tf_X G 63 "TradeFloor$Tape" cK5_clear 1 none p s m args meth c) {I9 : FI} {L9 : FL} (I : FI) (L : FL) (hf : fK5_clear I L = some (I9, L9)) {H : Heap} {locs : List Loc} {ls : Array Slot} (h : tf_H G 63 (cE G I L) s.heap H locs) (hl : lv_has ls 1 [(0, .ref (al G 1))]) : W p l e (tf_rm 0 0) s m args below meth c H locs 0 0 (MQ below (tf_Q G 63 (cE G I9 L9) (none)) args s 0 0 (gA (al G) 63)) (F0 m 0 ls []) := by
  have hx := X.1
  have hb := X.2.1
  have hJ := X.2.2.2.2.2.2.2.2.2
  unfold fK5_clear at hf
  refine lv_aload_n hx hb dK5_clear_0 rfl (lv_at hl 0 rfl) ?_
  refine lv_iconst (v := 0) hx hb dK5_clear_1 (by decide) ?_
  obtain ⟨I_1, eI_1, hf⟩ := nm_some hf
  refine pf5_size X h eI_1 w_42 dK5_clear_2 (fun H locs h => ?_)
  cases hf
  exact tf_vret X h dK5_clear_5
theorem mK5_clear {l : Launch} {G : tf_G} (hJ : gJ (al G) 63) {I9 : FI} {L9 : FL} {I : FI} {L : FL} (hf : fK5_clear I L = some (I9, L9)) : tf_Met l G 63 yK5_clear cK5_clear 1 none 0 0 [.ref (al G 1)] (cE G I L) (cE G I9 L9) (none) :=
  tf_enter (by decide +kernel) hJ (Nat.le_of_ble_eq_true rfl) (fun p e s m args below meth c ls X _ hl h => sK5_clear_0 X I L hf h hl)
theorem bwK5_clear : tf_cv yK5_clear cK5_clear 1 none 0 := ⟨w_314, w_315, w_316, w_47, by decide +kernel, by decide +kernel, by decide +kernel⟩
