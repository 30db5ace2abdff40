abbrev cJP_checkIndex : ByteArray := prog_15_method_11_code
abbrev yJP_checkIndex : MethodName := ⟨"jdk/internal/util/Preconditions", "checkIndex", "(IILjava/util/function/BiFunction;)I"⟩
theorem dJS_coder_0 : decode cJS_coder 0 = .ok (.getstatic 38, 3) := by decide +kernel
theorem dJS_coder_3 : decode cJS_coder 3 = .ok (.ifCond .eq 10, 3) := by decide +kernel
theorem dJS_coder_6 : decode cJS_coder 6 = .ok (.aload_n 0, 1) := by decide +kernel
theorem dJS_coder_7 : decode cJS_coder 7 = .ok (.getfield 15, 3) := by decide +kernel
theorem dJS_coder_10 : decode cJS_coder 10 = .ok (.goto 4, 3) := by decide +kernel
theorem dJS_coder_14 : decode cJS_coder 14 = .ok (.ireturn, 1) := by decide +kernel
theorem dJS_length_0 : decode cJS_length 0 = .ok (.aload_n 0, 1) := by decide +kernel
theorem dJS_length_1 : decode cJS_length 1 = .ok (.getfield 9, 3) := by decide +kernel
theorem dJS_length_4 : decode cJS_length 4 = .ok (.arraylength, 1) := by decide +kernel
theorem dJS_length_5 : decode cJS_length 5 = .ok (.aload_n 0, 1) := by decide +kernel
theorem dJS_length_6 : decode cJS_length 6 = .ok (.invokevirtual 335, 3) := by decide +kernel
theorem dJS_length_9 : decode cJS_length 9 = .ok (.ishr, 1) := by decide +kernel
theorem dJS_length_10 : decode cJS_length 10 = .ok (.ireturn, 1) := by decide +kernel
theorem dJS_isLatin1_0 : decode cJS_isLatin1 0 = .ok (.getstatic 38, 3) := by decide +kernel
theorem dJS_isLatin1_3 : decode cJS_isLatin1 3 = .ok (.ifCond .eq 14, 3) := by decide +kernel
theorem dJS_isLatin1_6 : decode cJS_isLatin1 6 = .ok (.aload_n 0, 1) := by decide +kernel
theorem dJS_isLatin1_7 : decode cJS_isLatin1 7 = .ok (.getfield 15, 3) := by decide +kernel
theorem dJS_isLatin1_10 : decode cJS_isLatin1 10 = .ok (.ifCond .ne 7, 3) := by decide +kernel
theorem dJS_isLatin1_13 : decode cJS_isLatin1 13 = .ok (.iconst 1, 1) := by decide +kernel
theorem dJS_isLatin1_14 : decode cJS_isLatin1 14 = .ok (.goto 4, 3) := by decide +kernel
theorem dJS_isLatin1_18 : decode cJS_isLatin1 18 = .ok (.ireturn, 1) := by decide +kernel
theorem dJS_charAt_0 : decode cJS_charAt 0 = .ok (.aload_n 0, 1) := by decide +kernel
theorem dJS_charAt_1 : decode cJS_charAt 1 = .ok (.invokevirtual 492, 3) := by decide +kernel
theorem dJS_charAt_4 : decode cJS_charAt 4 = .ok (.ifCond .eq 12, 3) := by decide +kernel
theorem dJS_charAt_7 : decode cJS_charAt 7 = .ok (.aload_n 0, 1) := by decide +kernel
theorem dJS_charAt_8 : decode cJS_charAt 8 = .ok (.getfield 9, 3) := by decide +kernel
theorem dJS_charAt_11 : decode cJS_charAt 11 = .ok (.iload_n 1, 1) := by decide +kernel
theorem dJS_charAt_12 : decode cJS_charAt 12 = .ok (.invokestatic 495, 3) := by decide +kernel
theorem dJS_charAt_15 : decode cJS_charAt 15 = .ok (.ireturn, 1) := by decide +kernel
theorem dJL_charAt_0 : decode cJL_charAt 0 = .ok (.iload_n 1, 1) := by decide +kernel
theorem dJL_charAt_1 : decode cJL_charAt 1 = .ok (.aload_n 0, 1) := by decide +kernel
theorem dJL_charAt_2 : decode cJL_charAt 2 = .ok (.arraylength, 1) := by decide +kernel
theorem dJL_charAt_3 : decode cJL_charAt 3 = .ok (.invokestatic 9, 3) := by decide +kernel
theorem dJL_charAt_6 : decode cJL_charAt 6 = .ok (.aload_n 0, 1) := by decide +kernel
theorem dJL_charAt_7 : decode cJL_charAt 7 = .ok (.iload_n 1, 1) := by decide +kernel
theorem dJL_charAt_8 : decode cJL_charAt 8 = .ok (.baload, 1) := by decide +kernel
theorem dJL_charAt_9 : decode cJL_charAt 9 = .ok (.sipush 255, 3) := by decide +kernel
theorem dJL_charAt_12 : decode cJL_charAt 12 = .ok (.iand, 1) := by decide +kernel
theorem dJL_charAt_13 : decode cJL_charAt 13 = .ok (.i2c, 1) := by decide +kernel
theorem dJL_charAt_14 : decode cJL_charAt 14 = .ok (.ireturn, 1) := by decide +kernel
theorem dJS_checkIndex_0 : decode cJS_checkIndex 0 = .ok (.iload_n 0, 1) := by decide +kernel
theorem dJS_checkIndex_1 : decode cJS_checkIndex 1 = .ok (.iload_n 1, 1) := by decide +kernel
theorem dJS_checkIndex_2 : decode cJS_checkIndex 2 = .ok (.getstatic 1053, 3) := by decide +kernel
theorem dJS_checkIndex_5 : decode cJS_checkIndex 5 = .ok (.invokestatic 1059, 3) := by decide +kernel
theorem dJS_checkIndex_8 : decode cJS_checkIndex 8 = .ok (.pop, 1) := by decide +kernel
theorem dJS_checkIndex_9 : decode cJS_checkIndex 9 = .ok (.return_, 1) := by decide +kernel
theorem dJP_checkIndex_0 : decode cJP_checkIndex 0 = .ok (.iload_n 0, 1) := by decide +kernel
theorem dJP_checkIndex_1 : decode cJP_checkIndex 1 = .ok (.ifCond .lt 8, 3) := by decide +kernel
theorem dJP_checkIndex_4 : decode cJP_checkIndex 4 = .ok (.iload_n 0, 1) := by decide +kernel
theorem dJP_checkIndex_5 : decode cJP_checkIndex 5 = .ok (.iload_n 1, 1) := by decide +kernel
theorem dJP_checkIndex_6 : decode cJP_checkIndex 6 = .ok (.if_icmp .lt 10, 3) := by decide +kernel
theorem dJP_checkIndex_16 : decode cJP_checkIndex 16 = .ok (.iload_n 0, 1) := by decide +kernel
theorem dJP_checkIndex_17 : decode cJP_checkIndex 17 = .ok (.ireturn, 1) := by decide +kernel
theorem bwJS_length : tf_cv yJS_length cJS_length 1 (some .int) 0 := ⟨w_4, w_6, w_7, w_5, by decide +kernel, by decide +kernel, by decide +kernel⟩
theorem bwJS_coder : tf_cv yJS_coder cJS_coder 1 (some .byte) 0 := ⟨w_8, w_9, w_10, w_5, by decide +kernel, by decide +kernel, by decide +kernel⟩
theorem bwJS_charAt : tf_cv yJS_charAt cJS_charAt 2 (some .char) 1 := ⟨w_11, w_12, w_13, w_5, by decide +kernel, by decide +kernel, by decide +kernel⟩
theorem bwJS_isLatin1 : tf_cv yJS_isLatin1 cJS_isLatin1 1 (some .boolean) 0 := ⟨w_14, w_15, w_16, w_5, by decide +kernel, by decide +kernel, by decide +kernel⟩
theorem bwJL_charAt : tf_cs yJL_charAt cJL_charAt 2 (some .char) 2 := ⟨w_17, w_19, w_18, by decide +kernel, by decide +kernel, by decide +kernel⟩
theorem bwJS_checkIndex : tf_cs yJS_checkIndex cJS_checkIndex 2 none 2 := ⟨w_20, w_21, w_5, by decide +kernel, by decide +kernel, by decide +kernel⟩
theorem bwJP_checkIndex : tf_cs yJP_checkIndex cJP_checkIndex 3 (some .int) 3 := ⟨w_22, w_24, w_23, by decide +kernel, by decide +kernel, by decide +kernel⟩
section TX
variable {l : Launch} {G : tf_G} {N : Nat} {E : Nat → va_E}
theorem nar_bs {y : MethodName} : True := trivial
theorem mJS_coder (hJ : gJ (al G) N) {i : Nat} (hi : i < nJS) : tf_Met l G N yJS_coder cJS_coder 1 (some .byte) 0 0 [.ref (sK G i)] E E (some (.int 0)) :=
  tf_enter (by decide +kernel) hJ (Nat.le_of_ble_eq_true rfl) (fun p e s m args below meth c ls X _ hl h => by
    have hx := X.1
    have hb := X.2.1
    have hSb := X.2.2.2.2.2.2.2.2.1
    refine va_gets hx hb hSb.2.2.1 h.2 X.2.2.2.2.1 (X.2.2.2.2.2.2.1 _ w_2) (fun _ z => z) dJS_coder_0 ?_
    refine lv_if_eq (tgt := 13) hx hb dJS_coder_3 (by decide) (fun q => absurd q (by decide)) (fun _ => ?_)
    refine lv_aload_n hx hb dJS_coder_6 rfl (lv_at hl 0 rfl) ?_
    refine vk_getf hx hb (hSb.1 i hi).2.1 h.2 X.2.2.2.2.1 (X.2.2.2.2.2.2.1 _ w_1) (fun _ z => z) dJS_coder_7 ?_
    refine lv_goto (tgt := 14) hx hb dJS_coder_10 (by decide) ?_
    exact tf_nret X h rfl dJS_coder_14)
theorem mJS_isLatin1 (hJ : gJ (al G) N) {i : Nat} (hi : i < nJS) : tf_Met l G N yJS_isLatin1 cJS_isLatin1 1 (some .boolean) 0 0 [.ref (sK G i)] E E (some (.int 1)) :=
  tf_enter (by decide +kernel) hJ (Nat.le_of_ble_eq_true rfl) (fun p e s m args below meth c ls X _ hl h => by
    have hx := X.1
    have hb := X.2.1
    have hSb := X.2.2.2.2.2.2.2.2.1
    refine va_gets hx hb hSb.2.2.1 h.2 X.2.2.2.2.1 (X.2.2.2.2.2.2.1 _ w_2) (fun _ z => z) dJS_isLatin1_0 ?_
    refine lv_if_eq (tgt := 17) hx hb dJS_isLatin1_3 (by decide) (fun q => absurd q (by decide)) (fun _ => ?_)
    refine lv_aload_n hx hb dJS_isLatin1_6 rfl (lv_at hl 0 rfl) ?_
    refine vk_getf hx hb (hSb.1 i hi).2.1 h.2 X.2.2.2.2.1 (X.2.2.2.2.2.2.1 _ w_1) (fun _ z => z) dJS_isLatin1_7 ?_
    refine lv_if_ne (tgt := 17) hx hb dJS_isLatin1_10 (by decide) (fun q => absurd rfl q) (fun _ => ?_)
    refine lv_iconst (v := 1) hx hb dJS_isLatin1_13 (by decide) ?_
    refine lv_goto (tgt := 18) hx hb dJS_isLatin1_14 (by decide) ?_
    exact tf_nret X h rfl dJS_isLatin1_18)
theorem mJS_length (hJ : gJ (al G) N) {i : Nat} (hi : i < nJS) : tf_Met l G N yJS_length cJS_length 1 (some .int) 1 20 [.ref (sK G i)] E E (some (.int (nI (lenJS.getD i 0)))) :=
  tf_enter (by decide +kernel) hJ (Nat.le_of_ble_eq_true rfl) (fun p e s m args below meth c ls X _ hl h => by
    have hx := X.1
    have hb := X.2.1
    have hSb := X.2.2.2.2.2.2.2.2.1
    refine lv_aload_n hx hb dJS_length_0 rfl (lv_at hl 0 rfl) ?_
    refine vk_getf hx hb (hSb.1 i hi).2.2.1 h.2 X.2.2.2.2.1 (X.2.2.2.2.2.2.1 _ w_0) (fun _ z => z) dJS_length_1 ?_
    refine va_tlen hx hb (hSb.1 i hi).2.2.2 h.2 (v := nI (lenJS.getD i 0)) rfl dJS_length_4 ?_
    refine lv_aload_n hx hb dJS_length_5 rfl (lv_at hl 0 rfl) ?_
    refine tf_callT hi (As := []) (rest := [.int (nI (lenJS.getD i 0))]) X h rfl (mJS_coder hJ hi) bwJS_coder w_25 ⟨Nat.le_of_ble_eq_true rfl, Nat.le_of_ble_eq_true rfl⟩ hl.1 rfl (Nat.le_of_ble_eq_true rfl) ⟨Nat.zero_le _, Nat.zero_le _⟩ dJS_length_6 (fun H locs h => ?_)
    refine lv_ishr hx hb dJS_length_9 ?_
    have e0 : nI (lenJS.getD i 0) >>> ((0 : Int32) &&& 31) = nI (lenJS.getD i 0) := sb_shr0 _
    rw [e0]
    exact tf_iret X h dJS_length_10)
theorem mJP_checkIndex (hJ : gJ (al G) N) {x y : Int32} {v : Value} (hv : v = .null ∨ ∃ a, v = .ref a) (h0 : ¬ x < 0) (h1 : x < y) : tf_Met l G N yJP_checkIndex cJP_checkIndex 3 (some .int) 0 0 [.int x, .int y, v] E E (some (.int x)) :=
  tf_enter (by decide +kernel) hJ (by rcases hv with rfl | ⟨a, rfl⟩ <;> exact Nat.le_of_ble_eq_true rfl) (fun p e s m args below meth c ls X _ hl h => by
    have hx := X.1
    have hb := X.2.1
    have hl : lv_has ls 3 [(0, .int x), (1, .int y), (2, v)] := by rcases hv with rfl | ⟨a, rfl⟩ <;> exact hl
    refine lv_iload_n hx hb dJP_checkIndex_0 rfl (lv_at hl 0 rfl) ?_
    refine lv_if_lt (tgt := 9) hx hb dJP_checkIndex_1 (by decide) (fun q => absurd q h0) (fun _ => ?_)
    refine lv_iload_n hx hb dJP_checkIndex_4 rfl (lv_at hl 0 rfl) ?_
    refine lv_iload_n hx hb dJP_checkIndex_5 rfl (lv_at hl 1 rfl) ?_
    refine lv_icmp_lt (tgt := 16) hx hb dJP_checkIndex_6 (by decide) (fun _ => ?_) (fun q => absurd h1 q)
    refine lv_iload_n hx hb dJP_checkIndex_16 rfl (lv_at hl 0 rfl) ?_
    exact tf_iret X h dJP_checkIndex_17)
theorem mJS_checkIndex (hJ : gJ (al G) N) {x y : Int32} (h0 : ¬ x < 0) (h1 : x < y) : tf_Met l G N yJS_checkIndex cJS_checkIndex 2 none 1 22 [.int x, .int y] E E none :=
  tf_enter (by decide +kernel) hJ (Nat.le_of_ble_eq_true rfl) (fun p e s m args below meth c ls X _ hl h => by
    have hx := X.1
    have hb := X.2.1
    have hSb := X.2.2.2.2.2.2.2.2.1
    obtain ⟨fv, hfv, hZ⟩ := hSb.2.2.2
    refine lv_iload_n hx hb dJS_checkIndex_0 rfl (lv_at hl 0 rfl) ?_
    refine lv_iload_n hx hb dJS_checkIndex_1 rfl (lv_at hl 1 rfl) ?_
    refine va_gets hx hb hZ h.2 X.2.2.2.2.1 (X.2.2.2.2.2.2.1 _ w_3) (fun _ z => z) dJS_checkIndex_2 ?_
    refine tf_callSi (As := [.int x, .int y, fv]) (rest := []) X h (mJP_checkIndex hJ hfv h0 h1) bwJP_checkIndex w_29 ⟨Nat.le_of_ble_eq_true rfl, Nat.le_of_ble_eq_true rfl⟩ hl.1 rfl (Nat.le_of_ble_eq_true rfl) ⟨Nat.zero_le _, Nat.zero_le _⟩ dJS_checkIndex_5 (fun H locs h => ?_)
    refine lv_pop1 hx hb dJS_checkIndex_8 ?_
    exact tf_vret X h dJS_checkIndex_9)
theorem len_small : ∀ i, i < nJS → lenJS.getD i 0 < 2 ^ 31 := by decide +kernel
theorem ch_nar (z : Int32) : narrow .char (.int (z &&& 255)) = .int (z &&& 255) := sc_nar _
theorem mJL_charAt (hJ : gJ (al G) N) {i : Nat} (hi : i < nJS) {k : Int32} (hk : vp_in k (lenJS.getD i 0)) : tf_Met l G N yJL_charAt cJL_charAt 2 (some .char) 2 43 [.ref (sV G i), .int k] E E (some (.int (chJS i k))) :=
  tf_enter (by decide +kernel) hJ (Nat.le_of_ble_eq_true rfl) (fun p e s m args below meth c ls X _ hl h => by
    have hx := X.1
    have hb := X.2.1
    have hSb := X.2.2.2.2.2.2.2.2.1
    have hs := len_small i hi
    obtain ⟨j, hj, ej⟩ := vp_in_of hk hs
    refine lv_iload_n hx hb dJL_charAt_0 rfl (lv_at hl 1 rfl) ?_
    refine lv_aload_n hx hb dJL_charAt_1 rfl (lv_at hl 0 rfl) ?_
    refine va_tlen hx hb (hSb.1 i hi).2.2.2 h.2 (v := nI (lenJS.getD i 0)) rfl dJL_charAt_2 ?_
    refine tf_callSv (As := [.int k, .int (nI (lenJS.getD i 0))]) (rest := []) X h (mJS_checkIndex hJ (by rw [ej]; exact nI_pos (by omega)) (by rw [ej]; exact nI_lt hj hs)) bwJS_checkIndex w_28 ⟨Nat.le_of_ble_eq_true rfl, Nat.le_of_ble_eq_true rfl⟩ hl.1 rfl (Nat.le_of_ble_eq_true rfl) ⟨Nat.zero_le _, Nat.zero_le _⟩ dJL_charAt_3 (fun H locs h => ?_)
    refine lv_aload_n hx hb dJL_charAt_6 rfl (lv_at hl 0 rfl) ?_
    refine lv_iload_n hx hb dJL_charAt_7 rfl (lv_at hl 1 rfl) ?_
    refine va_tb hx hb (hSb.1 i hi).2.2.2 h.2 hk rfl dJL_charAt_8 ?_
    refine lv_sipush (v := 255) hx hb dJL_charAt_9 (by decide) ?_
    refine lv_iand hx hb dJL_charAt_12 ?_
    refine lv_i2c (v := chJS i k) hx hb dJL_charAt_13 (sc_c2 _) ?_
    exact tf_nret X h (ch_nar _) dJL_charAt_14)
theorem mJS_charAt (hJ : gJ (al G) N) {i : Nat} (hi : i < nJS) {k : Int32} (hk : vp_in k (lenJS.getD i 0)) : tf_Met l G N yJS_charAt cJS_charAt 2 (some .char) 3 64 [.ref (sK G i), .int k] E E (some (.int (chJS i k))) :=
  tf_enter (by decide +kernel) hJ (Nat.le_of_ble_eq_true rfl) (fun p e s m args below meth c ls X _ hl h => by
    have hx := X.1
    have hb := X.2.1
    have hSb := X.2.2.2.2.2.2.2.2.1
    refine lv_aload_n hx hb dJS_charAt_0 rfl (lv_at hl 0 rfl) ?_
    refine tf_callT hi (As := []) (rest := []) X h rfl (mJS_isLatin1 hJ hi) bwJS_isLatin1 w_26 ⟨Nat.le_of_ble_eq_true rfl, Nat.le_of_ble_eq_true rfl⟩ hl.1 rfl (Nat.le_of_ble_eq_true rfl) ⟨Nat.zero_le _, Nat.zero_le _⟩ dJS_charAt_1 (fun H locs h => ?_)
    refine lv_if_eq (tgt := 16) hx hb dJS_charAt_4 (by decide) (fun q => absurd q (by decide)) (fun _ => ?_)
    refine lv_aload_n hx hb dJS_charAt_7 rfl (lv_at hl 0 rfl) ?_
    refine vk_getf hx hb (hSb.1 i hi).2.2.1 h.2 X.2.2.2.2.1 (X.2.2.2.2.2.2.1 _ w_0) (fun _ z => z) dJS_charAt_8 ?_
    refine lv_iload_n hx hb dJS_charAt_11 rfl (lv_at hl 1 rfl) ?_
    refine tf_callSi (As := [.ref (sV G i), .int k]) (rest := []) X h (mJL_charAt hJ hi hk) bwJL_charAt w_27 ⟨Nat.le_of_ble_eq_true rfl, Nat.le_of_ble_eq_true rfl⟩ hl.1 rfl (Nat.le_of_ble_eq_true rfl) ⟨Nat.zero_le _, Nat.zero_le _⟩ dJS_charAt_12 (fun H locs h => ?_)
    exact tf_nret X h (ch_nar _) dJS_charAt_15)
variable {p : Program} {e : Env} {R : Room} {s : State} {m : MethodId} {args : Array Value} {below : List Frame} {meth : Method} {c : Code} {H : Heap} {locs : List Loc} {Q : State → Prop}
variable {cc : ByteArray} {pc : Nat} {ls : Array Slot} {rest : List Value} {nL : Nat} {own : String} {ret : Option FieldType} {index : Nat}
theorem tf_len {i : Nat} (X : tf_X G N own cc nL ret p s m args meth c) (h : tf_H G N E s.heap H locs) (hi : i < nJS) (hlink : Cond.methodLink own index yJS_length ∈ gT) (hR : 1 + 1 ≤ R.frames ∧ 8 + (1 + 11) + 20 ≤ R.locals) (hsz : ls.size = nL) (hroom : (rest.map fun v => v.category).sum ≤ 8) (hdg : decode cc pc = .ok (.invokevirtual index, 3))
    (kk : ∀ (H1 : Heap) (locs1 : List Loc), tf_H G N E s.heap H1 locs1 → W p l e R s m args below meth c H1 locs1 0 0 Q (F0 m (pc + 3) ls (.int (nI (lenJS.getD i 0)) :: rest))) : W p l e R s m args below meth c H locs 0 0 Q (F0 m pc ls (.ref (sK G i) :: rest)) :=
  tf_callT hi (As := []) X h rfl (mJS_length X.2.2.2.2.2.2.2.2.2 hi) bwJS_length hlink hR hsz rfl hroom ⟨Nat.zero_le _, Nat.zero_le _⟩ hdg kk
theorem tf_chr {i : Nat} {k : Int32} (X : tf_X G N own cc nL ret p s m args meth c) (h : tf_H G N E s.heap H locs) (hi : i < nJS) (hk : vp_in k (lenJS.getD i 0)) (hlink : Cond.methodLink own index yJS_charAt ∈ gT) (hR : 3 + 1 ≤ R.frames ∧ 8 + (2 + 11) + 64 ≤ R.locals) (hsz : ls.size = nL) (hroom : (rest.map fun v => v.category).sum ≤ 8) (hdg : decode cc pc = .ok (.invokevirtual index, 3))
    (kk : ∀ (H1 : Heap) (locs1 : List Loc), tf_H G N E s.heap H1 locs1 → W p l e R s m args below meth c H1 locs1 0 0 Q (F0 m (pc + 3) ls (.int (chJS i k) :: rest))) : W p l e R s m args below meth c H locs 0 0 Q (F0 m pc ls (.int k :: .ref (sK G i) :: rest)) :=
  tf_callT hi (As := [.int k]) X h rfl (mJS_charAt X.2.2.2.2.2.2.2.2.2 hi hk) bwJS_charAt hlink hR hsz rfl hroom ⟨Nat.zero_le _, Nat.zero_le _⟩ hdg kk
end TX
