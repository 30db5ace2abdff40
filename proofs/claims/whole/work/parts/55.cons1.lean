/-! constructors that make arrays of numbers, or nothing -/
theorem con0 {l : Launch} {D : va_G} {cA : Nat → ClassId} : tf_Con (S := Unit) l D cA yK0_init cK0_init 1 1 12 (.inr (0, [.long 0, .long 0, .long 0, .long 0])) 0 0 (fun h0 _ => [(h0, .inr (0, [.long 0, .long 0, .long 0, .long 0]))]) := by
  refine tf_con (by decide) (by decide) rfl ?_
  intro p e s m args below meth c ls A h0 Q X hin hA hl h fin
  refine lv_aload_n X.1 X.2.1 dK0_init_0 rfl (lv_at hl 0 rfl) ?_
  refine tf_obj X x_ol0 hl.1 (Nat.le_refl _) (Nat.le_refl _) dK0_init_1 ?_
  exact fin _ _ () _ _ h dK0_init_4
theorem con1 {l : Launch} {D : va_G} {cA : Nat → ClassId} : tf_Con (S := Unit) l D cA yK1_init cK1_init 1 1 12 (.inr (1, [.int 0, .int 0, .int 0, .int 0, .int 0, .int 0, .int 0, .int 0, .int 0])) 0 0 (fun h0 _ => [(h0, .inr (1, [.int 0, .int 0, .int 0, .int 0, .int 0, .int 0, .int 0, .int 0, .int 0]))]) := by
  refine tf_con (by decide) (by decide) rfl ?_
  intro p e s m args below meth c ls A h0 Q X hin hA hl h fin
  refine lv_aload_n X.1 X.2.1 dK1_init_0 rfl (lv_at hl 0 rfl) ?_
  refine tf_obj X x_ol1 hl.1 (Nat.le_refl _) (Nat.le_refl _) dK1_init_1 ?_
  exact fin _ _ () _ _ h dK1_init_4
theorem con3 {l : Launch} {D : va_G} {cA : Nat → ClassId} : tf_Con (S := Unit) l D cA yK3_init cK3_init 1 1 12 (.inr (3, [.int 0, .int 0, .int 0, .int 0, .int 0, .int 0])) 0 0 (fun h0 _ => [(h0, .inr (3, [.int 0, .int 0, .int 0, .int 0, .int 0, .int 0]))]) := by
  refine tf_con (by decide) (by decide) rfl ?_
  intro p e s m args below meth c ls A h0 Q X hin hA hl h fin
  refine lv_aload_n X.1 X.2.1 dK3_init_0 rfl (lv_at hl 0 rfl) ?_
  refine tf_obj X x_ol3 hl.1 (Nat.le_refl _) (Nat.le_refl _) dK3_init_1 ?_
  exact fin _ _ () _ _ h dK3_init_4
def wC5 (cA : Nat → ClassId) (h0 : Nat) (a : Nat → Nat) : va_W := [(h0, .inr (5, [.ref (a 0), .ref (a 1), .ref (a 2), .int 0, .int 0])), ((a 0), .inl (cA 0, 40, .inl (fun _ => 0))), ((a 1), .inl (cA 0, 7, .inl (fun _ => 0))), ((a 2), .inl (cA 0, 7, .inl (fun _ => 0)))]
set_option maxRecDepth 100000 in
theorem con5 {l : Launch} {D : va_G} {cA : Nat → ClassId} : tf_Con l D cA yK5_init cK5_init 1 1 12 (.inr (5, [.null, .null, .null, .int 0, .int 0])) 3 54 (wC5 cA) := by
  refine tf_con (by decide) (by decide) rfl ?_
  intro p e s m args below meth c ls A h0 Q X hin hA hl h fin
  refine lv_aload_n X.1 X.2.1 dK5_init_0 rfl (lv_at hl 0 rfl) ?_
  refine tf_obj X x_ol5 hl.1 (Nat.le_refl _) (Nat.le_refl _) dK5_init_1 ?_
  refine lv_aload_n X.1 X.2.1 dK5_init_4 rfl (lv_at hl 0 rfl) ?_
  refine lv_bipush (v := 40) X.1 X.2.1 dK5_init_5 (by decide) ?_
  refine tf_newi X hA h (n := 40) (N' := 40) (by decide) rfl (by decide) (Nat.le_of_ble_eq_true rfl) (Nat.le_of_ble_eq_true rfl) dK5_init_7 (fun q0 H h => ?_)
  have h : tf_HC D A [(h0, .inr (5, [.null, .null, .null, .int 0, .int 0])), (q0, .inl (cA 0, 40, .inl (fun _ => 0)))] s.heap H _ := h
  refine tf_fin X hin (ci := 5) (k := 0) (fs' := [.ref q0, .null, .null, .int 0, .int 0]) h rfl in5 ty5 tk5 nm5 (by decide) x_f5_9 rfl rfl rfl rfl (Nat.le_of_ble_eq_true rfl) rfl dK5_init_9 (fun H locs h => ?_)
  refine lv_aload_n X.1 X.2.1 dK5_init_12 rfl (lv_at hl 0 rfl) ?_
  refine lv_bipush (v := 7) X.1 X.2.1 dK5_init_13 (by decide) ?_
  refine tf_newi X hA h (n := 7) (N' := 7) (by decide) rfl (by decide) (Nat.le_of_ble_eq_true rfl) (Nat.le_of_ble_eq_true rfl) dK5_init_15 (fun q1 H h => ?_)
  have h : tf_HC D A [(h0, .inr (5, [.ref q0, .null, .null, .int 0, .int 0])), (q0, .inl (cA 0, 40, .inl (fun _ => 0))), (q1, .inl (cA 0, 7, .inl (fun _ => 0)))] s.heap H _ := h
  refine tf_fin X hin (ci := 5) (k := 1) (fs' := [.ref q0, .ref q1, .null, .int 0, .int 0]) h rfl in5 ty5 tk5 nm5 (by decide) x_f5_15 rfl rfl rfl rfl (Nat.le_of_ble_eq_true rfl) rfl dK5_init_17 (fun H locs h => ?_)
  refine lv_aload_n X.1 X.2.1 dK5_init_20 rfl (lv_at hl 0 rfl) ?_
  refine lv_bipush (v := 7) X.1 X.2.1 dK5_init_21 (by decide) ?_
  refine tf_newi X hA h (n := 7) (N' := 7) (by decide) rfl (by decide) (Nat.le_of_ble_eq_true rfl) (Nat.le_of_ble_eq_true rfl) dK5_init_23 (fun q2 H h => ?_)
  have h : tf_HC D A [(h0, .inr (5, [.ref q0, .ref q1, .null, .int 0, .int 0])), (q0, .inl (cA 0, 40, .inl (fun _ => 0))), (q1, .inl (cA 0, 7, .inl (fun _ => 0))), (q2, .inl (cA 0, 7, .inl (fun _ => 0)))] s.heap H _ := h
  refine tf_fin X hin (ci := 5) (k := 2) (fs' := [.ref q0, .ref q1, .ref q2, .int 0, .int 0]) h rfl in5 ty5 tk5 nm5 (by decide) x_f5_18 rfl rfl rfl rfl (Nat.le_of_ble_eq_true rfl) rfl dK5_init_25 (fun H locs h => ?_)
  have h : tf_HC D A [(h0, .inr (5, [.ref q0, .ref q1, .ref q2, .int 0, .int 0])), (q0, .inl (cA 0, 40, .inl (fun _ => 0))), (q1, .inl (cA 0, 7, .inl (fun _ => 0))), (q2, .inl (cA 0, 7, .inl (fun _ => 0)))] s.heap H locs := h
  exact fin _ _ (fun j => [q0, q1, q2].getD j 0) _ _ h dK5_init_28
def wC6 (cA : Nat → ClassId) (h0 : Nat) (a : Nat → Nat) : va_W := [(h0, .inr (6, [.ref (a 0), .ref (a 1), .ref (a 2), .ref (a 3), .int 0])), ((a 0), .inl (cA 0, 200, .inl (fun _ => 0))), ((a 1), .inl (cA 0, 200, .inl (fun _ => 0))), ((a 2), .inl (cA 0, 200, .inl (fun _ => 0))), ((a 3), .inl (cA 0, 200, .inl (fun _ => 0)))]
set_option maxRecDepth 100000 in
theorem con6 {l : Launch} {D : va_G} {cA : Nat → ClassId} : tf_Con l D cA yK6_init cK6_init 1 1 12 (.inr (6, [.null, .null, .null, .null, .int 0])) 4 800 (wC6 cA) := by
  refine tf_con (by decide) (by decide) rfl ?_
  intro p e s m args below meth c ls A h0 Q X hin hA hl h fin
  refine lv_aload_n X.1 X.2.1 dK6_init_0 rfl (lv_at hl 0 rfl) ?_
  refine tf_obj X x_ol6 hl.1 (Nat.le_refl _) (Nat.le_refl _) dK6_init_1 ?_
  refine lv_aload_n X.1 X.2.1 dK6_init_4 rfl (lv_at hl 0 rfl) ?_
  refine lv_sipush (v := 200) X.1 X.2.1 dK6_init_5 (by decide) ?_
  refine tf_newi X hA h (n := 200) (N' := 200) (by decide) rfl (by decide) (Nat.le_of_ble_eq_true rfl) (Nat.le_of_ble_eq_true rfl) dK6_init_8 (fun q0 H h => ?_)
  have h : tf_HC D A [(h0, .inr (6, [.null, .null, .null, .null, .int 0])), (q0, .inl (cA 0, 200, .inl (fun _ => 0)))] s.heap H _ := h
  refine tf_fin X hin (ci := 6) (k := 0) (fs' := [.ref q0, .null, .null, .null, .int 0]) h rfl in6 ty6 tk6 nm6 (by decide) x_f6_9 rfl rfl rfl rfl (Nat.le_of_ble_eq_true rfl) rfl dK6_init_10 (fun H locs h => ?_)
  refine lv_aload_n X.1 X.2.1 dK6_init_13 rfl (lv_at hl 0 rfl) ?_
  refine lv_sipush (v := 200) X.1 X.2.1 dK6_init_14 (by decide) ?_
  refine tf_newi X hA h (n := 200) (N' := 200) (by decide) rfl (by decide) (Nat.le_of_ble_eq_true rfl) (Nat.le_of_ble_eq_true rfl) dK6_init_17 (fun q1 H h => ?_)
  have h : tf_HC D A [(h0, .inr (6, [.ref q0, .null, .null, .null, .int 0])), (q0, .inl (cA 0, 200, .inl (fun _ => 0))), (q1, .inl (cA 0, 200, .inl (fun _ => 0)))] s.heap H _ := h
  refine tf_fin X hin (ci := 6) (k := 1) (fs' := [.ref q0, .ref q1, .null, .null, .int 0]) h rfl in6 ty6 tk6 nm6 (by decide) x_f6_15 rfl rfl rfl rfl (Nat.le_of_ble_eq_true rfl) rfl dK6_init_19 (fun H locs h => ?_)
  refine lv_aload_n X.1 X.2.1 dK6_init_22 rfl (lv_at hl 0 rfl) ?_
  refine lv_sipush (v := 200) X.1 X.2.1 dK6_init_23 (by decide) ?_
  refine tf_newi X hA h (n := 200) (N' := 200) (by decide) rfl (by decide) (Nat.le_of_ble_eq_true rfl) (Nat.le_of_ble_eq_true rfl) dK6_init_26 (fun q2 H h => ?_)
  have h : tf_HC D A [(h0, .inr (6, [.ref q0, .ref q1, .null, .null, .int 0])), (q0, .inl (cA 0, 200, .inl (fun _ => 0))), (q1, .inl (cA 0, 200, .inl (fun _ => 0))), (q2, .inl (cA 0, 200, .inl (fun _ => 0)))] s.heap H _ := h
  refine tf_fin X hin (ci := 6) (k := 2) (fs' := [.ref q0, .ref q1, .ref q2, .null, .int 0]) h rfl in6 ty6 tk6 nm6 (by decide) x_f6_18 rfl rfl rfl rfl (Nat.le_of_ble_eq_true rfl) rfl dK6_init_28 (fun H locs h => ?_)
  refine lv_aload_n X.1 X.2.1 dK6_init_31 rfl (lv_at hl 0 rfl) ?_
  refine lv_sipush (v := 200) X.1 X.2.1 dK6_init_32 (by decide) ?_
  refine tf_newi X hA h (n := 200) (N' := 200) (by decide) rfl (by decide) (Nat.le_of_ble_eq_true rfl) (Nat.le_of_ble_eq_true rfl) dK6_init_35 (fun q3 H h => ?_)
  have h : tf_HC D A [(h0, .inr (6, [.ref q0, .ref q1, .ref q2, .null, .int 0])), (q0, .inl (cA 0, 200, .inl (fun _ => 0))), (q1, .inl (cA 0, 200, .inl (fun _ => 0))), (q2, .inl (cA 0, 200, .inl (fun _ => 0))), (q3, .inl (cA 0, 200, .inl (fun _ => 0)))] s.heap H _ := h
  refine tf_fin X hin (ci := 6) (k := 3) (fs' := [.ref q0, .ref q1, .ref q2, .ref q3, .int 0]) h rfl in6 ty6 tk6 nm6 (by decide) x_f6_21 rfl rfl rfl rfl (Nat.le_of_ble_eq_true rfl) rfl dK6_init_37 (fun H locs h => ?_)
  have h : tf_HC D A [(h0, .inr (6, [.ref q0, .ref q1, .ref q2, .ref q3, .int 0])), (q0, .inl (cA 0, 200, .inl (fun _ => 0))), (q1, .inl (cA 0, 200, .inl (fun _ => 0))), (q2, .inl (cA 0, 200, .inl (fun _ => 0))), (q3, .inl (cA 0, 200, .inl (fun _ => 0)))] s.heap H locs := h
  exact fin _ _ (fun j => [q0, q1, q2, q3].getD j 0) _ _ h dK6_init_40
def wC8 (cA : Nat → ClassId) (h0 : Nat) (a : Nat → Nat) : va_W := [(h0, .inr (8, [.ref (a 0), .ref (a 1), .ref (a 2), .int 0, .int 0, .ref (a 3), .ref (a 4), .ref (a 5), .ref (a 6), .ref (a 7), .ref (a 8), .ref (a 9), .ref (a 10), .int 0, .int 0, .int 0, .int 0, .int 0, .ref (a 11), .ref (a 12), .ref (a 13), .ref (a 14)])), ((a 0), .inl (cA 0, 40, .inl (fun _ => 0))), ((a 1), .inl (cA 0, 12, .inl (fun _ => 0))), ((a 2), .inl (cA 0, 12, .inl (fun _ => 0))), ((a 3), .inl (cA 1, 8, .inr (.inl (fun _ => 0)))), ((a 4), .inl (cA 1, 8, .inr (.inl (fun _ => 0)))), ((a 5), .inl (cA 0, 40, .inl (fun _ => 0))), ((a 6), .inl (cA 0, 40, .inl (fun _ => 0))), ((a 7), .inl (cA 0, 40, .inl (fun _ => 0))), ((a 8), .inl (cA 0, 40, .inl (fun _ => 0))), ((a 9), .inl (cA 0, 40, .inl (fun _ => 0))), ((a 10), .inl (cA 0, 40, .inl (fun _ => 0))), ((a 11), .inl (cA 0, 200, .inl (fun _ => 0))), ((a 12), .inl (cA 0, 200, .inl (fun _ => 0))), ((a 13), .inl (cA 0, 200, .inl (fun _ => 0))), ((a 14), .inl (cA 0, 200, .inl (fun _ => 0)))]
set_option maxRecDepth 100000 in
theorem con8 {l : Launch} {D : va_G} {cA : Nat → ClassId} : tf_Con l D cA yK8_init cK8_init 1 1 12 (.inr (8, [.null, .null, .null, .int 0, .int 0, .null, .null, .null, .null, .null, .null, .null, .null, .int 0, .int 0, .int 0, .int 0, .int 0, .null, .null, .null, .null])) 15 1120 (wC8 cA) := by
  refine tf_con (by decide) (by decide) rfl ?_
  intro p e s m args below meth c ls A h0 Q X hin hA hl h fin
  refine lv_aload_n X.1 X.2.1 dK8_init_0 rfl (lv_at hl 0 rfl) ?_
  refine tf_obj X x_ol8 hl.1 (Nat.le_refl _) (Nat.le_refl _) dK8_init_1 ?_
  refine lv_aload_n X.1 X.2.1 dK8_init_4 rfl (lv_at hl 0 rfl) ?_
  refine lv_bipush (v := 40) X.1 X.2.1 dK8_init_5 (by decide) ?_
  refine tf_newi X hA h (n := 40) (N' := 40) (by decide) rfl (by decide) (Nat.le_of_ble_eq_true rfl) (Nat.le_of_ble_eq_true rfl) dK8_init_7 (fun q0 H h => ?_)
  have h : tf_HC D A [(h0, .inr (8, [.null, .null, .null, .int 0, .int 0, .null, .null, .null, .null, .null, .null, .null, .null, .int 0, .int 0, .int 0, .int 0, .int 0, .null, .null, .null, .null])), (q0, .inl (cA 0, 40, .inl (fun _ => 0)))] s.heap H _ := h
  refine tf_fin X hin (ci := 8) (k := 0) (fs' := [.ref q0, .null, .null, .int 0, .int 0, .null, .null, .null, .null, .null, .null, .null, .null, .int 0, .int 0, .int 0, .int 0, .int 0, .null, .null, .null, .null]) h rfl in8 ty8 tk8 nm8 (by decide) x_f8_9 rfl rfl rfl rfl (Nat.le_of_ble_eq_true rfl) rfl dK8_init_9 (fun H locs h => ?_)
  refine lv_aload_n X.1 X.2.1 dK8_init_12 rfl (lv_at hl 0 rfl) ?_
  refine lv_bipush (v := 12) X.1 X.2.1 dK8_init_13 (by decide) ?_
  refine tf_newi X hA h (n := 12) (N' := 12) (by decide) rfl (by decide) (Nat.le_of_ble_eq_true rfl) (Nat.le_of_ble_eq_true rfl) dK8_init_15 (fun q1 H h => ?_)
  have h : tf_HC D A [(h0, .inr (8, [.ref q0, .null, .null, .int 0, .int 0, .null, .null, .null, .null, .null, .null, .null, .null, .int 0, .int 0, .int 0, .int 0, .int 0, .null, .null, .null, .null])), (q0, .inl (cA 0, 40, .inl (fun _ => 0))), (q1, .inl (cA 0, 12, .inl (fun _ => 0)))] s.heap H _ := h
  refine tf_fin X hin (ci := 8) (k := 1) (fs' := [.ref q0, .ref q1, .null, .int 0, .int 0, .null, .null, .null, .null, .null, .null, .null, .null, .int 0, .int 0, .int 0, .int 0, .int 0, .null, .null, .null, .null]) h rfl in8 ty8 tk8 nm8 (by decide) x_f8_13 rfl rfl rfl rfl (Nat.le_of_ble_eq_true rfl) rfl dK8_init_17 (fun H locs h => ?_)
  refine lv_aload_n X.1 X.2.1 dK8_init_20 rfl (lv_at hl 0 rfl) ?_
  refine lv_bipush (v := 12) X.1 X.2.1 dK8_init_21 (by decide) ?_
  refine tf_newi X hA h (n := 12) (N' := 12) (by decide) rfl (by decide) (Nat.le_of_ble_eq_true rfl) (Nat.le_of_ble_eq_true rfl) dK8_init_23 (fun q2 H h => ?_)
  have h : tf_HC D A [(h0, .inr (8, [.ref q0, .ref q1, .null, .int 0, .int 0, .null, .null, .null, .null, .null, .null, .null, .null, .int 0, .int 0, .int 0, .int 0, .int 0, .null, .null, .null, .null])), (q0, .inl (cA 0, 40, .inl (fun _ => 0))), (q1, .inl (cA 0, 12, .inl (fun _ => 0))), (q2, .inl (cA 0, 12, .inl (fun _ => 0)))] s.heap H _ := h
  refine tf_fin X hin (ci := 8) (k := 2) (fs' := [.ref q0, .ref q1, .ref q2, .int 0, .int 0, .null, .null, .null, .null, .null, .null, .null, .null, .int 0, .int 0, .int 0, .int 0, .int 0, .null, .null, .null, .null]) h rfl in8 ty8 tk8 nm8 (by decide) x_f8_16 rfl rfl rfl rfl (Nat.le_of_ble_eq_true rfl) rfl dK8_init_25 (fun H locs h => ?_)
  refine lv_aload_n X.1 X.2.1 dK8_init_28 rfl (lv_at hl 0 rfl) ?_
  refine lv_bipush (v := 8) X.1 X.2.1 dK8_init_29 (by decide) ?_
  refine tf_newl X hA h (n := 8) (N' := 8) (by decide) rfl (by decide) (Nat.le_of_ble_eq_true rfl) (Nat.le_of_ble_eq_true rfl) dK8_init_31 (fun q3 H h => ?_)
  have h : tf_HC D A [(h0, .inr (8, [.ref q0, .ref q1, .ref q2, .int 0, .int 0, .null, .null, .null, .null, .null, .null, .null, .null, .int 0, .int 0, .int 0, .int 0, .int 0, .null, .null, .null, .null])), (q0, .inl (cA 0, 40, .inl (fun _ => 0))), (q1, .inl (cA 0, 12, .inl (fun _ => 0))), (q2, .inl (cA 0, 12, .inl (fun _ => 0))), (q3, .inl (cA 1, 8, .inr (.inl (fun _ => 0))))] s.heap H _ := h
  refine tf_fin X hin (ci := 8) (k := 5) (fs' := [.ref q0, .ref q1, .ref q2, .int 0, .int 0, .ref q3, .null, .null, .null, .null, .null, .null, .null, .int 0, .int 0, .int 0, .int 0, .int 0, .null, .null, .null, .null]) h rfl in8 ty8 tk8 nm8 (by decide) x_f8_19 rfl rfl rfl rfl (Nat.le_of_ble_eq_true rfl) rfl dK8_init_33 (fun H locs h => ?_)
  refine lv_aload_n X.1 X.2.1 dK8_init_36 rfl (lv_at hl 0 rfl) ?_
  refine lv_bipush (v := 8) X.1 X.2.1 dK8_init_37 (by decide) ?_
  refine tf_newl X hA h (n := 8) (N' := 8) (by decide) rfl (by decide) (Nat.le_of_ble_eq_true rfl) (Nat.le_of_ble_eq_true rfl) dK8_init_39 (fun q4 H h => ?_)
  have h : tf_HC D A [(h0, .inr (8, [.ref q0, .ref q1, .ref q2, .int 0, .int 0, .ref q3, .null, .null, .null, .null, .null, .null, .null, .int 0, .int 0, .int 0, .int 0, .int 0, .null, .null, .null, .null])), (q0, .inl (cA 0, 40, .inl (fun _ => 0))), (q1, .inl (cA 0, 12, .inl (fun _ => 0))), (q2, .inl (cA 0, 12, .inl (fun _ => 0))), (q3, .inl (cA 1, 8, .inr (.inl (fun _ => 0)))), (q4, .inl (cA 1, 8, .inr (.inl (fun _ => 0))))] s.heap H _ := h
  refine tf_fin X hin (ci := 8) (k := 6) (fs' := [.ref q0, .ref q1, .ref q2, .int 0, .int 0, .ref q3, .ref q4, .null, .null, .null, .null, .null, .null, .int 0, .int 0, .int 0, .int 0, .int 0, .null, .null, .null, .null]) h rfl in8 ty8 tk8 nm8 (by decide) x_f8_23 rfl rfl rfl rfl (Nat.le_of_ble_eq_true rfl) rfl dK8_init_41 (fun H locs h => ?_)
  refine lv_aload_n X.1 X.2.1 dK8_init_44 rfl (lv_at hl 0 rfl) ?_
  refine lv_bipush (v := 40) X.1 X.2.1 dK8_init_45 (by decide) ?_
  refine tf_newi X hA h (n := 40) (N' := 40) (by decide) rfl (by decide) (Nat.le_of_ble_eq_true rfl) (Nat.le_of_ble_eq_true rfl) dK8_init_47 (fun q5 H h => ?_)
  have h : tf_HC D A [(h0, .inr (8, [.ref q0, .ref q1, .ref q2, .int 0, .int 0, .ref q3, .ref q4, .null, .null, .null, .null, .null, .null, .int 0, .int 0, .int 0, .int 0, .int 0, .null, .null, .null, .null])), (q0, .inl (cA 0, 40, .inl (fun _ => 0))), (q1, .inl (cA 0, 12, .inl (fun _ => 0))), (q2, .inl (cA 0, 12, .inl (fun _ => 0))), (q3, .inl (cA 1, 8, .inr (.inl (fun _ => 0)))), (q4, .inl (cA 1, 8, .inr (.inl (fun _ => 0)))), (q5, .inl (cA 0, 40, .inl (fun _ => 0)))] s.heap H _ := h
  refine tf_fin X hin (ci := 8) (k := 7) (fs' := [.ref q0, .ref q1, .ref q2, .int 0, .int 0, .ref q3, .ref q4, .ref q5, .null, .null, .null, .null, .null, .int 0, .int 0, .int 0, .int 0, .int 0, .null, .null, .null, .null]) h rfl in8 ty8 tk8 nm8 (by decide) x_f8_26 rfl rfl rfl rfl (Nat.le_of_ble_eq_true rfl) rfl dK8_init_49 (fun H locs h => ?_)
  refine lv_aload_n X.1 X.2.1 dK8_init_52 rfl (lv_at hl 0 rfl) ?_
  refine lv_bipush (v := 40) X.1 X.2.1 dK8_init_53 (by decide) ?_
  refine tf_newi X hA h (n := 40) (N' := 40) (by decide) rfl (by decide) (Nat.le_of_ble_eq_true rfl) (Nat.le_of_ble_eq_true rfl) dK8_init_55 (fun q6 H h => ?_)
  have h : tf_HC D A [(h0, .inr (8, [.ref q0, .ref q1, .ref q2, .int 0, .int 0, .ref q3, .ref q4, .ref q5, .null, .null, .null, .null, .null, .int 0, .int 0, .int 0, .int 0, .int 0, .null, .null, .null, .null])), (q0, .inl (cA 0, 40, .inl (fun _ => 0))), (q1, .inl (cA 0, 12, .inl (fun _ => 0))), (q2, .inl (cA 0, 12, .inl (fun _ => 0))), (q3, .inl (cA 1, 8, .inr (.inl (fun _ => 0)))), (q4, .inl (cA 1, 8, .inr (.inl (fun _ => 0)))), (q5, .inl (cA 0, 40, .inl (fun _ => 0))), (q6, .inl (cA 0, 40, .inl (fun _ => 0)))] s.heap H _ := h
  refine tf_fin X hin (ci := 8) (k := 8) (fs' := [.ref q0, .ref q1, .ref q2, .int 0, .int 0, .ref q3, .ref q4, .ref q5, .ref q6, .null, .null, .null, .null, .int 0, .int 0, .int 0, .int 0, .int 0, .null, .null, .null, .null]) h rfl in8 ty8 tk8 nm8 (by decide) x_f8_29 rfl rfl rfl rfl (Nat.le_of_ble_eq_true rfl) rfl dK8_init_57 (fun H locs h => ?_)
  refine lv_aload_n X.1 X.2.1 dK8_init_60 rfl (lv_at hl 0 rfl) ?_
  refine lv_bipush (v := 40) X.1 X.2.1 dK8_init_61 (by decide) ?_
  refine tf_newi X hA h (n := 40) (N' := 40) (by decide) rfl (by decide) (Nat.le_of_ble_eq_true rfl) (Nat.le_of_ble_eq_true rfl) dK8_init_63 (fun q7 H h => ?_)
  have h : tf_HC D A [(h0, .inr (8, [.ref q0, .ref q1, .ref q2, .int 0, .int 0, .ref q3, .ref q4, .ref q5, .ref q6, .null, .null, .null, .null, .int 0, .int 0, .int 0, .int 0, .int 0, .null, .null, .null, .null])), (q0, .inl (cA 0, 40, .inl (fun _ => 0))), (q1, .inl (cA 0, 12, .inl (fun _ => 0))), (q2, .inl (cA 0, 12, .inl (fun _ => 0))), (q3, .inl (cA 1, 8, .inr (.inl (fun _ => 0)))), (q4, .inl (cA 1, 8, .inr (.inl (fun _ => 0)))), (q5, .inl (cA 0, 40, .inl (fun _ => 0))), (q6, .inl (cA 0, 40, .inl (fun _ => 0))), (q7, .inl (cA 0, 40, .inl (fun _ => 0)))] s.heap H _ := h
  refine tf_fin X hin (ci := 8) (k := 9) (fs' := [.ref q0, .ref q1, .ref q2, .int 0, .int 0, .ref q3, .ref q4, .ref q5, .ref q6, .ref q7, .null, .null, .null, .int 0, .int 0, .int 0, .int 0, .int 0, .null, .null, .null, .null]) h rfl in8 ty8 tk8 nm8 (by decide) x_f8_32 rfl rfl rfl rfl (Nat.le_of_ble_eq_true rfl) rfl dK8_init_65 (fun H locs h => ?_)
  refine lv_aload_n X.1 X.2.1 dK8_init_68 rfl (lv_at hl 0 rfl) ?_
  refine lv_bipush (v := 40) X.1 X.2.1 dK8_init_69 (by decide) ?_
  refine tf_newi X hA h (n := 40) (N' := 40) (by decide) rfl (by decide) (Nat.le_of_ble_eq_true rfl) (Nat.le_of_ble_eq_true rfl) dK8_init_71 (fun q8 H h => ?_)
  have h : tf_HC D A [(h0, .inr (8, [.ref q0, .ref q1, .ref q2, .int 0, .int 0, .ref q3, .ref q4, .ref q5, .ref q6, .ref q7, .null, .null, .null, .int 0, .int 0, .int 0, .int 0, .int 0, .null, .null, .null, .null])), (q0, .inl (cA 0, 40, .inl (fun _ => 0))), (q1, .inl (cA 0, 12, .inl (fun _ => 0))), (q2, .inl (cA 0, 12, .inl (fun _ => 0))), (q3, .inl (cA 1, 8, .inr (.inl (fun _ => 0)))), (q4, .inl (cA 1, 8, .inr (.inl (fun _ => 0)))), (q5, .inl (cA 0, 40, .inl (fun _ => 0))), (q6, .inl (cA 0, 40, .inl (fun _ => 0))), (q7, .inl (cA 0, 40, .inl (fun _ => 0))), (q8, .inl (cA 0, 40, .inl (fun _ => 0)))] s.heap H _ := h
  refine tf_fin X hin (ci := 8) (k := 10) (fs' := [.ref q0, .ref q1, .ref q2, .int 0, .int 0, .ref q3, .ref q4, .ref q5, .ref q6, .ref q7, .ref q8, .null, .null, .int 0, .int 0, .int 0, .int 0, .int 0, .null, .null, .null, .null]) h rfl in8 ty8 tk8 nm8 (by decide) x_f8_35 rfl rfl rfl rfl (Nat.le_of_ble_eq_true rfl) rfl dK8_init_73 (fun H locs h => ?_)
  refine lv_aload_n X.1 X.2.1 dK8_init_76 rfl (lv_at hl 0 rfl) ?_
  refine lv_bipush (v := 40) X.1 X.2.1 dK8_init_77 (by decide) ?_
  refine tf_newi X hA h (n := 40) (N' := 40) (by decide) rfl (by decide) (Nat.le_of_ble_eq_true rfl) (Nat.le_of_ble_eq_true rfl) dK8_init_79 (fun q9 H h => ?_)
  have h : tf_HC D A [(h0, .inr (8, [.ref q0, .ref q1, .ref q2, .int 0, .int 0, .ref q3, .ref q4, .ref q5, .ref q6, .ref q7, .ref q8, .null, .null, .int 0, .int 0, .int 0, .int 0, .int 0, .null, .null, .null, .null])), (q0, .inl (cA 0, 40, .inl (fun _ => 0))), (q1, .inl (cA 0, 12, .inl (fun _ => 0))), (q2, .inl (cA 0, 12, .inl (fun _ => 0))), (q3, .inl (cA 1, 8, .inr (.inl (fun _ => 0)))), (q4, .inl (cA 1, 8, .inr (.inl (fun _ => 0)))), (q5, .inl (cA 0, 40, .inl (fun _ => 0))), (q6, .inl (cA 0, 40, .inl (fun _ => 0))), (q7, .inl (cA 0, 40, .inl (fun _ => 0))), (q8, .inl (cA 0, 40, .inl (fun _ => 0))), (q9, .inl (cA 0, 40, .inl (fun _ => 0)))] s.heap H _ := h
  refine tf_fin X hin (ci := 8) (k := 11) (fs' := [.ref q0, .ref q1, .ref q2, .int 0, .int 0, .ref q3, .ref q4, .ref q5, .ref q6, .ref q7, .ref q8, .ref q9, .null, .int 0, .int 0, .int 0, .int 0, .int 0, .null, .null, .null, .null]) h rfl in8 ty8 tk8 nm8 (by decide) x_f8_38 rfl rfl rfl rfl (Nat.le_of_ble_eq_true rfl) rfl dK8_init_81 (fun H locs h => ?_)
  refine lv_aload_n X.1 X.2.1 dK8_init_84 rfl (lv_at hl 0 rfl) ?_
  refine lv_bipush (v := 40) X.1 X.2.1 dK8_init_85 (by decide) ?_
  refine tf_newi X hA h (n := 40) (N' := 40) (by decide) rfl (by decide) (Nat.le_of_ble_eq_true rfl) (Nat.le_of_ble_eq_true rfl) dK8_init_87 (fun q10 H h => ?_)
  have h : tf_HC D A [(h0, .inr (8, [.ref q0, .ref q1, .ref q2, .int 0, .int 0, .ref q3, .ref q4, .ref q5, .ref q6, .ref q7, .ref q8, .ref q9, .null, .int 0, .int 0, .int 0, .int 0, .int 0, .null, .null, .null, .null])), (q0, .inl (cA 0, 40, .inl (fun _ => 0))), (q1, .inl (cA 0, 12, .inl (fun _ => 0))), (q2, .inl (cA 0, 12, .inl (fun _ => 0))), (q3, .inl (cA 1, 8, .inr (.inl (fun _ => 0)))), (q4, .inl (cA 1, 8, .inr (.inl (fun _ => 0)))), (q5, .inl (cA 0, 40, .inl (fun _ => 0))), (q6, .inl (cA 0, 40, .inl (fun _ => 0))), (q7, .inl (cA 0, 40, .inl (fun _ => 0))), (q8, .inl (cA 0, 40, .inl (fun _ => 0))), (q9, .inl (cA 0, 40, .inl (fun _ => 0))), (q10, .inl (cA 0, 40, .inl (fun _ => 0)))] s.heap H _ := h
  refine tf_fin X hin (ci := 8) (k := 12) (fs' := [.ref q0, .ref q1, .ref q2, .int 0, .int 0, .ref q3, .ref q4, .ref q5, .ref q6, .ref q7, .ref q8, .ref q9, .ref q10, .int 0, .int 0, .int 0, .int 0, .int 0, .null, .null, .null, .null]) h rfl in8 ty8 tk8 nm8 (by decide) x_f8_41 rfl rfl rfl rfl (Nat.le_of_ble_eq_true rfl) rfl dK8_init_89 (fun H locs h => ?_)
  refine lv_aload_n X.1 X.2.1 dK8_init_92 rfl (lv_at hl 0 rfl) ?_
  refine lv_sipush (v := 200) X.1 X.2.1 dK8_init_93 (by decide) ?_
  refine tf_newi X hA h (n := 200) (N' := 200) (by decide) rfl (by decide) (Nat.le_of_ble_eq_true rfl) (Nat.le_of_ble_eq_true rfl) dK8_init_96 (fun q11 H h => ?_)
  have h : tf_HC D A [(h0, .inr (8, [.ref q0, .ref q1, .ref q2, .int 0, .int 0, .ref q3, .ref q4, .ref q5, .ref q6, .ref q7, .ref q8, .ref q9, .ref q10, .int 0, .int 0, .int 0, .int 0, .int 0, .null, .null, .null, .null])), (q0, .inl (cA 0, 40, .inl (fun _ => 0))), (q1, .inl (cA 0, 12, .inl (fun _ => 0))), (q2, .inl (cA 0, 12, .inl (fun _ => 0))), (q3, .inl (cA 1, 8, .inr (.inl (fun _ => 0)))), (q4, .inl (cA 1, 8, .inr (.inl (fun _ => 0)))), (q5, .inl (cA 0, 40, .inl (fun _ => 0))), (q6, .inl (cA 0, 40, .inl (fun _ => 0))), (q7, .inl (cA 0, 40, .inl (fun _ => 0))), (q8, .inl (cA 0, 40, .inl (fun _ => 0))), (q9, .inl (cA 0, 40, .inl (fun _ => 0))), (q10, .inl (cA 0, 40, .inl (fun _ => 0))), (q11, .inl (cA 0, 200, .inl (fun _ => 0)))] s.heap H _ := h
  refine tf_fin X hin (ci := 8) (k := 18) (fs' := [.ref q0, .ref q1, .ref q2, .int 0, .int 0, .ref q3, .ref q4, .ref q5, .ref q6, .ref q7, .ref q8, .ref q9, .ref q10, .int 0, .int 0, .int 0, .int 0, .int 0, .ref q11, .null, .null, .null]) h rfl in8 ty8 tk8 nm8 (by decide) x_f8_44 rfl rfl rfl rfl (Nat.le_of_ble_eq_true rfl) rfl dK8_init_98 (fun H locs h => ?_)
  refine lv_aload_n X.1 X.2.1 dK8_init_101 rfl (lv_at hl 0 rfl) ?_
  refine lv_sipush (v := 200) X.1 X.2.1 dK8_init_102 (by decide) ?_
  refine tf_newi X hA h (n := 200) (N' := 200) (by decide) rfl (by decide) (Nat.le_of_ble_eq_true rfl) (Nat.le_of_ble_eq_true rfl) dK8_init_105 (fun q12 H h => ?_)
  have h : tf_HC D A [(h0, .inr (8, [.ref q0, .ref q1, .ref q2, .int 0, .int 0, .ref q3, .ref q4, .ref q5, .ref q6, .ref q7, .ref q8, .ref q9, .ref q10, .int 0, .int 0, .int 0, .int 0, .int 0, .ref q11, .null, .null, .null])), (q0, .inl (cA 0, 40, .inl (fun _ => 0))), (q1, .inl (cA 0, 12, .inl (fun _ => 0))), (q2, .inl (cA 0, 12, .inl (fun _ => 0))), (q3, .inl (cA 1, 8, .inr (.inl (fun _ => 0)))), (q4, .inl (cA 1, 8, .inr (.inl (fun _ => 0)))), (q5, .inl (cA 0, 40, .inl (fun _ => 0))), (q6, .inl (cA 0, 40, .inl (fun _ => 0))), (q7, .inl (cA 0, 40, .inl (fun _ => 0))), (q8, .inl (cA 0, 40, .inl (fun _ => 0))), (q9, .inl (cA 0, 40, .inl (fun _ => 0))), (q10, .inl (cA 0, 40, .inl (fun _ => 0))), (q11, .inl (cA 0, 200, .inl (fun _ => 0))), (q12, .inl (cA 0, 200, .inl (fun _ => 0)))] s.heap H _ := h
  refine tf_fin X hin (ci := 8) (k := 19) (fs' := [.ref q0, .ref q1, .ref q2, .int 0, .int 0, .ref q3, .ref q4, .ref q5, .ref q6, .ref q7, .ref q8, .ref q9, .ref q10, .int 0, .int 0, .int 0, .int 0, .int 0, .ref q11, .ref q12, .null, .null]) h rfl in8 ty8 tk8 nm8 (by decide) x_f8_47 rfl rfl rfl rfl (Nat.le_of_ble_eq_true rfl) rfl dK8_init_107 (fun H locs h => ?_)
  refine lv_aload_n X.1 X.2.1 dK8_init_110 rfl (lv_at hl 0 rfl) ?_
  refine lv_sipush (v := 200) X.1 X.2.1 dK8_init_111 (by decide) ?_
  refine tf_newi X hA h (n := 200) (N' := 200) (by decide) rfl (by decide) (Nat.le_of_ble_eq_true rfl) (Nat.le_of_ble_eq_true rfl) dK8_init_114 (fun q13 H h => ?_)
  have h : tf_HC D A [(h0, .inr (8, [.ref q0, .ref q1, .ref q2, .int 0, .int 0, .ref q3, .ref q4, .ref q5, .ref q6, .ref q7, .ref q8, .ref q9, .ref q10, .int 0, .int 0, .int 0, .int 0, .int 0, .ref q11, .ref q12, .null, .null])), (q0, .inl (cA 0, 40, .inl (fun _ => 0))), (q1, .inl (cA 0, 12, .inl (fun _ => 0))), (q2, .inl (cA 0, 12, .inl (fun _ => 0))), (q3, .inl (cA 1, 8, .inr (.inl (fun _ => 0)))), (q4, .inl (cA 1, 8, .inr (.inl (fun _ => 0)))), (q5, .inl (cA 0, 40, .inl (fun _ => 0))), (q6, .inl (cA 0, 40, .inl (fun _ => 0))), (q7, .inl (cA 0, 40, .inl (fun _ => 0))), (q8, .inl (cA 0, 40, .inl (fun _ => 0))), (q9, .inl (cA 0, 40, .inl (fun _ => 0))), (q10, .inl (cA 0, 40, .inl (fun _ => 0))), (q11, .inl (cA 0, 200, .inl (fun _ => 0))), (q12, .inl (cA 0, 200, .inl (fun _ => 0))), (q13, .inl (cA 0, 200, .inl (fun _ => 0)))] s.heap H _ := h
  refine tf_fin X hin (ci := 8) (k := 20) (fs' := [.ref q0, .ref q1, .ref q2, .int 0, .int 0, .ref q3, .ref q4, .ref q5, .ref q6, .ref q7, .ref q8, .ref q9, .ref q10, .int 0, .int 0, .int 0, .int 0, .int 0, .ref q11, .ref q12, .ref q13, .null]) h rfl in8 ty8 tk8 nm8 (by decide) x_f8_50 rfl rfl rfl rfl (Nat.le_of_ble_eq_true rfl) rfl dK8_init_116 (fun H locs h => ?_)
  refine lv_aload_n X.1 X.2.1 dK8_init_119 rfl (lv_at hl 0 rfl) ?_
  refine lv_sipush (v := 200) X.1 X.2.1 dK8_init_120 (by decide) ?_
  refine tf_newi X hA h (n := 200) (N' := 200) (by decide) rfl (by decide) (Nat.le_of_ble_eq_true rfl) (Nat.le_of_ble_eq_true rfl) dK8_init_123 (fun q14 H h => ?_)
  have h : tf_HC D A [(h0, .inr (8, [.ref q0, .ref q1, .ref q2, .int 0, .int 0, .ref q3, .ref q4, .ref q5, .ref q6, .ref q7, .ref q8, .ref q9, .ref q10, .int 0, .int 0, .int 0, .int 0, .int 0, .ref q11, .ref q12, .ref q13, .null])), (q0, .inl (cA 0, 40, .inl (fun _ => 0))), (q1, .inl (cA 0, 12, .inl (fun _ => 0))), (q2, .inl (cA 0, 12, .inl (fun _ => 0))), (q3, .inl (cA 1, 8, .inr (.inl (fun _ => 0)))), (q4, .inl (cA 1, 8, .inr (.inl (fun _ => 0)))), (q5, .inl (cA 0, 40, .inl (fun _ => 0))), (q6, .inl (cA 0, 40, .inl (fun _ => 0))), (q7, .inl (cA 0, 40, .inl (fun _ => 0))), (q8, .inl (cA 0, 40, .inl (fun _ => 0))), (q9, .inl (cA 0, 40, .inl (fun _ => 0))), (q10, .inl (cA 0, 40, .inl (fun _ => 0))), (q11, .inl (cA 0, 200, .inl (fun _ => 0))), (q12, .inl (cA 0, 200, .inl (fun _ => 0))), (q13, .inl (cA 0, 200, .inl (fun _ => 0))), (q14, .inl (cA 0, 200, .inl (fun _ => 0)))] s.heap H _ := h
  refine tf_fin X hin (ci := 8) (k := 21) (fs' := [.ref q0, .ref q1, .ref q2, .int 0, .int 0, .ref q3, .ref q4, .ref q5, .ref q6, .ref q7, .ref q8, .ref q9, .ref q10, .int 0, .int 0, .int 0, .int 0, .int 0, .ref q11, .ref q12, .ref q13, .ref q14]) h rfl in8 ty8 tk8 nm8 (by decide) x_f8_53 rfl rfl rfl rfl (Nat.le_of_ble_eq_true rfl) rfl dK8_init_125 (fun H locs h => ?_)
  have h : tf_HC D A [(h0, .inr (8, [.ref q0, .ref q1, .ref q2, .int 0, .int 0, .ref q3, .ref q4, .ref q5, .ref q6, .ref q7, .ref q8, .ref q9, .ref q10, .int 0, .int 0, .int 0, .int 0, .int 0, .ref q11, .ref q12, .ref q13, .ref q14])), (q0, .inl (cA 0, 40, .inl (fun _ => 0))), (q1, .inl (cA 0, 12, .inl (fun _ => 0))), (q2, .inl (cA 0, 12, .inl (fun _ => 0))), (q3, .inl (cA 1, 8, .inr (.inl (fun _ => 0)))), (q4, .inl (cA 1, 8, .inr (.inl (fun _ => 0)))), (q5, .inl (cA 0, 40, .inl (fun _ => 0))), (q6, .inl (cA 0, 40, .inl (fun _ => 0))), (q7, .inl (cA 0, 40, .inl (fun _ => 0))), (q8, .inl (cA 0, 40, .inl (fun _ => 0))), (q9, .inl (cA 0, 40, .inl (fun _ => 0))), (q10, .inl (cA 0, 40, .inl (fun _ => 0))), (q11, .inl (cA 0, 200, .inl (fun _ => 0))), (q12, .inl (cA 0, 200, .inl (fun _ => 0))), (q13, .inl (cA 0, 200, .inl (fun _ => 0))), (q14, .inl (cA 0, 200, .inl (fun _ => 0)))] s.heap H locs := h
  exact fin _ _ (fun j => [q0, q1, q2, q3, q4, q5, q6, q7, q8, q9, q10, q11, q12, q13, q14].getD j 0) _ _ h dK8_init_128
