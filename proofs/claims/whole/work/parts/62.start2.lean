/-! THE LAW, from its entry -/
theorem va_P.right {D : va_G} {cl : List vw_C} {w1 w2 : va_W} {H : Heap} (h : va_P D cl (w1 ++ w2) H) : va_P D cl w2 H := fun k q hk => h (w1.length + k) q (by rw [List.getElem?_append_right (Nat.le_add_right _ _), Nat.add_sub_cancel_left]; exact hk)
theorem va_D.rightI {A : Nat → Prop} {w1 w2 : va_W} (k : Nat) (q : Nat × va_E) (hk : w2[k]? = some q) : (w1 ++ w2)[w1.length + k]? = some q := by rw [List.getElem?_append_right (Nat.le_add_right _ _), Nat.add_sub_cancel_left]; exact hk
theorem va_D.right {A : Nat → Prop} {w1 w2 : va_W} (h : va_D A (w1 ++ w2)) : va_D A w2 :=
  ⟨fun i j p q hi hj e => by
    have := h.1 _ _ p q (va_D.rightI (A := A) i p hi) (va_D.rightI (A := A) j q hj) e
    omega, fun k q hk => h.2 _ q (va_D.rightI (A := A) k q hk)⟩
theorem va_D.apart {A : Nat → Prop} {w1 w2 : va_W} (h : va_D A (w1 ++ w2)) {i j : Nat} {p q : Nat × va_E} (hi : w1[i]? = some p) (hj : w2[j]? = some q) : p.1 ≠ q.1 := by
  intro e
  have hl := (List.getElem?_eq_some_iff.mp hi).1
  have := h.1 i _ p q (by rw [List.getElem?_append_left hl]; exact hi) (va_D.rightI (A := A) j q hj) e
  omega
theorem inv0 : lw_I z0I z0L z0I z0L 0 := by
  refine ⟨0, 0, ⟨rfl, by omega, fun k hk => absurd hk (by omega), ⟨0, by omega, rfl⟩, fun t ht => ⟨rfl, rfl, ⟨0, by omega, ?_⟩, ⟨0, by omega, ?_⟩⟩⟩, fun _ _ _ => rfl, ⟨rfl, rfl⟩, by omega, rfl, rfl⟩
  · show (0 : Int64) - 0 = lN 0; decide
  · show (0 : Int64) - 0 = lN 0; decide
set_option maxHeartbeats 4000000 in
set_option maxRecDepth 100000 in
theorem whole_start {p : Program} {e : Env} {s : State} {m : MethodId} {below : List Frame} {meth : Method} {c : Code} (l : Launch) {b L : Nat} {xs : Nat → Int32} (hL : L ≤ 2048) (C0 : lw_At p s m meth c b L xs) : W p l e room_1 s m #[Value.ref b] below meth c s.heap [] 0 0 (lw_Z below #[Value.ref b] s) (entryFrame m ([Value.ref b] : List Value).toArray 4) := by
  obtain ⟨hx, hb, hr, hml, hown, hts, hX, hbl, hlocks, hgv⟩ := id C0
  have hA : ∀ q : Nat, s.heap.size ≤ q → (fun q : Nat => s.heap.size ≤ q) q := fun _ h => h
  obtain ⟨D, cA, hK⟩ := lw_K hts
  obtain ⟨sK, sV, hSb⟩ := tf_Sof (A := fun q => s.heap.size ≤ q) hts hgv (fun a ha q => absurd q (Nat.not_le.mpr ha))
  have htg : ∀ w ∈ gT, w.before #[Value.ref b] s = true := fun w hw => hts w (gT_sub hw)
  have X : tf_XC D cA "TradeFloorLaw" code 4 p s m #[Value.ref b] c := ⟨hx, hb, hml, hown, htg, hK, lw_N hts⟩
  have h : tf_HC D (fun q => s.heap.size ≤ q) [] s.heap s.heap [] := ⟨fun k q h => by simp at h, ⟨fun i j p q h => by simp at h, fun k q h => by simp at h⟩, va_S.rf⟩
  have hl := lv_entry ([.ref b]) (n := 4) (Nat.le_of_ble_eq_true rfl)
  rw [lg_entry_eq]
  generalize (lg_sl ([.ref b]) ++ List.replicate (4 - (lg_sl ([.ref b])).length) Slot.unset).toArray = ls at hl ⊢
  have hl : lv_has ls 4 [(0, .ref b)] := hl
  refine tf_make (ci := 7) (nf := 4) X hA h rfl in7 ty7 tk7 (fun j hj => by rcases (show j = 0 ∨ j = 1 ∨ j = 2 ∨ j = 3 by omega) with rfl | rfl | rfl | rfl <;> rfl) x_k_L_7 x_n7 x_z7 x_c7 x_i7 rfl (by decide +kernel) (Or.inr x_l_L_9) con7 ⟨Nat.le_of_ble_eq_true rfl, Nat.le_of_ble_eq_true rfl⟩ (Nat.le_of_ble_eq_true rfl) (Nat.le_of_ble_eq_true rfl) hl.1 (Nat.le_of_ble_eq_true rfl) dL_0 dL_3 dL_4 (fun q7 v7 H locs h => ?_)
  refine lv_astore_n (lv' := [(1, .ref q7), (0, .ref b)]) hx hb dL_7 rfl hl (by decide) rfl (fun ls hl => ?_)
  refine tf_make (ci := 8) (nf := 22) X hA h rfl in8 ty8 tk8 (fun j hj => by rcases (show j = 0 ∨ j = 1 ∨ j = 2 ∨ j = 3 ∨ j = 4 ∨ j = 5 ∨ j = 6 ∨ j = 7 ∨ j = 8 ∨ j = 9 ∨ j = 10 ∨ j = 11 ∨ j = 12 ∨ j = 13 ∨ j = 14 ∨ j = 15 ∨ j = 16 ∨ j = 17 ∨ j = 18 ∨ j = 19 ∨ j = 20 ∨ j = 21 by omega) with rfl | rfl | rfl | rfl | rfl | rfl | rfl | rfl | rfl | rfl | rfl | rfl | rfl | rfl | rfl | rfl | rfl | rfl | rfl | rfl | rfl | rfl <;> rfl) x_k_L_10 x_n8 x_z8 x_c8 x_i8 rfl (by decide +kernel) (Or.inr x_l_L_12) con8 ⟨Nat.le_of_ble_eq_true rfl, Nat.le_of_ble_eq_true rfl⟩ (Nat.le_of_ble_eq_true rfl) (Nat.le_of_ble_eq_true rfl) hl.1 (Nat.le_of_ble_eq_true rfl) dL_8 dL_11 dL_12 (fun q8 v8 H locs h => ?_)
  refine lv_astore_n (lv' := [(2, .ref q8), (1, .ref q7), (0, .ref b)]) hx hb dL_15 rfl hl (by decide) rfl (fun ls hl => ?_)
  refine lv_iconst (v := 0) hx hb dL_16 (by decide) ?_
  refine lv_istore_n (lv' := [(3, .int 0), (2, .ref q8), (1, .ref q7), (0, .ref b)]) hx hb dL_17 rfl hl (by decide) rfl (fun ls hl => ?_)
  have h : tf_HC D (fun q => s.heap.size ≤ q) (wC7 cA q7 v7 ++ wC8 cA q8 v8) s.heap H locs := h
  obtain ⟨hP, hD, hS⟩ := h
  obtain ⟨p7, j7, b7⟩ := w7_of (sK := sK) (sV := sV) hP.left hD.left
  obtain ⟨p8, j8, b8⟩ := w8_of (sK := sK) (sV := sV) hP.right hD.right
  have ap : ∀ i j, i < 63 → j < 16 → al7 q7 v7 i ≠ al8 q8 v8 j := by
    intro i j hi hj
    obtain ⟨e1, h1, -⟩ := w7_e (D := D) (cA := cA) (H := H) (h0 := q7) (v := v7) (sK := sK) (sV := sV) i hi
    exact hD.apart h1 (w8_e (D := D) (cA := cA) (sK := sK) (sV := sV) j hj)
  refine lw_loop (D := D) (cA := cA) (a7 := al7 q7 v7) (a8 := al8 q8 v8) (sK := sK) (sV := sV) ⟨hx, hb, hml, hown, htg, hK, hSb D (al7 q7 v7) cA, j7, j8, b7, b8, ap⟩ hX hbl hL ⟨Nat.le_of_ble_eq_true rfl, Nat.le_of_ble_eq_true rfl⟩ (fun H locs ls hS => ?_) 513 0 z0I z0L z0I z0L H locs ls rfl inv0 ⟨p7, p8, hS⟩ (lv_sub hl [3, 2, 1, 0] rfl)
  refine lv_iconst (v := 1) hx hb dL_284 (by decide) ?_
  refine va_forget (fun q hq => hS.2.2 q hq) ?_
  refine W.widen (k := 600000) (n := 7302249) (Nat.le_of_ble_eq_true rfl) (Nat.le_of_ble_eq_true rfl) ?_
  exact lw_ret hx hb hr hlocks dL_285
