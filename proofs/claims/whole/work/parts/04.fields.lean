theorem in0 : ∀ w ∈ u_ws "TradeFloor$Account" T0 4, w ∈ gT := by
  have h : u_ws "TradeFloor$Account" T0 4 = [243, 245, 247, 249].filterMap (fun i => lw_tbl[i]?) := by decide +kernel
  have h2 : (u_ws "TradeFloor$Account" T0 4).all goodWord = true := by decide +kernel
  intro w hw
  have h3 := List.all_eq_true.mp h2 w hw
  rw [h] at hw
  obtain ⟨i, -, hi⟩ := List.mem_filterMap.mp hw
  exact gmem i hi h3
theorem in1 : ∀ w ∈ u_ws "TradeFloor$Command" T1 9, w ∈ gT := by
  have h : u_ws "TradeFloor$Command" T1 9 = [121, 123, 125, 127, 129, 131, 133, 135, 137].filterMap (fun i => lw_tbl[i]?) := by decide +kernel
  have h2 : (u_ws "TradeFloor$Command" T1 9).all goodWord = true := by decide +kernel
  intro w hw
  have h3 := List.all_eq_true.mp h2 w hw
  rw [h] at hw
  obtain ⟨i, -, hi⟩ := List.mem_filterMap.mp hw
  exact gmem i hi h3
theorem in2 : ∀ w ∈ u_ws "TradeFloor$Exchange" T2 5, w ∈ gT := by
  have h : u_ws "TradeFloor$Exchange" T2 5 = [262, 264, 266, 268, 270].filterMap (fun i => lw_tbl[i]?) := by decide +kernel
  have h2 : (u_ws "TradeFloor$Exchange" T2 5).all goodWord = true := by decide +kernel
  intro w hw
  have h3 := List.all_eq_true.mp h2 w hw
  rw [h] at hw
  obtain ⟨i, -, hi⟩ := List.mem_filterMap.mp hw
  exact gmem i hi h3
theorem in3 : ∀ w ∈ u_ws "TradeFloor$Order" T3 6, w ∈ gT := by
  have h : u_ws "TradeFloor$Order" T3 6 = [179, 181, 183, 185, 187, 189].filterMap (fun i => lw_tbl[i]?) := by decide +kernel
  have h2 : (u_ws "TradeFloor$Order" T3 6).all goodWord = true := by decide +kernel
  intro w hw
  have h3 := List.all_eq_true.mp h2 w hw
  rw [h] at hw
  obtain ⟨i, -, hi⟩ := List.mem_filterMap.mp hw
  exact gmem i hi h3
theorem in4 : ∀ w ∈ u_ws "TradeFloor$Orders" T4 2, w ∈ gT := by
  have h : u_ws "TradeFloor$Orders" T4 2 = [198, 200].filterMap (fun i => lw_tbl[i]?) := by decide +kernel
  have h2 : (u_ws "TradeFloor$Orders" T4 2).all goodWord = true := by decide +kernel
  intro w hw
  have h3 := List.all_eq_true.mp h2 w hw
  rw [h] at hw
  obtain ⟨i, -, hi⟩ := List.mem_filterMap.mp hw
  exact gmem i hi h3
theorem in5 : ∀ w ∈ u_ws "TradeFloor$Tape" T5 5, w ∈ gT := by
  have h : u_ws "TradeFloor$Tape" T5 5 = [81, 83, 85, 87, 89].filterMap (fun i => lw_tbl[i]?) := by decide +kernel
  have h2 : (u_ws "TradeFloor$Tape" T5 5).all goodWord = true := by decide +kernel
  intro w hw
  have h3 := List.all_eq_true.mp h2 w hw
  rw [h] at hw
  obtain ⟨i, -, hi⟩ := List.mem_filterMap.mp hw
  exact gmem i hi h3
theorem in6 : ∀ w ∈ u_ws "TradeFloor$Trades" T6 5, w ∈ gT := by
  have h : u_ws "TradeFloor$Trades" T6 5 = [215, 217, 219, 221, 223].filterMap (fun i => lw_tbl[i]?) := by decide +kernel
  have h2 : (u_ws "TradeFloor$Trades" T6 5).all goodWord = true := by decide +kernel
  intro w hw
  have h3 := List.all_eq_true.mp h2 w hw
  rw [h] at hw
  obtain ⟨i, -, hi⟩ := List.mem_filterMap.mp hw
  exact gmem i hi h3
theorem in7 : ∀ w ∈ u_ws "TradeFloor" T7 4, w ∈ gT := by
  have h : u_ws "TradeFloor" T7 4 = [277, 279, 281, 283].filterMap (fun i => lw_tbl[i]?) := by decide +kernel
  have h2 : (u_ws "TradeFloor" T7 4).all goodWord = true := by decide +kernel
  intro w hw
  have h3 := List.all_eq_true.mp h2 w hw
  rw [h] at hw
  obtain ⟨i, -, hi⟩ := List.mem_filterMap.mp hw
  exact gmem i hi h3
theorem in8 : ∀ w ∈ u_ws "TradeFloorModel" T8 22, w ∈ gT := by
  have h : u_ws "TradeFloorModel" T8 22 = [638, 640, 642, 644, 646, 648, 650, 652, 654, 656, 658, 660, 662, 664, 666, 668, 670, 672, 674, 676, 678, 680].filterMap (fun i => lw_tbl[i]?) := by decide +kernel
  have h2 : (u_ws "TradeFloorModel" T8 22).all goodWord = true := by decide +kernel
  intro w hw
  have h3 := List.all_eq_true.mp h2 w hw
  rw [h] at hw
  obtain ⟨i, -, hi⟩ := List.mem_filterMap.mp hw
  exact gmem i hi h3
def cE (G : tf_G) (I : FI) (L : FL) (k : Nat) : va_E := match k with
  | 0 => .inr (7, [.ref (al G 1), .ref (al G 5), .ref (al G 6), .int (I 11 3)])
  | 1 => .inr (5, [.ref (al G 2), .ref (al G 3), .ref (al G 4), .int (I 11 0), .int (I 12 0)])
  | 2 => .inl (ca G 0, 40, .inl (I 6))
  | 3 => .inl (ca G 0, 7, .inl (I 13))
  | 4 => .inl (ca G 0, 7, .inl (I 14))
  | 5 => .inr (1, [.int (I 15 0), .int (I 15 1), .int (I 15 2), .int (I 15 3), .int (I 15 4), .int (I 15 5), .int (I 15 6), .int (I 15 7), .int (I 15 8)])
  | 6 => .inr (2, [.ref (al G 7), .ref (al G 8), .ref (al G 10), .int (I 11 4), .int (I 11 5)])
  | 7 => .inl (ca G 3, 8, .inr (.inr (.inr (.inr (fun t => some (al G (t + 15)))))))
  | 8 => .inr (4, [.ref (al G 9), .int (I 11 1)])
  | 9 => .inl (ca G 2, 40, .inr (.inr (.inr (.inr (fun t => some (al G (t + 23)))))))
  | 10 => .inr (6, [.ref (al G 11), .ref (al G 12), .ref (al G 13), .ref (al G 14), .int (I 11 2)])
  | 11 => .inl (ca G 0, 200, .inl (I 7))
  | 12 => .inl (ca G 0, 200, .inl (I 8))
  | 13 => .inl (ca G 0, 200, .inl (I 9))
  | 14 => .inl (ca G 0, 200, .inl (I 10))
  | j + 15 => if j < 8 then .inr (0, [.long (L 0 j), .long (L 1 j), .long (L 2 j), .long (L 3 j)]) else .inr (3, [.int (I 0 (j - 8)), .int (I 1 (j - 8)), .int (I 2 (j - 8)), .int (I 3 (j - 8)), .int (I 4 (j - 8)), .int (I 5 (j - 8))])
def rE (G : tf_G) (I : FI) (L : FL) (k : Nat) : va_E := match k with
  | 0 => .inr (8, [.ref (al G 1), .ref (al G 2), .ref (al G 3), .int (I 11 0), .int (I 12 0), .ref (al G 4), .ref (al G 5), .ref (al G 6), .ref (al G 7), .ref (al G 8), .ref (al G 9), .ref (al G 10), .ref (al G 11), .int (I 11 1), .int (I 11 2), .int (I 11 3), .int (I 11 4), .int (I 11 5), .ref (al G 12), .ref (al G 13), .ref (al G 14), .ref (al G 15)])
  | 1 => .inl (ca G 0, 40, .inl (I 6))
  | 2 => .inl (ca G 0, 12, .inl (I 13))
  | 3 => .inl (ca G 0, 12, .inl (I 14))
  | 4 => .inl (ca G 1, 8, .inr (.inl (L 0)))
  | 5 => .inl (ca G 1, 8, .inr (.inl (L 1)))
  | 6 => .inl (ca G 0, 40, .inl (I 0))
  | 7 => .inl (ca G 0, 40, .inl (I 1))
  | 8 => .inl (ca G 0, 40, .inl (I 2))
  | 9 => .inl (ca G 0, 40, .inl (I 3))
  | 10 => .inl (ca G 0, 40, .inl (I 4))
  | 11 => .inl (ca G 0, 40, .inl (I 5))
  | 12 => .inl (ca G 0, 200, .inl (I 7))
  | 13 => .inl (ca G 0, 200, .inl (I 8))
  | 14 => .inl (ca G 0, 200, .inl (I 9))
  | 15 => .inl (ca G 0, 200, .inl (I 10))
  | _ => .inr (0, [])
theorem cE_ac {G : tf_G} {I : FI} {L : FL} (x : Fin 8) : cE G I L (x.val + 15) = .inr (0, [.long (L 0 x.val), .long (L 1 x.val), .long (L 2 x.val), .long (L 3 x.val)]) := by
  show (if x.val < 8 then _ else _) = _
  rw [if_pos x.isLt]
theorem cE_or {G : tf_G} {I : FI} {L : FL} (x : Fin 40) : cE G I L (x.val + 23) = .inr (3, [.int (I 0 x.val), .int (I 1 x.val), .int (I 2 x.val), .int (I 3 x.val), .int (I 4 x.val), .int (I 5 x.val)]) := by
  rw [show x.val + 23 = (x.val + 8) + 15 from rfl]
  simp only [cE]
  rw [if_neg (by omega), Nat.add_sub_cancel]
theorem cne_ac_0 {G : tf_G} {I : FI} {L : FL} {v : Int64} (x : Fin 8) {j : Nat} (hn : j ≠ x.val + 15) : cE G I (sL L 0 x.val v) j = cE G I L j := by
  unfold cE; split <;> first | rfl | skip
  rename_i k
  have h9 : ¬ (k = x.val) := by omega
  simp [sL, h9]
theorem cne_ac_1 {G : tf_G} {I : FI} {L : FL} {v : Int64} (x : Fin 8) {j : Nat} (hn : j ≠ x.val + 15) : cE G I (sL L 1 x.val v) j = cE G I L j := by
  unfold cE; split <;> first | rfl | skip
  rename_i k
  have h9 : ¬ (k = x.val) := by omega
  simp [sL, h9]
theorem cne_ac_2 {G : tf_G} {I : FI} {L : FL} {v : Int64} (x : Fin 8) {j : Nat} (hn : j ≠ x.val + 15) : cE G I (sL L 2 x.val v) j = cE G I L j := by
  unfold cE; split <;> first | rfl | skip
  rename_i k
  have h9 : ¬ (k = x.val) := by omega
  simp [sL, h9]
theorem cne_ac_3 {G : tf_G} {I : FI} {L : FL} {v : Int64} (x : Fin 8) {j : Nat} (hn : j ≠ x.val + 15) : cE G I (sL L 3 x.val v) j = cE G I L j := by
  unfold cE; split <;> first | rfl | skip
  rename_i k
  have h9 : ¬ (k = x.val) := by omega
  simp [sL, h9]
theorem cne_15_0 {G : tf_G} {I : FI} {L : FL} {v : Int32} {j : Nat} (hn : j ≠ 5) : cE G (sI I 15 0 v) L j = cE G I L j := by
  unfold cE; split <;> first | exact absurd rfl hn | rfl | simp [sI, sL]
theorem cne_15_1 {G : tf_G} {I : FI} {L : FL} {v : Int32} {j : Nat} (hn : j ≠ 5) : cE G (sI I 15 1 v) L j = cE G I L j := by
  unfold cE; split <;> first | exact absurd rfl hn | rfl | simp [sI, sL]
theorem cne_15_2 {G : tf_G} {I : FI} {L : FL} {v : Int32} {j : Nat} (hn : j ≠ 5) : cE G (sI I 15 2 v) L j = cE G I L j := by
  unfold cE; split <;> first | exact absurd rfl hn | rfl | simp [sI, sL]
theorem cne_15_3 {G : tf_G} {I : FI} {L : FL} {v : Int32} {j : Nat} (hn : j ≠ 5) : cE G (sI I 15 3 v) L j = cE G I L j := by
  unfold cE; split <;> first | exact absurd rfl hn | rfl | simp [sI, sL]
theorem cne_15_4 {G : tf_G} {I : FI} {L : FL} {v : Int32} {j : Nat} (hn : j ≠ 5) : cE G (sI I 15 4 v) L j = cE G I L j := by
  unfold cE; split <;> first | exact absurd rfl hn | rfl | simp [sI, sL]
theorem cne_15_5 {G : tf_G} {I : FI} {L : FL} {v : Int32} {j : Nat} (hn : j ≠ 5) : cE G (sI I 15 5 v) L j = cE G I L j := by
  unfold cE; split <;> first | exact absurd rfl hn | rfl | simp [sI, sL]
theorem cne_15_6 {G : tf_G} {I : FI} {L : FL} {v : Int32} {j : Nat} (hn : j ≠ 5) : cE G (sI I 15 6 v) L j = cE G I L j := by
  unfold cE; split <;> first | exact absurd rfl hn | rfl | simp [sI, sL]
theorem cne_15_7 {G : tf_G} {I : FI} {L : FL} {v : Int32} {j : Nat} (hn : j ≠ 5) : cE G (sI I 15 7 v) L j = cE G I L j := by
  unfold cE; split <;> first | exact absurd rfl hn | rfl | simp [sI, sL]
theorem cne_15_8 {G : tf_G} {I : FI} {L : FL} {v : Int32} {j : Nat} (hn : j ≠ 5) : cE G (sI I 15 8 v) L j = cE G I L j := by
  unfold cE; split <;> first | exact absurd rfl hn | rfl | simp [sI, sL]
theorem cne_11_4 {G : tf_G} {I : FI} {L : FL} {v : Int32} {j : Nat} (hn : j ≠ 6) : cE G (sI I 11 4 v) L j = cE G I L j := by
  unfold cE; split <;> first | exact absurd rfl hn | rfl | simp [sI, sL]
theorem cne_11_5 {G : tf_G} {I : FI} {L : FL} {v : Int32} {j : Nat} (hn : j ≠ 6) : cE G (sI I 11 5 v) L j = cE G I L j := by
  unfold cE; split <;> first | exact absurd rfl hn | rfl | simp [sI, sL]
theorem cne_or_0 {G : tf_G} {I : FI} {L : FL} {v : Int32} (x : Fin 40) {j : Nat} (hn : j ≠ x.val + 23) : cE G (sI I 0 x.val v) L j = cE G I L j := by
  unfold cE; split <;> first | rfl | simp [sI] | skip
  rename_i k
  by_cases hk : k < 8
  · simp [hk]
  · have h9 : ¬ (k - 8 = x.val) := by omega
    simp [hk, h9]
theorem cne_or_1 {G : tf_G} {I : FI} {L : FL} {v : Int32} (x : Fin 40) {j : Nat} (hn : j ≠ x.val + 23) : cE G (sI I 1 x.val v) L j = cE G I L j := by
  unfold cE; split <;> first | rfl | simp [sI] | skip
  rename_i k
  by_cases hk : k < 8
  · simp [hk]
  · have h9 : ¬ (k - 8 = x.val) := by omega
    simp [hk, h9]
theorem cne_or_2 {G : tf_G} {I : FI} {L : FL} {v : Int32} (x : Fin 40) {j : Nat} (hn : j ≠ x.val + 23) : cE G (sI I 2 x.val v) L j = cE G I L j := by
  unfold cE; split <;> first | rfl | simp [sI] | skip
  rename_i k
  by_cases hk : k < 8
  · simp [hk]
  · have h9 : ¬ (k - 8 = x.val) := by omega
    simp [hk, h9]
theorem cne_or_3 {G : tf_G} {I : FI} {L : FL} {v : Int32} (x : Fin 40) {j : Nat} (hn : j ≠ x.val + 23) : cE G (sI I 3 x.val v) L j = cE G I L j := by
  unfold cE; split <;> first | rfl | simp [sI] | skip
  rename_i k
  by_cases hk : k < 8
  · simp [hk]
  · have h9 : ¬ (k - 8 = x.val) := by omega
    simp [hk, h9]
theorem cne_or_4 {G : tf_G} {I : FI} {L : FL} {v : Int32} (x : Fin 40) {j : Nat} (hn : j ≠ x.val + 23) : cE G (sI I 4 x.val v) L j = cE G I L j := by
  unfold cE; split <;> first | rfl | simp [sI] | skip
  rename_i k
  by_cases hk : k < 8
  · simp [hk]
  · have h9 : ¬ (k - 8 = x.val) := by omega
    simp [hk, h9]
theorem cne_or_5 {G : tf_G} {I : FI} {L : FL} {v : Int32} (x : Fin 40) {j : Nat} (hn : j ≠ x.val + 23) : cE G (sI I 5 x.val v) L j = cE G I L j := by
  unfold cE; split <;> first | rfl | simp [sI] | skip
  rename_i k
  by_cases hk : k < 8
  · simp [hk]
  · have h9 : ¬ (k - 8 = x.val) := by omega
    simp [hk, h9]
theorem cne_11_1 {G : tf_G} {I : FI} {L : FL} {v : Int32} {j : Nat} (hn : j ≠ 8) : cE G (sI I 11 1 v) L j = cE G I L j := by
  unfold cE; split <;> first | exact absurd rfl hn | rfl | simp [sI, sL]
theorem cne_11_0 {G : tf_G} {I : FI} {L : FL} {v : Int32} {j : Nat} (hn : j ≠ 1) : cE G (sI I 11 0 v) L j = cE G I L j := by
  unfold cE; split <;> first | exact absurd rfl hn | rfl | simp [sI, sL]
theorem cne_12_0 {G : tf_G} {I : FI} {L : FL} {v : Int32} {j : Nat} (hn : j ≠ 1) : cE G (sI I 12 0 v) L j = cE G I L j := by
  unfold cE; split <;> first | exact absurd rfl hn | rfl | simp [sI, sL]
theorem cne_11_2 {G : tf_G} {I : FI} {L : FL} {v : Int32} {j : Nat} (hn : j ≠ 10) : cE G (sI I 11 2 v) L j = cE G I L j := by
  unfold cE; split <;> first | exact absurd rfl hn | rfl | simp [sI, sL]
theorem cne_11_3 {G : tf_G} {I : FI} {L : FL} {v : Int32} {j : Nat} (hn : j ≠ 0) : cE G (sI I 11 3 v) L j = cE G I L j := by
  unfold cE; split <;> first | exact absurd rfl hn | rfl | simp [sI, sL]
theorem cne_a2 {G : tf_G} {I : FI} {L : FL} {i : Nat} {v : Int32} {j : Nat} (hn : j ≠ 2) : cE G (sI I 6 i v) L j = cE G I L j := by
  unfold cE; split <;> first | exact absurd rfl hn | rfl | simp [sI, sL]
theorem cne_a3 {G : tf_G} {I : FI} {L : FL} {i : Nat} {v : Int32} {j : Nat} (hn : j ≠ 3) : cE G (sI I 13 i v) L j = cE G I L j := by
  unfold cE; split <;> first | exact absurd rfl hn | rfl | simp [sI, sL]
theorem cne_a4 {G : tf_G} {I : FI} {L : FL} {i : Nat} {v : Int32} {j : Nat} (hn : j ≠ 4) : cE G (sI I 14 i v) L j = cE G I L j := by
  unfold cE; split <;> first | exact absurd rfl hn | rfl | simp [sI, sL]
theorem cne_a11 {G : tf_G} {I : FI} {L : FL} {i : Nat} {v : Int32} {j : Nat} (hn : j ≠ 11) : cE G (sI I 7 i v) L j = cE G I L j := by
  unfold cE; split <;> first | exact absurd rfl hn | rfl | simp [sI, sL]
theorem cne_a12 {G : tf_G} {I : FI} {L : FL} {i : Nat} {v : Int32} {j : Nat} (hn : j ≠ 12) : cE G (sI I 8 i v) L j = cE G I L j := by
  unfold cE; split <;> first | exact absurd rfl hn | rfl | simp [sI, sL]
theorem cne_a13 {G : tf_G} {I : FI} {L : FL} {i : Nat} {v : Int32} {j : Nat} (hn : j ≠ 13) : cE G (sI I 9 i v) L j = cE G I L j := by
  unfold cE; split <;> first | exact absurd rfl hn | rfl | simp [sI, sL]
theorem cne_a14 {G : tf_G} {I : FI} {L : FL} {i : Nat} {v : Int32} {j : Nat} (hn : j ≠ 14) : cE G (sI I 10 i v) L j = cE G I L j := by
  unfold cE; split <;> first | exact absurd rfl hn | rfl | simp [sI, sL]
theorem rne_11_0 {G : tf_G} {I : FI} {L : FL} {v : Int32} {j : Nat} (hn : j ≠ 0) : rE G (sI I 11 0 v) L j = rE G I L j := by
  unfold rE; split <;> first | exact absurd rfl hn | rfl | simp [sI, sL]
theorem rne_12_0 {G : tf_G} {I : FI} {L : FL} {v : Int32} {j : Nat} (hn : j ≠ 0) : rE G (sI I 12 0 v) L j = rE G I L j := by
  unfold rE; split <;> first | exact absurd rfl hn | rfl | simp [sI, sL]
theorem rne_11_1 {G : tf_G} {I : FI} {L : FL} {v : Int32} {j : Nat} (hn : j ≠ 0) : rE G (sI I 11 1 v) L j = rE G I L j := by
  unfold rE; split <;> first | exact absurd rfl hn | rfl | simp [sI, sL]
theorem rne_11_2 {G : tf_G} {I : FI} {L : FL} {v : Int32} {j : Nat} (hn : j ≠ 0) : rE G (sI I 11 2 v) L j = rE G I L j := by
  unfold rE; split <;> first | exact absurd rfl hn | rfl | simp [sI, sL]
theorem rne_11_3 {G : tf_G} {I : FI} {L : FL} {v : Int32} {j : Nat} (hn : j ≠ 0) : rE G (sI I 11 3 v) L j = rE G I L j := by
  unfold rE; split <;> first | exact absurd rfl hn | rfl | simp [sI, sL]
theorem rne_11_4 {G : tf_G} {I : FI} {L : FL} {v : Int32} {j : Nat} (hn : j ≠ 0) : rE G (sI I 11 4 v) L j = rE G I L j := by
  unfold rE; split <;> first | exact absurd rfl hn | rfl | simp [sI, sL]
theorem rne_11_5 {G : tf_G} {I : FI} {L : FL} {v : Int32} {j : Nat} (hn : j ≠ 0) : rE G (sI I 11 5 v) L j = rE G I L j := by
  unfold rE; split <;> first | exact absurd rfl hn | rfl | simp [sI, sL]
theorem rne_a1 {G : tf_G} {I : FI} {L : FL} {i : Nat} {v : Int32} {j : Nat} (hn : j ≠ 1) : rE G (sI I 6 i v) L j = rE G I L j := by
  unfold rE; split <;> first | exact absurd rfl hn | rfl | simp [sI, sL]
theorem rne_a2 {G : tf_G} {I : FI} {L : FL} {i : Nat} {v : Int32} {j : Nat} (hn : j ≠ 2) : rE G (sI I 13 i v) L j = rE G I L j := by
  unfold rE; split <;> first | exact absurd rfl hn | rfl | simp [sI, sL]
theorem rne_a3 {G : tf_G} {I : FI} {L : FL} {i : Nat} {v : Int32} {j : Nat} (hn : j ≠ 3) : rE G (sI I 14 i v) L j = rE G I L j := by
  unfold rE; split <;> first | exact absurd rfl hn | rfl | simp [sI, sL]
theorem rne_a4 {G : tf_G} {I : FI} {L : FL} {i : Nat} {v : Int64} {j : Nat} (hn : j ≠ 4) : rE G I (sL L 0 i v) j = rE G I L j := by
  unfold rE; split <;> first | exact absurd rfl hn | rfl | simp [sI, sL]
theorem rne_a5 {G : tf_G} {I : FI} {L : FL} {i : Nat} {v : Int64} {j : Nat} (hn : j ≠ 5) : rE G I (sL L 1 i v) j = rE G I L j := by
  unfold rE; split <;> first | exact absurd rfl hn | rfl | simp [sI, sL]
theorem rne_a6 {G : tf_G} {I : FI} {L : FL} {i : Nat} {v : Int32} {j : Nat} (hn : j ≠ 6) : rE G (sI I 0 i v) L j = rE G I L j := by
  unfold rE; split <;> first | exact absurd rfl hn | rfl | simp [sI, sL]
theorem rne_a7 {G : tf_G} {I : FI} {L : FL} {i : Nat} {v : Int32} {j : Nat} (hn : j ≠ 7) : rE G (sI I 1 i v) L j = rE G I L j := by
  unfold rE; split <;> first | exact absurd rfl hn | rfl | simp [sI, sL]
theorem rne_a8 {G : tf_G} {I : FI} {L : FL} {i : Nat} {v : Int32} {j : Nat} (hn : j ≠ 8) : rE G (sI I 2 i v) L j = rE G I L j := by
  unfold rE; split <;> first | exact absurd rfl hn | rfl | simp [sI, sL]
theorem rne_a9 {G : tf_G} {I : FI} {L : FL} {i : Nat} {v : Int32} {j : Nat} (hn : j ≠ 9) : rE G (sI I 3 i v) L j = rE G I L j := by
  unfold rE; split <;> first | exact absurd rfl hn | rfl | simp [sI, sL]
theorem rne_a10 {G : tf_G} {I : FI} {L : FL} {i : Nat} {v : Int32} {j : Nat} (hn : j ≠ 10) : rE G (sI I 4 i v) L j = rE G I L j := by
  unfold rE; split <;> first | exact absurd rfl hn | rfl | simp [sI, sL]
theorem rne_a11 {G : tf_G} {I : FI} {L : FL} {i : Nat} {v : Int32} {j : Nat} (hn : j ≠ 11) : rE G (sI I 5 i v) L j = rE G I L j := by
  unfold rE; split <;> first | exact absurd rfl hn | rfl | simp [sI, sL]
theorem rne_a12 {G : tf_G} {I : FI} {L : FL} {i : Nat} {v : Int32} {j : Nat} (hn : j ≠ 12) : rE G (sI I 7 i v) L j = rE G I L j := by
  unfold rE; split <;> first | exact absurd rfl hn | rfl | simp [sI, sL]
theorem rne_a13 {G : tf_G} {I : FI} {L : FL} {i : Nat} {v : Int32} {j : Nat} (hn : j ≠ 13) : rE G (sI I 8 i v) L j = rE G I L j := by
  unfold rE; split <;> first | exact absurd rfl hn | rfl | simp [sI, sL]
theorem rne_a14 {G : tf_G} {I : FI} {L : FL} {i : Nat} {v : Int32} {j : Nat} (hn : j ≠ 14) : rE G (sI I 9 i v) L j = rE G I L j := by
  unfold rE; split <;> first | exact absurd rfl hn | rfl | simp [sI, sL]
theorem rne_a15 {G : tf_G} {I : FI} {L : FL} {i : Nat} {v : Int32} {j : Nat} (hn : j ≠ 15) : rE G (sI I 10 i v) L j = rE G I L j := by
  unfold rE; split <;> first | exact absurd rfl hn | rfl | simp [sI, sL]
section RW
variable {p : Program} {l : Launch} {e : Env} {R : Room} {s : State} {m : MethodId} {args : Array Value} {below : List Frame} {meth : Method} {c : Code} {H : Heap} {locs : List Loc} {cells slots : Nat} {Q : State → Prop}
variable {cc : ByteArray} {pc : Nat} {ls : Array Slot} {rest : List Value} {G : tf_G} {nL : Nat} {own : String} {ret : Option FieldType} {I : FI} {L : FL} {index : Nat}
theorem gf0_cash (X : tf_X G 63 own cc nL ret p s m args meth c) (h : tf_H G 63 (cE G I L) s.heap H locs) (x : Fin 8) (hl : Cond.fieldLink own index "TradeFloor$Account" "cash" "J" ∈ gT) (hdg : decode cc pc = .ok (.getfield index, 3)) (kk : W p l e R s m args below meth c H locs cells slots Q (F0 m (pc + 3) ls (.long (L 0 x.val) :: rest))) : W p l e R s m args below meth c H locs cells slots Q (F0 m pc ls (.ref (al G (x.val + 15)) :: rest)) :=
  tf_get X h (x.val + 15) (by omega) (cE_ac x) rfl in0 0 (by decide) hl rfl hdg kk
theorem pf0_cash (X : tf_X G 63 own cc nL ret p s m args meth c) (h : tf_H G 63 (cE G I L) s.heap H locs) (x : Fin 8) {v : Int64} {Z : FL} (eZ : Z = sL L 0 x.val v) (hl : Cond.fieldLink own index "TradeFloor$Account" "cash" "J" ∈ gT) (hdg : decode cc pc = .ok (.putfield index, 3)) (kk : ∀ (H1 : Heap) (locs1 : List Loc), tf_H G 63 (cE G I Z) s.heap H1 locs1 → W p l e R s m args below meth c H1 locs1 cells slots Q (F0 m (pc + 3) ls rest)) : W p l e R s m args below meth c H locs cells slots Q (F0 m pc ls (.long v :: .ref (al G (x.val + 15)) :: rest)) :=
  by subst eZ; exact tf_put X h (x.val + 15) (by omega) (cE_ac x) rfl in0 ty0 tk0 nm0 0 (by decide) (Nat.le_of_ble_eq_true rfl) hl rfl rfl rfl (by rw [cE_ac x]; simp [sL]) (fun j hj hn => cne_ac_0 x hn) hdg kk
theorem gf0_goods (X : tf_X G 63 own cc nL ret p s m args meth c) (h : tf_H G 63 (cE G I L) s.heap H locs) (x : Fin 8) (hl : Cond.fieldLink own index "TradeFloor$Account" "goods" "J" ∈ gT) (hdg : decode cc pc = .ok (.getfield index, 3)) (kk : W p l e R s m args below meth c H locs cells slots Q (F0 m (pc + 3) ls (.long (L 1 x.val) :: rest))) : W p l e R s m args below meth c H locs cells slots Q (F0 m pc ls (.ref (al G (x.val + 15)) :: rest)) :=
  tf_get X h (x.val + 15) (by omega) (cE_ac x) rfl in0 1 (by decide) hl rfl hdg kk
theorem pf0_goods (X : tf_X G 63 own cc nL ret p s m args meth c) (h : tf_H G 63 (cE G I L) s.heap H locs) (x : Fin 8) {v : Int64} {Z : FL} (eZ : Z = sL L 1 x.val v) (hl : Cond.fieldLink own index "TradeFloor$Account" "goods" "J" ∈ gT) (hdg : decode cc pc = .ok (.putfield index, 3)) (kk : ∀ (H1 : Heap) (locs1 : List Loc), tf_H G 63 (cE G I Z) s.heap H1 locs1 → W p l e R s m args below meth c H1 locs1 cells slots Q (F0 m (pc + 3) ls rest)) : W p l e R s m args below meth c H locs cells slots Q (F0 m pc ls (.long v :: .ref (al G (x.val + 15)) :: rest)) :=
  by subst eZ; exact tf_put X h (x.val + 15) (by omega) (cE_ac x) rfl in0 ty0 tk0 nm0 1 (by decide) (Nat.le_of_ble_eq_true rfl) hl rfl rfl rfl (by rw [cE_ac x]; simp [sL]) (fun j hj hn => cne_ac_1 x hn) hdg kk
theorem gf0_heldCash (X : tf_X G 63 own cc nL ret p s m args meth c) (h : tf_H G 63 (cE G I L) s.heap H locs) (x : Fin 8) (hl : Cond.fieldLink own index "TradeFloor$Account" "heldCash" "J" ∈ gT) (hdg : decode cc pc = .ok (.getfield index, 3)) (kk : W p l e R s m args below meth c H locs cells slots Q (F0 m (pc + 3) ls (.long (L 2 x.val) :: rest))) : W p l e R s m args below meth c H locs cells slots Q (F0 m pc ls (.ref (al G (x.val + 15)) :: rest)) :=
  tf_get X h (x.val + 15) (by omega) (cE_ac x) rfl in0 2 (by decide) hl rfl hdg kk
theorem pf0_heldCash (X : tf_X G 63 own cc nL ret p s m args meth c) (h : tf_H G 63 (cE G I L) s.heap H locs) (x : Fin 8) {v : Int64} {Z : FL} (eZ : Z = sL L 2 x.val v) (hl : Cond.fieldLink own index "TradeFloor$Account" "heldCash" "J" ∈ gT) (hdg : decode cc pc = .ok (.putfield index, 3)) (kk : ∀ (H1 : Heap) (locs1 : List Loc), tf_H G 63 (cE G I Z) s.heap H1 locs1 → W p l e R s m args below meth c H1 locs1 cells slots Q (F0 m (pc + 3) ls rest)) : W p l e R s m args below meth c H locs cells slots Q (F0 m pc ls (.long v :: .ref (al G (x.val + 15)) :: rest)) :=
  by subst eZ; exact tf_put X h (x.val + 15) (by omega) (cE_ac x) rfl in0 ty0 tk0 nm0 2 (by decide) (Nat.le_of_ble_eq_true rfl) hl rfl rfl rfl (by rw [cE_ac x]; simp [sL]) (fun j hj hn => cne_ac_2 x hn) hdg kk
theorem gf0_heldGoods (X : tf_X G 63 own cc nL ret p s m args meth c) (h : tf_H G 63 (cE G I L) s.heap H locs) (x : Fin 8) (hl : Cond.fieldLink own index "TradeFloor$Account" "heldGoods" "J" ∈ gT) (hdg : decode cc pc = .ok (.getfield index, 3)) (kk : W p l e R s m args below meth c H locs cells slots Q (F0 m (pc + 3) ls (.long (L 3 x.val) :: rest))) : W p l e R s m args below meth c H locs cells slots Q (F0 m pc ls (.ref (al G (x.val + 15)) :: rest)) :=
  tf_get X h (x.val + 15) (by omega) (cE_ac x) rfl in0 3 (by decide) hl rfl hdg kk
theorem pf0_heldGoods (X : tf_X G 63 own cc nL ret p s m args meth c) (h : tf_H G 63 (cE G I L) s.heap H locs) (x : Fin 8) {v : Int64} {Z : FL} (eZ : Z = sL L 3 x.val v) (hl : Cond.fieldLink own index "TradeFloor$Account" "heldGoods" "J" ∈ gT) (hdg : decode cc pc = .ok (.putfield index, 3)) (kk : ∀ (H1 : Heap) (locs1 : List Loc), tf_H G 63 (cE G I Z) s.heap H1 locs1 → W p l e R s m args below meth c H1 locs1 cells slots Q (F0 m (pc + 3) ls rest)) : W p l e R s m args below meth c H locs cells slots Q (F0 m pc ls (.long v :: .ref (al G (x.val + 15)) :: rest)) :=
  by subst eZ; exact tf_put X h (x.val + 15) (by omega) (cE_ac x) rfl in0 ty0 tk0 nm0 3 (by decide) (Nat.le_of_ble_eq_true rfl) hl rfl rfl rfl (by rw [cE_ac x]; simp [sL]) (fun j hj hn => cne_ac_3 x hn) hdg kk
theorem gf1_verb (X : tf_X G 63 own cc nL ret p s m args meth c) (h : tf_H G 63 (cE G I L) s.heap H locs) (hl : Cond.fieldLink own index "TradeFloor$Command" "verb" "I" ∈ gT) (hdg : decode cc pc = .ok (.getfield index, 3)) (kk : W p l e R s m args below meth c H locs cells slots Q (F0 m (pc + 3) ls (.int (I 15 0) :: rest))) : W p l e R s m args below meth c H locs cells slots Q (F0 m pc ls (.ref (al G 5) :: rest)) :=
  tf_get X h 5 (by decide) rfl rfl in1 0 (by decide) hl rfl hdg kk
theorem pf1_verb (X : tf_X G 63 own cc nL ret p s m args meth c) (h : tf_H G 63 (cE G I L) s.heap H locs) {v : Int32} {Z : FI} (eZ : Z = sI I 15 0 v) (hl : Cond.fieldLink own index "TradeFloor$Command" "verb" "I" ∈ gT) (hdg : decode cc pc = .ok (.putfield index, 3)) (kk : ∀ (H1 : Heap) (locs1 : List Loc), tf_H G 63 (cE G Z L) s.heap H1 locs1 → W p l e R s m args below meth c H1 locs1 cells slots Q (F0 m (pc + 3) ls rest)) : W p l e R s m args below meth c H locs cells slots Q (F0 m pc ls (.int v :: .ref (al G 5) :: rest)) :=
  by subst eZ; exact tf_put X h 5 (by decide) rfl rfl in1 ty1 tk1 nm1 0 (by decide) (Nat.le_of_ble_eq_true rfl) hl rfl rfl rfl (by simp [cE, sI]) (fun j hj hn => cne_15_0 hn) hdg kk
theorem gf1_owner (X : tf_X G 63 own cc nL ret p s m args meth c) (h : tf_H G 63 (cE G I L) s.heap H locs) (hl : Cond.fieldLink own index "TradeFloor$Command" "owner" "I" ∈ gT) (hdg : decode cc pc = .ok (.getfield index, 3)) (kk : W p l e R s m args below meth c H locs cells slots Q (F0 m (pc + 3) ls (.int (I 15 1) :: rest))) : W p l e R s m args below meth c H locs cells slots Q (F0 m pc ls (.ref (al G 5) :: rest)) :=
  tf_get X h 5 (by decide) rfl rfl in1 1 (by decide) hl rfl hdg kk
theorem pf1_owner (X : tf_X G 63 own cc nL ret p s m args meth c) (h : tf_H G 63 (cE G I L) s.heap H locs) {v : Int32} {Z : FI} (eZ : Z = sI I 15 1 v) (hl : Cond.fieldLink own index "TradeFloor$Command" "owner" "I" ∈ gT) (hdg : decode cc pc = .ok (.putfield index, 3)) (kk : ∀ (H1 : Heap) (locs1 : List Loc), tf_H G 63 (cE G Z L) s.heap H1 locs1 → W p l e R s m args below meth c H1 locs1 cells slots Q (F0 m (pc + 3) ls rest)) : W p l e R s m args below meth c H locs cells slots Q (F0 m pc ls (.int v :: .ref (al G 5) :: rest)) :=
  by subst eZ; exact tf_put X h 5 (by decide) rfl rfl in1 ty1 tk1 nm1 1 (by decide) (Nat.le_of_ble_eq_true rfl) hl rfl rfl rfl (by simp [cE, sI]) (fun j hj hn => cne_15_1 hn) hdg kk
theorem gf1_side (X : tf_X G 63 own cc nL ret p s m args meth c) (h : tf_H G 63 (cE G I L) s.heap H locs) (hl : Cond.fieldLink own index "TradeFloor$Command" "side" "I" ∈ gT) (hdg : decode cc pc = .ok (.getfield index, 3)) (kk : W p l e R s m args below meth c H locs cells slots Q (F0 m (pc + 3) ls (.int (I 15 2) :: rest))) : W p l e R s m args below meth c H locs cells slots Q (F0 m pc ls (.ref (al G 5) :: rest)) :=
  tf_get X h 5 (by decide) rfl rfl in1 2 (by decide) hl rfl hdg kk
theorem pf1_side (X : tf_X G 63 own cc nL ret p s m args meth c) (h : tf_H G 63 (cE G I L) s.heap H locs) {v : Int32} {Z : FI} (eZ : Z = sI I 15 2 v) (hl : Cond.fieldLink own index "TradeFloor$Command" "side" "I" ∈ gT) (hdg : decode cc pc = .ok (.putfield index, 3)) (kk : ∀ (H1 : Heap) (locs1 : List Loc), tf_H G 63 (cE G Z L) s.heap H1 locs1 → W p l e R s m args below meth c H1 locs1 cells slots Q (F0 m (pc + 3) ls rest)) : W p l e R s m args below meth c H locs cells slots Q (F0 m pc ls (.int v :: .ref (al G 5) :: rest)) :=
  by subst eZ; exact tf_put X h 5 (by decide) rfl rfl in1 ty1 tk1 nm1 2 (by decide) (Nat.le_of_ble_eq_true rfl) hl rfl rfl rfl (by simp [cE, sI]) (fun j hj hn => cne_15_2 hn) hdg kk
theorem gf1_quantity (X : tf_X G 63 own cc nL ret p s m args meth c) (h : tf_H G 63 (cE G I L) s.heap H locs) (hl : Cond.fieldLink own index "TradeFloor$Command" "quantity" "I" ∈ gT) (hdg : decode cc pc = .ok (.getfield index, 3)) (kk : W p l e R s m args below meth c H locs cells slots Q (F0 m (pc + 3) ls (.int (I 15 3) :: rest))) : W p l e R s m args below meth c H locs cells slots Q (F0 m pc ls (.ref (al G 5) :: rest)) :=
  tf_get X h 5 (by decide) rfl rfl in1 3 (by decide) hl rfl hdg kk
theorem pf1_quantity (X : tf_X G 63 own cc nL ret p s m args meth c) (h : tf_H G 63 (cE G I L) s.heap H locs) {v : Int32} {Z : FI} (eZ : Z = sI I 15 3 v) (hl : Cond.fieldLink own index "TradeFloor$Command" "quantity" "I" ∈ gT) (hdg : decode cc pc = .ok (.putfield index, 3)) (kk : ∀ (H1 : Heap) (locs1 : List Loc), tf_H G 63 (cE G Z L) s.heap H1 locs1 → W p l e R s m args below meth c H1 locs1 cells slots Q (F0 m (pc + 3) ls rest)) : W p l e R s m args below meth c H locs cells slots Q (F0 m pc ls (.int v :: .ref (al G 5) :: rest)) :=
  by subst eZ; exact tf_put X h 5 (by decide) rfl rfl in1 ty1 tk1 nm1 3 (by decide) (Nat.le_of_ble_eq_true rfl) hl rfl rfl rfl (by simp [cE, sI]) (fun j hj hn => cne_15_3 hn) hdg kk
theorem gf1_price (X : tf_X G 63 own cc nL ret p s m args meth c) (h : tf_H G 63 (cE G I L) s.heap H locs) (hl : Cond.fieldLink own index "TradeFloor$Command" "price" "I" ∈ gT) (hdg : decode cc pc = .ok (.getfield index, 3)) (kk : W p l e R s m args below meth c H locs cells slots Q (F0 m (pc + 3) ls (.int (I 15 4) :: rest))) : W p l e R s m args below meth c H locs cells slots Q (F0 m pc ls (.ref (al G 5) :: rest)) :=
  tf_get X h 5 (by decide) rfl rfl in1 4 (by decide) hl rfl hdg kk
theorem pf1_price (X : tf_X G 63 own cc nL ret p s m args meth c) (h : tf_H G 63 (cE G I L) s.heap H locs) {v : Int32} {Z : FI} (eZ : Z = sI I 15 4 v) (hl : Cond.fieldLink own index "TradeFloor$Command" "price" "I" ∈ gT) (hdg : decode cc pc = .ok (.putfield index, 3)) (kk : ∀ (H1 : Heap) (locs1 : List Loc), tf_H G 63 (cE G Z L) s.heap H1 locs1 → W p l e R s m args below meth c H1 locs1 cells slots Q (F0 m (pc + 3) ls rest)) : W p l e R s m args below meth c H locs cells slots Q (F0 m pc ls (.int v :: .ref (al G 5) :: rest)) :=
  by subst eZ; exact tf_put X h 5 (by decide) rfl rfl in1 ty1 tk1 nm1 4 (by decide) (Nat.le_of_ble_eq_true rfl) hl rfl rfl rfl (by simp [cE, sI]) (fun j hj hn => cne_15_4 hn) hdg kk
theorem gf1_way (X : tf_X G 63 own cc nL ret p s m args meth c) (h : tf_H G 63 (cE G I L) s.heap H locs) (hl : Cond.fieldLink own index "TradeFloor$Command" "way" "I" ∈ gT) (hdg : decode cc pc = .ok (.getfield index, 3)) (kk : W p l e R s m args below meth c H locs cells slots Q (F0 m (pc + 3) ls (.int (I 15 5) :: rest))) : W p l e R s m args below meth c H locs cells slots Q (F0 m pc ls (.ref (al G 5) :: rest)) :=
  tf_get X h 5 (by decide) rfl rfl in1 5 (by decide) hl rfl hdg kk
theorem pf1_way (X : tf_X G 63 own cc nL ret p s m args meth c) (h : tf_H G 63 (cE G I L) s.heap H locs) {v : Int32} {Z : FI} (eZ : Z = sI I 15 5 v) (hl : Cond.fieldLink own index "TradeFloor$Command" "way" "I" ∈ gT) (hdg : decode cc pc = .ok (.putfield index, 3)) (kk : ∀ (H1 : Heap) (locs1 : List Loc), tf_H G 63 (cE G Z L) s.heap H1 locs1 → W p l e R s m args below meth c H1 locs1 cells slots Q (F0 m (pc + 3) ls rest)) : W p l e R s m args below meth c H locs cells slots Q (F0 m pc ls (.int v :: .ref (al G 5) :: rest)) :=
  by subst eZ; exact tf_put X h 5 (by decide) rfl rfl in1 ty1 tk1 nm1 5 (by decide) (Nat.le_of_ble_eq_true rfl) hl rfl rfl rfl (by simp [cE, sI]) (fun j hj hn => cne_15_5 hn) hdg kk
theorem gf1_ticks (X : tf_X G 63 own cc nL ret p s m args meth c) (h : tf_H G 63 (cE G I L) s.heap H locs) (hl : Cond.fieldLink own index "TradeFloor$Command" "ticks" "I" ∈ gT) (hdg : decode cc pc = .ok (.getfield index, 3)) (kk : W p l e R s m args below meth c H locs cells slots Q (F0 m (pc + 3) ls (.int (I 15 6) :: rest))) : W p l e R s m args below meth c H locs cells slots Q (F0 m pc ls (.ref (al G 5) :: rest)) :=
  tf_get X h 5 (by decide) rfl rfl in1 6 (by decide) hl rfl hdg kk
theorem pf1_ticks (X : tf_X G 63 own cc nL ret p s m args meth c) (h : tf_H G 63 (cE G I L) s.heap H locs) {v : Int32} {Z : FI} (eZ : Z = sI I 15 6 v) (hl : Cond.fieldLink own index "TradeFloor$Command" "ticks" "I" ∈ gT) (hdg : decode cc pc = .ok (.putfield index, 3)) (kk : ∀ (H1 : Heap) (locs1 : List Loc), tf_H G 63 (cE G Z L) s.heap H1 locs1 → W p l e R s m args below meth c H1 locs1 cells slots Q (F0 m (pc + 3) ls rest)) : W p l e R s m args below meth c H locs cells slots Q (F0 m pc ls (.int v :: .ref (al G 5) :: rest)) :=
  by subst eZ; exact tf_put X h 5 (by decide) rfl rfl in1 ty1 tk1 nm1 6 (by decide) (Nat.le_of_ble_eq_true rfl) hl rfl rfl rfl (by simp [cE, sI]) (fun j hj hn => cne_15_6 hn) hdg kk
theorem gf1_target (X : tf_X G 63 own cc nL ret p s m args meth c) (h : tf_H G 63 (cE G I L) s.heap H locs) (hl : Cond.fieldLink own index "TradeFloor$Command" "target" "I" ∈ gT) (hdg : decode cc pc = .ok (.getfield index, 3)) (kk : W p l e R s m args below meth c H locs cells slots Q (F0 m (pc + 3) ls (.int (I 15 7) :: rest))) : W p l e R s m args below meth c H locs cells slots Q (F0 m pc ls (.ref (al G 5) :: rest)) :=
  tf_get X h 5 (by decide) rfl rfl in1 7 (by decide) hl rfl hdg kk
theorem pf1_target (X : tf_X G 63 own cc nL ret p s m args meth c) (h : tf_H G 63 (cE G I L) s.heap H locs) {v : Int32} {Z : FI} (eZ : Z = sI I 15 7 v) (hl : Cond.fieldLink own index "TradeFloor$Command" "target" "I" ∈ gT) (hdg : decode cc pc = .ok (.putfield index, 3)) (kk : ∀ (H1 : Heap) (locs1 : List Loc), tf_H G 63 (cE G Z L) s.heap H1 locs1 → W p l e R s m args below meth c H1 locs1 cells slots Q (F0 m (pc + 3) ls rest)) : W p l e R s m args below meth c H locs cells slots Q (F0 m pc ls (.int v :: .ref (al G 5) :: rest)) :=
  by subst eZ; exact tf_put X h 5 (by decide) rfl rfl in1 ty1 tk1 nm1 7 (by decide) (Nat.le_of_ble_eq_true rfl) hl rfl rfl rfl (by simp [cE, sI]) (fun j hj hn => cne_15_7 hn) hdg kk
theorem gf1_amount (X : tf_X G 63 own cc nL ret p s m args meth c) (h : tf_H G 63 (cE G I L) s.heap H locs) (hl : Cond.fieldLink own index "TradeFloor$Command" "amount" "I" ∈ gT) (hdg : decode cc pc = .ok (.getfield index, 3)) (kk : W p l e R s m args below meth c H locs cells slots Q (F0 m (pc + 3) ls (.int (I 15 8) :: rest))) : W p l e R s m args below meth c H locs cells slots Q (F0 m pc ls (.ref (al G 5) :: rest)) :=
  tf_get X h 5 (by decide) rfl rfl in1 8 (by decide) hl rfl hdg kk
theorem pf1_amount (X : tf_X G 63 own cc nL ret p s m args meth c) (h : tf_H G 63 (cE G I L) s.heap H locs) {v : Int32} {Z : FI} (eZ : Z = sI I 15 8 v) (hl : Cond.fieldLink own index "TradeFloor$Command" "amount" "I" ∈ gT) (hdg : decode cc pc = .ok (.putfield index, 3)) (kk : ∀ (H1 : Heap) (locs1 : List Loc), tf_H G 63 (cE G Z L) s.heap H1 locs1 → W p l e R s m args below meth c H1 locs1 cells slots Q (F0 m (pc + 3) ls rest)) : W p l e R s m args below meth c H locs cells slots Q (F0 m pc ls (.int v :: .ref (al G 5) :: rest)) :=
  by subst eZ; exact tf_put X h 5 (by decide) rfl rfl in1 ty1 tk1 nm1 8 (by decide) (Nat.le_of_ble_eq_true rfl) hl rfl rfl rfl (by simp [cE, sI]) (fun j hj hn => cne_15_8 hn) hdg kk
theorem gf2_accounts (X : tf_X G 63 own cc nL ret p s m args meth c) (h : tf_H G 63 (cE G I L) s.heap H locs) (hl : Cond.fieldLink own index "TradeFloor$Exchange" "accounts" "[LTradeFloor$Account;" ∈ gT) (hdg : decode cc pc = .ok (.getfield index, 3)) (kk : W p l e R s m args below meth c H locs cells slots Q (F0 m (pc + 3) ls (.ref (al G 7) :: rest))) : W p l e R s m args below meth c H locs cells slots Q (F0 m pc ls (.ref (al G 6) :: rest)) :=
  tf_get X h 6 (by decide) rfl rfl in2 0 (by decide) hl rfl hdg kk
theorem gf2_orders (X : tf_X G 63 own cc nL ret p s m args meth c) (h : tf_H G 63 (cE G I L) s.heap H locs) (hl : Cond.fieldLink own index "TradeFloor$Exchange" "orders" "LTradeFloor$Orders;" ∈ gT) (hdg : decode cc pc = .ok (.getfield index, 3)) (kk : W p l e R s m args below meth c H locs cells slots Q (F0 m (pc + 3) ls (.ref (al G 8) :: rest))) : W p l e R s m args below meth c H locs cells slots Q (F0 m pc ls (.ref (al G 6) :: rest)) :=
  tf_get X h 6 (by decide) rfl rfl in2 1 (by decide) hl rfl hdg kk
theorem gf2_trades (X : tf_X G 63 own cc nL ret p s m args meth c) (h : tf_H G 63 (cE G I L) s.heap H locs) (hl : Cond.fieldLink own index "TradeFloor$Exchange" "trades" "LTradeFloor$Trades;" ∈ gT) (hdg : decode cc pc = .ok (.getfield index, 3)) (kk : W p l e R s m args below meth c H locs cells slots Q (F0 m (pc + 3) ls (.ref (al G 10) :: rest))) : W p l e R s m args below meth c H locs cells slots Q (F0 m pc ls (.ref (al G 6) :: rest)) :=
  tf_get X h 6 (by decide) rfl rfl in2 2 (by decide) hl rfl hdg kk
theorem gf2_last (X : tf_X G 63 own cc nL ret p s m args meth c) (h : tf_H G 63 (cE G I L) s.heap H locs) (hl : Cond.fieldLink own index "TradeFloor$Exchange" "last" "I" ∈ gT) (hdg : decode cc pc = .ok (.getfield index, 3)) (kk : W p l e R s m args below meth c H locs cells slots Q (F0 m (pc + 3) ls (.int (I 11 4) :: rest))) : W p l e R s m args below meth c H locs cells slots Q (F0 m pc ls (.ref (al G 6) :: rest)) :=
  tf_get X h 6 (by decide) rfl rfl in2 3 (by decide) hl rfl hdg kk
theorem pf2_last (X : tf_X G 63 own cc nL ret p s m args meth c) (h : tf_H G 63 (cE G I L) s.heap H locs) {v : Int32} {Z : FI} (eZ : Z = sI I 11 4 v) (hl : Cond.fieldLink own index "TradeFloor$Exchange" "last" "I" ∈ gT) (hdg : decode cc pc = .ok (.putfield index, 3)) (kk : ∀ (H1 : Heap) (locs1 : List Loc), tf_H G 63 (cE G Z L) s.heap H1 locs1 → W p l e R s m args below meth c H1 locs1 cells slots Q (F0 m (pc + 3) ls rest)) : W p l e R s m args below meth c H locs cells slots Q (F0 m pc ls (.int v :: .ref (al G 6) :: rest)) :=
  by subst eZ; exact tf_put X h 6 (by decide) rfl rfl in2 ty2 tk2 nm2 3 (by decide) (Nat.le_of_ble_eq_true rfl) hl rfl rfl rfl (by simp [cE, sI]) (fun j hj hn => cne_11_4 hn) hdg kk
theorem gf2_now (X : tf_X G 63 own cc nL ret p s m args meth c) (h : tf_H G 63 (cE G I L) s.heap H locs) (hl : Cond.fieldLink own index "TradeFloor$Exchange" "now" "I" ∈ gT) (hdg : decode cc pc = .ok (.getfield index, 3)) (kk : W p l e R s m args below meth c H locs cells slots Q (F0 m (pc + 3) ls (.int (I 11 5) :: rest))) : W p l e R s m args below meth c H locs cells slots Q (F0 m pc ls (.ref (al G 6) :: rest)) :=
  tf_get X h 6 (by decide) rfl rfl in2 4 (by decide) hl rfl hdg kk
theorem pf2_now (X : tf_X G 63 own cc nL ret p s m args meth c) (h : tf_H G 63 (cE G I L) s.heap H locs) {v : Int32} {Z : FI} (eZ : Z = sI I 11 5 v) (hl : Cond.fieldLink own index "TradeFloor$Exchange" "now" "I" ∈ gT) (hdg : decode cc pc = .ok (.putfield index, 3)) (kk : ∀ (H1 : Heap) (locs1 : List Loc), tf_H G 63 (cE G Z L) s.heap H1 locs1 → W p l e R s m args below meth c H1 locs1 cells slots Q (F0 m (pc + 3) ls rest)) : W p l e R s m args below meth c H locs cells slots Q (F0 m pc ls (.int v :: .ref (al G 6) :: rest)) :=
  by subst eZ; exact tf_put X h 6 (by decide) rfl rfl in2 ty2 tk2 nm2 4 (by decide) (Nat.le_of_ble_eq_true rfl) hl rfl rfl rfl (by simp [cE, sI]) (fun j hj hn => cne_11_5 hn) hdg kk
theorem gf3_owner (X : tf_X G 63 own cc nL ret p s m args meth c) (h : tf_H G 63 (cE G I L) s.heap H locs) (x : Fin 40) (hl : Cond.fieldLink own index "TradeFloor$Order" "owner" "I" ∈ gT) (hdg : decode cc pc = .ok (.getfield index, 3)) (kk : W p l e R s m args below meth c H locs cells slots Q (F0 m (pc + 3) ls (.int (I 0 x.val) :: rest))) : W p l e R s m args below meth c H locs cells slots Q (F0 m pc ls (.ref (al G (x.val + 23)) :: rest)) :=
  tf_get X h (x.val + 23) (by omega) (cE_or x) rfl in3 0 (by decide) hl rfl hdg kk
theorem pf3_owner (X : tf_X G 63 own cc nL ret p s m args meth c) (h : tf_H G 63 (cE G I L) s.heap H locs) (x : Fin 40) {v : Int32} {Z : FI} (eZ : Z = sI I 0 x.val v) (hl : Cond.fieldLink own index "TradeFloor$Order" "owner" "I" ∈ gT) (hdg : decode cc pc = .ok (.putfield index, 3)) (kk : ∀ (H1 : Heap) (locs1 : List Loc), tf_H G 63 (cE G Z L) s.heap H1 locs1 → W p l e R s m args below meth c H1 locs1 cells slots Q (F0 m (pc + 3) ls rest)) : W p l e R s m args below meth c H locs cells slots Q (F0 m pc ls (.int v :: .ref (al G (x.val + 23)) :: rest)) :=
  by subst eZ; exact tf_put X h (x.val + 23) (by omega) (cE_or x) rfl in3 ty3 tk3 nm3 0 (by decide) (Nat.le_of_ble_eq_true rfl) hl rfl rfl rfl (by rw [cE_or x]; simp [sI]) (fun j hj hn => cne_or_0 x hn) hdg kk
theorem gf3_side (X : tf_X G 63 own cc nL ret p s m args meth c) (h : tf_H G 63 (cE G I L) s.heap H locs) (x : Fin 40) (hl : Cond.fieldLink own index "TradeFloor$Order" "side" "I" ∈ gT) (hdg : decode cc pc = .ok (.getfield index, 3)) (kk : W p l e R s m args below meth c H locs cells slots Q (F0 m (pc + 3) ls (.int (I 1 x.val) :: rest))) : W p l e R s m args below meth c H locs cells slots Q (F0 m pc ls (.ref (al G (x.val + 23)) :: rest)) :=
  tf_get X h (x.val + 23) (by omega) (cE_or x) rfl in3 1 (by decide) hl rfl hdg kk
theorem pf3_side (X : tf_X G 63 own cc nL ret p s m args meth c) (h : tf_H G 63 (cE G I L) s.heap H locs) (x : Fin 40) {v : Int32} {Z : FI} (eZ : Z = sI I 1 x.val v) (hl : Cond.fieldLink own index "TradeFloor$Order" "side" "I" ∈ gT) (hdg : decode cc pc = .ok (.putfield index, 3)) (kk : ∀ (H1 : Heap) (locs1 : List Loc), tf_H G 63 (cE G Z L) s.heap H1 locs1 → W p l e R s m args below meth c H1 locs1 cells slots Q (F0 m (pc + 3) ls rest)) : W p l e R s m args below meth c H locs cells slots Q (F0 m pc ls (.int v :: .ref (al G (x.val + 23)) :: rest)) :=
  by subst eZ; exact tf_put X h (x.val + 23) (by omega) (cE_or x) rfl in3 ty3 tk3 nm3 1 (by decide) (Nat.le_of_ble_eq_true rfl) hl rfl rfl rfl (by rw [cE_or x]; simp [sI]) (fun j hj hn => cne_or_1 x hn) hdg kk
theorem gf3_left (X : tf_X G 63 own cc nL ret p s m args meth c) (h : tf_H G 63 (cE G I L) s.heap H locs) (x : Fin 40) (hl : Cond.fieldLink own index "TradeFloor$Order" "left" "I" ∈ gT) (hdg : decode cc pc = .ok (.getfield index, 3)) (kk : W p l e R s m args below meth c H locs cells slots Q (F0 m (pc + 3) ls (.int (I 2 x.val) :: rest))) : W p l e R s m args below meth c H locs cells slots Q (F0 m pc ls (.ref (al G (x.val + 23)) :: rest)) :=
  tf_get X h (x.val + 23) (by omega) (cE_or x) rfl in3 2 (by decide) hl rfl hdg kk
theorem pf3_left (X : tf_X G 63 own cc nL ret p s m args meth c) (h : tf_H G 63 (cE G I L) s.heap H locs) (x : Fin 40) {v : Int32} {Z : FI} (eZ : Z = sI I 2 x.val v) (hl : Cond.fieldLink own index "TradeFloor$Order" "left" "I" ∈ gT) (hdg : decode cc pc = .ok (.putfield index, 3)) (kk : ∀ (H1 : Heap) (locs1 : List Loc), tf_H G 63 (cE G Z L) s.heap H1 locs1 → W p l e R s m args below meth c H1 locs1 cells slots Q (F0 m (pc + 3) ls rest)) : W p l e R s m args below meth c H locs cells slots Q (F0 m pc ls (.int v :: .ref (al G (x.val + 23)) :: rest)) :=
  by subst eZ; exact tf_put X h (x.val + 23) (by omega) (cE_or x) rfl in3 ty3 tk3 nm3 2 (by decide) (Nat.le_of_ble_eq_true rfl) hl rfl rfl rfl (by rw [cE_or x]; simp [sI]) (fun j hj hn => cne_or_2 x hn) hdg kk
theorem gf3_price (X : tf_X G 63 own cc nL ret p s m args meth c) (h : tf_H G 63 (cE G I L) s.heap H locs) (x : Fin 40) (hl : Cond.fieldLink own index "TradeFloor$Order" "price" "I" ∈ gT) (hdg : decode cc pc = .ok (.getfield index, 3)) (kk : W p l e R s m args below meth c H locs cells slots Q (F0 m (pc + 3) ls (.int (I 3 x.val) :: rest))) : W p l e R s m args below meth c H locs cells slots Q (F0 m pc ls (.ref (al G (x.val + 23)) :: rest)) :=
  tf_get X h (x.val + 23) (by omega) (cE_or x) rfl in3 3 (by decide) hl rfl hdg kk
theorem pf3_price (X : tf_X G 63 own cc nL ret p s m args meth c) (h : tf_H G 63 (cE G I L) s.heap H locs) (x : Fin 40) {v : Int32} {Z : FI} (eZ : Z = sI I 3 x.val v) (hl : Cond.fieldLink own index "TradeFloor$Order" "price" "I" ∈ gT) (hdg : decode cc pc = .ok (.putfield index, 3)) (kk : ∀ (H1 : Heap) (locs1 : List Loc), tf_H G 63 (cE G Z L) s.heap H1 locs1 → W p l e R s m args below meth c H1 locs1 cells slots Q (F0 m (pc + 3) ls rest)) : W p l e R s m args below meth c H locs cells slots Q (F0 m pc ls (.int v :: .ref (al G (x.val + 23)) :: rest)) :=
  by subst eZ; exact tf_put X h (x.val + 23) (by omega) (cE_or x) rfl in3 ty3 tk3 nm3 3 (by decide) (Nat.le_of_ble_eq_true rfl) hl rfl rfl rfl (by rw [cE_or x]; simp [sI]) (fun j hj hn => cne_or_3 x hn) hdg kk
theorem gf3_state (X : tf_X G 63 own cc nL ret p s m args meth c) (h : tf_H G 63 (cE G I L) s.heap H locs) (x : Fin 40) (hl : Cond.fieldLink own index "TradeFloor$Order" "state" "I" ∈ gT) (hdg : decode cc pc = .ok (.getfield index, 3)) (kk : W p l e R s m args below meth c H locs cells slots Q (F0 m (pc + 3) ls (.int (I 4 x.val) :: rest))) : W p l e R s m args below meth c H locs cells slots Q (F0 m pc ls (.ref (al G (x.val + 23)) :: rest)) :=
  tf_get X h (x.val + 23) (by omega) (cE_or x) rfl in3 4 (by decide) hl rfl hdg kk
theorem pf3_state (X : tf_X G 63 own cc nL ret p s m args meth c) (h : tf_H G 63 (cE G I L) s.heap H locs) (x : Fin 40) {v : Int32} {Z : FI} (eZ : Z = sI I 4 x.val v) (hl : Cond.fieldLink own index "TradeFloor$Order" "state" "I" ∈ gT) (hdg : decode cc pc = .ok (.putfield index, 3)) (kk : ∀ (H1 : Heap) (locs1 : List Loc), tf_H G 63 (cE G Z L) s.heap H1 locs1 → W p l e R s m args below meth c H1 locs1 cells slots Q (F0 m (pc + 3) ls rest)) : W p l e R s m args below meth c H locs cells slots Q (F0 m pc ls (.int v :: .ref (al G (x.val + 23)) :: rest)) :=
  by subst eZ; exact tf_put X h (x.val + 23) (by omega) (cE_or x) rfl in3 ty3 tk3 nm3 4 (by decide) (Nat.le_of_ble_eq_true rfl) hl rfl rfl rfl (by rw [cE_or x]; simp [sI]) (fun j hj hn => cne_or_4 x hn) hdg kk
theorem gf3_end (X : tf_X G 63 own cc nL ret p s m args meth c) (h : tf_H G 63 (cE G I L) s.heap H locs) (x : Fin 40) (hl : Cond.fieldLink own index "TradeFloor$Order" "end" "I" ∈ gT) (hdg : decode cc pc = .ok (.getfield index, 3)) (kk : W p l e R s m args below meth c H locs cells slots Q (F0 m (pc + 3) ls (.int (I 5 x.val) :: rest))) : W p l e R s m args below meth c H locs cells slots Q (F0 m pc ls (.ref (al G (x.val + 23)) :: rest)) :=
  tf_get X h (x.val + 23) (by omega) (cE_or x) rfl in3 5 (by decide) hl rfl hdg kk
theorem pf3_end (X : tf_X G 63 own cc nL ret p s m args meth c) (h : tf_H G 63 (cE G I L) s.heap H locs) (x : Fin 40) {v : Int32} {Z : FI} (eZ : Z = sI I 5 x.val v) (hl : Cond.fieldLink own index "TradeFloor$Order" "end" "I" ∈ gT) (hdg : decode cc pc = .ok (.putfield index, 3)) (kk : ∀ (H1 : Heap) (locs1 : List Loc), tf_H G 63 (cE G Z L) s.heap H1 locs1 → W p l e R s m args below meth c H1 locs1 cells slots Q (F0 m (pc + 3) ls rest)) : W p l e R s m args below meth c H locs cells slots Q (F0 m pc ls (.int v :: .ref (al G (x.val + 23)) :: rest)) :=
  by subst eZ; exact tf_put X h (x.val + 23) (by omega) (cE_or x) rfl in3 ty3 tk3 nm3 5 (by decide) (Nat.le_of_ble_eq_true rfl) hl rfl rfl rfl (by rw [cE_or x]; simp [sI]) (fun j hj hn => cne_or_5 x hn) hdg kk
theorem gf4_rows (X : tf_X G 63 own cc nL ret p s m args meth c) (h : tf_H G 63 (cE G I L) s.heap H locs) (hl : Cond.fieldLink own index "TradeFloor$Orders" "rows" "[LTradeFloor$Order;" ∈ gT) (hdg : decode cc pc = .ok (.getfield index, 3)) (kk : W p l e R s m args below meth c H locs cells slots Q (F0 m (pc + 3) ls (.ref (al G 9) :: rest))) : W p l e R s m args below meth c H locs cells slots Q (F0 m pc ls (.ref (al G 8) :: rest)) :=
  tf_get X h 8 (by decide) rfl rfl in4 0 (by decide) hl rfl hdg kk
theorem gf4_size (X : tf_X G 63 own cc nL ret p s m args meth c) (h : tf_H G 63 (cE G I L) s.heap H locs) (hl : Cond.fieldLink own index "TradeFloor$Orders" "size" "I" ∈ gT) (hdg : decode cc pc = .ok (.getfield index, 3)) (kk : W p l e R s m args below meth c H locs cells slots Q (F0 m (pc + 3) ls (.int (I 11 1) :: rest))) : W p l e R s m args below meth c H locs cells slots Q (F0 m pc ls (.ref (al G 8) :: rest)) :=
  tf_get X h 8 (by decide) rfl rfl in4 1 (by decide) hl rfl hdg kk
theorem pf4_size (X : tf_X G 63 own cc nL ret p s m args meth c) (h : tf_H G 63 (cE G I L) s.heap H locs) {v : Int32} {Z : FI} (eZ : Z = sI I 11 1 v) (hl : Cond.fieldLink own index "TradeFloor$Orders" "size" "I" ∈ gT) (hdg : decode cc pc = .ok (.putfield index, 3)) (kk : ∀ (H1 : Heap) (locs1 : List Loc), tf_H G 63 (cE G Z L) s.heap H1 locs1 → W p l e R s m args below meth c H1 locs1 cells slots Q (F0 m (pc + 3) ls rest)) : W p l e R s m args below meth c H locs cells slots Q (F0 m pc ls (.int v :: .ref (al G 8) :: rest)) :=
  by subst eZ; exact tf_put X h 8 (by decide) rfl rfl in4 ty4 tk4 nm4 1 (by decide) (Nat.le_of_ble_eq_true rfl) hl rfl rfl rfl (by simp [cE, sI]) (fun j hj hn => cne_11_1 hn) hdg kk
theorem gf5_signs (X : tf_X G 63 own cc nL ret p s m args meth c) (h : tf_H G 63 (cE G I L) s.heap H locs) (hl : Cond.fieldLink own index "TradeFloor$Tape" "signs" "[I" ∈ gT) (hdg : decode cc pc = .ok (.getfield index, 3)) (kk : W p l e R s m args below meth c H locs cells slots Q (F0 m (pc + 3) ls (.ref (al G 2) :: rest))) : W p l e R s m args below meth c H locs cells slots Q (F0 m pc ls (.ref (al G 1) :: rest)) :=
  tf_get X h 1 (by decide) rfl rfl in5 0 (by decide) hl rfl hdg kk
theorem gf5_starts (X : tf_X G 63 own cc nL ret p s m args meth c) (h : tf_H G 63 (cE G I L) s.heap H locs) (hl : Cond.fieldLink own index "TradeFloor$Tape" "starts" "[I" ∈ gT) (hdg : decode cc pc = .ok (.getfield index, 3)) (kk : W p l e R s m args below meth c H locs cells slots Q (F0 m (pc + 3) ls (.ref (al G 3) :: rest))) : W p l e R s m args below meth c H locs cells slots Q (F0 m pc ls (.ref (al G 1) :: rest)) :=
  tf_get X h 1 (by decide) rfl rfl in5 1 (by decide) hl rfl hdg kk
theorem gf5_ends (X : tf_X G 63 own cc nL ret p s m args meth c) (h : tf_H G 63 (cE G I L) s.heap H locs) (hl : Cond.fieldLink own index "TradeFloor$Tape" "ends" "[I" ∈ gT) (hdg : decode cc pc = .ok (.getfield index, 3)) (kk : W p l e R s m args below meth c H locs cells slots Q (F0 m (pc + 3) ls (.ref (al G 4) :: rest))) : W p l e R s m args below meth c H locs cells slots Q (F0 m pc ls (.ref (al G 1) :: rest)) :=
  tf_get X h 1 (by decide) rfl rfl in5 2 (by decide) hl rfl hdg kk
theorem gf5_size (X : tf_X G 63 own cc nL ret p s m args meth c) (h : tf_H G 63 (cE G I L) s.heap H locs) (hl : Cond.fieldLink own index "TradeFloor$Tape" "size" "I" ∈ gT) (hdg : decode cc pc = .ok (.getfield index, 3)) (kk : W p l e R s m args below meth c H locs cells slots Q (F0 m (pc + 3) ls (.int (I 11 0) :: rest))) : W p l e R s m args below meth c H locs cells slots Q (F0 m pc ls (.ref (al G 1) :: rest)) :=
  tf_get X h 1 (by decide) rfl rfl in5 3 (by decide) hl rfl hdg kk
theorem pf5_size (X : tf_X G 63 own cc nL ret p s m args meth c) (h : tf_H G 63 (cE G I L) s.heap H locs) {v : Int32} {Z : FI} (eZ : Z = sI I 11 0 v) (hl : Cond.fieldLink own index "TradeFloor$Tape" "size" "I" ∈ gT) (hdg : decode cc pc = .ok (.putfield index, 3)) (kk : ∀ (H1 : Heap) (locs1 : List Loc), tf_H G 63 (cE G Z L) s.heap H1 locs1 → W p l e R s m args below meth c H1 locs1 cells slots Q (F0 m (pc + 3) ls rest)) : W p l e R s m args below meth c H locs cells slots Q (F0 m pc ls (.int v :: .ref (al G 1) :: rest)) :=
  by subst eZ; exact tf_put X h 1 (by decide) rfl rfl in5 ty5 tk5 nm5 3 (by decide) (Nat.le_of_ble_eq_true rfl) hl rfl rfl rfl (by simp [cE, sI]) (fun j hj hn => cne_11_0 hn) hdg kk
theorem gf5_words (X : tf_X G 63 own cc nL ret p s m args meth c) (h : tf_H G 63 (cE G I L) s.heap H locs) (hl : Cond.fieldLink own index "TradeFloor$Tape" "words" "I" ∈ gT) (hdg : decode cc pc = .ok (.getfield index, 3)) (kk : W p l e R s m args below meth c H locs cells slots Q (F0 m (pc + 3) ls (.int (I 12 0) :: rest))) : W p l e R s m args below meth c H locs cells slots Q (F0 m pc ls (.ref (al G 1) :: rest)) :=
  tf_get X h 1 (by decide) rfl rfl in5 4 (by decide) hl rfl hdg kk
theorem pf5_words (X : tf_X G 63 own cc nL ret p s m args meth c) (h : tf_H G 63 (cE G I L) s.heap H locs) {v : Int32} {Z : FI} (eZ : Z = sI I 12 0 v) (hl : Cond.fieldLink own index "TradeFloor$Tape" "words" "I" ∈ gT) (hdg : decode cc pc = .ok (.putfield index, 3)) (kk : ∀ (H1 : Heap) (locs1 : List Loc), tf_H G 63 (cE G Z L) s.heap H1 locs1 → W p l e R s m args below meth c H1 locs1 cells slots Q (F0 m (pc + 3) ls rest)) : W p l e R s m args below meth c H locs cells slots Q (F0 m pc ls (.int v :: .ref (al G 1) :: rest)) :=
  by subst eZ; exact tf_put X h 1 (by decide) rfl rfl in5 ty5 tk5 nm5 4 (by decide) (Nat.le_of_ble_eq_true rfl) hl rfl rfl rfl (by simp [cE, sI]) (fun j hj hn => cne_12_0 hn) hdg kk
theorem gf6_buyers (X : tf_X G 63 own cc nL ret p s m args meth c) (h : tf_H G 63 (cE G I L) s.heap H locs) (hl : Cond.fieldLink own index "TradeFloor$Trades" "buyers" "[I" ∈ gT) (hdg : decode cc pc = .ok (.getfield index, 3)) (kk : W p l e R s m args below meth c H locs cells slots Q (F0 m (pc + 3) ls (.ref (al G 11) :: rest))) : W p l e R s m args below meth c H locs cells slots Q (F0 m pc ls (.ref (al G 10) :: rest)) :=
  tf_get X h 10 (by decide) rfl rfl in6 0 (by decide) hl rfl hdg kk
theorem gf6_sellers (X : tf_X G 63 own cc nL ret p s m args meth c) (h : tf_H G 63 (cE G I L) s.heap H locs) (hl : Cond.fieldLink own index "TradeFloor$Trades" "sellers" "[I" ∈ gT) (hdg : decode cc pc = .ok (.getfield index, 3)) (kk : W p l e R s m args below meth c H locs cells slots Q (F0 m (pc + 3) ls (.ref (al G 12) :: rest))) : W p l e R s m args below meth c H locs cells slots Q (F0 m pc ls (.ref (al G 10) :: rest)) :=
  tf_get X h 10 (by decide) rfl rfl in6 1 (by decide) hl rfl hdg kk
theorem gf6_prices (X : tf_X G 63 own cc nL ret p s m args meth c) (h : tf_H G 63 (cE G I L) s.heap H locs) (hl : Cond.fieldLink own index "TradeFloor$Trades" "prices" "[I" ∈ gT) (hdg : decode cc pc = .ok (.getfield index, 3)) (kk : W p l e R s m args below meth c H locs cells slots Q (F0 m (pc + 3) ls (.ref (al G 13) :: rest))) : W p l e R s m args below meth c H locs cells slots Q (F0 m pc ls (.ref (al G 10) :: rest)) :=
  tf_get X h 10 (by decide) rfl rfl in6 2 (by decide) hl rfl hdg kk
theorem gf6_quantities (X : tf_X G 63 own cc nL ret p s m args meth c) (h : tf_H G 63 (cE G I L) s.heap H locs) (hl : Cond.fieldLink own index "TradeFloor$Trades" "quantities" "[I" ∈ gT) (hdg : decode cc pc = .ok (.getfield index, 3)) (kk : W p l e R s m args below meth c H locs cells slots Q (F0 m (pc + 3) ls (.ref (al G 14) :: rest))) : W p l e R s m args below meth c H locs cells slots Q (F0 m pc ls (.ref (al G 10) :: rest)) :=
  tf_get X h 10 (by decide) rfl rfl in6 3 (by decide) hl rfl hdg kk
theorem gf6_made (X : tf_X G 63 own cc nL ret p s m args meth c) (h : tf_H G 63 (cE G I L) s.heap H locs) (hl : Cond.fieldLink own index "TradeFloor$Trades" "made" "I" ∈ gT) (hdg : decode cc pc = .ok (.getfield index, 3)) (kk : W p l e R s m args below meth c H locs cells slots Q (F0 m (pc + 3) ls (.int (I 11 2) :: rest))) : W p l e R s m args below meth c H locs cells slots Q (F0 m pc ls (.ref (al G 10) :: rest)) :=
  tf_get X h 10 (by decide) rfl rfl in6 4 (by decide) hl rfl hdg kk
theorem pf6_made (X : tf_X G 63 own cc nL ret p s m args meth c) (h : tf_H G 63 (cE G I L) s.heap H locs) {v : Int32} {Z : FI} (eZ : Z = sI I 11 2 v) (hl : Cond.fieldLink own index "TradeFloor$Trades" "made" "I" ∈ gT) (hdg : decode cc pc = .ok (.putfield index, 3)) (kk : ∀ (H1 : Heap) (locs1 : List Loc), tf_H G 63 (cE G Z L) s.heap H1 locs1 → W p l e R s m args below meth c H1 locs1 cells slots Q (F0 m (pc + 3) ls rest)) : W p l e R s m args below meth c H locs cells slots Q (F0 m pc ls (.int v :: .ref (al G 10) :: rest)) :=
  by subst eZ; exact tf_put X h 10 (by decide) rfl rfl in6 ty6 tk6 nm6 4 (by decide) (Nat.le_of_ble_eq_true rfl) hl rfl rfl rfl (by simp [cE, sI]) (fun j hj hn => cne_11_2 hn) hdg kk
theorem gf7_tape (X : tf_X G 63 own cc nL ret p s m args meth c) (h : tf_H G 63 (cE G I L) s.heap H locs) (hl : Cond.fieldLink own index "TradeFloor" "tape" "LTradeFloor$Tape;" ∈ gT) (hdg : decode cc pc = .ok (.getfield index, 3)) (kk : W p l e R s m args below meth c H locs cells slots Q (F0 m (pc + 3) ls (.ref (al G 1) :: rest))) : W p l e R s m args below meth c H locs cells slots Q (F0 m pc ls (.ref (al G 0) :: rest)) :=
  tf_get X h 0 (by decide) rfl rfl in7 0 (by decide) hl rfl hdg kk
theorem gf7_command (X : tf_X G 63 own cc nL ret p s m args meth c) (h : tf_H G 63 (cE G I L) s.heap H locs) (hl : Cond.fieldLink own index "TradeFloor" "command" "LTradeFloor$Command;" ∈ gT) (hdg : decode cc pc = .ok (.getfield index, 3)) (kk : W p l e R s m args below meth c H locs cells slots Q (F0 m (pc + 3) ls (.ref (al G 5) :: rest))) : W p l e R s m args below meth c H locs cells slots Q (F0 m pc ls (.ref (al G 0) :: rest)) :=
  tf_get X h 0 (by decide) rfl rfl in7 1 (by decide) hl rfl hdg kk
theorem gf7_exchange (X : tf_X G 63 own cc nL ret p s m args meth c) (h : tf_H G 63 (cE G I L) s.heap H locs) (hl : Cond.fieldLink own index "TradeFloor" "exchange" "LTradeFloor$Exchange;" ∈ gT) (hdg : decode cc pc = .ok (.getfield index, 3)) (kk : W p l e R s m args below meth c H locs cells slots Q (F0 m (pc + 3) ls (.ref (al G 6) :: rest))) : W p l e R s m args below meth c H locs cells slots Q (F0 m pc ls (.ref (al G 0) :: rest)) :=
  tf_get X h 0 (by decide) rfl rfl in7 2 (by decide) hl rfl hdg kk
theorem gf7_refusals (X : tf_X G 63 own cc nL ret p s m args meth c) (h : tf_H G 63 (cE G I L) s.heap H locs) (hl : Cond.fieldLink own index "TradeFloor" "refusals" "I" ∈ gT) (hdg : decode cc pc = .ok (.getfield index, 3)) (kk : W p l e R s m args below meth c H locs cells slots Q (F0 m (pc + 3) ls (.int (I 11 3) :: rest))) : W p l e R s m args below meth c H locs cells slots Q (F0 m pc ls (.ref (al G 0) :: rest)) :=
  tf_get X h 0 (by decide) rfl rfl in7 3 (by decide) hl rfl hdg kk
theorem pf7_refusals (X : tf_X G 63 own cc nL ret p s m args meth c) (h : tf_H G 63 (cE G I L) s.heap H locs) {v : Int32} {Z : FI} (eZ : Z = sI I 11 3 v) (hl : Cond.fieldLink own index "TradeFloor" "refusals" "I" ∈ gT) (hdg : decode cc pc = .ok (.putfield index, 3)) (kk : ∀ (H1 : Heap) (locs1 : List Loc), tf_H G 63 (cE G Z L) s.heap H1 locs1 → W p l e R s m args below meth c H1 locs1 cells slots Q (F0 m (pc + 3) ls rest)) : W p l e R s m args below meth c H locs cells slots Q (F0 m pc ls (.int v :: .ref (al G 0) :: rest)) :=
  by subst eZ; exact tf_put X h 0 (by decide) rfl rfl in7 ty7 tk7 nm7 3 (by decide) (Nat.le_of_ble_eq_true rfl) hl rfl rfl rfl (by simp [cE, sI]) (fun j hj hn => cne_11_3 hn) hdg kk
theorem gac_2 (X : tf_X G 63 own cc nL ret p s m args meth c) (h : tf_H G 63 (cE G I L) s.heap H locs) {i : Int32} (hin : vp_in i 40) (hdg : decode cc pc = .ok (.iaload, 1)) (kk : W p l e R s m args below meth c H locs cells slots Q (F0 m (pc + 1) ls (.int (I 6 i.toNatClampNeg) :: rest))) : W p l e R s m args below meth c H locs cells slots Q (F0 m pc ls (.int i :: .ref (al G 2) :: rest)) :=
  tf_iald X h 2 (by decide) rfl hin hdg kk
theorem pac_2 (X : tf_X G 63 own cc nL ret p s m args meth c) (h : tf_H G 63 (cE G I L) s.heap H locs) {i : Int32} {v : Int32} {Z : FI} (hin : vp_in i 40) (eZ : Z = sI I 6 i.toNatClampNeg v) (hdg : decode cc pc = .ok (.iastore, 1)) (kk : ∀ (H1 : Heap) (locs1 : List Loc), tf_H G 63 (cE G Z L) s.heap H1 locs1 → W p l e R s m args below meth c H1 locs1 cells slots Q (F0 m (pc + 1) ls rest)) : W p l e R s m args below meth c H locs cells slots Q (F0 m pc ls (.int v :: .int i :: .ref (al G 2) :: rest)) :=
  by subst eZ; exact tf_iast X h 2 (by decide) rfl hin (by simp only [cE, sI_upd]) (fun j hj hn => cne_a2 hn) hdg kk
theorem gac_3 (X : tf_X G 63 own cc nL ret p s m args meth c) (h : tf_H G 63 (cE G I L) s.heap H locs) {i : Int32} (hin : vp_in i 7) (hdg : decode cc pc = .ok (.iaload, 1)) (kk : W p l e R s m args below meth c H locs cells slots Q (F0 m (pc + 1) ls (.int (I 13 i.toNatClampNeg) :: rest))) : W p l e R s m args below meth c H locs cells slots Q (F0 m pc ls (.int i :: .ref (al G 3) :: rest)) :=
  tf_iald X h 3 (by decide) rfl hin hdg kk
theorem pac_3 (X : tf_X G 63 own cc nL ret p s m args meth c) (h : tf_H G 63 (cE G I L) s.heap H locs) {i : Int32} {v : Int32} {Z : FI} (hin : vp_in i 7) (eZ : Z = sI I 13 i.toNatClampNeg v) (hdg : decode cc pc = .ok (.iastore, 1)) (kk : ∀ (H1 : Heap) (locs1 : List Loc), tf_H G 63 (cE G Z L) s.heap H1 locs1 → W p l e R s m args below meth c H1 locs1 cells slots Q (F0 m (pc + 1) ls rest)) : W p l e R s m args below meth c H locs cells slots Q (F0 m pc ls (.int v :: .int i :: .ref (al G 3) :: rest)) :=
  by subst eZ; exact tf_iast X h 3 (by decide) rfl hin (by simp only [cE, sI_upd]) (fun j hj hn => cne_a3 hn) hdg kk
theorem gac_4 (X : tf_X G 63 own cc nL ret p s m args meth c) (h : tf_H G 63 (cE G I L) s.heap H locs) {i : Int32} (hin : vp_in i 7) (hdg : decode cc pc = .ok (.iaload, 1)) (kk : W p l e R s m args below meth c H locs cells slots Q (F0 m (pc + 1) ls (.int (I 14 i.toNatClampNeg) :: rest))) : W p l e R s m args below meth c H locs cells slots Q (F0 m pc ls (.int i :: .ref (al G 4) :: rest)) :=
  tf_iald X h 4 (by decide) rfl hin hdg kk
theorem pac_4 (X : tf_X G 63 own cc nL ret p s m args meth c) (h : tf_H G 63 (cE G I L) s.heap H locs) {i : Int32} {v : Int32} {Z : FI} (hin : vp_in i 7) (eZ : Z = sI I 14 i.toNatClampNeg v) (hdg : decode cc pc = .ok (.iastore, 1)) (kk : ∀ (H1 : Heap) (locs1 : List Loc), tf_H G 63 (cE G Z L) s.heap H1 locs1 → W p l e R s m args below meth c H1 locs1 cells slots Q (F0 m (pc + 1) ls rest)) : W p l e R s m args below meth c H locs cells slots Q (F0 m pc ls (.int v :: .int i :: .ref (al G 4) :: rest)) :=
  by subst eZ; exact tf_iast X h 4 (by decide) rfl hin (by simp only [cE, sI_upd]) (fun j hj hn => cne_a4 hn) hdg kk
theorem gac_7 (X : tf_X G 63 own cc nL ret p s m args meth c) (h : tf_H G 63 (cE G I L) s.heap H locs) {i : Int32} (x : Fin 8) (hx : x.val = i.toNatClampNeg) (hin : vp_in i 8) (hdg : decode cc pc = .ok (.aaload, 1)) (kk : W p l e R s m args below meth c H locs cells slots Q (F0 m (pc + 1) ls (.ref (al G (x.val + 15)) :: rest))) : W p l e R s m args below meth c H locs cells slots Q (F0 m pc ls (.int i :: .ref (al G 7) :: rest)) :=
  tf_aald X h 7 (by decide) 3 rfl rfl hin (by rw [← hx]; rfl) hdg kk
theorem gac_9 (X : tf_X G 63 own cc nL ret p s m args meth c) (h : tf_H G 63 (cE G I L) s.heap H locs) {i : Int32} (x : Fin 40) (hx : x.val = i.toNatClampNeg) (hin : vp_in i 40) (hdg : decode cc pc = .ok (.aaload, 1)) (kk : W p l e R s m args below meth c H locs cells slots Q (F0 m (pc + 1) ls (.ref (al G (x.val + 23)) :: rest))) : W p l e R s m args below meth c H locs cells slots Q (F0 m pc ls (.int i :: .ref (al G 9) :: rest)) :=
  tf_aald X h 9 (by decide) 2 rfl rfl hin (by rw [← hx]; rfl) hdg kk
theorem gac_11 (X : tf_X G 63 own cc nL ret p s m args meth c) (h : tf_H G 63 (cE G I L) s.heap H locs) {i : Int32} (hin : vp_in i 200) (hdg : decode cc pc = .ok (.iaload, 1)) (kk : W p l e R s m args below meth c H locs cells slots Q (F0 m (pc + 1) ls (.int (I 7 i.toNatClampNeg) :: rest))) : W p l e R s m args below meth c H locs cells slots Q (F0 m pc ls (.int i :: .ref (al G 11) :: rest)) :=
  tf_iald X h 11 (by decide) rfl hin hdg kk
theorem pac_11 (X : tf_X G 63 own cc nL ret p s m args meth c) (h : tf_H G 63 (cE G I L) s.heap H locs) {i : Int32} {v : Int32} {Z : FI} (hin : vp_in i 200) (eZ : Z = sI I 7 i.toNatClampNeg v) (hdg : decode cc pc = .ok (.iastore, 1)) (kk : ∀ (H1 : Heap) (locs1 : List Loc), tf_H G 63 (cE G Z L) s.heap H1 locs1 → W p l e R s m args below meth c H1 locs1 cells slots Q (F0 m (pc + 1) ls rest)) : W p l e R s m args below meth c H locs cells slots Q (F0 m pc ls (.int v :: .int i :: .ref (al G 11) :: rest)) :=
  by subst eZ; exact tf_iast X h 11 (by decide) rfl hin (by simp only [cE, sI_upd]) (fun j hj hn => cne_a11 hn) hdg kk
theorem gac_12 (X : tf_X G 63 own cc nL ret p s m args meth c) (h : tf_H G 63 (cE G I L) s.heap H locs) {i : Int32} (hin : vp_in i 200) (hdg : decode cc pc = .ok (.iaload, 1)) (kk : W p l e R s m args below meth c H locs cells slots Q (F0 m (pc + 1) ls (.int (I 8 i.toNatClampNeg) :: rest))) : W p l e R s m args below meth c H locs cells slots Q (F0 m pc ls (.int i :: .ref (al G 12) :: rest)) :=
  tf_iald X h 12 (by decide) rfl hin hdg kk
theorem pac_12 (X : tf_X G 63 own cc nL ret p s m args meth c) (h : tf_H G 63 (cE G I L) s.heap H locs) {i : Int32} {v : Int32} {Z : FI} (hin : vp_in i 200) (eZ : Z = sI I 8 i.toNatClampNeg v) (hdg : decode cc pc = .ok (.iastore, 1)) (kk : ∀ (H1 : Heap) (locs1 : List Loc), tf_H G 63 (cE G Z L) s.heap H1 locs1 → W p l e R s m args below meth c H1 locs1 cells slots Q (F0 m (pc + 1) ls rest)) : W p l e R s m args below meth c H locs cells slots Q (F0 m pc ls (.int v :: .int i :: .ref (al G 12) :: rest)) :=
  by subst eZ; exact tf_iast X h 12 (by decide) rfl hin (by simp only [cE, sI_upd]) (fun j hj hn => cne_a12 hn) hdg kk
theorem gac_13 (X : tf_X G 63 own cc nL ret p s m args meth c) (h : tf_H G 63 (cE G I L) s.heap H locs) {i : Int32} (hin : vp_in i 200) (hdg : decode cc pc = .ok (.iaload, 1)) (kk : W p l e R s m args below meth c H locs cells slots Q (F0 m (pc + 1) ls (.int (I 9 i.toNatClampNeg) :: rest))) : W p l e R s m args below meth c H locs cells slots Q (F0 m pc ls (.int i :: .ref (al G 13) :: rest)) :=
  tf_iald X h 13 (by decide) rfl hin hdg kk
theorem pac_13 (X : tf_X G 63 own cc nL ret p s m args meth c) (h : tf_H G 63 (cE G I L) s.heap H locs) {i : Int32} {v : Int32} {Z : FI} (hin : vp_in i 200) (eZ : Z = sI I 9 i.toNatClampNeg v) (hdg : decode cc pc = .ok (.iastore, 1)) (kk : ∀ (H1 : Heap) (locs1 : List Loc), tf_H G 63 (cE G Z L) s.heap H1 locs1 → W p l e R s m args below meth c H1 locs1 cells slots Q (F0 m (pc + 1) ls rest)) : W p l e R s m args below meth c H locs cells slots Q (F0 m pc ls (.int v :: .int i :: .ref (al G 13) :: rest)) :=
  by subst eZ; exact tf_iast X h 13 (by decide) rfl hin (by simp only [cE, sI_upd]) (fun j hj hn => cne_a13 hn) hdg kk
theorem gac_14 (X : tf_X G 63 own cc nL ret p s m args meth c) (h : tf_H G 63 (cE G I L) s.heap H locs) {i : Int32} (hin : vp_in i 200) (hdg : decode cc pc = .ok (.iaload, 1)) (kk : W p l e R s m args below meth c H locs cells slots Q (F0 m (pc + 1) ls (.int (I 10 i.toNatClampNeg) :: rest))) : W p l e R s m args below meth c H locs cells slots Q (F0 m pc ls (.int i :: .ref (al G 14) :: rest)) :=
  tf_iald X h 14 (by decide) rfl hin hdg kk
theorem pac_14 (X : tf_X G 63 own cc nL ret p s m args meth c) (h : tf_H G 63 (cE G I L) s.heap H locs) {i : Int32} {v : Int32} {Z : FI} (hin : vp_in i 200) (eZ : Z = sI I 10 i.toNatClampNeg v) (hdg : decode cc pc = .ok (.iastore, 1)) (kk : ∀ (H1 : Heap) (locs1 : List Loc), tf_H G 63 (cE G Z L) s.heap H1 locs1 → W p l e R s m args below meth c H1 locs1 cells slots Q (F0 m (pc + 1) ls rest)) : W p l e R s m args below meth c H locs cells slots Q (F0 m pc ls (.int v :: .int i :: .ref (al G 14) :: rest)) :=
  by subst eZ; exact tf_iast X h 14 (by decide) rfl hin (by simp only [cE, sI_upd]) (fun j hj hn => cne_a14 hn) hdg kk
theorem gf8_tape (X : tf_X G 16 own cc nL ret p s m args meth c) (h : tf_H G 16 (rE G I L) s.heap H locs) (hl : Cond.fieldLink own index "TradeFloorModel" "tape" "[I" ∈ gT) (hdg : decode cc pc = .ok (.getfield index, 3)) (kk : W p l e R s m args below meth c H locs cells slots Q (F0 m (pc + 3) ls (.ref (al G 1) :: rest))) : W p l e R s m args below meth c H locs cells slots Q (F0 m pc ls (.ref (al G 0) :: rest)) :=
  tf_get X h 0 (by decide) rfl rfl in8 0 (by decide) hl rfl hdg kk
theorem gf8_from (X : tf_X G 16 own cc nL ret p s m args meth c) (h : tf_H G 16 (rE G I L) s.heap H locs) (hl : Cond.fieldLink own index "TradeFloorModel" "from" "[I" ∈ gT) (hdg : decode cc pc = .ok (.getfield index, 3)) (kk : W p l e R s m args below meth c H locs cells slots Q (F0 m (pc + 3) ls (.ref (al G 2) :: rest))) : W p l e R s m args below meth c H locs cells slots Q (F0 m pc ls (.ref (al G 0) :: rest)) :=
  tf_get X h 0 (by decide) rfl rfl in8 1 (by decide) hl rfl hdg kk
theorem gf8_to (X : tf_X G 16 own cc nL ret p s m args meth c) (h : tf_H G 16 (rE G I L) s.heap H locs) (hl : Cond.fieldLink own index "TradeFloorModel" "to" "[I" ∈ gT) (hdg : decode cc pc = .ok (.getfield index, 3)) (kk : W p l e R s m args below meth c H locs cells slots Q (F0 m (pc + 3) ls (.ref (al G 3) :: rest))) : W p l e R s m args below meth c H locs cells slots Q (F0 m pc ls (.ref (al G 0) :: rest)) :=
  tf_get X h 0 (by decide) rfl rfl in8 2 (by decide) hl rfl hdg kk
theorem gf8_size (X : tf_X G 16 own cc nL ret p s m args meth c) (h : tf_H G 16 (rE G I L) s.heap H locs) (hl : Cond.fieldLink own index "TradeFloorModel" "size" "I" ∈ gT) (hdg : decode cc pc = .ok (.getfield index, 3)) (kk : W p l e R s m args below meth c H locs cells slots Q (F0 m (pc + 3) ls (.int (I 11 0) :: rest))) : W p l e R s m args below meth c H locs cells slots Q (F0 m pc ls (.ref (al G 0) :: rest)) :=
  tf_get X h 0 (by decide) rfl rfl in8 3 (by decide) hl rfl hdg kk
theorem pf8_size (X : tf_X G 16 own cc nL ret p s m args meth c) (h : tf_H G 16 (rE G I L) s.heap H locs) {v : Int32} {Z : FI} (eZ : Z = sI I 11 0 v) (hl : Cond.fieldLink own index "TradeFloorModel" "size" "I" ∈ gT) (hdg : decode cc pc = .ok (.putfield index, 3)) (kk : ∀ (H1 : Heap) (locs1 : List Loc), tf_H G 16 (rE G Z L) s.heap H1 locs1 → W p l e R s m args below meth c H1 locs1 cells slots Q (F0 m (pc + 3) ls rest)) : W p l e R s m args below meth c H locs cells slots Q (F0 m pc ls (.int v :: .ref (al G 0) :: rest)) :=
  by subst eZ; exact tf_put X h 0 (by decide) rfl rfl in8 ty8 tk8 nm8 3 (by decide) (Nat.le_of_ble_eq_true rfl) hl rfl rfl rfl (by simp [rE, sI]) (fun j hj hn => rne_11_0 hn) hdg kk
theorem gf8_words (X : tf_X G 16 own cc nL ret p s m args meth c) (h : tf_H G 16 (rE G I L) s.heap H locs) (hl : Cond.fieldLink own index "TradeFloorModel" "words" "I" ∈ gT) (hdg : decode cc pc = .ok (.getfield index, 3)) (kk : W p l e R s m args below meth c H locs cells slots Q (F0 m (pc + 3) ls (.int (I 12 0) :: rest))) : W p l e R s m args below meth c H locs cells slots Q (F0 m pc ls (.ref (al G 0) :: rest)) :=
  tf_get X h 0 (by decide) rfl rfl in8 4 (by decide) hl rfl hdg kk
theorem pf8_words (X : tf_X G 16 own cc nL ret p s m args meth c) (h : tf_H G 16 (rE G I L) s.heap H locs) {v : Int32} {Z : FI} (eZ : Z = sI I 12 0 v) (hl : Cond.fieldLink own index "TradeFloorModel" "words" "I" ∈ gT) (hdg : decode cc pc = .ok (.putfield index, 3)) (kk : ∀ (H1 : Heap) (locs1 : List Loc), tf_H G 16 (rE G Z L) s.heap H1 locs1 → W p l e R s m args below meth c H1 locs1 cells slots Q (F0 m (pc + 3) ls rest)) : W p l e R s m args below meth c H locs cells slots Q (F0 m pc ls (.int v :: .ref (al G 0) :: rest)) :=
  by subst eZ; exact tf_put X h 0 (by decide) rfl rfl in8 ty8 tk8 nm8 4 (by decide) (Nat.le_of_ble_eq_true rfl) hl rfl rfl rfl (by simp [rE, sI]) (fun j hj hn => rne_12_0 hn) hdg kk
theorem gf8_cash (X : tf_X G 16 own cc nL ret p s m args meth c) (h : tf_H G 16 (rE G I L) s.heap H locs) (hl : Cond.fieldLink own index "TradeFloorModel" "cash" "[J" ∈ gT) (hdg : decode cc pc = .ok (.getfield index, 3)) (kk : W p l e R s m args below meth c H locs cells slots Q (F0 m (pc + 3) ls (.ref (al G 4) :: rest))) : W p l e R s m args below meth c H locs cells slots Q (F0 m pc ls (.ref (al G 0) :: rest)) :=
  tf_get X h 0 (by decide) rfl rfl in8 5 (by decide) hl rfl hdg kk
theorem gf8_goods (X : tf_X G 16 own cc nL ret p s m args meth c) (h : tf_H G 16 (rE G I L) s.heap H locs) (hl : Cond.fieldLink own index "TradeFloorModel" "goods" "[J" ∈ gT) (hdg : decode cc pc = .ok (.getfield index, 3)) (kk : W p l e R s m args below meth c H locs cells slots Q (F0 m (pc + 3) ls (.ref (al G 5) :: rest))) : W p l e R s m args below meth c H locs cells slots Q (F0 m pc ls (.ref (al G 0) :: rest)) :=
  tf_get X h 0 (by decide) rfl rfl in8 6 (by decide) hl rfl hdg kk
theorem gf8_who (X : tf_X G 16 own cc nL ret p s m args meth c) (h : tf_H G 16 (rE G I L) s.heap H locs) (hl : Cond.fieldLink own index "TradeFloorModel" "who" "[I" ∈ gT) (hdg : decode cc pc = .ok (.getfield index, 3)) (kk : W p l e R s m args below meth c H locs cells slots Q (F0 m (pc + 3) ls (.ref (al G 6) :: rest))) : W p l e R s m args below meth c H locs cells slots Q (F0 m pc ls (.ref (al G 0) :: rest)) :=
  tf_get X h 0 (by decide) rfl rfl in8 7 (by decide) hl rfl hdg kk
theorem gf8_side (X : tf_X G 16 own cc nL ret p s m args meth c) (h : tf_H G 16 (rE G I L) s.heap H locs) (hl : Cond.fieldLink own index "TradeFloorModel" "side" "[I" ∈ gT) (hdg : decode cc pc = .ok (.getfield index, 3)) (kk : W p l e R s m args below meth c H locs cells slots Q (F0 m (pc + 3) ls (.ref (al G 7) :: rest))) : W p l e R s m args below meth c H locs cells slots Q (F0 m pc ls (.ref (al G 0) :: rest)) :=
  tf_get X h 0 (by decide) rfl rfl in8 8 (by decide) hl rfl hdg kk
theorem gf8_left (X : tf_X G 16 own cc nL ret p s m args meth c) (h : tf_H G 16 (rE G I L) s.heap H locs) (hl : Cond.fieldLink own index "TradeFloorModel" "left" "[I" ∈ gT) (hdg : decode cc pc = .ok (.getfield index, 3)) (kk : W p l e R s m args below meth c H locs cells slots Q (F0 m (pc + 3) ls (.ref (al G 8) :: rest))) : W p l e R s m args below meth c H locs cells slots Q (F0 m pc ls (.ref (al G 0) :: rest)) :=
  tf_get X h 0 (by decide) rfl rfl in8 9 (by decide) hl rfl hdg kk
theorem gf8_price (X : tf_X G 16 own cc nL ret p s m args meth c) (h : tf_H G 16 (rE G I L) s.heap H locs) (hl : Cond.fieldLink own index "TradeFloorModel" "price" "[I" ∈ gT) (hdg : decode cc pc = .ok (.getfield index, 3)) (kk : W p l e R s m args below meth c H locs cells slots Q (F0 m (pc + 3) ls (.ref (al G 9) :: rest))) : W p l e R s m args below meth c H locs cells slots Q (F0 m pc ls (.ref (al G 0) :: rest)) :=
  tf_get X h 0 (by decide) rfl rfl in8 10 (by decide) hl rfl hdg kk
theorem gf8_state (X : tf_X G 16 own cc nL ret p s m args meth c) (h : tf_H G 16 (rE G I L) s.heap H locs) (hl : Cond.fieldLink own index "TradeFloorModel" "state" "[I" ∈ gT) (hdg : decode cc pc = .ok (.getfield index, 3)) (kk : W p l e R s m args below meth c H locs cells slots Q (F0 m (pc + 3) ls (.ref (al G 10) :: rest))) : W p l e R s m args below meth c H locs cells slots Q (F0 m pc ls (.ref (al G 0) :: rest)) :=
  tf_get X h 0 (by decide) rfl rfl in8 11 (by decide) hl rfl hdg kk
theorem gf8_ends (X : tf_X G 16 own cc nL ret p s m args meth c) (h : tf_H G 16 (rE G I L) s.heap H locs) (hl : Cond.fieldLink own index "TradeFloorModel" "ends" "[I" ∈ gT) (hdg : decode cc pc = .ok (.getfield index, 3)) (kk : W p l e R s m args below meth c H locs cells slots Q (F0 m (pc + 3) ls (.ref (al G 11) :: rest))) : W p l e R s m args below meth c H locs cells slots Q (F0 m pc ls (.ref (al G 0) :: rest)) :=
  tf_get X h 0 (by decide) rfl rfl in8 12 (by decide) hl rfl hdg kk
theorem gf8_orders (X : tf_X G 16 own cc nL ret p s m args meth c) (h : tf_H G 16 (rE G I L) s.heap H locs) (hl : Cond.fieldLink own index "TradeFloorModel" "orders" "I" ∈ gT) (hdg : decode cc pc = .ok (.getfield index, 3)) (kk : W p l e R s m args below meth c H locs cells slots Q (F0 m (pc + 3) ls (.int (I 11 1) :: rest))) : W p l e R s m args below meth c H locs cells slots Q (F0 m pc ls (.ref (al G 0) :: rest)) :=
  tf_get X h 0 (by decide) rfl rfl in8 13 (by decide) hl rfl hdg kk
theorem pf8_orders (X : tf_X G 16 own cc nL ret p s m args meth c) (h : tf_H G 16 (rE G I L) s.heap H locs) {v : Int32} {Z : FI} (eZ : Z = sI I 11 1 v) (hl : Cond.fieldLink own index "TradeFloorModel" "orders" "I" ∈ gT) (hdg : decode cc pc = .ok (.putfield index, 3)) (kk : ∀ (H1 : Heap) (locs1 : List Loc), tf_H G 16 (rE G Z L) s.heap H1 locs1 → W p l e R s m args below meth c H1 locs1 cells slots Q (F0 m (pc + 3) ls rest)) : W p l e R s m args below meth c H locs cells slots Q (F0 m pc ls (.int v :: .ref (al G 0) :: rest)) :=
  by subst eZ; exact tf_put X h 0 (by decide) rfl rfl in8 ty8 tk8 nm8 13 (by decide) (Nat.le_of_ble_eq_true rfl) hl rfl rfl rfl (by simp [rE, sI]) (fun j hj hn => rne_11_1 hn) hdg kk
theorem gf8_trades (X : tf_X G 16 own cc nL ret p s m args meth c) (h : tf_H G 16 (rE G I L) s.heap H locs) (hl : Cond.fieldLink own index "TradeFloorModel" "trades" "I" ∈ gT) (hdg : decode cc pc = .ok (.getfield index, 3)) (kk : W p l e R s m args below meth c H locs cells slots Q (F0 m (pc + 3) ls (.int (I 11 2) :: rest))) : W p l e R s m args below meth c H locs cells slots Q (F0 m pc ls (.ref (al G 0) :: rest)) :=
  tf_get X h 0 (by decide) rfl rfl in8 14 (by decide) hl rfl hdg kk
theorem pf8_trades (X : tf_X G 16 own cc nL ret p s m args meth c) (h : tf_H G 16 (rE G I L) s.heap H locs) {v : Int32} {Z : FI} (eZ : Z = sI I 11 2 v) (hl : Cond.fieldLink own index "TradeFloorModel" "trades" "I" ∈ gT) (hdg : decode cc pc = .ok (.putfield index, 3)) (kk : ∀ (H1 : Heap) (locs1 : List Loc), tf_H G 16 (rE G Z L) s.heap H1 locs1 → W p l e R s m args below meth c H1 locs1 cells slots Q (F0 m (pc + 3) ls rest)) : W p l e R s m args below meth c H locs cells slots Q (F0 m pc ls (.int v :: .ref (al G 0) :: rest)) :=
  by subst eZ; exact tf_put X h 0 (by decide) rfl rfl in8 ty8 tk8 nm8 14 (by decide) (Nat.le_of_ble_eq_true rfl) hl rfl rfl rfl (by simp [rE, sI]) (fun j hj hn => rne_11_2 hn) hdg kk
theorem gf8_refusals (X : tf_X G 16 own cc nL ret p s m args meth c) (h : tf_H G 16 (rE G I L) s.heap H locs) (hl : Cond.fieldLink own index "TradeFloorModel" "refusals" "I" ∈ gT) (hdg : decode cc pc = .ok (.getfield index, 3)) (kk : W p l e R s m args below meth c H locs cells slots Q (F0 m (pc + 3) ls (.int (I 11 3) :: rest))) : W p l e R s m args below meth c H locs cells slots Q (F0 m pc ls (.ref (al G 0) :: rest)) :=
  tf_get X h 0 (by decide) rfl rfl in8 15 (by decide) hl rfl hdg kk
theorem pf8_refusals (X : tf_X G 16 own cc nL ret p s m args meth c) (h : tf_H G 16 (rE G I L) s.heap H locs) {v : Int32} {Z : FI} (eZ : Z = sI I 11 3 v) (hl : Cond.fieldLink own index "TradeFloorModel" "refusals" "I" ∈ gT) (hdg : decode cc pc = .ok (.putfield index, 3)) (kk : ∀ (H1 : Heap) (locs1 : List Loc), tf_H G 16 (rE G Z L) s.heap H1 locs1 → W p l e R s m args below meth c H1 locs1 cells slots Q (F0 m (pc + 3) ls rest)) : W p l e R s m args below meth c H locs cells slots Q (F0 m pc ls (.int v :: .ref (al G 0) :: rest)) :=
  by subst eZ; exact tf_put X h 0 (by decide) rfl rfl in8 ty8 tk8 nm8 15 (by decide) (Nat.le_of_ble_eq_true rfl) hl rfl rfl rfl (by simp [rE, sI]) (fun j hj hn => rne_11_3 hn) hdg kk
theorem gf8_last (X : tf_X G 16 own cc nL ret p s m args meth c) (h : tf_H G 16 (rE G I L) s.heap H locs) (hl : Cond.fieldLink own index "TradeFloorModel" "last" "I" ∈ gT) (hdg : decode cc pc = .ok (.getfield index, 3)) (kk : W p l e R s m args below meth c H locs cells slots Q (F0 m (pc + 3) ls (.int (I 11 4) :: rest))) : W p l e R s m args below meth c H locs cells slots Q (F0 m pc ls (.ref (al G 0) :: rest)) :=
  tf_get X h 0 (by decide) rfl rfl in8 16 (by decide) hl rfl hdg kk
theorem pf8_last (X : tf_X G 16 own cc nL ret p s m args meth c) (h : tf_H G 16 (rE G I L) s.heap H locs) {v : Int32} {Z : FI} (eZ : Z = sI I 11 4 v) (hl : Cond.fieldLink own index "TradeFloorModel" "last" "I" ∈ gT) (hdg : decode cc pc = .ok (.putfield index, 3)) (kk : ∀ (H1 : Heap) (locs1 : List Loc), tf_H G 16 (rE G Z L) s.heap H1 locs1 → W p l e R s m args below meth c H1 locs1 cells slots Q (F0 m (pc + 3) ls rest)) : W p l e R s m args below meth c H locs cells slots Q (F0 m pc ls (.int v :: .ref (al G 0) :: rest)) :=
  by subst eZ; exact tf_put X h 0 (by decide) rfl rfl in8 ty8 tk8 nm8 16 (by decide) (Nat.le_of_ble_eq_true rfl) hl rfl rfl rfl (by simp [rE, sI]) (fun j hj hn => rne_11_4 hn) hdg kk
theorem gf8_now (X : tf_X G 16 own cc nL ret p s m args meth c) (h : tf_H G 16 (rE G I L) s.heap H locs) (hl : Cond.fieldLink own index "TradeFloorModel" "now" "I" ∈ gT) (hdg : decode cc pc = .ok (.getfield index, 3)) (kk : W p l e R s m args below meth c H locs cells slots Q (F0 m (pc + 3) ls (.int (I 11 5) :: rest))) : W p l e R s m args below meth c H locs cells slots Q (F0 m pc ls (.ref (al G 0) :: rest)) :=
  tf_get X h 0 (by decide) rfl rfl in8 17 (by decide) hl rfl hdg kk
theorem pf8_now (X : tf_X G 16 own cc nL ret p s m args meth c) (h : tf_H G 16 (rE G I L) s.heap H locs) {v : Int32} {Z : FI} (eZ : Z = sI I 11 5 v) (hl : Cond.fieldLink own index "TradeFloorModel" "now" "I" ∈ gT) (hdg : decode cc pc = .ok (.putfield index, 3)) (kk : ∀ (H1 : Heap) (locs1 : List Loc), tf_H G 16 (rE G Z L) s.heap H1 locs1 → W p l e R s m args below meth c H1 locs1 cells slots Q (F0 m (pc + 3) ls rest)) : W p l e R s m args below meth c H locs cells slots Q (F0 m pc ls (.int v :: .ref (al G 0) :: rest)) :=
  by subst eZ; exact tf_put X h 0 (by decide) rfl rfl in8 ty8 tk8 nm8 17 (by decide) (Nat.le_of_ble_eq_true rfl) hl rfl rfl rfl (by simp [rE, sI]) (fun j hj hn => rne_11_5 hn) hdg kk
theorem gf8_buyer (X : tf_X G 16 own cc nL ret p s m args meth c) (h : tf_H G 16 (rE G I L) s.heap H locs) (hl : Cond.fieldLink own index "TradeFloorModel" "buyer" "[I" ∈ gT) (hdg : decode cc pc = .ok (.getfield index, 3)) (kk : W p l e R s m args below meth c H locs cells slots Q (F0 m (pc + 3) ls (.ref (al G 12) :: rest))) : W p l e R s m args below meth c H locs cells slots Q (F0 m pc ls (.ref (al G 0) :: rest)) :=
  tf_get X h 0 (by decide) rfl rfl in8 18 (by decide) hl rfl hdg kk
theorem gf8_seller (X : tf_X G 16 own cc nL ret p s m args meth c) (h : tf_H G 16 (rE G I L) s.heap H locs) (hl : Cond.fieldLink own index "TradeFloorModel" "seller" "[I" ∈ gT) (hdg : decode cc pc = .ok (.getfield index, 3)) (kk : W p l e R s m args below meth c H locs cells slots Q (F0 m (pc + 3) ls (.ref (al G 13) :: rest))) : W p l e R s m args below meth c H locs cells slots Q (F0 m pc ls (.ref (al G 0) :: rest)) :=
  tf_get X h 0 (by decide) rfl rfl in8 19 (by decide) hl rfl hdg kk
theorem gf8_paid (X : tf_X G 16 own cc nL ret p s m args meth c) (h : tf_H G 16 (rE G I L) s.heap H locs) (hl : Cond.fieldLink own index "TradeFloorModel" "paid" "[I" ∈ gT) (hdg : decode cc pc = .ok (.getfield index, 3)) (kk : W p l e R s m args below meth c H locs cells slots Q (F0 m (pc + 3) ls (.ref (al G 14) :: rest))) : W p l e R s m args below meth c H locs cells slots Q (F0 m pc ls (.ref (al G 0) :: rest)) :=
  tf_get X h 0 (by decide) rfl rfl in8 20 (by decide) hl rfl hdg kk
theorem gf8_many (X : tf_X G 16 own cc nL ret p s m args meth c) (h : tf_H G 16 (rE G I L) s.heap H locs) (hl : Cond.fieldLink own index "TradeFloorModel" "many" "[I" ∈ gT) (hdg : decode cc pc = .ok (.getfield index, 3)) (kk : W p l e R s m args below meth c H locs cells slots Q (F0 m (pc + 3) ls (.ref (al G 15) :: rest))) : W p l e R s m args below meth c H locs cells slots Q (F0 m pc ls (.ref (al G 0) :: rest)) :=
  tf_get X h 0 (by decide) rfl rfl in8 21 (by decide) hl rfl hdg kk
theorem gar_1 (X : tf_X G 16 own cc nL ret p s m args meth c) (h : tf_H G 16 (rE G I L) s.heap H locs) {i : Int32} (hin : vp_in i 40) (hdg : decode cc pc = .ok (.iaload, 1)) (kk : W p l e R s m args below meth c H locs cells slots Q (F0 m (pc + 1) ls (.int (I 6 i.toNatClampNeg) :: rest))) : W p l e R s m args below meth c H locs cells slots Q (F0 m pc ls (.int i :: .ref (al G 1) :: rest)) :=
  tf_iald X h 1 (by decide) rfl hin hdg kk
theorem par_1 (X : tf_X G 16 own cc nL ret p s m args meth c) (h : tf_H G 16 (rE G I L) s.heap H locs) {i : Int32} {v : Int32} {Z : FI} (hin : vp_in i 40) (eZ : Z = sI I 6 i.toNatClampNeg v) (hdg : decode cc pc = .ok (.iastore, 1)) (kk : ∀ (H1 : Heap) (locs1 : List Loc), tf_H G 16 (rE G Z L) s.heap H1 locs1 → W p l e R s m args below meth c H1 locs1 cells slots Q (F0 m (pc + 1) ls rest)) : W p l e R s m args below meth c H locs cells slots Q (F0 m pc ls (.int v :: .int i :: .ref (al G 1) :: rest)) :=
  by subst eZ; exact tf_iast X h 1 (by decide) rfl hin (by simp only [rE, sI_upd]) (fun j hj hn => rne_a1 hn) hdg kk
theorem gar_2 (X : tf_X G 16 own cc nL ret p s m args meth c) (h : tf_H G 16 (rE G I L) s.heap H locs) {i : Int32} (hin : vp_in i 12) (hdg : decode cc pc = .ok (.iaload, 1)) (kk : W p l e R s m args below meth c H locs cells slots Q (F0 m (pc + 1) ls (.int (I 13 i.toNatClampNeg) :: rest))) : W p l e R s m args below meth c H locs cells slots Q (F0 m pc ls (.int i :: .ref (al G 2) :: rest)) :=
  tf_iald X h 2 (by decide) rfl hin hdg kk
theorem par_2 (X : tf_X G 16 own cc nL ret p s m args meth c) (h : tf_H G 16 (rE G I L) s.heap H locs) {i : Int32} {v : Int32} {Z : FI} (hin : vp_in i 12) (eZ : Z = sI I 13 i.toNatClampNeg v) (hdg : decode cc pc = .ok (.iastore, 1)) (kk : ∀ (H1 : Heap) (locs1 : List Loc), tf_H G 16 (rE G Z L) s.heap H1 locs1 → W p l e R s m args below meth c H1 locs1 cells slots Q (F0 m (pc + 1) ls rest)) : W p l e R s m args below meth c H locs cells slots Q (F0 m pc ls (.int v :: .int i :: .ref (al G 2) :: rest)) :=
  by subst eZ; exact tf_iast X h 2 (by decide) rfl hin (by simp only [rE, sI_upd]) (fun j hj hn => rne_a2 hn) hdg kk
theorem gar_3 (X : tf_X G 16 own cc nL ret p s m args meth c) (h : tf_H G 16 (rE G I L) s.heap H locs) {i : Int32} (hin : vp_in i 12) (hdg : decode cc pc = .ok (.iaload, 1)) (kk : W p l e R s m args below meth c H locs cells slots Q (F0 m (pc + 1) ls (.int (I 14 i.toNatClampNeg) :: rest))) : W p l e R s m args below meth c H locs cells slots Q (F0 m pc ls (.int i :: .ref (al G 3) :: rest)) :=
  tf_iald X h 3 (by decide) rfl hin hdg kk
theorem par_3 (X : tf_X G 16 own cc nL ret p s m args meth c) (h : tf_H G 16 (rE G I L) s.heap H locs) {i : Int32} {v : Int32} {Z : FI} (hin : vp_in i 12) (eZ : Z = sI I 14 i.toNatClampNeg v) (hdg : decode cc pc = .ok (.iastore, 1)) (kk : ∀ (H1 : Heap) (locs1 : List Loc), tf_H G 16 (rE G Z L) s.heap H1 locs1 → W p l e R s m args below meth c H1 locs1 cells slots Q (F0 m (pc + 1) ls rest)) : W p l e R s m args below meth c H locs cells slots Q (F0 m pc ls (.int v :: .int i :: .ref (al G 3) :: rest)) :=
  by subst eZ; exact tf_iast X h 3 (by decide) rfl hin (by simp only [rE, sI_upd]) (fun j hj hn => rne_a3 hn) hdg kk
theorem gar_4 (X : tf_X G 16 own cc nL ret p s m args meth c) (h : tf_H G 16 (rE G I L) s.heap H locs) {i : Int32} (hin : vp_in i 8) (hdg : decode cc pc = .ok (.laload, 1)) (kk : W p l e R s m args below meth c H locs cells slots Q (F0 m (pc + 1) ls (.long (L 0 i.toNatClampNeg) :: rest))) : W p l e R s m args below meth c H locs cells slots Q (F0 m pc ls (.int i :: .ref (al G 4) :: rest)) :=
  tf_lald X h 4 (by decide) rfl hin hdg kk
theorem par_4 (X : tf_X G 16 own cc nL ret p s m args meth c) (h : tf_H G 16 (rE G I L) s.heap H locs) {i : Int32} {v : Int64} {Z : FL} (hin : vp_in i 8) (eZ : Z = sL L 0 i.toNatClampNeg v) (hdg : decode cc pc = .ok (.lastore, 1)) (kk : ∀ (H1 : Heap) (locs1 : List Loc), tf_H G 16 (rE G I Z) s.heap H1 locs1 → W p l e R s m args below meth c H1 locs1 cells slots Q (F0 m (pc + 1) ls rest)) : W p l e R s m args below meth c H locs cells slots Q (F0 m pc ls (.long v :: .int i :: .ref (al G 4) :: rest)) :=
  by subst eZ; exact tf_last X h 4 (by decide) rfl hin (by simp only [rE, sL_upd]) (fun j hj hn => rne_a4 hn) hdg kk
theorem gar_5 (X : tf_X G 16 own cc nL ret p s m args meth c) (h : tf_H G 16 (rE G I L) s.heap H locs) {i : Int32} (hin : vp_in i 8) (hdg : decode cc pc = .ok (.laload, 1)) (kk : W p l e R s m args below meth c H locs cells slots Q (F0 m (pc + 1) ls (.long (L 1 i.toNatClampNeg) :: rest))) : W p l e R s m args below meth c H locs cells slots Q (F0 m pc ls (.int i :: .ref (al G 5) :: rest)) :=
  tf_lald X h 5 (by decide) rfl hin hdg kk
theorem par_5 (X : tf_X G 16 own cc nL ret p s m args meth c) (h : tf_H G 16 (rE G I L) s.heap H locs) {i : Int32} {v : Int64} {Z : FL} (hin : vp_in i 8) (eZ : Z = sL L 1 i.toNatClampNeg v) (hdg : decode cc pc = .ok (.lastore, 1)) (kk : ∀ (H1 : Heap) (locs1 : List Loc), tf_H G 16 (rE G I Z) s.heap H1 locs1 → W p l e R s m args below meth c H1 locs1 cells slots Q (F0 m (pc + 1) ls rest)) : W p l e R s m args below meth c H locs cells slots Q (F0 m pc ls (.long v :: .int i :: .ref (al G 5) :: rest)) :=
  by subst eZ; exact tf_last X h 5 (by decide) rfl hin (by simp only [rE, sL_upd]) (fun j hj hn => rne_a5 hn) hdg kk
theorem gar_6 (X : tf_X G 16 own cc nL ret p s m args meth c) (h : tf_H G 16 (rE G I L) s.heap H locs) {i : Int32} (hin : vp_in i 40) (hdg : decode cc pc = .ok (.iaload, 1)) (kk : W p l e R s m args below meth c H locs cells slots Q (F0 m (pc + 1) ls (.int (I 0 i.toNatClampNeg) :: rest))) : W p l e R s m args below meth c H locs cells slots Q (F0 m pc ls (.int i :: .ref (al G 6) :: rest)) :=
  tf_iald X h 6 (by decide) rfl hin hdg kk
theorem par_6 (X : tf_X G 16 own cc nL ret p s m args meth c) (h : tf_H G 16 (rE G I L) s.heap H locs) {i : Int32} {v : Int32} {Z : FI} (hin : vp_in i 40) (eZ : Z = sI I 0 i.toNatClampNeg v) (hdg : decode cc pc = .ok (.iastore, 1)) (kk : ∀ (H1 : Heap) (locs1 : List Loc), tf_H G 16 (rE G Z L) s.heap H1 locs1 → W p l e R s m args below meth c H1 locs1 cells slots Q (F0 m (pc + 1) ls rest)) : W p l e R s m args below meth c H locs cells slots Q (F0 m pc ls (.int v :: .int i :: .ref (al G 6) :: rest)) :=
  by subst eZ; exact tf_iast X h 6 (by decide) rfl hin (by simp only [rE, sI_upd]) (fun j hj hn => rne_a6 hn) hdg kk
theorem gar_7 (X : tf_X G 16 own cc nL ret p s m args meth c) (h : tf_H G 16 (rE G I L) s.heap H locs) {i : Int32} (hin : vp_in i 40) (hdg : decode cc pc = .ok (.iaload, 1)) (kk : W p l e R s m args below meth c H locs cells slots Q (F0 m (pc + 1) ls (.int (I 1 i.toNatClampNeg) :: rest))) : W p l e R s m args below meth c H locs cells slots Q (F0 m pc ls (.int i :: .ref (al G 7) :: rest)) :=
  tf_iald X h 7 (by decide) rfl hin hdg kk
theorem par_7 (X : tf_X G 16 own cc nL ret p s m args meth c) (h : tf_H G 16 (rE G I L) s.heap H locs) {i : Int32} {v : Int32} {Z : FI} (hin : vp_in i 40) (eZ : Z = sI I 1 i.toNatClampNeg v) (hdg : decode cc pc = .ok (.iastore, 1)) (kk : ∀ (H1 : Heap) (locs1 : List Loc), tf_H G 16 (rE G Z L) s.heap H1 locs1 → W p l e R s m args below meth c H1 locs1 cells slots Q (F0 m (pc + 1) ls rest)) : W p l e R s m args below meth c H locs cells slots Q (F0 m pc ls (.int v :: .int i :: .ref (al G 7) :: rest)) :=
  by subst eZ; exact tf_iast X h 7 (by decide) rfl hin (by simp only [rE, sI_upd]) (fun j hj hn => rne_a7 hn) hdg kk
theorem gar_8 (X : tf_X G 16 own cc nL ret p s m args meth c) (h : tf_H G 16 (rE G I L) s.heap H locs) {i : Int32} (hin : vp_in i 40) (hdg : decode cc pc = .ok (.iaload, 1)) (kk : W p l e R s m args below meth c H locs cells slots Q (F0 m (pc + 1) ls (.int (I 2 i.toNatClampNeg) :: rest))) : W p l e R s m args below meth c H locs cells slots Q (F0 m pc ls (.int i :: .ref (al G 8) :: rest)) :=
  tf_iald X h 8 (by decide) rfl hin hdg kk
theorem par_8 (X : tf_X G 16 own cc nL ret p s m args meth c) (h : tf_H G 16 (rE G I L) s.heap H locs) {i : Int32} {v : Int32} {Z : FI} (hin : vp_in i 40) (eZ : Z = sI I 2 i.toNatClampNeg v) (hdg : decode cc pc = .ok (.iastore, 1)) (kk : ∀ (H1 : Heap) (locs1 : List Loc), tf_H G 16 (rE G Z L) s.heap H1 locs1 → W p l e R s m args below meth c H1 locs1 cells slots Q (F0 m (pc + 1) ls rest)) : W p l e R s m args below meth c H locs cells slots Q (F0 m pc ls (.int v :: .int i :: .ref (al G 8) :: rest)) :=
  by subst eZ; exact tf_iast X h 8 (by decide) rfl hin (by simp only [rE, sI_upd]) (fun j hj hn => rne_a8 hn) hdg kk
theorem gar_9 (X : tf_X G 16 own cc nL ret p s m args meth c) (h : tf_H G 16 (rE G I L) s.heap H locs) {i : Int32} (hin : vp_in i 40) (hdg : decode cc pc = .ok (.iaload, 1)) (kk : W p l e R s m args below meth c H locs cells slots Q (F0 m (pc + 1) ls (.int (I 3 i.toNatClampNeg) :: rest))) : W p l e R s m args below meth c H locs cells slots Q (F0 m pc ls (.int i :: .ref (al G 9) :: rest)) :=
  tf_iald X h 9 (by decide) rfl hin hdg kk
theorem par_9 (X : tf_X G 16 own cc nL ret p s m args meth c) (h : tf_H G 16 (rE G I L) s.heap H locs) {i : Int32} {v : Int32} {Z : FI} (hin : vp_in i 40) (eZ : Z = sI I 3 i.toNatClampNeg v) (hdg : decode cc pc = .ok (.iastore, 1)) (kk : ∀ (H1 : Heap) (locs1 : List Loc), tf_H G 16 (rE G Z L) s.heap H1 locs1 → W p l e R s m args below meth c H1 locs1 cells slots Q (F0 m (pc + 1) ls rest)) : W p l e R s m args below meth c H locs cells slots Q (F0 m pc ls (.int v :: .int i :: .ref (al G 9) :: rest)) :=
  by subst eZ; exact tf_iast X h 9 (by decide) rfl hin (by simp only [rE, sI_upd]) (fun j hj hn => rne_a9 hn) hdg kk
theorem gar_10 (X : tf_X G 16 own cc nL ret p s m args meth c) (h : tf_H G 16 (rE G I L) s.heap H locs) {i : Int32} (hin : vp_in i 40) (hdg : decode cc pc = .ok (.iaload, 1)) (kk : W p l e R s m args below meth c H locs cells slots Q (F0 m (pc + 1) ls (.int (I 4 i.toNatClampNeg) :: rest))) : W p l e R s m args below meth c H locs cells slots Q (F0 m pc ls (.int i :: .ref (al G 10) :: rest)) :=
  tf_iald X h 10 (by decide) rfl hin hdg kk
theorem par_10 (X : tf_X G 16 own cc nL ret p s m args meth c) (h : tf_H G 16 (rE G I L) s.heap H locs) {i : Int32} {v : Int32} {Z : FI} (hin : vp_in i 40) (eZ : Z = sI I 4 i.toNatClampNeg v) (hdg : decode cc pc = .ok (.iastore, 1)) (kk : ∀ (H1 : Heap) (locs1 : List Loc), tf_H G 16 (rE G Z L) s.heap H1 locs1 → W p l e R s m args below meth c H1 locs1 cells slots Q (F0 m (pc + 1) ls rest)) : W p l e R s m args below meth c H locs cells slots Q (F0 m pc ls (.int v :: .int i :: .ref (al G 10) :: rest)) :=
  by subst eZ; exact tf_iast X h 10 (by decide) rfl hin (by simp only [rE, sI_upd]) (fun j hj hn => rne_a10 hn) hdg kk
theorem gar_11 (X : tf_X G 16 own cc nL ret p s m args meth c) (h : tf_H G 16 (rE G I L) s.heap H locs) {i : Int32} (hin : vp_in i 40) (hdg : decode cc pc = .ok (.iaload, 1)) (kk : W p l e R s m args below meth c H locs cells slots Q (F0 m (pc + 1) ls (.int (I 5 i.toNatClampNeg) :: rest))) : W p l e R s m args below meth c H locs cells slots Q (F0 m pc ls (.int i :: .ref (al G 11) :: rest)) :=
  tf_iald X h 11 (by decide) rfl hin hdg kk
theorem par_11 (X : tf_X G 16 own cc nL ret p s m args meth c) (h : tf_H G 16 (rE G I L) s.heap H locs) {i : Int32} {v : Int32} {Z : FI} (hin : vp_in i 40) (eZ : Z = sI I 5 i.toNatClampNeg v) (hdg : decode cc pc = .ok (.iastore, 1)) (kk : ∀ (H1 : Heap) (locs1 : List Loc), tf_H G 16 (rE G Z L) s.heap H1 locs1 → W p l e R s m args below meth c H1 locs1 cells slots Q (F0 m (pc + 1) ls rest)) : W p l e R s m args below meth c H locs cells slots Q (F0 m pc ls (.int v :: .int i :: .ref (al G 11) :: rest)) :=
  by subst eZ; exact tf_iast X h 11 (by decide) rfl hin (by simp only [rE, sI_upd]) (fun j hj hn => rne_a11 hn) hdg kk
theorem gar_12 (X : tf_X G 16 own cc nL ret p s m args meth c) (h : tf_H G 16 (rE G I L) s.heap H locs) {i : Int32} (hin : vp_in i 200) (hdg : decode cc pc = .ok (.iaload, 1)) (kk : W p l e R s m args below meth c H locs cells slots Q (F0 m (pc + 1) ls (.int (I 7 i.toNatClampNeg) :: rest))) : W p l e R s m args below meth c H locs cells slots Q (F0 m pc ls (.int i :: .ref (al G 12) :: rest)) :=
  tf_iald X h 12 (by decide) rfl hin hdg kk
theorem par_12 (X : tf_X G 16 own cc nL ret p s m args meth c) (h : tf_H G 16 (rE G I L) s.heap H locs) {i : Int32} {v : Int32} {Z : FI} (hin : vp_in i 200) (eZ : Z = sI I 7 i.toNatClampNeg v) (hdg : decode cc pc = .ok (.iastore, 1)) (kk : ∀ (H1 : Heap) (locs1 : List Loc), tf_H G 16 (rE G Z L) s.heap H1 locs1 → W p l e R s m args below meth c H1 locs1 cells slots Q (F0 m (pc + 1) ls rest)) : W p l e R s m args below meth c H locs cells slots Q (F0 m pc ls (.int v :: .int i :: .ref (al G 12) :: rest)) :=
  by subst eZ; exact tf_iast X h 12 (by decide) rfl hin (by simp only [rE, sI_upd]) (fun j hj hn => rne_a12 hn) hdg kk
theorem gar_13 (X : tf_X G 16 own cc nL ret p s m args meth c) (h : tf_H G 16 (rE G I L) s.heap H locs) {i : Int32} (hin : vp_in i 200) (hdg : decode cc pc = .ok (.iaload, 1)) (kk : W p l e R s m args below meth c H locs cells slots Q (F0 m (pc + 1) ls (.int (I 8 i.toNatClampNeg) :: rest))) : W p l e R s m args below meth c H locs cells slots Q (F0 m pc ls (.int i :: .ref (al G 13) :: rest)) :=
  tf_iald X h 13 (by decide) rfl hin hdg kk
theorem par_13 (X : tf_X G 16 own cc nL ret p s m args meth c) (h : tf_H G 16 (rE G I L) s.heap H locs) {i : Int32} {v : Int32} {Z : FI} (hin : vp_in i 200) (eZ : Z = sI I 8 i.toNatClampNeg v) (hdg : decode cc pc = .ok (.iastore, 1)) (kk : ∀ (H1 : Heap) (locs1 : List Loc), tf_H G 16 (rE G Z L) s.heap H1 locs1 → W p l e R s m args below meth c H1 locs1 cells slots Q (F0 m (pc + 1) ls rest)) : W p l e R s m args below meth c H locs cells slots Q (F0 m pc ls (.int v :: .int i :: .ref (al G 13) :: rest)) :=
  by subst eZ; exact tf_iast X h 13 (by decide) rfl hin (by simp only [rE, sI_upd]) (fun j hj hn => rne_a13 hn) hdg kk
theorem gar_14 (X : tf_X G 16 own cc nL ret p s m args meth c) (h : tf_H G 16 (rE G I L) s.heap H locs) {i : Int32} (hin : vp_in i 200) (hdg : decode cc pc = .ok (.iaload, 1)) (kk : W p l e R s m args below meth c H locs cells slots Q (F0 m (pc + 1) ls (.int (I 9 i.toNatClampNeg) :: rest))) : W p l e R s m args below meth c H locs cells slots Q (F0 m pc ls (.int i :: .ref (al G 14) :: rest)) :=
  tf_iald X h 14 (by decide) rfl hin hdg kk
theorem par_14 (X : tf_X G 16 own cc nL ret p s m args meth c) (h : tf_H G 16 (rE G I L) s.heap H locs) {i : Int32} {v : Int32} {Z : FI} (hin : vp_in i 200) (eZ : Z = sI I 9 i.toNatClampNeg v) (hdg : decode cc pc = .ok (.iastore, 1)) (kk : ∀ (H1 : Heap) (locs1 : List Loc), tf_H G 16 (rE G Z L) s.heap H1 locs1 → W p l e R s m args below meth c H1 locs1 cells slots Q (F0 m (pc + 1) ls rest)) : W p l e R s m args below meth c H locs cells slots Q (F0 m pc ls (.int v :: .int i :: .ref (al G 14) :: rest)) :=
  by subst eZ; exact tf_iast X h 14 (by decide) rfl hin (by simp only [rE, sI_upd]) (fun j hj hn => rne_a14 hn) hdg kk
theorem gar_15 (X : tf_X G 16 own cc nL ret p s m args meth c) (h : tf_H G 16 (rE G I L) s.heap H locs) {i : Int32} (hin : vp_in i 200) (hdg : decode cc pc = .ok (.iaload, 1)) (kk : W p l e R s m args below meth c H locs cells slots Q (F0 m (pc + 1) ls (.int (I 10 i.toNatClampNeg) :: rest))) : W p l e R s m args below meth c H locs cells slots Q (F0 m pc ls (.int i :: .ref (al G 15) :: rest)) :=
  tf_iald X h 15 (by decide) rfl hin hdg kk
theorem par_15 (X : tf_X G 16 own cc nL ret p s m args meth c) (h : tf_H G 16 (rE G I L) s.heap H locs) {i : Int32} {v : Int32} {Z : FI} (hin : vp_in i 200) (eZ : Z = sI I 10 i.toNatClampNeg v) (hdg : decode cc pc = .ok (.iastore, 1)) (kk : ∀ (H1 : Heap) (locs1 : List Loc), tf_H G 16 (rE G Z L) s.heap H1 locs1 → W p l e R s m args below meth c H1 locs1 cells slots Q (F0 m (pc + 1) ls rest)) : W p l e R s m args below meth c H locs cells slots Q (F0 m pc ls (.int v :: .int i :: .ref (al G 15) :: rest)) :=
  by subst eZ; exact tf_iast X h 15 (by decide) rfl hin (by simp only [rE, sI_upd]) (fun j hj hn => rne_a15 hn) hdg kk
end RW
