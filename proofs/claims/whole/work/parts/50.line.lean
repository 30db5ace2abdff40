/-! PURE PART 21: line -/
theorem vb_all {I0 J : FI} {L K : FL} {w z n B T : Nat} (hI : Inv I0 L n B T) (hR : Rr I0 J) (hL : Rl L K) (hC : RC I0 J w z) (h0 : I0 15 0 = 0) (hB : B + 4200000000 < 2 ^ 60) (hT : T + 42 < 2 ^ 30) : Vb I0 J L K B T := by
  cases c0 : SW I0 w 0 0 with
  | true => exact v_order hI hR hL hC hB hT (Or.inl c0)
  | false =>
  cases c1 : SW I0 w 0 1 with
  | true => exact v_order hI hR hL hC hB hT (Or.inr c1)
  | false =>
  cases c8 : SW I0 w 0 8 with
  | true => exact v_stop hI hR hL hC c8
  | false =>
  cases c9 : SW I0 w 0 9 with
  | true => exact v_amount (v := 1) hI hR hL hC (by omega) (by omega) c9
  | false =>
  cases c10 : SW I0 w 0 10 with
  | true => exact v_amount (v := 2) hI hR hL hC (by omega) (by omega) c10
  | false =>
  cases c11 : SW I0 w 0 11 with
  | true => exact v_amount (v := 3) hI hR hL hC (by omega) (by omega) c11
  | false =>
  cases c12 : SW I0 w 0 12 with
  | true => exact v_cancel hI hR hL hC c12
  | false =>
  cases c13 : SW I0 w 0 13 with
  | true => exact v_less hI hR hL hC c13
  | false =>
  cases c14 : SW I0 w 0 14 with
  | true => exact v_tick hI hR hL hC c14
  | false =>
    refine v_none hI hR hL hC h0 (fun i hi => ?_)
    rcases (show i = 0 ∨ i = 1 ∨ i = 8 ∨ i = 9 ∨ i = 10 ∨ i = 11 ∨ i = 12 ∨ i = 13 ∨ i = 14 by omega) with rfl | rfl | rfl | rfl | rfl | rfl | rfl | rfl | rfl <;> assumption
/-- behind the line's own work -/
theorem line_fin {I J : FI} {L K : FL} {n B T : Nat} (r : Int32) (hI : Inv I L n B T) (hR : Rr I J) (hL : Rl L K) (h0 : I 11 0 = 0) (hB : B + 168000000000 < 2 ^ 60) (hT : T + 1680 < 2 ^ 30) :
    ∃ (I' : FI) (L' : FL) (J' : FI) (K' : FL), (if 0 ≤ r then bv (fK2_wakeStops I L) (fun I_13 L_14 => some (r, I_13, L_14)) else nm (sI I 11 3 ((I 11 3) + 1)) (fun I_15 => some (r, I_15, L))) = some (r, I', L') ∧ fK8_line_16 r J K = some (r, J', K') ∧ Rr I' J' ∧ Rl L' K' ∧ (∃ n', Inv I' L' n' (B + 168000000000) (T + 1680)) ∧ I' 11 0 = nI 0 ∧ J' 11 0 = nI 0 := by
  have R1 : Rr I (sI J 11 0 0) := hR.ref (Or.inr ⟨rfl, rfl⟩)
  have hnJ : sI J 11 0 0 11 1 = nI n := by rw [R1.at (by omega)]; exact hI.1
  by_cases c : 0 ≤ r
  · obtain ⟨I', L', J', K', r1, r2, r3, r4, r5, r6, r7⟩ := wake_rel (got := r) 40 I (sI J 11 0 0) L K B T 0 FU FU hI R1 hL (Nat.le_trans (scn_le I n) hI.2.1) (by omega) (by omega) (by omega) (by decide) (by decide)
    refine ⟨I', L', J', K', ?_, ?_, r3, r4, ⟨n, r5.mono (by omega) (by omega)⟩, ?_, ?_⟩
    · have r1' : fK2_wakeStops I L = some (I', L') := r1
      rw [if_pos c, r1', bv_eq]
    · simp only [fK8_line_16, nm_eq, if_pos c, r_wake hnJ hI.2.1, bn_eq]
      exact r2
    · rw [r6]; exact h0
    · rw [r7, sI_eq]; rfl
  · refine ⟨sI I 11 3 (I 11 3 + 1), L, sI (sI J 11 0 0) 11 3 (sI J 11 0 0 11 3 + 1), K, ?_, ?_, R1.setv (by rw [R1.at (by omega)]), hL, ⟨n, (hI.set (by omega) (by omega) (by omega)).mono (by omega) (by omega)⟩, ?_, ?_⟩
    · rw [if_neg c]; rfl
    · simp only [fK8_line_16, nm_eq, if_neg c]
    · rw [sI_at (by omega)]; exact h0
    · rw [sI_at (by omega), sI_eq]; rfl
theorem line_rel {I J : FI} {L K : FL} {n B T z : Nat} (hI : Inv I L n B T) (hR : Rr I J) (hL : Rl L K) (hz : z ≤ 40) (hIz : I 11 0 = nI z) (hJz : J 11 0 = nI z) (hB : B + 1000000000000 < 2 ^ 60) (hT : T + 2000 < 2 ^ 30) :
    ∃ (r : Int32) (I' : FI) (L' : FL) (J' : FI) (K' : FL), fK7_line I L = some (r, I', L') ∧ fK8_line J K = some (r, J', K') ∧ Rr I' J' ∧ Rl L' K' ∧ (∃ n', Inv I' L' n' (B + 1000000000000) (T + 2000)) ∧ I' 11 0 = nI 0 ∧ J' 11 0 = nI 0 := by
  obtain ⟨b, b', I4, J3, q1, q2, q3, q4, q5⟩ := cut_rel hz (L := L) (K := K) z 0 0 0 FU FU 299 (sI (sI I 15 0 0) 12 0 0) (sI J 12 0 0) (by omega) (by omega) (by omega) sI_eq sI_eq (by rw [sI_at (by omega), sI_at (by omega)]; exact hIz) (by rw [sI_at (by omega)]; exact hJz) (fun j => by rw [sI_at (by omega), sI_at (by omega), sI_at (by omega)]; exact hR.at (by omega)) (fun k hk => absurd hk (by omega)) (fun k hk => absurd hk (by omega)) (by simp only [FU]; omega) (by simp only [FU]; omega) (by omega)
  have cut : fK5_cutIntoWords (sI I 15 0 0) L = some (b, I4, L) := q1
  have tak : fK8_taken J K = some (b', J3, K) := q2
  have s4 : ∀ f j, f ≠ 12 → f ≠ 13 → f ≠ 14 → f ≠ 15 → I4 f j = I f j := fun f j a1 a2 a3 a4 => by rw [q3 f j a1 a2 a3, sI_at (by omega), sI_at (by omega)]
  have s3 : ∀ f j, f ≠ 12 → f ≠ 13 → f ≠ 14 → J3 f j = J f j := fun f j a1 a2 a3 => by rw [q4 f j a1 a2 a3, sI_at (by omega)]
  have v0 : I4 15 0 = 0 := by rw [q3 15 0 (by omega) (by omega) (by omega), sI_at (by omega), sI_eq]
  have hI4 : Inv I4 L n B T := hI.row (fun k _ f _ => s4 f k (by omega) (by omega) (by omega) (by omega)) (s4 11 1 (by omega) (by omega) (by omega) (by omega)) (s4 11 2 (by omega) (by omega) (by omega) (by omega))
  have hR4 : Rr I4 J3 := fun f j hf => by rw [s4 f j (by omega) (by omega) (by omega) (by omega), s3 f j (by omega) (by omega) (by omega)]; exact hR f j hf
  -- behind reading and doing
  have fin : ∀ (I2 : FI) (r : Int32) (I9 : FI) (L10 : FL) (J8 : FI) (K9 : FL), fK1_read I L = some (I2, L) → fK2_perform (sI I2 11 0 0) L = some (r, I9, L10) → fK8_line J K = fK8_line_16 r J8 K9 → Out (sI I2 11 0 0) J3 (B + 400000000000) (T + 42) I9 L10 J8 K9 →
      ∃ (r : Int32) (I' : FI) (L' : FL) (J' : FI) (K' : FL), fK7_line I L = some (r, I', L') ∧ fK8_line J K = some (r, J', K') ∧ Rr I' J' ∧ Rl L' K' ∧ (∃ n', Inv I' L' n' (B + 1000000000000) (T + 2000)) ∧ I' 11 0 = nI 0 ∧ J' 11 0 = nI 0 := by
    intro I2 r I9 L10 J8 K9 e1 e2 e3 e4
    obtain ⟨o1, o2, ⟨n', o3⟩, o4, o5⟩ := e4
    obtain ⟨I', L', J', K', f1, f2, f3, f4, ⟨n'', f5⟩, f6, f7⟩ := line_fin r o3 o1 o2 (by rw [o4, sI_eq]) (by omega) (by omega)
    refine ⟨r, I', L', J', K', ?_, by rw [e3]; exact f2, f3, f4, ⟨n'', f5.mono (by omega) (by omega)⟩, f6, f7⟩
    simp only [fK7_line, e1, bv_eq, fK5_clear, nm_eq, e2, bq_eq]
    exact f1
  rcases q5 with ⟨rfl, rfl, w', hw', j1, j2, j3, j4⟩ | ⟨rfl, hb'⟩
  · have hC : RC I4 J3 w' z := ⟨j2, hw', hz, j1, j3, fun j => hR4.at (by omega), j4⟩
    obtain ⟨I2, r1, r, I9, L10, J8, K9, r2, r3, r4⟩ := vb_all hI4 hR4 hL hC v0 (by omega) (by omega)
    refine fin I2 r I9 L10 J8 K9 (by rw [rdC_eq cut]; exact r1) r2 ?_ r4
    simp only [fK8_line, tak, bq_eq, i10, if_false, r3]
  · have rd := rdC_no cut
    refine fin I4 (-11) (sI I4 11 0 0) L J3 K rd (perf0 ((sc_15 0).trans v0)) ?_ (Out.same (sc_inv Sc.rf hI4) (sc_rr Sc.rf hR4) hL (by omega) (by omega))
    rcases hb' with rfl | ⟨rfl, w', j1, j2, j3, j4⟩
    · simp only [fK8_line, tak, bq_eq, if_true]
    · simp only [fK8_line, tak, bq_eq, i10, if_false, done_many (K := K) hz j1 j2 j3 j4]
