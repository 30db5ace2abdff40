/-! PURE PART 10: tick, cancel, less, amounts -/
theorem Inv.row {I I' : FI} {L : FL} {n B T : Nat} (hI : Inv I L n B T) (h : ∀ k, k < n → ∀ f, f ≤ 4 → I' f k = I f k) (h1 : I' 11 1 = I 11 1) (h2 : I' 11 2 = I 11 2) : Inv I' L n B T := by
  obtain ⟨a, b, c, d, e⟩ := hI
  refine ⟨by rw [h1]; exact a, b, fun k hk => (c k hk).congr (h k hk), by rw [h2]; exact d, fun t ht => ?_⟩
  obtain ⟨e1, e2, e3, e4⟩ := e t ht
  refine ⟨?_, ?_, e3, e4⟩
  · rw [e1]; exact sm_congr (fun k hk => (hc_congr (h k hk)).symm)
  · rw [e2]; exact sm_congr (fun k hk => (hg_congr (h k hk)).symm)
theorem Inv.set {I : FI} {L : FL} {n B T : Nat} (hI : Inv I L n B T) {f j : Nat} {v : Int32} (h : 5 ≤ f) (h1 : ¬ (f = 11 ∧ j = 1)) (h2 : ¬ (f = 11 ∧ j = 2)) : Inv (sI I f j v) L n B T :=
  hI.row (fun k _ f' _ => sI_at (by omega)) (sI_at (by omega)) (sI_at (by omega))
/-- an order that isn't DONE is cancelled -/
theorem c_cancelAny {I : FI} {L : FL} {n B T : Nat} (hI : Inv I L n B T) (m : Fin 40) (hm : m.val < n) (h2 : I 4 m.val ≠ 2) : ∃ L', fK2_cancel m I L = some (sI I 4 m.val 2, L') ∧ Inv (sI I 4 m.val 2) L' n (B + 100000000) T ∧ L' 0 = L 0 ∧ L' 1 = L 1 := by
  by_cases h : I 4 m.val = 0
  · obtain ⟨L', a, b, c, d, -, -⟩ := c_cancel hI m hm h
    exact ⟨L', a, b, c, d⟩
  · refine ⟨L, ?_, (hI.state h (Or.inr rfl)).mono (by omega) (by omega), rfl, rfl⟩
    simp only [fK2_cancel, if_neg h, fK2_cancel_17, nm_eq]
theorem tick_in {n : Nat} (k517 : Int32 → Int32 → Int32 → FI → FL → Option (Int32 × FI × FL)) (v1 v2 v3 : Int32) : ∀ (d k f g : Nat) (a : Int32) (I J : FI) (L K : FL) (B T : Nat), k + d = n → d < f → d < g → Inv I L n B T → Rr I J → Rl L K →
    ∃ (a' : Int32) (I' : FI) (L' : FL) (J' : FI) (K' : FL), fK2_endOrdersOfNow_4 f a (nI k) I L = some (a', I', L') ∧ fK8_done_535 k517 g v1 (v2 + a) v3 (nI k) J K = k517 v1 (v2 + a') (v3 + 1) J' K' ∧ Rr I' J' ∧ Rl L' K' ∧ Inv I' L' n (B + d * 100000000) T ∧ (∀ f j, f ≠ 4 → I' f j = I f j) ∧ J' 11 0 = J 11 0 := by
  intro d
  induction d with
  | zero =>
    intro k f g a I J L K B T hk hf hg hI hR hL
    obtain ⟨f, rfl⟩ := fu1 hf
    obtain ⟨g, rfl⟩ := fu1 hg
    have h40 := hI.2.1
    have hnJ : J 11 1 = nI n := by rw [hR.at (by omega)]; exact hI.1
    have lo := lp_out (show n ≤ k by omega) (show k ≤ 40 by omega)
    refine ⟨a, I, L, J, K, ?_, ?_, hR, hL, hI.mono (by omega) (by omega), fun _ _ _ => rfl, rfl⟩
    · show bK2_endOrdersOfNow_4 _ _ _ _ _ = _
      simp only [bK2_endOrdersOfNow_4, hI.1, lo, if_true]
    · show bK8_done_535 _ _ _ _ _ _ _ _ = _
      simp only [bK8_done_535, hnJ, lo, if_true, nm_eq]
  | succ d ih =>
    intro k f g a I J L K B T hk hf hg hI hR hL
    obtain ⟨f, rfl⟩ := fu1 hf
    obtain ⟨g, rfl⟩ := fu1 hg
    have h40 := hI.2.1
    have hnJ : J 11 1 = nI n := by rw [hR.at (by omega)]; exact hI.1
    obtain ⟨e1, e2, e3, e4⟩ := lp_in (show k < n by omega) h40
    have cs : fK2_endOrdersOfNow_4 (f + 1) a (nI k) I L = bK2_endOrdersOfNow_4 (fK2_endOrdersOfNow_4 f) a (nI k) I L := rfl
    have rs : fK8_done_535 k517 (g + 1) v1 (v2 + a) v3 (nI k) J K = bK8_done_535 k517 (fK8_done_535 k517 g) v1 (v2 + a) v3 (nI k) J K := rfl
    simp only [bK2_endOrdersOfNow_4, hI.1, e3, if_false, g40_nI _ e4, nm_eq, fK2_endOrdersOfNow_51, nI_1] at cs
    have q4 : J 4 k = I 4 k := hR.at (by omega)
    have q5 : J 5 k = I 5 k := hR.at (by omega)
    have qn : J 11 5 = I 11 5 := hR.at (by omega)
    simp only [bK8_done_535, hnJ, e3, if_false, e1, e2, ck_tt, nm_eq, fK8_done_582, nI_1, q4, q5, qn] at rs
    by_cases c1 : I 4 k = 0
    · by_cases c2 : I 5 k = I 11 5
      · rw [if_pos c1, if_pos c2] at cs rs
        obtain ⟨L1, hc1, hI1, hl0, hl1, -, -⟩ := c_cancel hI ⟨k, e4⟩ (by show k < n; omega) c1
        rw [hc1, bv_eq] at cs
        have hz : v2 + a + 1 = v2 + (a + 1) := Int32.add_assoc _ _ _
        rw [hz] at rs
        obtain ⟨a', I', L', J', K', r1, r2, r3, r4, r5, r6, r7⟩ := ih (k + 1) f g (a + 1) (sI I 4 k 2) (sI J 4 k 2) L1 K (B + 100000000) T (by omega) (by omega) (by omega) hI1 hR.set ⟨by rw [hl0]; exact hL.1, by rw [hl1]; exact hL.2⟩
        exact ⟨a', I', L', J', K', cs.trans r1, rs.trans r2, r3, r4, r5.mono (by omega) (by omega), fun f' j hf' => by rw [r6 f' j hf', sI_at (by omega)], by rw [r7, sI_at (by omega)]⟩
      · rw [if_pos c1, if_neg c2] at cs rs
        obtain ⟨a', I', L', J', K', r1, r2, r3, r4, r5, r6, r7⟩ := ih (k + 1) f g a I J L K B T (by omega) (by omega) (by omega) hI hR hL
        exact ⟨a', I', L', J', K', cs.trans r1, rs.trans r2, r3, r4, r5.mono (by omega) (by omega), r6, r7⟩
    · rw [if_neg c1] at cs rs
      obtain ⟨a', I', L', J', K', r1, r2, r3, r4, r5, r6, r7⟩ := ih (k + 1) f g a I J L K B T (by omega) (by omega) (by omega) hI hR hL
      exact ⟨a', I', L', J', K', cs.trans r1, rs.trans r2, r3, r4, r5.mono (by omega) (by omega), r6, r7⟩
theorem tick_out {n N : Nat} (hN : N ≤ 99) : ∀ (d i f g : Nat) (v : Int32) (I J : FI) (L K : FL) (B T : Nat), i + d = N → d < f → d < g → Inv I L n B T → Rr I J → Rl L K →
    ∃ (v' : Int32) (I' : FI) (L' : FL) (J' : FI) (K' : FL), fK2_passTime_4 f (nI N) v (nI i) I L = some (v', I', L') ∧ fK8_done_517 g (nI N) v (nI i) J K = some (v', J', K') ∧ Rr I' J' ∧ Rl L' K' ∧ Inv I' L' n (B + d * 4000000000) T ∧ I' 11 0 = I 11 0 ∧ J' 11 0 = J 11 0 := by
  intro d
  induction d with
  | zero =>
    intro i f g v I J L K B T hi hf hg hI hR hL
    obtain ⟨f, rfl⟩ := fu1 hf
    obtain ⟨g, rfl⟩ := fu1 hg
    have le : nI N ≤ nI i := nI_le (by omega) (by omega)
    refine ⟨v, I, L, J, K, ?_, ?_, hR, hL, hI.mono (by omega) (by omega), rfl, rfl⟩
    · show bK2_passTime_4 _ _ _ _ _ _ = _
      simp only [bK2_passTime_4, if_pos le]
    · show bK8_done_517 _ _ _ _ _ _ = _
      simp only [bK8_done_517, if_pos le]
  | succ d ih =>
    intro i f g v I J L K B T hi hf hg hI hR hL
    obtain ⟨f, rfl⟩ := fu1 hf
    obtain ⟨g, rfl⟩ := fu1 hg
    have h40 := hI.2.1
    have le : ¬ nI N ≤ nI i := nI_ge (by omega) (by omega)
    have I1 : Inv (sI I 11 5 (I 11 5 + 1)) L n B T := hI.set (by omega) (by omega) (by omega)
    have R1 : Rr (sI I 11 5 (I 11 5 + 1)) (sI J 11 5 (J 11 5 + 1)) := hR.setv (by rw [hR.at (by omega)])
    obtain ⟨a', I', L', J', K', r1, r2, r3, r4, r5, r6, r7⟩ := tick_in (fK8_done_517 g) (nI N) v (nI i) n 0 FU FU 0 _ _ L K B T (by omega) (by simp only [FU]; omega) (by simp only [FU]; omega) I1 R1 hL
    obtain ⟨v', I'', L'', J'', K'', s1, s2, s3, s4, s5, s6, s7⟩ := ih (i + 1) f g (v + a') I' J' L' K' (B + 4000000000) T (by omega) (by omega) (by omega) (r5.mono (by omega) (by omega)) r3 r4
    refine ⟨v', I'', L'', J'', K'', ?_, ?_, s3, s4, s5.mono (by omega) (by omega), ?_, ?_⟩
    · show bK2_passTime_4 _ _ _ _ _ _ = _
      have r1' : fK2_endOrdersOfNow (sI I 11 5 (I 11 5 + 1)) L = some (a', I', L') := r1
      simp only [bK2_passTime_4, if_neg le, nm_eq, r1', bq_eq, nI_1]
      exact s1
    · show bK8_done_517 _ _ _ _ _ _ = _
      simp only [bK8_done_517, if_neg le, nm_eq]
      have hv : v + 0 = v := Int32.add_zero v
      rw [hv] at r2
      have r2' : fK8_done_535 (fK8_done_517 g) FU (nI N) v (nI i) 0 (sI J 11 5 (J 11 5 + 1)) K = _ := r2
      rw [r2', nI_1]
      exact s2
    · rw [s6, r6 11 0 (by omega), sI_at (by omega)]
    · rw [s7, r7, sI_at (by omega)]
/-- what a line leaves -/
def Out (I J : FI) (B T : Nat) (I' : FI) (L' : FL) (J' : FI) (K' : FL) : Prop := Rr I' J' ∧ Rl L' K' ∧ (∃ n', Inv I' L' n' B T) ∧ I' 11 0 = I 11 0 ∧ J' 11 0 = J 11 0
theorem Out.same {I J : FI} {L K : FL} {n B T B' T' : Nat} (hI : Inv I L n B T) (hR : Rr I J) (hL : Rl L K) (hB : B ≤ B') (hT : T ≤ T') : Out I J B' T' I L J K := ⟨hR, hL, ⟨n, hI.mono hB hT⟩, rfl, rfl⟩
/-- the target of a cancel or a less -/
theorem target {I : FI} {L : FL} {n B T t x : Nat} (hI : Inv I L n B T) (h1 : I 15 1 = nI t) (h7 : I 15 7 = nI x) (ht : t < 8) (hx : x ≤ 9999999) :
    (n ≤ x ∧ fK2_refusalOfTarget I L = some (-12)) ∨ (∃ hx2 : x < 40, x < n ∧ ((I 0 x ≠ nI t ∧ fK2_refusalOfTarget I L = some (-13)) ∨ (I 0 x = nI t ∧ I 4 x = 2 ∧ fK2_refusalOfTarget I L = some (-14)) ∨ (I 0 x = nI t ∧ I 4 x ≠ 2 ∧ fK2_refusalOfTarget I L = some 0))) := by
  have h40 := hI.2.1
  have a : ¬ nI x < 0 := nI_pos (by omega)
  by_cases c : n ≤ x
  · refine Or.inl ⟨c, ?_⟩
    have le : nI n ≤ nI x := nI_le c (by omega)
    simp only [fK2_refusalOfTarget, fK4_has, h7, if_neg a, hI.1, if_pos le, bn_eq, if_true]
  · have le : ¬ nI n ≤ nI x := nI_ge (by omega) (by omega)
    have hx2 : x < 40 := by omega
    have ref : fK2_refusalOfTarget I L = (if I 0 x = nI t then (if I 4 x = 2 then some (-14) else some 0) else some (-13)) := by
      simp only [fK2_refusalOfTarget, fK4_has, h7, if_neg a, hI.1, if_neg le, bn_eq, if_neg (show ¬ (1 : Int32) = 0 by decide), g40_nI _ hx2, h1]
    refine Or.inr ⟨hx2, by omega, ?_⟩
    by_cases c1 : I 0 x = nI t
    · by_cases c2 : I 4 x = 2
      · exact Or.inr (Or.inl ⟨c1, c2, by rw [ref, if_pos c1, if_pos c2]⟩)
      · exact Or.inr (Or.inr ⟨c1, c2, by rw [ref, if_pos c1, if_neg c2]⟩)
    · exact Or.inl ⟨c1, by rw [ref, if_neg c1]⟩
theorem cancel_rel {I J : FI} {L K : FL} {n B T t x : Nat} (hI : Inv I L n B T) (hR : Rr I J) (hL : Rl L K) (h1 : I 15 1 = nI t) (h7 : I 15 7 = nI x) (ht : t < 8) (hx : x ≤ 9999999) {w : Int32} :
    ∃ (r : Int32) (I' : FI) (L' : FL) (J' : FI) (K' : FL), fK2_cancelAsked I L = some (r, I', L') ∧ fK8_done_373 0 (nI t) (nI x) 0 w w J K = some (r, J', K') ∧ Out I J (B + 100000000) T I' L' J' K' := by
  have h40 := hI.2.1
  have hnJ : J 11 1 = nI n := by rw [hR.at (by omega)]; exact hI.1
  have a : ¬ nI x < 0 := nI_pos (by omega)
  have b : ¬ nI t < 0 := nI_pos (by omega)
  have z0 : (0 : Int32) ≤ 0 := by decide
  have same := fun r => Out.same (I := I) (J := J) hI hR hL (show B ≤ B + 100000000 by omega) (Nat.le_refl T)
  rcases target (L := L) hI h1 h7 ht hx with ⟨c, e⟩ | ⟨hx2, hxn, hh⟩
  · refine ⟨-12, I, L, J, K, ?_, ?_, Out.same hI hR hL (by omega) (by omega)⟩
    · simp only [fK2_cancelAsked, e, bn_eq]; exact if_neg (by decide)
    · have le : ¬ nI x < nI n := nI_nlt c (by omega)
      simp only [fK8_done_373, if_true, if_neg b, if_neg a, if_pos z0, hnJ, if_neg le]
  · have lt : nI x < nI n := nI_lt hxn (by omega)
    have e1 : inb (nI x) 40 = true := inb_nI hx2 (by decide)
    have e2 : (nI x).toNatClampNeg = x := nI_clamp (by omega)
    have q0 : J 0 x = I 0 x := hR.at (by omega)
    have q4 : J 4 x = I 4 x := hR.at (by omega)
    have rs : fK8_done_373 0 (nI t) (nI x) 0 w w J K = (if I 0 x = nI t then (if I 4 x = 2 then some (-14, J, K) else some (sI J 4 x 2 2 x, sI J 4 x 2, K)) else some (-13, J, K)) := by
      simp only [fK8_done_373, if_true, if_neg b, if_neg a, if_pos z0, hnJ, if_pos lt, e1, e2, ck_tt, q0, q4, nm_eq]
    rcases hh with ⟨c1, e⟩ | ⟨c1, c2, e⟩ | ⟨c1, c2, e⟩
    · refine ⟨-13, I, L, J, K, ?_, by rw [rs, if_neg c1], Out.same hI hR hL (by omega) (by omega)⟩
      simp only [fK2_cancelAsked, e, bn_eq]; exact if_neg (by decide)
    · refine ⟨-14, I, L, J, K, ?_, by rw [rs, if_pos c1, if_pos c2], Out.same hI hR hL (by omega) (by omega)⟩
      simp only [fK2_cancelAsked, e, bn_eq]; exact if_neg (by decide)
    · obtain ⟨L', hc, hI', l0, l1⟩ := c_cancelAny hI ⟨x, hx2⟩ hxn c2
      refine ⟨I 2 x, sI I 4 x 2, L', sI J 4 x 2, K, ?_, ?_, hR.set, ⟨by rw [l0]; exact hL.1, by rw [l1]; exact hL.2⟩, ⟨n, hI'⟩, sI_at (by omega), sI_at (by omega)⟩
      · simp only [fK2_cancelAsked, e, bn_eq, if_true, h7, g40_nI _ hx2, hc, bv_eq]
        rw [sI_at (by omega)]
      · rw [rs, if_pos c1, if_neg c2, sI_at (by omega), hR.at (by omega)]
