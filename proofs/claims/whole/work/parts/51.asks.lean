/-! PURE PART 22: feed, order, trader, trade, count -/
theorem Inv.tape {I I' : FI} {L : FL} {n B T : Nat} (hI : Inv I L n B T) (h : ∀ f j, f ≠ 6 → ¬ (f = 11 ∧ j = 0) → I' f j = I f j) : Inv I' L n B T :=
  hI.row (fun k _ f _ => h f k (by omega) (by omega)) (h 11 1 (by omega) (by omega)) (h 11 2 (by omega) (by omega))
def stp (x a : Int32) : Int32 := if x = 0 then a else a + 1
def byt (v k : Int32) : Int32 := ((v.toUInt32 >>> (k.toUInt32 &&& Int32.toUInt32 31)).toInt32) &&& 255
theorem c_signs {I : FI} {L : FL} (v : Int32) : fK5_signsOf v I L = some (stp (byt v 0) (stp (byt v 8) (stp (byt v 16) (stp (byt v 24) 0)))) := by
  have one : ∀ (f : Nat) (a k : Int32), ¬ k < 0 → fK5_signsOf_5 (f + 1) v a k I L = fK5_signsOf_5 f v (stp (byt v k) a) (k + (-8)) I L := by
    intro f a k hk
    show bK5_signsOf_5 _ _ _ _ _ _ = _
    simp only [bK5_signsOf_5, if_neg hk, fK5_signsOf_22, nm_eq, stp]
    by_cases c : byt v k = 0
    · rw [if_pos c]; exact if_pos c
    · rw [if_neg c]; exact if_neg c
  have fin : ∀ (f : Nat) (a k : Int32), k < 0 → fK5_signsOf_5 (f + 1) v a k I L = some a := by
    intro f a k hk
    show bK5_signsOf_5 _ _ _ _ _ _ = _
    simp only [bK5_signsOf_5, if_pos hk]
  show fK5_signsOf_5 (295 + 1 + 1 + 1 + 1 + 1) v 0 24 I L = _
  rw [one _ _ _ (by decide), one _ _ _ (by decide), one _ _ _ (by decide), one _ _ _ (by decide), fin _ _ _ (by decide)]
  rfl
theorem r_signs {J : FI} {K : FL} (v : Int32) : fK8_feed v J K = if (J 11 0) + stp (byt v 0) (stp (byt v 8) (stp (byt v 16) (stp (byt v 24) 0))) ≤ 40 then fK8_feed_45 FU v 24 J K else some (-3, J, K) := by
  have one : ∀ (f : Nat) (a k : Int32), ¬ k < 0 → fK8_feed_5 (f + 1) v a k J K = fK8_feed_5 f v (stp (byt v k) a) (k + (-8)) J K := by
    intro f a k hk
    show bK8_feed_5 _ _ _ _ _ _ = _
    simp only [bK8_feed_5, if_neg hk, fK8_feed_22, nm_eq, stp]
    by_cases c : byt v k = 0
    · rw [if_pos c]; exact if_pos c
    · rw [if_neg c]; exact if_neg c
  have fin : ∀ (f : Nat) (a k : Int32), k < 0 → fK8_feed_5 (f + 1) v a k J K = if (J 11 0) + a ≤ 40 then fK8_feed_45 FU v 24 J K else some (-3, J, K) := by
    intro f a k hk
    show bK8_feed_5 _ _ _ _ _ _ = _
    simp only [bK8_feed_5, if_pos hk]
  show fK8_feed_5 (295 + 1 + 1 + 1 + 1 + 1) v 0 24 J K = _
  rw [one _ _ _ (by decide), one _ _ _ (by decide), one _ _ _ (by decide), one _ _ _ (by decide), fin _ _ _ (by decide)]
  rfl
def cn (x : Int32) : Nat := if x = 0 then 0 else 1
theorem stp_n {x : Int32} {a : Nat} : stp x (nI a) = nI (a + cn x) := by
  unfold stp cn
  by_cases c : x = 0
  · rw [if_pos c, if_pos c, Nat.add_zero]
  · rw [if_neg c, if_neg c, nI_1]
theorem cn_le (x : Int32) : cn x ≤ 1 := by unfold cn; split <;> omega
/-- one sign comes -/
theorem feed_one {I J : FI} {L K : FL} {z : Nat} (v k : Int32) (f g : Nat) (hk : ¬ k < 0) (hz : z + cn (byt v k) ≤ 40) (hR : Rr I J) (hI : I 11 0 = nI z) (hJ : J 11 0 = nI z) :
    ∃ (I' J' : FI), fK5_add_20 (f + 1) v k I L = fK5_add_20 f v (k + (-8)) I' L ∧ fK8_feed_45 (g + 1) v k J K = fK8_feed_45 g v (k + (-8)) J' K ∧ Rr I' J' ∧ I' 11 0 = nI (z + cn (byt v k)) ∧ J' 11 0 = nI (z + cn (byt v k)) ∧ ∀ f j, f ≠ 6 → ¬ (f = 11 ∧ j = 0) → I' f j = I f j := by
  have cs : fK5_add_20 (f + 1) v k I L = bK5_add_20 (fK5_add_20 f) v k I L := rfl
  have rs : fK8_feed_45 (g + 1) v k J K = bK8_feed_45 (fK8_feed_45 g) v k J K := rfl
  by_cases c : byt v k = 0
  · have e : cn (byt v k) = 0 := if_pos c
    have c' : (((v.toUInt32 >>> (k.toUInt32 &&& Int32.toUInt32 31)).toInt32) &&& 255) = 0 := c
    refine ⟨I, J, ?_, ?_, hR, by rw [e]; exact hI, by rw [e]; exact hJ, fun _ _ _ _ => rfl⟩
    · rw [cs]; simp only [bK5_add_20, if_neg hk, nm_eq, if_pos c', fK5_add_65]
    · rw [rs]; simp only [bK8_feed_45, if_neg hk, if_pos c', fK8_feed_82, nm_eq]
  · have e : cn (byt v k) = 1 := if_neg c
    have c' : ¬ (((v.toUInt32 >>> (k.toUInt32 &&& Int32.toUInt32 31)).toInt32) &&& 255) = 0 := c
    rw [e] at hz
    have le : ¬ (40 : Int32) ≤ nI z := nI_ge (a := z) (b := 40) (by omega) (by decide)
    have e1 : inb (nI z) 40 = true := inb_nI (by omega) (by decide)
    have e2 : (nI z).toNatClampNeg = z := nI_clamp (by omega)
    have s1 : sI I 6 z (byt v k) 11 0 = nI z := by rw [sI_at (by omega)]; exact hI
    refine ⟨sI (sI I 6 z (byt v k)) 11 0 (nI (z + 1)), sI (sI J 11 0 (nI (z + 1))) 6 z (byt v k), ?_, ?_, ?_, by rw [sI_eq, e], by rw [sI_at (by omega), sI_eq, e], fun a b h1 h2 => by rw [sI_at (by omega), sI_at (by omega)]⟩
    · rw [cs]
      unfold byt at s1 ⊢
      simp only [bK5_add_20, if_neg hk, nm_eq, if_neg c', hI, if_neg le, e1, e2, ck_tt, fK5_add_65, s1, nI_1]
    · rw [rs]; simp only [bK8_feed_45, if_neg hk, if_neg c', nm_eq, hJ, nI_1, e1, e2, ck_tt, fK8_feed_82]; rfl
    · intro a b hab
      by_cases h6 : a = 6 ∧ b = z
      · obtain ⟨rfl, rfl⟩ := h6
        rw [sI_at (by omega), sI_eq, sI_eq]
      · rw [sI_at (by omega), sI_at h6, sI_at h6, sI_at (by omega)]
        exact hR a b hab
theorem feed_rel {I J : FI} {L K : FL} {n B T z : Nat} (v : Int32) (hI : Inv I L n B T) (hR : Rr I J) (hL : Rl L K) (hz : z ≤ 40) (hIz : I 11 0 = nI z) (hJz : J 11 0 = nI z) :
    ∃ (r : Int32) (I' : FI) (J' : FI) (z' : Nat), fK7_feed v I L = some (r, I', L) ∧ fK8_feed v J K = some (r, J', K) ∧ Rr I' J' ∧ Inv I' L n B T ∧ z' ≤ 40 ∧ I' 11 0 = nI z' ∧ J' 11 0 = nI z' := by
  have cnt : stp (byt v 0) (stp (byt v 8) (stp (byt v 16) (stp (byt v 24) 0))) = nI (0 + cn (byt v 24) + cn (byt v 16) + cn (byt v 8) + cn (byt v 0)) := by
    rw [show (0 : Int32) = nI 0 from rfl, stp_n, stp_n, stp_n, stp_n]
  have l1 := cn_le (byt v 24)
  have l2 := cn_le (byt v 16)
  have l3 := cn_le (byt v 8)
  have l4 := cn_le (byt v 0)
  have cmp : nI z + nI (0 + cn (byt v 24) + cn (byt v 16) + cn (byt v 8) + cn (byt v 0)) ≤ 40 ↔ z + (0 + cn (byt v 24) + cn (byt v 16) + cn (byt v 8) + cn (byt v 0)) ≤ 40 := by
    rw [nI_add]
    exact nI_leI (b := 40) (by omega) (by decide)
  have cs : fK7_feed v I L = if nI z + nI (0 + cn (byt v 24) + cn (byt v 16) + cn (byt v 8) + cn (byt v 0)) ≤ 40 then fK5_add_20 (295 + 1 + 1 + 1 + 1 + 1) v 24 I L else some (-3, I, L) := by
    simp only [fK7_feed, fK5_add, c_signs, bn_eq, cnt, hIz, bq_id]
    rfl
  have rs : fK8_feed v J K = if nI z + nI (0 + cn (byt v 24) + cn (byt v 16) + cn (byt v 8) + cn (byt v 0)) ≤ 40 then fK8_feed_45 (295 + 1 + 1 + 1 + 1 + 1) v 24 J K else some (-3, J, K) := by
    rw [r_signs, cnt, hJz]
    rfl
  by_cases c : z + (0 + cn (byt v 24) + cn (byt v 16) + cn (byt v 8) + cn (byt v 0)) ≤ 40
  · rw [if_pos (cmp.mpr c)] at cs rs
    obtain ⟨I1, J1, a1, b1, R1, x1, y1, o1⟩ := feed_one (L := L) (K := K) v 24 (295 + 1 + 1 + 1 + 1) (295 + 1 + 1 + 1 + 1) (by decide) (by omega) hR hIz hJz
    obtain ⟨I2, J2, a2, b2, R2, x2, y2, o2⟩ := feed_one (L := L) (K := K) v 16 (295 + 1 + 1 + 1) (295 + 1 + 1 + 1) (by decide) (by omega) R1 x1 y1
    obtain ⟨I3, J3, a3, b3, R3, x3, y3, o3⟩ := feed_one (L := L) (K := K) v 8 (295 + 1 + 1) (295 + 1 + 1) (by decide) (by omega) R2 x2 y2
    obtain ⟨I4, J4, a4, b4, R4, x4, y4, o4⟩ := feed_one (L := L) (K := K) v 0 (295 + 1) (295 + 1) (by decide) (by omega) R3 x3 y3
    have f4 : fK5_add_20 (295 + 1) v (0 + -8) I4 L = some (I4 11 0, I4, L) := by
      show bK5_add_20 _ _ _ _ _ = _
      simp only [bK5_add_20, if_pos (show (0 : Int32) + -8 < 0 by decide)]
    have g4 : fK8_feed_45 (295 + 1) v (0 + -8) J4 K = some (J4 11 0, J4, K) := by
      show bK8_feed_45 _ _ _ _ _ = _
      simp only [bK8_feed_45, if_pos (show (0 : Int32) + -8 < 0 by decide)]
    refine ⟨I4 11 0, I4, J4, _, ?_, ?_, R4, (((hI.tape o1).tape o2).tape o3).tape o4, ?_, x4, y4⟩
    · exact cs.trans (a1.trans (a2.trans (a3.trans (a4.trans f4))))
    · rw [x4, ← y4]
      exact rs.trans (b1.trans (b2.trans (b3.trans (b4.trans g4))))
    · omega
  · rw [if_neg (fun y => c (cmp.mp y))] at cs rs
    exact ⟨-3, I, J, z, cs, rs, hR, hI, hz, hIz, hJz⟩
/-- a question's number is one of the first, or none -/
theorem ask_n {x : Int32} {m : Nat} (hm : m < 2 ^ 30) : (x < 0) ∨ (¬ x < 0 ∧ ¬ x ≤ nI m) ∨ ∃ j, j ≤ m ∧ x = nI j := by
  by_cases c : x < 0
  · exact Or.inl c
  · by_cases c2 : x ≤ nI m
    · obtain ⟨j, h1, h2⟩ := nI_of2 (nI_toInt (n := m) (by omega)) c c2
      exact Or.inr (Or.inr ⟨j, h1, h2⟩)
    · exact Or.inr (Or.inl ⟨c, c2⟩)
theorem neg_ne {x : Int32} (h : x < 0) (j : Nat) (hj : j < 2 ^ 30) : ¬ x = nI j := fun e => by rw [e] at h; exact nI_pos (by omega) h
theorem big_ne {x : Int32} {m : Nat} (h : ¬ x ≤ nI m) (j : Nat) (hj : j ≤ m) (hm : m < 2 ^ 30) : ¬ x = nI j := fun e => h (by rw [e]; exact nI_le hj (by omega))
theorem order_rel {I J : FI} {L K : FL} {n B T : Nat} (a b : Int32) (hI : Inv I L n B T) (hR : Rr I J) : ∃ r, fK7_order a b I L = some r ∧ fK8_order a b J K = some r := by
  have h40 := hI.2.1
  have hnJ : J 11 1 = nI n := by rw [hR.at (by omega)]; exact hI.1
  by_cases c1 : a < 0
  · refine ⟨-1, ?_, ?_⟩
    · simp only [fK7_order, fK4_has, if_pos c1, bn_eq, if_true]
    · simp only [fK8_order, if_pos c1]
  · by_cases c2 : nI n ≤ a
    · refine ⟨-1, ?_, ?_⟩
      · simp only [fK7_order, fK4_has, if_neg c1, hI.1, if_pos c2, bn_eq, if_true]
      · simp only [fK8_order, if_neg c1, hnJ, if_pos c2]
    · obtain ⟨k, hk, rfl⟩ := nI_of c1
      have hkn : k < n := by
        rcases Nat.lt_or_ge k n with y | y
        · exact y
        · exact absurd (nI_le y hk) c2
      have e4 : k < 40 := by omega
      have e1 : inb (nI k) 40 = true := inb_nI e4 (by decide)
      have e2 : (nI k).toNatClampNeg = k := nI_clamp (by omega)
      have cs : fK7_order (nI k) b I L = (if b = 0 then some (I 0 k) else (if b = 1 then some (I 1 k) else (if b = 2 then some (I 2 k) else (if b = 3 then some (I 3 k) else (if b = 4 then some (I 4 k) else (if b = 5 then some (I 5 k) else some (-1))))))) := by
        simp only [fK7_order, fK4_has, if_neg c1, hI.1, if_neg c2, bn_eq, i10, if_false, g40_nI _ e4]
      have rs : fK8_order (nI k) b J K = (if b < 0 then some (-1) else (if b ≤ 5 then (if b = 0 then some (I 0 k) else (if b = 1 then some (I 1 k) else (if b = 2 then some (I 2 k) else (if b = 3 then some (I 3 k) else (if b = 4 then some (I 4 k) else some (I 5 k)))))) else some (-1))) := by
        simp only [fK8_order, if_neg c1, hnJ, if_neg c2, e1, e2, ck_tt, hR.at (show (0 : Nat) ≤ 10 ∨ (0 = 11 ∧ k ≠ 0) from Or.inl (by omega)), hR.at (show (1 : Nat) ≤ 10 ∨ (1 = 11 ∧ k ≠ 0) from Or.inl (by omega)), hR.at (show (2 : Nat) ≤ 10 ∨ (2 = 11 ∧ k ≠ 0) from Or.inl (by omega)), hR.at (show (3 : Nat) ≤ 10 ∨ (3 = 11 ∧ k ≠ 0) from Or.inl (by omega)), hR.at (show (4 : Nat) ≤ 10 ∨ (4 = 11 ∧ k ≠ 0) from Or.inl (by omega)), hR.at (show (5 : Nat) ≤ 10 ∨ (5 = 11 ∧ k ≠ 0) from Or.inl (by omega))]
      rw [cs, rs]
      rcases ask_n (x := b) (m := 5) (by decide) with h | ⟨h, h'⟩ | ⟨j, hj, rfl⟩
      · have q0 : ¬ b = 0 := neg_ne h 0 (by decide)
        have q1 : ¬ b = 1 := neg_ne h 1 (by decide)
        have q2 : ¬ b = 2 := neg_ne h 2 (by decide)
        have q3 : ¬ b = 3 := neg_ne h 3 (by decide)
        have q4 : ¬ b = 4 := neg_ne h 4 (by decide)
        have q5 : ¬ b = 5 := neg_ne h 5 (by decide)
        exact ⟨-1, by simp only [if_neg q0, if_neg q1, if_neg q2, if_neg q3, if_neg q4, if_neg q5], if_pos h⟩
      · have q0 : ¬ b = 0 := big_ne h' 0 (by omega) (by decide)
        have q1 : ¬ b = 1 := big_ne h' 1 (by omega) (by decide)
        have q2 : ¬ b = 2 := big_ne h' 2 (by omega) (by decide)
        have q3 : ¬ b = 3 := big_ne h' 3 (by omega) (by decide)
        have q4 : ¬ b = 4 := big_ne h' 4 (by omega) (by decide)
        have q5 : ¬ b = 5 := big_ne h' 5 (by omega) (by decide)
        have h'' : ¬ b ≤ 5 := h'
        exact ⟨-1, by simp only [if_neg q0, if_neg q1, if_neg q2, if_neg q3, if_neg q4, if_neg q5], by rw [if_neg h, if_neg h'']⟩
      · rcases (show j = 0 ∨ j = 1 ∨ j = 2 ∨ j = 3 ∨ j = 4 ∨ j = 5 by omega) with rfl | rfl | rfl | rfl | rfl | rfl
        · exact ⟨I 0 k, rfl, rfl⟩
        · exact ⟨I 1 k, rfl, rfl⟩
        · exact ⟨I 2 k, rfl, rfl⟩
        · exact ⟨I 3 k, rfl, rfl⟩
        · exact ⟨I 4 k, rfl, rfl⟩
        · exact ⟨I 5 k, rfl, rfl⟩
theorem wait_eq {I : FI} {n : Nat} (hn : n ≤ 40) (t : Int32) : ∃ S, S ≤ n ∧ fd (gWt I t) n 0 0 = nI S ∧ fd (gWl I t) n 0 0 = lN S := by
  have key := fd_rel (g := gWt I t) (g' := gWl I t) (fun k a b => ∃ S, S ≤ k ∧ a = nI S ∧ b = lN S) n 0 0 0 ⟨0, by omega, rfl, rfl⟩ ?_
  · simpa using key
  · rintro o a b - ho ⟨S, hS, rfl, rfl⟩
    unfold gWt gWl
    by_cases c : I 0 o = t
    · by_cases c2 : I 4 o = 2
      · simp only [if_pos c, if_pos c2]; exact ⟨S, by omega, rfl, rfl⟩
      · simp only [if_pos c, if_neg c2, nI_1, lN_1]; exact ⟨S + 1, by omega, rfl, rfl⟩
    · simp only [if_neg c]; exact ⟨S, by omega, rfl, rfl⟩
theorem trader_rel {I J : FI} {L K : FL} {n B T : Nat} (a b : Int32) (hI : Inv I L n B T) (hR : Rr I J) (hL : Rl L K) : ∃ r, fK7_trader a b I L = some r ∧ fK8_trader a b J K = some r := by
  have h40 := hI.2.1
  have hnJ : J 11 1 = nI n := by rw [hR.at (by omega)]; exact hI.1
  by_cases c1 : a < 0
  · exact ⟨-1, by simp only [fK7_trader, if_pos c1], by simp only [fK8_trader, if_pos c1]⟩
  · by_cases c2 : (8 : Int32) ≤ a
    · have c2' : ¬ a < 8 := Int32.not_lt.mpr c2
      exact ⟨-1, by simp only [fK7_trader, if_neg c1, if_neg c2'], by simp only [fK8_trader, if_neg c1, if_pos c2]⟩
    · have c2' : a < 8 := Int32.not_le.mp c2
      obtain ⟨t, ht', rfl⟩ := nI_of c1
      have ht : t < 8 := by
        rcases Nat.lt_or_ge t 8 with y | y
        · exact y
        · exact absurd (nI_le (a := 8) y ht') c2
      have e1 : inb (nI t) 8 = true := inb_nI ht (by decide)
      have e2 : (nI t).toNatClampNeg = t := nI_clamp (by omega)
      obtain ⟨a1, a2, -, -⟩ := hI.2.2.2.2 t ht
      have b1 : sm (hcG J (nI t)) n = L 2 t := by rw [a1]; exact sm_congr (fun k hk => hc_congr (fun f hf => hR.at (by omega)))
      have b2 : sm (hgG J (nI t)) n = L 3 t := by rw [a2]; exact sm_congr (fun k hk => hg_congr (fun f hf => hR.at (by omega)))
      obtain ⟨S, hS, s1, s2⟩ := wait_eq (I := I) h40 (nI t)
      have cw : fK4_waitingOf (nI t) I L = some (nI S) := by
        have := c_wait (L := L) hI.1 h40 (nI t) n 0 FU 0 (by omega) (by simp only [FU]; omega)
        rw [s1] at this
        exact this
      have rw' : fK8_trader_79 FU (nI t) 0 0 J K = some (lN S) := by
        have := r_wait (L := K) hnJ h40 (nI t) n 0 FU 0 (by omega) (by simp only [FU]; omega)
        have e : fd (gWl J (nI t)) n 0 0 = fd (gWl I (nI t)) n 0 0 := fd_congr n 0 0 (fun o x _ ho => by
          have q0 : J 0 o = I 0 o := hR.at (by omega)
          have q4 : J 4 o = I 4 o := hR.at (by omega)
          simp only [gWl, q0, q4])
        rw [e, s2] at this
        exact this
      have cs : fK7_trader (nI t) b I L = (if b = 0 then some (L 0 t) else (if b = 1 then some (L 1 t) else (if b = 2 then some (L 2 t) else (if b = 3 then some (L 3 t) else (if b = 4 then some (lN S) else some (-1)))))) := by
        simp only [fK7_trader, if_neg c1, if_pos c2', g8_nI _ ht, cw, bn_eq, nIl (show S < 2 ^ 31 by omega)]
      have rs : fK8_trader (nI t) b J K = (if b < 0 then some (-1) else (if b ≤ 4 then (if 4 ≤ b then some (lN S) else (if b = 0 then some (L 0 t) else (if b = 1 then some (L 1 t) else (if b = 2 then some (L 2 t) else some (L 3 t))))) else some (-1))) := by
        simp only [fK8_trader, if_neg c1, if_neg c2, rw', e1, e2, ck_tt, ← hL.1, ← hL.2, r_heldCash hnJ h40, r_heldGoods hnJ h40, bn_eq, b1, b2]
      rw [cs, rs]
      rcases ask_n (x := b) (m := 4) (by decide) with h | ⟨h, h'⟩ | ⟨j, hj, rfl⟩
      · have q0 : ¬ b = 0 := neg_ne h 0 (by decide)
        have q1 : ¬ b = 1 := neg_ne h 1 (by decide)
        have q2 : ¬ b = 2 := neg_ne h 2 (by decide)
        have q3 : ¬ b = 3 := neg_ne h 3 (by decide)
        have q4 : ¬ b = 4 := neg_ne h 4 (by decide)
        exact ⟨-1, by simp only [if_neg q0, if_neg q1, if_neg q2, if_neg q3, if_neg q4], if_pos h⟩
      · have q0 : ¬ b = 0 := big_ne h' 0 (by omega) (by decide)
        have q1 : ¬ b = 1 := big_ne h' 1 (by omega) (by decide)
        have q2 : ¬ b = 2 := big_ne h' 2 (by omega) (by decide)
        have q3 : ¬ b = 3 := big_ne h' 3 (by omega) (by decide)
        have q4 : ¬ b = 4 := big_ne h' 4 (by omega) (by decide)
        have h'' : ¬ b ≤ 4 := h'
        exact ⟨-1, by simp only [if_neg q0, if_neg q1, if_neg q2, if_neg q3, if_neg q4], by rw [if_neg h, if_neg h'']⟩
      · rcases (show j = 0 ∨ j = 1 ∨ j = 2 ∨ j = 3 ∨ j = 4 by omega) with rfl | rfl | rfl | rfl | rfl
        · exact ⟨L 0 t, rfl, rfl⟩
        · exact ⟨L 1 t, rfl, rfl⟩
        · exact ⟨L 2 t, rfl, rfl⟩
        · exact ⟨L 3 t, rfl, rfl⟩
        · exact ⟨lN S, rfl, rfl⟩
theorem trade_rel {I J : FI} {L K : FL} {n B T : Nat} (a b : Int32) (hI : Inv I L n B T) (hR : Rr I J) (hT : T < 2 ^ 30) : ∃ r, fK7_trade a b I L = some r ∧ fK8_trade a b J K = some r := by
  obtain ⟨τ, hτ, eτ⟩ := hI.2.2.2.1
  have eJ : J 11 2 = nI τ := by rw [hR.at (by omega)]; exact eτ
  have id1 : ∀ x : Option Int32, bn x (fun r => some r) = x := fun x => by cases x <;> rfl
  by_cases c1 : a < 0
  · exact ⟨-1, by simp only [fK7_trade, fK6_look, if_pos c1, bn_eq], by simp only [fK8_trade, if_pos c1]⟩
  · by_cases c2 : nI τ ≤ a
    · exact ⟨-1, by simp only [fK7_trade, fK6_look, if_neg c1, eτ, if_pos c2, bn_eq], by simp only [fK8_trade, if_neg c1, eJ, if_pos c2]⟩
    · by_cases c3 : nI τ - 200 ≤ a
      · have c3' : ¬ a < nI τ - 200 := Int32.not_lt.mpr c3
        obtain ⟨k, hk, rfl⟩ := nI_of c1
        have ek : nI k - nI k / 200 * 200 = nI (k % 200) := by
          rw [show (200 : Int32) = nI 200 from rfl]
          exact pk_rem hk (by decide) (by decide)
        have hm : k % 200 < 200 := Nat.mod_lt _ (by decide)
        have e1 : inb (nI (k % 200)) 200 = true := inb_nI hm (by decide)
        have e2 : (nI (k % 200)).toNatClampNeg = k % 200 := nI_clamp (by omega)
        have cs : fK7_trade (nI k) b I L = (if b = 0 then some (I 7 (k % 200)) else (if b = 1 then some (I 8 (k % 200)) else (if b = 2 then some (I 9 (k % 200)) else (if b = 3 then some (I 10 (k % 200)) else some (-1))))) := by
          simp only [fK7_trade, fK6_look, id1, if_neg c1, eτ, if_neg c2, if_pos c3, nm_eq, ek, e1, e2, ck_tt]
        have rs : fK8_trade (nI k) b J K = (if b < 0 then some (-1) else (if b ≤ 3 then (if b = 0 then some (I 7 (k % 200)) else (if b = 1 then some (I 8 (k % 200)) else (if b = 2 then some (I 9 (k % 200)) else some (I 10 (k % 200))))) else some (-1))) := by
          simp only [fK8_trade, if_neg c1, eJ, if_neg c2, if_neg c3', nm_eq, ek, e1, e2, ck_tt, hR.at (show (7 : Nat) ≤ 10 ∨ (7 = 11 ∧ k % 200 ≠ 0) from Or.inl (by omega)), hR.at (show (8 : Nat) ≤ 10 ∨ (8 = 11 ∧ k % 200 ≠ 0) from Or.inl (by omega)), hR.at (show (9 : Nat) ≤ 10 ∨ (9 = 11 ∧ k % 200 ≠ 0) from Or.inl (by omega)), hR.at (show (10 : Nat) ≤ 10 ∨ (10 = 11 ∧ k % 200 ≠ 0) from Or.inl (by omega))]
        rw [cs, rs]
        rcases ask_n (x := b) (m := 3) (by decide) with h | ⟨h, h'⟩ | ⟨j, hj, rfl⟩
        · have q0 : ¬ b = 0 := neg_ne h 0 (by decide)
          have q1 : ¬ b = 1 := neg_ne h 1 (by decide)
          have q2 : ¬ b = 2 := neg_ne h 2 (by decide)
          have q3 : ¬ b = 3 := neg_ne h 3 (by decide)
          exact ⟨-1, by simp only [if_neg q0, if_neg q1, if_neg q2, if_neg q3], if_pos h⟩
        · have q0 : ¬ b = 0 := big_ne h' 0 (by omega) (by decide)
          have q1 : ¬ b = 1 := big_ne h' 1 (by omega) (by decide)
          have q2 : ¬ b = 2 := big_ne h' 2 (by omega) (by decide)
          have q3 : ¬ b = 3 := big_ne h' 3 (by omega) (by decide)
          have h'' : ¬ b ≤ 3 := h'
          exact ⟨-1, by simp only [if_neg q0, if_neg q1, if_neg q2, if_neg q3], by rw [if_neg h, if_neg h'']⟩
        · rcases (show j = 0 ∨ j = 1 ∨ j = 2 ∨ j = 3 by omega) with rfl | rfl | rfl | rfl
          · exact ⟨I 7 (k % 200), rfl, rfl⟩
          · exact ⟨I 8 (k % 200), rfl, rfl⟩
          · exact ⟨I 9 (k % 200), rfl, rfl⟩
          · exact ⟨I 10 (k % 200), rfl, rfl⟩
      · have c3' : a < nI τ - 200 := Int32.not_le.mp c3
        exact ⟨-1, by simp only [fK7_trade, fK6_look, if_neg c1, eτ, if_neg c2, if_neg c3, bn_eq], by simp only [fK8_trade, if_neg c1, eJ, if_neg c2, if_pos c3']⟩
theorem count_rel {I J : FI} {L K : FL} {n B T z : Nat} (a : Int32) (hI : Inv I L n B T) (hR : Rr I J) (hIz : I 11 0 = nI z) (hJz : J 11 0 = nI z) : ∃ r, fK7_count a I L = some r ∧ fK8_count a J K = some r := by
  have h40 := hI.2.1
  have hnJ : J 11 1 = nI n := by rw [hR.at (by omega)]; exact hI.1
  have id1 : ∀ x : Option Int32, bn x (fun r => some r) = x := fun x => by cases x <;> rfl
  have sl : fK4_sleepingStops I L = some (fd (gSl I) n 0 0) := c_sleep hI.1 h40 n 0 FU 0 (by omega) (by simp only [FU]; omega)
  have rc := r_count (L := K) hnJ h40 a n 0 FU 0 (by omega) (by simp only [FU]; omega)
  have e : fd (gSl J) n 0 0 = fd (gSl I) n 0 0 := fd_congr n 0 0 (fun o x _ ho => by
    have q4 : J 4 o = I 4 o := hR.at (by omega)
    simp only [gSl, q4])
  have rc' : fK8_count_16 FU a 0 0 J K = _ := rc
  rw [e, hJz, ← hIz, hR.at (show (11 : Nat) ≤ 10 ∨ (11 = 11 ∧ 1 ≠ 0) from Or.inr ⟨rfl, by omega⟩), hR.at (show (11 : Nat) ≤ 10 ∨ (11 = 11 ∧ 2 ≠ 0) from Or.inr ⟨rfl, by omega⟩), hR.at (show (11 : Nat) ≤ 10 ∨ (11 = 11 ∧ 3 ≠ 0) from Or.inr ⟨rfl, by omega⟩), hR.at (show (11 : Nat) ≤ 10 ∨ (11 = 11 ∧ 4 ≠ 0) from Or.inr ⟨rfl, by omega⟩), hR.at (show (11 : Nat) ≤ 10 ∨ (11 = 11 ∧ 5 ≠ 0) from Or.inr ⟨rfl, by omega⟩)] at rc'
  have cs : fK7_count a I L = (if a = 0 then some (I 11 1) else (if a = 1 then some (I 11 2) else (if a = 2 then some (I 11 3) else (if a = 3 then some (I 11 4) else (if a = 4 then some (I 11 5) else (if a = 5 then some (I 11 0) else (if a = 6 then some (fd (gSl I) n 0 0) else some (-1)))))))) := by
    simp only [fK7_count, id1, sl]
  have rs : fK8_count a J K = (if a < 0 then some (-1) else (if a ≤ 6 then fK8_count_16 FU a 0 0 J K else some (-1))) := by simp only [fK8_count]
  rw [cs, rs, rc']
  rcases ask_n (x := a) (m := 6) (by decide) with h | ⟨h, h'⟩ | ⟨j, hj, rfl⟩
  · have q0 : ¬ a = 0 := neg_ne h 0 (by decide)
    have q1 : ¬ a = 1 := neg_ne h 1 (by decide)
    have q2 : ¬ a = 2 := neg_ne h 2 (by decide)
    have q3 : ¬ a = 3 := neg_ne h 3 (by decide)
    have q4 : ¬ a = 4 := neg_ne h 4 (by decide)
    have q5 : ¬ a = 5 := neg_ne h 5 (by decide)
    have q6 : ¬ a = 6 := neg_ne h 6 (by decide)
    exact ⟨-1, by simp only [if_neg q0, if_neg q1, if_neg q2, if_neg q3, if_neg q4, if_neg q5, if_neg q6], if_pos h⟩
  · have q0 : ¬ a = 0 := big_ne h' 0 (by omega) (by decide)
    have q1 : ¬ a = 1 := big_ne h' 1 (by omega) (by decide)
    have q2 : ¬ a = 2 := big_ne h' 2 (by omega) (by decide)
    have q3 : ¬ a = 3 := big_ne h' 3 (by omega) (by decide)
    have q4 : ¬ a = 4 := big_ne h' 4 (by omega) (by decide)
    have q5 : ¬ a = 5 := big_ne h' 5 (by omega) (by decide)
    have q6 : ¬ a = 6 := big_ne h' 6 (by omega) (by decide)
    have h'' : ¬ a ≤ 6 := h'
    exact ⟨-1, by simp only [if_neg q0, if_neg q1, if_neg q2, if_neg q3, if_neg q4, if_neg q5, if_neg q6], by rw [if_neg h, if_neg h'']⟩
  · rcases (show j = 0 ∨ j = 1 ∨ j = 2 ∨ j = 3 ∨ j = 4 ∨ j = 5 ∨ j = 6 by omega) with rfl | rfl | rfl | rfl | rfl | rfl | rfl
    · exact ⟨I 11 1, rfl, rfl⟩
    · exact ⟨I 11 2, rfl, rfl⟩
    · exact ⟨I 11 3, rfl, rfl⟩
    · exact ⟨I 11 4, rfl, rfl⟩
    · exact ⟨I 11 5, rfl, rfl⟩
    · exact ⟨I 11 0, rfl, rfl⟩
    · exact ⟨fd (gSl I) n 0 0, rfl, rfl⟩
