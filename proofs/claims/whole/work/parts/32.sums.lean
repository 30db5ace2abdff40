/-! PURE PART 3: numbers; sums of matches; waking stops -/
theorem lg_lt {x y : Int64} : (lg_cmp x y < 0) ↔ x < y := by
  unfold lg_cmp
  by_cases h : x > y
  · rw [if_pos h]
    have h' : ¬ x < y := fun q => Int64.lt_irrefl (Int64.lt_trans q h)
    simp only [h', iff_false]
    decide
  · rw [if_neg h]
    by_cases e : x = y
    · rw [if_pos e]
      subst e
      simp only [Int64.lt_irrefl, iff_false]
      decide
    · rw [if_neg e]
      have h' : x < y := by
        rcases Int64.lt_or_eq_of_le (Int64.not_lt.mp h) with q | q
        · exact q
        · exact absurd q e
      simp only [h', iff_true]
      decide
theorem lg_ge {x y : Int64} : (0 ≤ lg_cmp x y) ↔ ¬ x < y := by
  rw [← lg_lt, ← Int32.not_lt]
theorem nIl {n : Nat} (h : n < 2 ^ 31) : (nI n).toInt64 = lN n := nI_l h
theorem neg_l {n : Nat} (h : n < 2 ^ 31) : (-nI n).toInt64 = - lN n := by
  apply Int64.toInt_inj.mp
  have h1 : (-nI n).toInt = -(n : Int) := sb_negT h
  have h2 : (lN n).toInt = (n : Int) := lN_toInt h
  rw [Int32.toInt_toInt64, h1, Int64.toInt_neg, h2]
  rw [Int.bmod_eq_of_le]
  · omega
  · omega
theorem lN_ex {a b : Nat} (ha : a < 2 ^ 63) (hb : b < 2 ^ 63) : lN a < lN b ↔ a < b := pk_lLT ha hb
theorem lN_i32 {n : Nat} : (lN n).toInt32 = nI n := lN_i n
/-- the quantities that match, but those of one trader -/
def gMo (I : FI) (s p t : Int32) : Nat → Int32 → Int32 := fun o a => if I 0 o = t then a else if isM I s p o = true then a + I 2 o else a
def gMl (I : FI) (s p t : Int32) : Nat → Int64 → Int64 := fun o a => if isM I s p o = true then (if I 0 o = t then a else a + (I 2 o).toInt64) else a
theorem c_others {I : FI} {L : FL} {n : Nat} (h : I 11 1 = nI n) (hn : n ≤ 40) {s : Int32} (p t : Int32) (hs : s = 0 ∨ s = 1) (h1 : ∀ k, k < n → I 1 k = 0 ∨ I 1 k = 1) : ∀ (d k f : Nat) (a : Int32), k + d = n → d < f → fK4_matchesOfOthers_6 f (1 - s) p t a (nI k) I L = some (fd (gMo I s p t) d k a) := by
  intro d
  induction d with
  | zero =>
    intro k f a hk hf
    obtain ⟨f, rfl⟩ := fu1 hf
    show bK4_matchesOfOthers_6 _ _ _ _ _ _ _ _ = _
    simp only [bK4_matchesOfOthers_6, h, lp_out (show n ≤ k by omega) (show k ≤ 40 by omega), if_true, fd]
  | succ d ih =>
    intro k f a hk hf
    obtain ⟨f, rfl⟩ := fu1 hf
    obtain ⟨e1, e2, e3, e4⟩ := lp_in (show k < n by omega) hn
    show bK4_matchesOfOthers_6 _ _ _ _ _ _ _ _ = some (fd (gMo I s p t) d (k + 1) (gMo I s p t k a))
    have hm := c_isMatch (L := L) (p := p) (o := ⟨k, e4⟩) hs (h1 k (by omega))
    simp only [bK4_matchesOfOthers_6, h, e3, if_false, g40_nI _ e4, hm, bn_eq, b2i_0, nm_eq, fK4_matchesOfOthers_59, nI_1, gMo]
    by_cases c : I 0 k = t
    · simp only [if_pos c]; exact ih (k + 1) f _ (by omega) (by omega)
    · simp only [if_neg c]
      cases c2 : isM I s p k with
      | true => simp only [if_true, Bool.true_eq_false, if_false]; exact ih (k + 1) f _ (by omega) (by omega)
      | false => simp only [if_true, Bool.false_eq_true, if_false]; exact ih (k + 1) f _ (by omega) (by omega)
theorem r_others {I : FI} {L : FL} {n : Nat} (h : I 11 1 = nI n) (hn : n ≤ 40) (s p t : Int32) : ∀ (d k f : Nat) (a : Int64), k + d = n → d < f → fK8_sum_6 f t s p a (nI k) I L = some (fd (gMl I s p t) d k a) := by
  intro d
  induction d with
  | zero =>
    intro k f a hk hf
    obtain ⟨f, rfl⟩ := fu1 hf
    show bK8_sum_6 _ _ _ _ _ _ _ _ = _
    simp only [bK8_sum_6, h, lp_out (show n ≤ k by omega) (show k ≤ 40 by omega), if_true, fd]
  | succ d ih =>
    intro k f a hk hf
    obtain ⟨f, rfl⟩ := fu1 hf
    obtain ⟨e1, e2, e3, e4⟩ := lp_in (show k < n by omega) hn
    show bK8_sum_6 _ _ _ _ _ _ _ _ = some (fd (gMl I s p t) d (k + 1) (gMl I s p t k a))
    simp only [bK8_sum_6, h, e3, if_false, r_isMatch e4, bn_eq, b2i_0, nm_eq, fK8_sum_50, nI_1, gMl, e1, e2, ck_tt]
    cases c2 : isM I s p k with
    | true =>
      simp only [if_true, Bool.true_eq_false, if_false]
      by_cases c : I 0 k = t
      · simp only [if_pos c]; exact ih (k + 1) f _ (by omega) (by omega)
      · simp only [if_neg c]; exact ih (k + 1) f _ (by omega) (by omega)
    | false => simp only [if_true, Bool.false_eq_true, if_false]; exact ih (k + 1) f _ (by omega) (by omega)
/-- both sums are one number -/
theorem others_eq {I : FI} {n : Nat} (hn : n ≤ 40) (s p t : Int32) (hq : ∀ k, k < n → ∃ q, q ≤ 9999 ∧ I 2 k = nI q) : ∃ S, S ≤ 9999 * n ∧ fd (gMo I s p t) n 0 0 = nI S ∧ fd (gMl I s p t) n 0 0 = lN S := by
  have key := fd_rel (g := gMo I s p t) (g' := gMl I s p t) (fun k a b => ∃ S, S ≤ 9999 * k ∧ a = nI S ∧ b = lN S) n 0 0 0 ⟨0, by omega, rfl, rfl⟩ ?_
  · simpa using key
  · rintro o a b - ho ⟨S, hS, rfl, rfl⟩
    obtain ⟨q, hq1, hq2⟩ := hq o (by omega)
    unfold gMo gMl
    by_cases c : I 0 o = t
    · by_cases c2 : isM I s p o = true
      · simp only [if_pos c, if_pos c2]; exact ⟨S, by omega, rfl, rfl⟩
      · simp only [if_pos c, if_neg c2]; exact ⟨S, by omega, rfl, rfl⟩
    · by_cases c2 : isM I s p o = true
      · simp only [if_neg c, if_pos c2, hq2, nIl (show q < 2 ^ 31 by omega), nI_add, lN_add]
        exact ⟨S + q, by omega, rfl, rfl⟩
      · simp only [if_neg c, if_neg c2]; exact ⟨S, by omega, rfl, rfl⟩
/-- the first stop that wakes -/
def wkF (I : FI) (o : Nat) : Bool := decide (I 4 o = 1) && !decide (I 11 4 = 0) && (if I 1 o = 0 then !decide (I 11 4 < I 3 o) else !decide (I 3 o < I 11 4))
def wkL (I : FI) : Nat → Nat → Option (Fin 40)
  | 0, _ => none
  | d + 1, k => if wkF I k = true then mkF k else wkL I d (k + 1)
theorem c_wkL {I : FI} {L : FL} {n : Nat} (h : I 11 1 = nI n) (hn : n ≤ 40) : ∀ (d k f : Nat), k + d = n → d < f → fK4_firstWakingStop_2 f (I 11 4) (nI k) I L = some (wkL I d k) := by
  intro d
  induction d with
  | zero =>
    intro k f hk hf
    obtain ⟨f, rfl⟩ := fu1 hf
    show bK4_firstWakingStop_2 _ _ _ _ _ = _
    simp only [bK4_firstWakingStop_2, h, lp_out (show n ≤ k by omega) (show k ≤ 40 by omega), if_true, wkL]
  | succ d ih =>
    intro k f hk hf
    obtain ⟨f, rfl⟩ := fu1 hf
    obtain ⟨e1, e2, e3, e4⟩ := lp_in (show k < n by omega) hn
    have IH := ih (k + 1) f (by omega) (by omega)
    show bK4_firstWakingStop_2 _ _ _ _ _ = some (if wkF I k = true then mkF k else wkL I d (k + 1))
    simp only [bK4_firstWakingStop_2, h, e3, if_false, g40_nI _ e4, nm_eq, fK4_firstWakingStop_43, fK4_wakes, fK4_wakes_30, nI_1, mkF_lt e4, wkF, IH]
    by_cases c1 : I 4 k = 1
    · by_cases c2 : I 11 4 = 0
      · simp [c1, c2, bn_eq]
      · by_cases c3 : I 1 k = 0
        · by_cases c4 : I 11 4 < I 3 k <;> simp [c1, c2, c3, c4, bn_eq]
        · by_cases c4 : I 3 k < I 11 4 <;> simp [c1, c2, c3, c4, bn_eq]
    · simp [c1]
theorem c_wake {I : FI} {L : FL} {n : Nat} (h : I 11 1 = nI n) (hn : n ≤ 40) : fK4_firstWakingStop (I 11 4) I L = some (wkL I n 0) :=
  c_wkL h hn n 0 FU (by omega) (by simp only [FU]; omega)
theorem r_wkL {I : FI} {L : FL} {n : Nat} (h : I 11 1 = nI n) (hn : n ≤ 40) : ∀ (d k f : Nat), k + d = n → d < f → fK8_waking_2 f (nI k) I L = some (rI (wkL I d k)) := by
  intro d
  induction d with
  | zero =>
    intro k f hk hf
    obtain ⟨f, rfl⟩ := fu1 hf
    show bK8_waking_2 _ _ _ _ = _
    simp only [bK8_waking_2, h, lp_out (show n ≤ k by omega) (show k ≤ 40 by omega), if_true, wkL, rI]
  | succ d ih =>
    intro k f hk hf
    obtain ⟨f, rfl⟩ := fu1 hf
    obtain ⟨e1, e2, e3, e4⟩ := lp_in (show k < n by omega) hn
    have IH := ih (k + 1) f (by omega) (by omega)
    show bK8_waking_2 _ _ _ _ = some (rI (if wkF I k = true then mkF k else wkL I d (k + 1)))
    simp only [bK8_waking_2, h, e3, if_false, e1, e2, ck_tt, nm_eq, fK8_waking_67, nI_1, mkF_lt e4, wkF, IH]
    by_cases c1 : I 4 k = 1
    · by_cases c2 : I 11 4 = 0
      · simp [c1, c2]
      · by_cases c3 : I 1 k = 0
        · by_cases c4 : I 11 4 < I 3 k <;> simp [c1, c2, c3, c4, rI]
        · by_cases c4 : I 3 k < I 11 4 <;> simp [c1, c2, c3, c4, rI]
    · simp [c1]
theorem r_wake {I : FI} {L : FL} {n : Nat} (h : I 11 1 = nI n) (hn : n ≤ 40) : fK8_waking I L = some (rI (wkL I n 0)) :=
  r_wkL h hn n 0 FU (by omega) (by simp only [FU]; omega)
theorem wkL_some {I : FI} {n : Nat} (hn : n ≤ 40) : ∀ (d k : Nat) (x : Fin 40), k + d = n → wkL I d k = some x → x.val < n ∧ I 4 x.val = 1 := by
  intro d
  induction d with
  | zero => intro k x _ h; cases h
  | succ d ih =>
    intro k x hk h
    rw [wkL] at h
    have e4 : k < 40 := by omega
    by_cases c : wkF I k = true
    · rw [if_pos c, mkF_lt e4] at h
      rw [← Option.some.inj h]
      simp only [wkF, Bool.and_eq_true, decide_eq_true_eq] at c
      exact ⟨by show k < n; omega, c.1.1⟩
    · rw [if_neg c] at h; exact ih (k + 1) x (by omega) h
theorem wkL_congr {I J : FI} {n : Nat} (h : ∀ k, k < n → I 4 k = J 4 k ∧ I 1 k = J 1 k ∧ I 3 k = J 3 k) (hl : I 11 4 = J 11 4) : ∀ (d k : Nat), k + d = n → wkL I d k = wkL J d k := by
  intro d
  induction d with
  | zero => intro k _; simp only [wkL]
  | succ d ih =>
    intro k hk
    obtain ⟨a1, a2, a3⟩ := h k (by omega)
    have e : wkF I k = wkF J k := by unfold wkF; rw [a1, a2, a3, hl]
    rw [wkL, wkL, e, ih (k + 1) (by omega)]
