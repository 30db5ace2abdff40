/-! PURE PART 2: matches, the best match, waking, levels -/
def isM (I : FI) (s p : Int32) (o : Nat) : Bool := decide (I 4 o = 0) && !decide (I 1 o = s) && (decide (p = 0) || (if s = 0 then !decide (p < I 3 o) else !decide (I 3 o < p)))
def b2i (b : Bool) : Int32 := if b = true then 1 else 0
theorem b2i_0 (b : Bool) : (b2i b = 0) ↔ b = false := by cases b <;> simp [b2i]
theorem s01 {x s : Int32} (hs : s = 0 ∨ s = 1) (hx : x = 0 ∨ x = 1) : (x = 1 - s) ↔ ¬ x = s := by
  rcases hs with rfl | rfl <;> rcases hx with rfl | rfl <;> decide
theorem c_isMatch {I : FI} {L : FL} {s p : Int32} {o : Fin 40} (hs : s = 0 ∨ s = 1) (h1 : I 1 o.val = 0 ∨ I 1 o.val = 1) : fK4_isMatch o (1 - s) p I L = some (b2i (isM I s p o.val)) := by
  have e := s01 (x := I 1 o.val) hs h1
  simp only [fK4_isMatch, fK4_isInBook, fK4_isBetter, fK4_isMatch_24, e, isM]
  by_cases c1 : I 4 o.val = 0
  · by_cases c2 : I 1 o.val = s
    · simp [c1, c2, bn_eq, b2i]
    · by_cases c3 : p = 0
      · simp [c1, c2, c3, bn_eq, b2i]
      · rcases hs with hs | hs
        · subst hs
          by_cases c4 : I 3 o.val ≤ p
          · have c5 : ¬ p < I 3 o.val := Int32.not_lt.mpr c4
            simp [c1, c2, c3, bn_eq, b2i, c4, c5]
          · have c5 : p < I 3 o.val := Int32.not_le.mp c4
            simp [c1, c2, c3, bn_eq, b2i, c4, c5]
        · subst hs
          by_cases c4 : p ≤ I 3 o.val
          · have c5 : ¬ I 3 o.val < p := Int32.not_lt.mpr c4
            simp [c1, c2, c3, bn_eq, b2i, c4, c5]
          · have c5 : I 3 o.val < p := Int32.not_le.mp c4
            simp [c1, c2, c3, bn_eq, b2i, c4, c5]
  · simp [c1, bn_eq, b2i]
theorem r_isMatch {I : FI} {L : FL} {s p : Int32} {k : Nat} (hk : k < 40) : fK8_isMatch (nI k) s p I L = some (b2i (isM I s p k)) := by
  have e1 : inb (nI k) 40 = true := inb_nI hk (by decide)
  have e2 : (nI k).toNatClampNeg = k := nI_clamp (by omega)
  simp only [fK8_isMatch, fK8_isMatch_50, e1, e2, ck_tt, isM]
  by_cases c1 : I 4 k = 0
  · by_cases c2 : I 1 k = s
    · simp [c1, c2, b2i]
    · by_cases c3 : p = 0
      · simp [c1, c2, c3, b2i]
      · by_cases hs : s = 0
        · subst hs
          by_cases c4 : p < I 3 k
          · simp [c1, c2, c3, b2i, c4]
          · simp [c1, c2, c3, b2i, c4]
        · by_cases c4 : I 3 k < p
          · simp [c1, c2, c3, b2i, hs, c4]
          · simp [c1, c2, c3, b2i, hs, c4]
  · simp [c1, b2i]
/-- the best match -/
def mkF (o : Nat) : Option (Fin 40) := if h : o < 40 then some ⟨o, h⟩ else none
theorem mkF_lt {o : Nat} (h : o < 40) : mkF o = some ⟨o, h⟩ := by simp [mkF, h]
def btr (I : FI) (s : Int32) (o c : Nat) : Bool := if s = 0 then !decide (I 3 c ≤ I 3 o) else !decide (I 3 o ≤ I 3 c)
def gBm (I : FI) (s p : Int32) : Nat → Option (Fin 40) → Option (Fin 40) := fun o b => if isM I s p o = true then (match b with
  | none => mkF o
  | some c => if btr I s o c.val = true then mkF o else some c) else b
def bst (I : FI) (s p : Int32) (n : Nat) : Option (Fin 40) := fd (gBm I s p) n 0 none
def rI (b : Option (Fin 40)) : Int32 := match b with
  | none => -1
  | some c => nI c.val
theorem c_better {I : FI} {L : FL} {s : Int32} {o c : Nat} (hs : s = 0 ∨ s = 1) : fK4_isBetter (1 - s) (I 3 o) (I 3 c) I L = some (b2i (btr I s o c)) := by
  rcases hs with rfl | rfl
  · by_cases h : I 3 c ≤ I 3 o <;> simp [fK4_isBetter, btr, b2i, h]
  · by_cases h : I 3 o ≤ I 3 c <;> simp [fK4_isBetter, btr, b2i, h]
theorem c_first {I : FI} {L : FL} {n : Nat} (h : I 11 1 = nI n) (hn : n ≤ 40) {s : Int32} (p : Int32) (hs : s = 0 ∨ s = 1) (h1 : ∀ k, k < n → I 1 k = 0 ∨ I 1 k = 1) : ∀ (d k f : Nat) (b : Option (Fin 40)), k + d = n → d < f → fK4_firstMatch_5 f (1 - s) p b (nI k) I L = some (fd (gBm I s p) d k b) := by
  intro d
  induction d with
  | zero =>
    intro k f b hk hf
    obtain ⟨f, rfl⟩ := fu1 hf
    show bK4_firstMatch_5 _ _ _ _ _ _ _ = _
    simp only [bK4_firstMatch_5, h, lp_out (show n ≤ k by omega) (show k ≤ 40 by omega), if_true, fd]
  | succ d ih =>
    intro k f b hk hf
    obtain ⟨f, rfl⟩ := fu1 hf
    obtain ⟨e1, e2, e3, e4⟩ := lp_in (show k < n by omega) hn
    show bK4_firstMatch_5 _ _ _ _ _ _ _ = some (fd (gBm I s p) d (k + 1) (gBm I s p k b))
    have hm := c_isMatch (L := L) (p := p) (o := ⟨k, e4⟩) hs (h1 k (by omega))
    simp only [bK4_firstMatch_5, h, e3, if_false, g40_nI _ e4, hm, bn_eq, b2i_0, nm_eq, fK4_firstMatch_56, fK4_firstMatch_53, nI_1, gBm]
    by_cases c : isM I s p k = true
    · have c' : ¬ isM I s p k = false := by rw [c]; decide
      simp only [if_pos c, if_neg c']
      cases b with
      | none =>
        simp only [mo_none, mkF_lt e4]
        exact ih (k + 1) f _ (by omega) (by omega)
      | some x =>
        simp only [mo_some, c_better hs, bn_eq, b2i_0]
        by_cases c2 : btr I s k x.val = true
        · have c2' : ¬ btr I s k x.val = false := by rw [c2]; decide
          simp only [if_pos c2, if_neg c2', mkF_lt e4]
          exact ih (k + 1) f _ (by omega) (by omega)
        · have c2' : btr I s k x.val = false := by simpa using c2
          simp only [c2', if_true]
          exact ih (k + 1) f _ (by omega) (by omega)
    · have c' : isM I s p k = false := by simpa using c
      simp only [c', if_true]
      exact ih (k + 1) f _ (by omega) (by omega)
theorem c_firstMatch {I : FI} {L : FL} {n : Nat} (h : I 11 1 = nI n) (hn : n ≤ 40) {s : Int32} (p : Int32) (hs : s = 0 ∨ s = 1) (h1 : ∀ k, k < n → I 1 k = 0 ∨ I 1 k = 1) : fK4_firstMatch (1 - s) p I L = some (bst I s p n) :=
  c_first h hn p hs h1 n 0 FU none (by omega) (by simp only [FU]; omega)
theorem r_first {I : FI} {L : FL} {n : Nat} (h : I 11 1 = nI n) (hn : n ≤ 40) (s p : Int32) : ∀ (d k f : Nat) (b : Option (Fin 40)), k + d = n → d < f → fK8_match_5 f s p (rI b) (nI k) I L = some (rI (fd (gBm I s p) d k b)) := by
  intro d
  induction d with
  | zero =>
    intro k f b hk hf
    obtain ⟨f, rfl⟩ := fu1 hf
    show bK8_match_5 _ _ _ _ _ _ _ = _
    simp only [bK8_match_5, h, lp_out (show n ≤ k by omega) (show k ≤ 40 by omega), if_true, fd]
  | succ d ih =>
    intro k f b hk hf
    obtain ⟨f, rfl⟩ := fu1 hf
    obtain ⟨e1, e2, e3, e4⟩ := lp_in (show k < n by omega) hn
    show bK8_match_5 _ _ _ _ _ _ _ = some (rI (fd (gBm I s p) d (k + 1) (gBm I s p k b)))
    simp only [bK8_match_5, h, e3, if_false, r_isMatch e4, bn_eq, b2i_0, nm_eq, fK8_match_71, fK8_match_68, nI_1, gBm, e1, e2, ck_tt]
    by_cases c : isM I s p k = true
    · have c' : ¬ isM I s p k = false := by rw [c]; decide
      simp only [if_pos c, if_neg c']
      cases b with
      | none =>
        have hz : rI none < 0 := by decide
        simp only [if_pos hz, mkF_lt e4]
        exact ih (k + 1) f (some ⟨k, e4⟩) (by omega) (by omega)
      | some x =>
        have hx := x.isLt
        have hz : ¬ rI (some x) < 0 := nI_pos (n := x.val) (by omega)
        have e5 : inb (rI (some x)) 40 = true := inb_nI hx (by decide)
        have e6 : (rI (some x)).toNatClampNeg = x.val := nI_clamp (n := x.val) (by omega)
        simp only [if_neg hz, e5, e6, ck_tt, btr, mkF_lt e4]
        by_cases hs : s = 0
        · simp only [if_pos hs]
          by_cases c2 : I 3 x.val ≤ I 3 k
          · simp only [if_pos c2, c2, decide_true, Bool.not_true, if_false]
            exact ih (k + 1) f (some x) (by omega) (by omega)
          · simp only [if_neg c2, c2, decide_false, Bool.not_false, if_true]
            exact ih (k + 1) f (some ⟨k, e4⟩) (by omega) (by omega)
        · simp only [if_neg hs]
          by_cases c2 : I 3 k ≤ I 3 x.val
          · simp only [if_pos c2, c2, decide_true, Bool.not_true, if_false]
            exact ih (k + 1) f (some x) (by omega) (by omega)
          · simp only [if_neg c2, c2, decide_false, Bool.not_false, if_true]
            exact ih (k + 1) f (some ⟨k, e4⟩) (by omega) (by omega)
    · have c' : isM I s p k = false := by simpa using c
      simp only [c', if_true]
      exact ih (k + 1) f b (by omega) (by omega)
theorem r_match {I : FI} {L : FL} {n : Nat} (h : I 11 1 = nI n) (hn : n ≤ 40) (s p : Int32) : fK8_match s p I L = some (rI (bst I s p n)) :=
  r_first h hn s p n 0 FU none (by omega) (by simp only [FU]; omega)
/-- the best match is a match, and within -/
theorem bst_fd {I : FI} {s p : Int32} {n : Nat} (hn : n ≤ 40) : ∀ (d k : Nat) (b : Option (Fin 40)), k + d = n → (∀ x, b = some x → x.val < n ∧ isM I s p x.val = true) → ∀ x, fd (gBm I s p) d k b = some x → x.val < n ∧ isM I s p x.val = true := by
  intro d
  induction d with
  | zero => intro k b _ h x hx; exact h x hx
  | succ d ih =>
    intro k b hk h x hx
    refine ih (k + 1) (gBm I s p k b) (by omega) ?_ x hx
    intro y hy
    have e4 : k < 40 := by omega
    unfold gBm at hy
    by_cases c : isM I s p k = true
    · rw [if_pos c] at hy
      cases b with
      | none =>
        simp only [mkF_lt e4] at hy
        cases hy
        exact ⟨by show k < n; omega, c⟩
      | some z =>
        simp only [mkF_lt e4] at hy
        by_cases c2 : btr I s k z.val = true
        · rw [if_pos c2] at hy; cases hy; exact ⟨by show k < n; omega, c⟩
        · rw [if_neg c2] at hy; cases hy; exact h _ rfl
    · rw [if_neg c] at hy; exact h y hy
theorem bst_some {I : FI} {s p : Int32} {n : Nat} (hn : n ≤ 40) {x : Fin 40} (h : bst I s p n = some x) : x.val < n ∧ isM I s p x.val = true :=
  bst_fd hn n 0 none (by omega) (fun x h => by cases h) x h
theorem isM_congr {I J : FI} {s p : Int32} {k : Nat} (a1 : I 4 k = J 4 k) (a2 : I 1 k = J 1 k) (a3 : I 3 k = J 3 k) : isM I s p k = isM J s p k := by
  unfold isM
  rw [a1, a2, a3]
theorem btr_congr {I J : FI} {s : Int32} {k c : Nat} (a : I 3 k = J 3 k) (b : I 3 c = J 3 c) : btr I s k c = btr J s k c := by
  unfold btr
  rw [a, b]
theorem gBm_no {I : FI} {s p : Int32} {k : Nat} {b : Option (Fin 40)} (h : isM I s p k = false) : gBm I s p k b = b := by
  unfold gBm
  rw [h]
  rfl
theorem gBm_n {I : FI} {s p : Int32} {k : Nat} (h : isM I s p k = true) : gBm I s p k none = mkF k := by
  unfold gBm
  rw [h]
  rfl
theorem gBm_s {I : FI} {s p : Int32} {k : Nat} {c : Fin 40} (h : isM I s p k = true) : gBm I s p k (some c) = if btr I s k c.val = true then mkF k else some c := by
  unfold gBm
  rw [h]
  rfl
theorem gBm_lt {I : FI} {s p : Int32} {n k : Nat} {b : Option (Fin 40)} (hk : k < n) (hn : n ≤ 40) (hb : ∀ x, b = some x → x.val < n) : ∀ x, gBm I s p k b = some x → x.val < n := by
  intro x hx
  have e4 : k < 40 := by omega
  cases c : isM I s p k with
  | false => rw [gBm_no c] at hx; exact hb x hx
  | true =>
    cases b with
    | none => rw [gBm_n c, mkF_lt e4] at hx; rw [← Option.some.inj hx]; exact hk
    | some z =>
      rw [gBm_s c, mkF_lt e4] at hx
      by_cases c2 : btr I s k z.val = true
      · rw [if_pos c2] at hx; rw [← Option.some.inj hx]; exact hk
      · rw [if_neg c2] at hx; exact hb x hx
theorem gBm_congr {I J : FI} {s p : Int32} {n k : Nat} {b : Option (Fin 40)} (h : ∀ k, k < n → I 4 k = J 4 k ∧ I 1 k = J 1 k ∧ I 3 k = J 3 k) (hk : k < n) (hb : ∀ x, b = some x → x.val < n) : gBm I s p k b = gBm J s p k b := by
  have em : isM I s p k = isM J s p k := isM_congr (h k hk).1 (h k hk).2.1 (h k hk).2.2
  cases c : isM J s p k with
  | false => rw [gBm_no c, gBm_no (em.trans c)]
  | true =>
    cases b with
    | none => rw [gBm_n c, gBm_n (em.trans c)]
    | some z => rw [gBm_s c, gBm_s (em.trans c), btr_congr (h k hk).2.2 (h z.val (hb z rfl)).2.2]
theorem bst_congrL {I J : FI} {s p : Int32} {n : Nat} (h : ∀ k, k < n → I 4 k = J 4 k ∧ I 1 k = J 1 k ∧ I 3 k = J 3 k) (hn : n ≤ 40) : ∀ (d k : Nat) (b : Option (Fin 40)), k + d = n → (∀ x, b = some x → x.val < n) → fd (gBm I s p) d k b = fd (gBm J s p) d k b := by
  intro d
  induction d with
  | zero => intro k b _ _; simp only [fd]
  | succ d ih =>
    intro k b hk hb
    have e := gBm_congr (s := s) (p := p) (k := k) (b := b) h (by omega) hb
    have l := gBm_lt (I := J) (s := s) (p := p) (k := k) (b := b) (show k < n by omega) hn hb
    rw [fd, fd, e]
    exact ih (k + 1) _ (by omega) l
theorem bst_congr {I J : FI} {s p : Int32} {n : Nat} (h : ∀ k, k < n → I 4 k = J 4 k ∧ I 1 k = J 1 k ∧ I 3 k = J 3 k) (hn : n ≤ 40) : bst I s p n = bst J s p n :=
  bst_congrL h hn n 0 none (by omega) (fun x h => by cases h)
