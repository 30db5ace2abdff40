/-! PURE PART 15: what a word says -/
def allF (T : Nat → Int32) (a i : Nat) : Nat → Nat → Bool
  | 0, _ => true
  | d + 1, j => decide (T (a + j) = chJS i (nI j)) && allF T a i d (j + 1)
def SW (I : FI) (w k i : Nat) : Bool := decide (k < w) && (decide (I 14 k - I 13 k = nI (lenJS.getD i 0)) && allF (I 6) (I 13 k).toNatClampNeg i (lenJS.getD i 0) 0)
theorem len40 : ∀ i, i < nJS → lenJS.getD i 0 ≤ 6 := by decide +kernel
theorem c_says_loop {I : FI} {L : FL} {k a i l : Nat} (hk : k < 7) (hi : i < nJS) (hl : lenJS.getD i 0 = l) (h13 : I 13 k = nI a) (hab : a + l ≤ 40) : ∀ (d j f : Nat), j + d = l → d < f → fK5_says_36 f (nI k) i (nI j) I L = some (b2i (allF (I 6) a i d j)) := by
  have e1 : inb (nI k) 7 = true := inb_nI hk (by decide)
  have e2 : (nI k).toNatClampNeg = k := nI_clamp (by omega)
  have e0 : decide (i < nJS) = true := decide_eq_true hi
  intro d
  induction d with
  | zero =>
    intro j f hj hf
    obtain ⟨f, rfl⟩ := fu1 hf
    show bK5_says_36 _ _ _ _ _ _ = _
    have le : nI l ≤ nI j := nI_le (by omega) (by omega)
    simp only [bK5_says_36, e0, ck_tt, hl, if_pos le, allF, b2i, if_true]
  | succ d ih =>
    intro j f hj hf
    obtain ⟨f, rfl⟩ := fu1 hf
    show bK5_says_36 _ _ _ _ _ _ = _
    have nle : ¬ nI l ≤ nI j := nI_ge (by omega) (by omega)
    have e3 : inb (nI (a + j)) 40 = true := inb_nI (by omega) (by decide)
    have e4 : (nI (a + j)).toNatClampNeg = a + j := nI_clamp (by omega)
    have e5 : inb (nI j) l = true := inb_nI (by omega) (by omega)
    simp only [bK5_says_36, e0, ck_tt, hl, if_neg nle, e1, e2, h13, nI_add, e3, e4, e5, nm_eq, nI_1, allF]
    by_cases c : I 6 (a + j) = chJS i (nI j)
    · simp only [if_pos c, c, decide_true, Bool.true_and]
      exact ih (j + 1) f (by omega) (by omega)
    · simp only [if_neg c, c, decide_false, Bool.false_and, b2i]
      rfl
theorem r_says_loop {I : FI} {L : FL} {k a i l : Nat} (hk : k < 12) (hi : i < nJS) (hl : lenJS.getD i 0 = l) (h13 : I 13 k = nI a) (hab : a + l ≤ 40) : ∀ (d j f : Nat), j + d = l → d < f → fK8_is_32 f (nI k) i (nI j) I L = some (b2i (allF (I 6) a i d j)) := by
  have e1 : inb (nI k) 12 = true := inb_nI hk (by decide)
  have e2 : (nI k).toNatClampNeg = k := nI_clamp (by omega)
  have e0 : decide (i < nJS) = true := decide_eq_true hi
  intro d
  induction d with
  | zero =>
    intro j f hj hf
    obtain ⟨f, rfl⟩ := fu1 hf
    show bK8_is_32 _ _ _ _ _ _ = _
    have le : nI l ≤ nI j := nI_le (by omega) (by omega)
    simp only [bK8_is_32, e0, ck_tt, hl, if_pos le, allF, b2i, if_true]
  | succ d ih =>
    intro j f hj hf
    obtain ⟨f, rfl⟩ := fu1 hf
    show bK8_is_32 _ _ _ _ _ _ = _
    have nle : ¬ nI l ≤ nI j := nI_ge (by omega) (by omega)
    have e3 : inb (nI (a + j)) 40 = true := inb_nI (by omega) (by decide)
    have e4 : (nI (a + j)).toNatClampNeg = a + j := nI_clamp (by omega)
    have e5 : inb (nI j) l = true := inb_nI (by omega) (by omega)
    simp only [bK8_is_32, e0, ck_tt, hl, if_neg nle, e1, e2, h13, nI_add, e3, e4, e5, nm_eq, nI_1, allF]
    by_cases c : I 6 (a + j) = chJS i (nI j)
    · simp only [if_pos c, c, decide_true, Bool.true_and]
      exact ih (j + 1) f (by omega) (by omega)
    · simp only [if_neg c, c, decide_false, Bool.false_and, b2i]
      rfl
theorem c_says {I : FI} {L : FL} {w z k i : Nat} (hw : w ≤ 7) (hz : z ≤ 40) (h12 : I 12 0 = nI w) (hW : WW I w z) (hi : i < nJS) (hk : k ≤ 100) : fK5_says (nI k) i I L = some (b2i (SW I w k i)) := by
  have nn : ¬ nI k < 0 := nI_pos (by omega)
  have e0 : decide (i < nJS) = true := decide_eq_true hi
  by_cases c : k < w
  · obtain ⟨a, b, hab, hbz, h13, h14⟩ := hW k c
    have nle : ¬ nI w ≤ nI k := nI_ge c (by omega)
    have e1 : inb (nI k) 7 = true := inb_nI (by omega) (by decide)
    have e2 : (nI k).toNatClampNeg = k := nI_clamp (by omega)
    have ea : (nI a).toNatClampNeg = a := nI_clamp (by omega)
    have l6 := len40 i hi
    simp only [fK5_says, if_neg nn, h12, if_neg nle, e1, e2, e0, ck_tt, SW, c, decide_true, Bool.true_and]
    by_cases c2 : I 14 k - I 13 k = nI (lenJS.getD i 0)
    · have hl : b - a = lenJS.getD i 0 := by
        rw [h13, h14, nI_subE (by omega)] at c2
        exact (nI_eq (by omega) (by omega)).mp c2
      have lp := c_says_loop (L := L) (show k < 7 by omega) hi rfl h13 (by omega) (lenJS.getD i 0) 0 FU (by omega) (by simp only [FU]; omega)
      simp only [if_pos c2, c2, decide_true, Bool.true_and]
      rw [h13, ea]
      exact lp
    · simp only [if_neg c2, c2, decide_false, Bool.false_and, b2i]
      rfl
  · have le : nI w ≤ nI k := nI_le (by omega) (by omega)
    simp only [fK5_says, if_neg nn, h12, if_pos le, SW, c, decide_false, Bool.false_and, b2i]
    rfl
theorem r_is {I : FI} {L : FL} {w z k i : Nat} (hw : w ≤ 12) (hz : z ≤ 40) (h12 : I 12 0 = nI w) (hW : WW I w z) (hi : i < nJS) (hk : k ≤ 100) : fK8_is (nI k) i I L = some (b2i (SW I w k i)) := by
  have e0 : decide (i < nJS) = true := decide_eq_true hi
  by_cases c : k < w
  · obtain ⟨a, b, hab, hbz, h13, h14⟩ := hW k c
    have nle : ¬ nI w ≤ nI k := nI_ge c (by omega)
    have e1 : inb (nI k) 12 = true := inb_nI (by omega) (by decide)
    have e2 : (nI k).toNatClampNeg = k := nI_clamp (by omega)
    have ea : (nI a).toNatClampNeg = a := nI_clamp (by omega)
    have l6 := len40 i hi
    simp only [fK8_is, h12, if_neg nle, e1, e2, e0, ck_tt, SW, c, decide_true, Bool.true_and]
    by_cases c2 : I 14 k - I 13 k = nI (lenJS.getD i 0)
    · have hl : b - a = lenJS.getD i 0 := by
        rw [h13, h14, nI_subE (by omega)] at c2
        exact (nI_eq (by omega) (by omega)).mp c2
      have lp := r_says_loop (L := L) (show k < 12 by omega) hi rfl h13 (by omega) (lenJS.getD i 0) 0 FU (by omega) (by simp only [FU]; omega)
      simp only [if_pos c2, c2, decide_true, Bool.true_and]
      rw [h13, ea]
      exact lp
    · simp only [if_neg c2, c2, decide_false, Bool.false_and, b2i]
      rfl
  · have le : nI w ≤ nI k := nI_le (by omega) (by omega)
    simp only [fK8_is, h12, if_pos le, SW, c, decide_false, Bool.false_and, b2i]
    rfl
theorem allF_congr {T T' : Nat → Int32} {a i i' : Nat} (h : ∀ j, T' j = T j) (hb : bytJS.getD i' [] = bytJS.getD i []) : ∀ (d j : Nat), allF T' a i' d j = allF T a i d j := by
  intro d
  induction d with
  | zero => intro j; simp only [allF]
  | succ d ih =>
    intro j
    have e : chJS i' (nI j) = chJS i (nI j) := by simp only [chJS, hb]
    rw [allF, allF, ih, h, e]
theorem SW_congr {I J : FI} {w k i i' : Nat} (h6 : ∀ j, J 6 j = I 6 j) (hRW : ∀ k, k < w → J 13 k = I 13 k ∧ J 14 k = I 14 k) (hl : lenJS.getD i' 0 = lenJS.getD i 0) (hb : bytJS.getD i' [] = bytJS.getD i []) : SW J w k i' = SW I w k i := by
  unfold SW
  by_cases c : k < w
  · rw [(hRW k c).1, (hRW k c).2, hl, allF_congr h6 hb]
  · simp only [c, decide_false, Bool.false_and]
theorem allF_ch {T : Nat → Int32} {a i : Nat} : ∀ (d j : Nat), allF T a i d j = true → ∀ x, j ≤ x → x < j + d → T (a + x) = chJS i (nI x) := by
  intro d
  induction d with
  | zero => intro j _ x h1 h2; omega
  | succ d ih =>
    intro j h x h1 h2
    rw [allF, Bool.and_eq_true, decide_eq_true_eq] at h
    by_cases e : x = j
    · rw [e]; exact h.1
    · exact ih (j + 1) h.2 x (by omega) (by omega)
/-- one word isn't two texts -/
theorem SW_one {I : FI} {w k i i' : Nat} (hi : i < nJS) (hi' : i' < nJS) (h : SW I w k i = true) (h' : SW I w k i' = true) : lenJS.getD i 0 = lenJS.getD i' 0 ∧ ∀ x, x < lenJS.getD i 0 → chJS i (nI x) = chJS i' (nI x) := by
  simp only [SW, Bool.and_eq_true, decide_eq_true_eq] at h h'
  have l1 := len40 i hi
  have l2 := len40 i' hi'
  have e : lenJS.getD i 0 = lenJS.getD i' 0 := (nI_eq (by omega) (by omega)).mp (h.2.1.symm.trans h'.2.1)
  refine ⟨e, fun x hx => ?_⟩
  rw [← allF_ch _ 0 h.2.2 x (by omega) (by omega), ← allF_ch _ 0 h'.2.2 x (by omega) (by omega)]
theorem txt_dif : ∀ i, i < 15 → ∀ i', i' < 15 → i ≠ i' → ¬ (lenJS.getD i 0 = lenJS.getD i' 0 ∧ ∀ x, x < lenJS.getD i 0 → chJS i (nI x) = chJS i' (nI x)) := by decide +kernel
theorem SW_excl {I : FI} {w k i i' : Nat} (hi : i < 15) (hi' : i' < 15) (hne : i ≠ i') (h : SW I w k i = true) : SW I w k i' = false := by
  cases c : SW I w k i' with
  | false => rfl
  | true => exact absurd (SW_one (by simp only [nJS]; omega) (by simp only [nJS]; omega) h c) (txt_dif i hi i' hi' hne)
/-- numbers -/
def numF (T : Nat → Int32) : Nat → Nat → Int32 → Int32
  | 0, _, v => v
  | d + 1, j, v => if T j < 48 then -1 else if T j ≤ 57 then numF T d (j + 1) (v * 10 + T j - 48) else -1
def NW (I : FI) (w k : Nat) : Int32 := if k < w then (if I 14 k - I 13 k ≤ 7 then numF (I 6) (I 14 k - I 13 k).toNatClampNeg (I 13 k).toNatClampNeg 0 else -1) else -1
def lim (lo hi x : Int32) : Int32 := if x < lo then -1 else if x ≤ hi then x else -1
theorem c_num_loop {I : FI} {L : FL} {k b : Nat} (hk : k < 7) (h14 : I 14 k = nI b) (hb : b ≤ 40) : ∀ (d j f : Nat) (v : Int32), j + d = b → d < f → fK5_number_41 f (nI k) v (nI j) I L = some (numF (I 6) d j v) := by
  have e1 : inb (nI k) 7 = true := inb_nI hk (by decide)
  have e2 : (nI k).toNatClampNeg = k := nI_clamp (by omega)
  intro d
  induction d with
  | zero =>
    intro j f v hj hf
    obtain ⟨f, rfl⟩ := fu1 hf
    show bK5_number_41 _ _ _ _ _ _ = _
    have le : nI b ≤ nI j := nI_le (by omega) (by omega)
    simp only [bK5_number_41, e1, e2, ck_tt, h14, if_pos le, numF]
  | succ d ih =>
    intro j f v hj hf
    obtain ⟨f, rfl⟩ := fu1 hf
    show bK5_number_41 _ _ _ _ _ _ = _
    have nle : ¬ nI b ≤ nI j := nI_ge (by omega) (by omega)
    have e3 : inb (nI j) 40 = true := inb_nI (by omega) (by decide)
    have e4 : (nI j).toNatClampNeg = j := nI_clamp (by omega)
    simp only [bK5_number_41, e1, e2, e3, e4, ck_tt, h14, if_neg nle, nm_eq, nI_1, numF]
    by_cases c : I 6 j < 48
    · simp only [if_pos c]
    · by_cases c2 : I 6 j ≤ 57
      · simp only [if_neg c, if_pos c2]
        exact ih (j + 1) f _ (by omega) (by omega)
      · simp only [if_neg c, if_neg c2]
theorem r_num_loop {I : FI} {L : FL} {k b : Nat} {lo hi : Int32} (hlo : -1 < lo) (hk : k < 12) (h14 : I 14 k = nI b) (hb : b ≤ 40) : ∀ (d j f : Nat) (v : Int32), j + d = b → d < f → fK8_number_39 f (nI k) lo hi v (nI j) I L = some (lim lo hi (numF (I 6) d j v)) := by
  have e1 : inb (nI k) 12 = true := inb_nI hk (by decide)
  have e2 : (nI k).toNatClampNeg = k := nI_clamp (by omega)
  have hm : lim lo hi (-1) = -1 := by simp only [lim, if_pos hlo]
  intro d
  induction d with
  | zero =>
    intro j f v hj hf
    obtain ⟨f, rfl⟩ := fu1 hf
    show bK8_number_39 _ _ _ _ _ _ _ _ = _
    have le : nI b ≤ nI j := nI_le (by omega) (by omega)
    simp only [bK8_number_39, e1, e2, ck_tt, h14, if_pos le, numF, lim, fK8_number_112]
    by_cases c : v < lo
    · simp only [c, if_true]
    · by_cases c2 : v ≤ hi
      · simp only [c, c2, if_true, if_false]
      · simp only [c, c2, if_false]
  | succ d ih =>
    intro j f v hj hf
    obtain ⟨f, rfl⟩ := fu1 hf
    show bK8_number_39 _ _ _ _ _ _ _ _ = _
    have nle : ¬ nI b ≤ nI j := nI_ge (by omega) (by omega)
    have e3 : inb (nI j) 40 = true := inb_nI (by omega) (by decide)
    have e4 : (nI j).toNatClampNeg = j := nI_clamp (by omega)
    simp only [bK8_number_39, e1, e2, e3, e4, ck_tt, h14, if_neg nle, nm_eq, nI_1, numF]
    by_cases c : I 6 j < 48
    · simp only [if_pos c, hm]
    · by_cases c2 : I 6 j ≤ 57
      · simp only [if_neg c, if_pos c2]
        rw [Int32.mul_comm 10 v]
        exact ih (j + 1) f _ (by omega) (by omega)
      · simp only [if_neg c, if_neg c2, hm]
theorem dif7 {a b : Nat} (hab : a < b) (hb : b ≤ 40) : nI b - nI a ≤ 7 ↔ b - a ≤ 7 := by
  rw [nI_subE (by omega)]
  exact nI_leI (b := 7) (by omega) (by decide)
theorem c_number {I : FI} {L : FL} {w z k : Nat} (hw : w ≤ 7) (hz : z ≤ 40) (h12 : I 12 0 = nI w) (hW : WW I w z) (hk : k ≤ 100) : fK5_number (nI k) I L = some (NW I w k) := by
  have nn : ¬ nI k < 0 := nI_pos (by omega)
  by_cases c : k < w
  · obtain ⟨a, b, hab, hbz, h13, h14⟩ := hW k c
    have nle : ¬ nI w ≤ nI k := nI_ge c (by omega)
    have e1 : inb (nI k) 7 = true := inb_nI (by omega) (by decide)
    have e2 : (nI k).toNatClampNeg = k := nI_clamp (by omega)
    have ea : (nI a).toNatClampNeg = a := nI_clamp (by omega)
    have eb : (nI b - nI a).toNatClampNeg = b - a := by rw [nI_subE (by omega)]; exact nI_clamp (by omega)
    simp only [fK5_number, if_neg nn, h12, if_neg nle, e1, e2, ck_tt, NW, if_pos c, h13, h14, nm_eq, ea, eb]
    by_cases c2 : nI b - nI a ≤ 7
    · simp only [if_pos c2]
      exact c_num_loop (L := L) (show k < 7 by omega) h14 (by omega) (b - a) a FU 0 (by omega) (by simp only [FU]; omega)
    · simp only [if_neg c2]
  · have le : nI w ≤ nI k := nI_le (by omega) (by omega)
    simp only [fK5_number, if_neg nn, h12, if_pos le, NW, if_neg c]
theorem r_number {I : FI} {L : FL} {w z k : Nat} {lo hi : Int32} (hlo : -1 < lo) (hw : w ≤ 12) (hz : z ≤ 40) (h12 : I 12 0 = nI w) (hW : WW I w z) (hk : k ≤ 100) : fK8_number (nI k) lo hi I L = some (lim lo hi (NW I w k)) := by
  have hm : lim lo hi (-1) = -1 := by simp only [lim, if_pos hlo]
  by_cases c : k < w
  · obtain ⟨a, b, hab, hbz, h13, h14⟩ := hW k c
    have nle : ¬ nI w ≤ nI k := nI_ge c (by omega)
    have e1 : inb (nI k) 12 = true := inb_nI (by omega) (by decide)
    have e2 : (nI k).toNatClampNeg = k := nI_clamp (by omega)
    have ea : (nI a).toNatClampNeg = a := nI_clamp (by omega)
    have eb : (nI b - nI a).toNatClampNeg = b - a := by rw [nI_subE (by omega)]; exact nI_clamp (by omega)
    simp only [fK8_number, h12, if_neg nle, e1, e2, ck_tt, NW, if_pos c, h13, h14, nm_eq, ea, eb]
    by_cases c2 : nI b - nI a ≤ 7
    · simp only [if_pos c2]
      exact r_num_loop (L := L) hlo (show k < 12 by omega) h14 (by omega) (b - a) a FU 0 (by omega) (by simp only [FU]; omega)
    · simp only [if_neg c2, hm]
  · have le : nI w ≤ nI k := nI_le (by omega) (by omega)
    simp only [fK8_number, h12, if_pos le, NW, if_neg c, hm]
theorem numF_congr {T T' : Nat → Int32} (h : ∀ j, T' j = T j) : ∀ (d j : Nat) (v : Int32), numF T' d j v = numF T d j v := by
  intro d
  induction d with
  | zero => intro j v; simp only [numF]
  | succ d ih => intro j v; rw [numF, numF, h, ih]
theorem NW_congr {I J : FI} {w k : Nat} (h6 : ∀ j, J 6 j = I 6 j) (hRW : ∀ k, k < w → J 13 k = I 13 k ∧ J 14 k = I 14 k) : NW J w k = NW I w k := by
  unfold NW
  by_cases c : k < w
  · rw [if_pos c, if_pos c, (hRW k c).1, (hRW k c).2, numF_congr h6]
  · rw [if_neg c, if_neg c]
theorem numF_bd {T : Nat → Int32} : ∀ (d m j x : Nat), m + d ≤ 7 → x < 10 ^ m → numF T d j (nI x) = -1 ∨ ∃ y, y < 10 ^ (m + d) ∧ numF T d j (nI x) = nI y := by
  intro d
  induction d with
  | zero => intro m j x _ hx; exact Or.inr ⟨x, hx, by simp only [numF]⟩
  | succ d ih =>
    intro m j x hm hx
    rw [numF]
    by_cases c : T j < 48
    · rw [if_pos c]; exact Or.inl rfl
    · rw [if_neg c]
      by_cases c2 : T j ≤ 57
      · rw [if_pos c2]
        have n0 : ¬ T j < 0 := fun y => c (Int32.lt_trans y (by decide))
        obtain ⟨q, hq, eq⟩ := nI_of2 (M := 57) (n := 57) (by decide) n0 c2
        have hq48 : 48 ≤ q := by
          rw [eq] at c
          rcases Nat.lt_or_ge q 48 with y | y
          · exact absurd (nI_lt (a := q) (b := 48) y (by decide)) c
          · exact y
        have hx7 : x < 10 ^ 7 := Nat.lt_of_lt_of_le hx (Nat.pow_le_pow_right (by decide) (by omega))
        have e : nI x * 10 + T j - 48 = nI (x * 10 + (q - 48)) := by
          rw [eq, show (10 : Int32) = nI 10 from rfl, show (48 : Int32) = nI 48 from rfl, pk_mul, nI_add, nI_subE (by omega)]
          congr 1; omega
        rw [e]
        have hy : x * 10 + (q - 48) < 10 ^ (m + 1) := by rw [Nat.pow_succ]; omega
        rcases ih (m + 1) (j + 1) (x * 10 + (q - 48)) (by omega) hy with r | ⟨y, r1, r2⟩
        · exact Or.inl r
        · exact Or.inr ⟨y, by rw [show m + (d + 1) = m + 1 + d by omega]; exact r1, r2⟩
      · rw [if_neg c2]; exact Or.inl rfl
theorem NW_bd {I : FI} {w z k : Nat} (hz : z ≤ 40) (hW : WW I w z) : NW I w k = -1 ∨ ∃ y, y ≤ 9999999 ∧ NW I w k = nI y := by
  unfold NW
  by_cases c : k < w
  · obtain ⟨a, b, hab, hbz, h13, h14⟩ := hW k c
    rw [if_pos c, h13, h14]
    by_cases c2 : nI b - nI a ≤ 7
    · have hd := (dif7 hab (by omega)).mp c2
      have eb : (nI b - nI a).toNatClampNeg = b - a := by rw [nI_subE (by omega)]; exact nI_clamp (by omega)
      rw [if_pos c2, eb]
      rcases numF_bd (T := I 6) (b - a) 0 ((nI a).toNatClampNeg) 0 (by omega) (by decide) with r | ⟨y, r1, r2⟩
      · exact Or.inl r
      · have : 10 ^ (0 + (b - a)) ≤ 10 ^ 7 := Nat.pow_le_pow_right (by decide) (by omega)
        exact Or.inr ⟨y, by omega, r2⟩
    · rw [if_neg c2]; exact Or.inl rfl
  · rw [if_neg c]; exact Or.inl rfl
