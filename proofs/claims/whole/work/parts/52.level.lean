/-! PURE PART 23: level -/
def bt (s : Int32) (a b : Nat) : Bool := if s = 0 then decide (b < a) else decide (a < b)
def ob (b : Option Nat) (s : Int32) (x : Nat) : Bool := match b with
  | none => true
  | some p => bt s p x
def nb (b : Option Nat) (s : Int32) (x : Nat) : Bool := match b with
  | none => true
  | some p => bt s x p
def pr (I : FI) (o : Nat) : Nat := (I 3 o).toNatClampNeg
def gN (I : FI) (s : Int32) (b : Option Nat) (o : Nat) (r : Option Nat) : Option Nat :=
  if I 4 o = 0 then (if I 1 o = s then (if ob b s (pr I o) = true then (if nb r s (pr I o) = true then some (pr I o) else r) else r) else r) else r
def enc (b : Option Nat) : Int32 := match b with
  | none => -1
  | some p => nI p
def bd (b : Option Nat) : Prop := ∀ q, b = some q → q ≤ 9999
def PK (I : FI) (n : Nat) : Prop := ∀ k, k < n → pr I k ≤ 9999 ∧ I 3 k = nI (pr I k)
theorem PK.of {I : FI} {L : FL} {n B T : Nat} (h : Inv I L n B T) : PK I n := by
  intro k hk
  obtain ⟨t, s, q, p, -, -, -, hp, -, -, -, e, -⟩ := h.2.2.1 k hk
  have : pr I k = p := by unfold pr; rw [e]; exact nI_clamp (by omega)
  rw [this]
  exact ⟨hp, e⟩
theorem gN_bd {I : FI} {s : Int32} {b r : Option Nat} {o : Nat} (h : pr I o ≤ 9999) (hr : bd r) : bd (gN I s b o r) := by
  have hs : bd (some (pr I o)) := fun q e => by cases e; exact h
  unfold gN
  split
  · split
    · split
      · split
        · exact hs
        · exact hr
      · exact hr
    · exact hr
  · exact hr
theorem fdN_bd {I : FI} {s : Int32} {b : Option Nat} {n : Nat} (hP : PK I n) : ∀ (d k : Nat) (r : Option Nat), k + d = n → bd r → bd (fd (gN I s b) d k r) := by
  intro d
  induction d with
  | zero => intro k r _ h; exact h
  | succ d ih => intro k r hk h; exact ih (k + 1) _ (by omega) (gN_bd (hP k (by omega)).1 h)
theorem c_bt {I : FI} {L : FL} {s : Int32} {a b : Nat} (hs : s = 0 ∨ s = 1) (ha : a ≤ 9999) (hb : b ≤ 9999) : fK4_isBetter s (nI a) (nI b) I L = some (if bt s a b = true then 1 else 0) := by
  have e1 : (nI b ≤ nI a) ↔ b ≤ a := nI_leI (by omega) (by omega)
  have e2 : (nI a ≤ nI b) ↔ a ≤ b := nI_leI (by omega) (by omega)
  rcases hs with rfl | rfl
  · by_cases c : a ≤ b
    · have c' : ¬ b < a := by omega
      simp [fK4_isBetter, bt, e2, c, c']
    · have c' : b < a := by omega
      simp [fK4_isBetter, bt, e2, c, c']
  · by_cases c : b ≤ a
    · have c' : ¬ a < b := by omega
      simp [fK4_isBetter, bt, e1, c, c']
    · have c' : a < b := by omega
      simp [fK4_isBetter, bt, e1, c, c']
theorem enc_m1 {b : Option Nat} (h : bd b) : (enc b = -1 ↔ b = none) := by
  cases b with
  | none => exact ⟨fun _ => rfl, fun _ => rfl⟩
  | some p => exact ⟨fun e => absurd e (nI_m1 (by have := h p rfl; omega)), fun e => by cases e⟩
theorem enc_neg {b : Option Nat} (h : bd b) : (enc b < 0 ↔ b = none) := by
  cases b with
  | none => exact ⟨fun _ => rfl, fun _ => by decide⟩
  | some p => exact ⟨fun e => absurd e (nI_pos (by have := h p rfl; omega)), fun e => by cases e⟩
/-- the class's next price -/
theorem c_next {I : FI} {L : FL} {n : Nat} (h : I 11 1 = nI n) (hn : n ≤ 40) (hP : PK I n) {s : Int32} (hs : s = 0 ∨ s = 1) {b : Option Nat} (hb : bd b) :
    ∀ (d k f : Nat) (r : Option Nat), bd r → k + d = n → d < f → fK4_nextPrice_5 f s (enc b) (enc r) (nI k) I L = some (enc (fd (gN I s b) d k r)) := by
  intro d
  induction d with
  | zero =>
    intro k f r hr hk hf
    obtain ⟨f, rfl⟩ := fu1 hf
    show bK4_nextPrice_5 _ _ _ _ _ _ _ = _
    simp only [bK4_nextPrice_5, h, lp_out (show n ≤ k by omega) (show k ≤ 40 by omega), if_true, fd]
  | succ d ih =>
    intro k f r hr hk hf
    obtain ⟨f, rfl⟩ := fu1 hf
    obtain ⟨e1, e2, e3, e4⟩ := lp_in (show k < n by omega) hn
    obtain ⟨p1, p2⟩ := hP k (by omega)
    have go : ∀ r', r' = gN I s b k r → fK4_nextPrice_5 f s (enc b) (enc r') (nI k + 1) I L = some (enc (fd (gN I s b) d (k + 1) (gN I s b k r))) := by
      intro r' e
      subst e
      rw [nI_1]
      exact ih (k + 1) f _ (gN_bd p1 hr) (by omega) (by omega)
    show bK4_nextPrice_5 _ _ _ _ _ _ _ = some (enc (fd (gN I s b) d (k + 1) (gN I s b k r)))
    -- in the book?
    have c46 : ∀ u : Int32, (u = if ob b s (pr I k) = true then 1 else 0) → fK4_nextPrice_46 (fK4_nextPrice_5 f) s (enc b) (enc r) (nI k) (nI (pr I k)) u I L = some (enc (fd (gN I s b) d (k + 1) (gN I s b k r))) := by
      intro u hu
      simp only [fK4_nextPrice_46, g40_nI _ e4, fK4_isInBook, fK4_nextPrice_85, fK4_nextPrice_82, nm_eq]
      by_cases a1 : I 4 k = 0
      · by_cases a2 : I 1 k = s
        · simp only [if_pos a1, if_pos a2, bn_eq, i10, if_false]
          by_cases a3 : ob b s (pr I k) = true
          · rw [if_pos a3] at hu
            subst hu
            rw [if_neg i10]
            cases r with
            | none =>
              rw [if_pos (show enc none = -1 from rfl)]
              exact go (some (pr I k)) (by simp only [gN, if_pos a1, if_pos a2, if_pos a3, nb, if_true])
            | some q =>
              rw [if_neg (show ¬ enc (some q) = -1 from fun e => by have := (enc_m1 hr).mp e; cases this), show enc (some q) = nI q from rfl, c_bt hs p1 (hr q rfl)]
              by_cases a4 : bt s (pr I k) q = true
              · simp only [if_pos a4, bn_eq, i10, if_false]
                exact go (some (pr I k)) (by simp only [gN, if_pos a1, if_pos a2, if_pos a3, nb, a4, if_true])
              · simp only [if_neg a4, bn_eq, if_true]
                exact go (some q) (by simp only [gN, if_pos a1, if_pos a2, if_pos a3, nb, a4, if_false]; rfl)
          · rw [if_neg a3] at hu
            subst hu
            rw [if_pos rfl]
            exact go r (by simp only [gN, if_pos a1, if_pos a2, if_neg a3])
        · simp only [if_pos a1, if_neg a2, bn_eq, if_true]
          exact go r (by simp only [gN, if_pos a1, if_neg a2])
      · simp only [if_neg a1, bn_eq, if_true]
        exact go r (by simp only [gN, if_neg a1])
    simp only [bK4_nextPrice_5, h, e3, if_false, g40_nI _ e4, nm_eq, p2]
    cases b with
    | none =>
      rw [if_pos (show enc none = -1 from rfl)]
      exact c46 1 (by simp only [ob, if_true])
    | some q =>
      rw [if_neg (show ¬ enc (some q) = -1 from fun e => by have := (enc_m1 hb).mp e; cases this)]
      have e := c_bt (I := I) (L := L) hs (hb q rfl) p1
      rw [show fK4_isBetter s (enc (some q)) (nI (pr I k)) I L = _ from e]
      by_cases a4 : bt s q (pr I k) = true
      · simp only [if_pos a4, bn_eq, i10, if_false]
        exact c46 1 (by simp only [ob, a4, if_true])
      · simp only [if_neg a4, bn_eq, if_true]
        exact c46 0 (by simp only [ob, a4, if_false]; rfl)
def mr {α : Type} (x : Option Nat) (a : α) (f : Nat → α) : α := match x with
  | none => a
  | some q => f q
/-- the reference's next price -/
theorem r_next {I : FI} {L : FL} {n : Nat} (h : I 11 1 = nI n) (hn : n ≤ 40) (hP : PK I n) {s : Int32} (hs : s = 0 ∨ s = 1) {b : Option Nat} (hb : bd b) (k30 : Int32 → Int32 → Int32 → Int32 → Int32 → FI → FL → Option (Int32)) (kk w j : Int32) :
    ∀ (d k f : Nat) (r : Option Nat), bd r → k + d = n → d < f → fK8_level_42 k30 f s kk w (enc b) j (enc r) (nI k) I L = mr (fd (gN I s b) d k r) (some (-1)) (fun q => k30 s kk w (nI q) (j + 1) I L) := by
  intro d
  induction d with
  | zero =>
    intro k f r hr hk hf
    obtain ⟨f, rfl⟩ := fu1 hf
    show bK8_level_42 _ _ _ _ _ _ _ _ _ _ _ = _
    simp only [bK8_level_42, h, lp_out (show n ≤ k by omega) (show k ≤ 40 by omega), if_true, fd]
    cases r with
    | none => rfl
    | some q =>
      rw [if_pos (show (0 : Int32) ≤ enc (some q) from nI_pos' (by have := hr q rfl; omega))]
      rfl
  | succ d ih =>
    intro k f r hr hk hf
    obtain ⟨f, rfl⟩ := fu1 hf
    obtain ⟨e1, e2, e3, e4⟩ := lp_in (show k < n by omega) hn
    obtain ⟨p1, p2⟩ := hP k (by omega)
    have go : ∀ r', r' = gN I s b k r → fK8_level_42 k30 f s kk w (enc b) j (enc r') (nI k + 1) I L = mr (fd (gN I s b) d (k + 1) (gN I s b k r)) (some (-1)) (fun q => k30 s kk w (nI q) (j + 1) I L) := by
      intro r' e
      subst e
      rw [nI_1]
      exact ih (k + 1) f _ (gN_bd p1 hr) (by omega) (by omega)
    show bK8_level_42 _ _ _ _ _ _ _ _ _ _ _ = mr (fd (gN I s b) d (k + 1) (gN I s b k r)) (some (-1)) (fun q => k30 s kk w (nI q) (j + 1) I L)
    have lt : ∀ q, q ≤ 9999 → (nI (pr I k) < nI q ↔ pr I k < q) := fun q hq => nI_ltI (by omega) (by omega)
    have lt' : ∀ q, q ≤ 9999 → (nI q < nI (pr I k) ↔ q < pr I k) := fun q hq => nI_ltI (by omega) (by omega)
    have le : ∀ q, q ≤ 9999 → (nI (pr I k) ≤ nI q ↔ pr I k ≤ q) := fun q hq => nI_leI (by omega) (by omega)
    have le' : ∀ q, q ≤ 9999 → (nI q ≤ nI (pr I k) ↔ q ≤ pr I k) := fun q hq => nI_leI (by omega) (by omega)
    simp only [bK8_level_42, h, e3, if_false, e1, e2, ck_tt, p2, fK8_level_156, nm_eq]
    by_cases a1 : I 4 k = 0
    · by_cases a2 : I 1 k = s
      · simp only [if_pos a1, if_pos a2]
        have c111 : ob b s (pr I k) = true → fK8_level_111 k30 (fK8_level_42 k30 f) s kk w (enc b) j (enc r) (nI k) I L = mr (fd (gN I s b) d (k + 1) (gN I s b k r)) (some (-1)) (fun q => k30 s kk w (nI q) (j + 1) I L) := by
          intro a3
          simp only [fK8_level_111, fK8_level_147, fK8_level_156, e1, e2, ck_tt, p2, nm_eq]
          cases r with
          | none =>
            rw [if_pos (show enc none < 0 by decide)]
            exact go (some (pr I k)) (by simp only [gN, if_pos a1, if_pos a2, if_pos a3, nb, if_true])
          | some q =>
            have hq := hr q rfl
            rw [if_neg (show ¬ enc (some q) < 0 from nI_pos (by omega)), show enc (some q) = nI q from rfl]
            have yes : bt s (pr I k) q = true → fK8_level_42 k30 f s kk w (enc b) j (nI (pr I k)) (nI k + 1) I L = mr (fd (gN I s b) d (k + 1) (gN I s b k (some q))) (some (-1)) (fun q => k30 s kk w (nI q) (j + 1) I L) :=
              fun a4 => go (some (pr I k)) (by simp only [gN, if_pos a1, if_pos a2, if_pos a3, nb, a4, if_true])
            have no : ¬ bt s (pr I k) q = true → fK8_level_42 k30 f s kk w (enc b) j (nI q) (nI k + 1) I L = mr (fd (gN I s b) d (k + 1) (gN I s b k (some q))) (some (-1)) (fun q => k30 s kk w (nI q) (j + 1) I L) :=
              fun a4 => go (some q) (by simp only [gN, if_pos a1, if_pos a2, if_pos a3, nb, a4, if_false]; rfl)
            rcases hs with rfl | rfl
            · rw [if_pos rfl]
              by_cases c : pr I k ≤ q
              · rw [if_pos ((le q hq).mpr c)]; exact no (by simp [bt]; omega)
              · rw [if_neg (fun y => c ((le q hq).mp y))]; exact yes (by simp [bt]; omega)
            · rw [if_neg i10]
              by_cases c : q ≤ pr I k
              · rw [if_pos ((le' q hq).mpr c)]; exact no (by simp [bt]; omega)
              · rw [if_neg (fun y => c ((le' q hq).mp y))]; exact yes (by simp [bt]; omega)
        have no3 : ¬ ob b s (pr I k) = true → fK8_level_42 k30 f s kk w (enc b) j (enc r) (nI k + 1) I L = mr (fd (gN I s b) d (k + 1) (gN I s b k r)) (some (-1)) (fun q => k30 s kk w (nI q) (j + 1) I L) :=
          fun a3 => go r (by simp only [gN, if_pos a1, if_pos a2, if_neg a3])
        cases b with
        | none =>
          rw [if_pos (show enc none < 0 by decide)]
          exact c111 rfl
        | some q =>
          have hq := hb q rfl
          rw [if_neg (show ¬ enc (some q) < 0 from nI_pos (by omega))]
          have lt1 : nI (pr I k) < enc (some q) ↔ pr I k < q := lt q hq
          have lt2 : enc (some q) < nI (pr I k) ↔ q < pr I k := lt' q hq
          rcases hs with rfl | rfl
          · rw [if_pos rfl]
            by_cases c : pr I k < q
            · rw [if_pos (lt1.mpr c)]; exact c111 (by simp [ob, bt]; omega)
            · rw [if_neg (fun y => c (lt1.mp y))]; exact no3 (by simp [ob, bt]; omega)
          · rw [if_neg i10]
            by_cases c : q < pr I k
            · rw [if_pos (lt2.mpr c)]; exact c111 (by simp [ob, bt]; omega)
            · rw [if_neg (fun y => c (lt2.mp y))]; exact no3 (by simp [ob, bt]; omega)
      · simp only [if_pos a1, if_neg a2]
        exact go r (by simp only [gN, if_pos a1, if_neg a2])
    · simp only [if_neg a1]
      exact go r (by simp only [gN, if_neg a1])
def nxt (I : FI) (s : Int32) (n : Nat) (b : Option Nat) : Option Nat := fd (gN I s b) n 0 none
def itp (I : FI) (s : Int32) (n : Nat) : Nat → Option Nat
  | 0 => nxt I s n none
  | j + 1 => mr (itp I s n j) none (fun q => nxt I s n (some q))
/-- how many are behind -/
def cnt (I : FI) (s : Int32) (b : Option Nat) : Nat → Nat
  | 0 => 0
  | k + 1 => cnt I s b k + (if I 4 k = 0 ∧ I 1 k = s ∧ ob b s (pr I k) = true then 1 else 0)
theorem cnt_le {I : FI} {s : Int32} {b : Option Nat} : ∀ k, cnt I s b k ≤ k
  | 0 => Nat.le_refl _
  | k + 1 => by
    have := cnt_le (I := I) (s := s) (b := b) k
    simp only [cnt]; split <;> omega
theorem bt_tr {s : Int32} {a b c : Nat} (h1 : bt s a b = true) (h2 : bt s b c = true) : bt s a c = true := by
  unfold bt at *
  split at h1
  · rename_i e
    simp only [e, if_true, decide_eq_true_eq] at *
    omega
  · rename_i e
    simp only [e, if_false, decide_eq_true_eq] at *
    omega
theorem bt_no {s : Int32} {a : Nat} : ¬ bt s a a = true := by
  unfold bt
  split <;> simp
theorem ob_tr {s : Int32} {b : Option Nat} {p c : Nat} (h1 : ob b s p = true) (h2 : bt s p c = true) : ob b s c = true := by
  cases b with
  | none => rfl
  | some q => exact bt_tr h1 h2
theorem nxt_in {I : FI} {s : Int32} {b : Option Nat} : ∀ (d k : Nat) (r : Option Nat) (q : Nat), fd (gN I s b) d k r = some q → r = some q ∨ ∃ o, o < k + d ∧ I 4 o = 0 ∧ I 1 o = s ∧ ob b s (pr I o) = true ∧ pr I o = q := by
  intro d
  induction d with
  | zero => intro k r q h; exact Or.inl h
  | succ d ih =>
    intro k r q h
    rcases ih (k + 1) _ q h with h1 | ⟨o, h1, h2⟩
    · unfold gN at h1
      by_cases a1 : I 4 k = 0
      · by_cases a2 : I 1 k = s
        · by_cases a3 : ob b s (pr I k) = true
          · by_cases a4 : nb r s (pr I k) = true
            · simp only [if_pos a1, if_pos a2, if_pos a3, if_pos a4] at h1
              cases h1
              exact Or.inr ⟨k, by omega, a1, a2, a3, rfl⟩
            · simp only [if_pos a1, if_pos a2, if_pos a3, if_neg a4] at h1
              exact Or.inl h1
          · simp only [if_pos a1, if_pos a2, if_neg a3] at h1
            exact Or.inl h1
        · simp only [if_pos a1, if_neg a2] at h1
          exact Or.inl h1
      · simp only [if_neg a1] at h1
        exact Or.inl h1
    · exact Or.inr ⟨o, by omega, h2⟩
theorem cnt_mono {I : FI} {s : Int32} {b : Option Nat} {p : Nat} (h : ob b s p = true) : ∀ k, cnt I s (some p) k ≤ cnt I s b k
  | 0 => Nat.le_refl _
  | k + 1 => by
    have ih := cnt_mono (I := I) h k
    simp only [cnt]
    by_cases c : I 4 k = 0 ∧ I 1 k = s ∧ ob (some p) s (pr I k) = true
    · have c' : I 4 k = 0 ∧ I 1 k = s ∧ ob b s (pr I k) = true := ⟨c.1, c.2.1, ob_tr h c.2.2⟩
      rw [if_pos c, if_pos c']; omega
    · rw [if_neg c]; omega
theorem cnt_lt {I : FI} {s : Int32} {b : Option Nat} {o : Nat} (h4 : I 4 o = 0) (h1 : I 1 o = s) (h : ob b s (pr I o) = true) : ∀ k, o < k → cnt I s (some (pr I o)) k < cnt I s b k := by
  intro k
  induction k with
  | zero => intro h; omega
  | succ k ih =>
    intro hk
    simp only [cnt]
    by_cases e : o = k
    · subst e
      have := cnt_mono (I := I) h o
      have c' : I 4 o = 0 ∧ I 1 o = s ∧ ob b s (pr I o) = true := ⟨h4, h1, h⟩
      have c : ¬ (I 4 o = 0 ∧ I 1 o = s ∧ ob (some (pr I o)) s (pr I o) = true) := fun y => bt_no y.2.2
      rw [if_pos c', if_neg c]; omega
    · have := ih (by omega)
      by_cases c : I 4 k = 0 ∧ I 1 k = s ∧ ob (some (pr I o)) s (pr I k) = true
      · have c' : I 4 k = 0 ∧ I 1 k = s ∧ ob b s (pr I k) = true := ⟨c.1, c.2.1, ob_tr h c.2.2⟩
        rw [if_pos c, if_pos c']; omega
      · rw [if_neg c]; omega
theorem nxt_lt {I : FI} {s : Int32} {n : Nat} {b : Option Nat} {q : Nat} (h : nxt I s n b = some q) : cnt I s (some q) n < cnt I s b n := by
  rcases nxt_in n 0 none q h with h1 | ⟨o, h1, h2, h3, h4, rfl⟩
  · cases h1
  · exact cnt_lt h2 h3 h4 n (by omega)
theorem itp_cnt {I : FI} {s : Int32} {n : Nat} : ∀ (j q : Nat), itp I s n j = some q → cnt I s (some q) n + j + 1 ≤ n := by
  intro j
  induction j with
  | zero =>
    intro q h
    have := nxt_lt h
    have := cnt_le (I := I) (s := s) (b := none) n
    omega
  | succ j ih =>
    intro q h
    simp only [itp] at h
    cases e : itp I s n j with
    | none => rw [e] at h; cases h
    | some p =>
      rw [e] at h
      have := ih p e
      have := nxt_lt (b := some p) h
      omega
theorem itp_none {I : FI} {s : Int32} {n : Nat} : ∀ (d j : Nat), itp I s n j = none → itp I s n (j + d) = none := by
  intro d
  induction d with
  | zero => intro j h; exact h
  | succ d ih =>
    intro j h
    show mr (itp I s n (j + d)) none _ = none
    rw [ih j h]; rfl
theorem itp_bd {I : FI} {s : Int32} {n : Nat} (hP : PK I n) (j : Nat) : bd (itp I s n j) := by
  have b0 : bd none := fun q e => by cases e
  cases j with
  | zero => exact fdN_bd hP n 0 none (by omega) b0
  | succ j =>
    simp only [itp]
    cases itp I s n j with
    | none => exact b0
    | some p => exact fdN_bd hP n 0 none (by omega) b0
theorem bd0 : bd none := fun q e => by cases e
theorem c_nextP {I : FI} {L : FL} {n : Nat} (h : I 11 1 = nI n) (hn : n ≤ 40) (hP : PK I n) {s : Int32} (hs : s = 0 ∨ s = 1) {b : Option Nat} (hb : bd b) : fK4_nextPrice s (enc b) I L = some (enc (nxt I s n b)) :=
  c_next h hn hP hs hb n 0 FU none bd0 (by omega) (by simp only [FU]; omega)
/-- the class's price at a level -/
theorem c_at {I : FI} {L : FL} {n : Nat} (h : I 11 1 = nI n) (hn : n ≤ 40) (hP : PK I n) {s : Int32} (hs : s = 0 ∨ s = 1) {k : Nat} (hk : k < 40) :
    ∀ (d j f : Nat), j + d = k → d < f → fK4_priceAt_22 f s (nI k) (enc (itp I s n j)) (nI j) I L = some (enc (itp I s n k)) := by
  intro d
  induction d with
  | zero =>
    intro j f hj hf
    obtain ⟨f, rfl⟩ := fu1 hf
    have : j = k := by omega
    subst this
    show bK4_priceAt_22 _ _ _ _ _ _ _ = _
    simp only [bK4_priceAt_22, if_pos (nI_le (Nat.le_refl j) (by omega))]
  | succ d ih =>
    intro j f hj hf
    obtain ⟨f, rfl⟩ := fu1 hf
    show bK4_priceAt_22 _ _ _ _ _ _ _ = _
    simp only [bK4_priceAt_22, if_neg (nI_ge (show j < k by omega) (by omega))]
    cases e : itp I s n j with
    | none =>
      rw [if_pos (show enc none = -1 from rfl)]
      have := itp_none (k - j) j e
      rw [show j + (k - j) = k by omega] at this
      rw [this]
    | some q =>
      have hq := itp_bd (s := s) hP j q e
      rw [if_neg (show ¬ enc (some q) = -1 from nI_m1 (by omega)), c_nextP h hn hP hs (b := some q) (fun x y => by cases y; exact hq)]
      simp only [bn_eq, nm_eq, nI_1]
      have := ih (j + 1) f (by omega) (by omega)
      rw [show itp I s n (j + 1) = nxt I s n (some q) by simp only [itp, e, mr]] at this
      exact this
theorem c_priceAt {I : FI} {L : FL} {n : Nat} (h : I 11 1 = nI n) (hn : n ≤ 40) (hP : PK I n) {s : Int32} (hs : s = 0 ∨ s = 1) {k : Nat} (hk : k < 2 ^ 31) : fK4_priceAt s (nI k) I L = some (enc (itp I s n k)) := by
  by_cases c : k < 40
  · have c4 : nI k < 40 := nI_lt (b := 40) c (by decide)
    simp only [fK4_priceAt, if_neg (nI_pos hk), if_pos c4, c_nextP h hn hP hs (b := none) bd0, show (-1 : Int32) = enc none from rfl, bn_eq]
    exact c_at h hn hP hs c k 0 FU (by omega) (by simp only [FU]; omega)
  · have c4 : ¬ nI k < 40 := nI_nlt (b := 40) (show 40 ≤ k by omega) hk
    simp only [fK4_priceAt, if_neg (nI_pos hk), if_neg c4]
    have : itp I s n k = none := by
      cases e : itp I s n k with
      | none => rfl
      | some q => have := itp_cnt k q e; omega
    rw [this]; rfl
/-- the reference's way to a level -/
theorem r_at {I : FI} {L : FL} {n : Nat} (h : I 11 1 = nI n) (hn : n ≤ 40) (hP : PK I n) {s : Int32} (hs : s = 0 ∨ s = 1) {k : Nat} (hk : k < 2 ^ 31) (w : Int32) :
    ∀ (d j f : Nat) (p : Option Nat), ((j = 0 ∧ p = none) ∨ ∃ i q, j = i + 1 ∧ itp I s n i = some q ∧ p = some q) → j ≤ k + 1 → j + d = 41 → d < f →
      fK8_level_30 f s (nI k) w (enc p) (nI j) I L = mr (itp I s n k) (some (-1)) (fun q => fK8_level_188 FU s w (nI q) 0 0 0 I L) := by
  intro d
  induction d with
  | zero =>
    intro j f p hp hj hd hf
    rcases hp with ⟨h1, -⟩ | ⟨i, q, h1, h2, -⟩
    · omega
    · have := itp_cnt i q h2; omega
  | succ d ih =>
    intro j f p hp hj hd hf
    obtain ⟨f, rfl⟩ := fu1 hf
    have hpb : bd p := by
      rcases hp with ⟨-, rfl⟩ | ⟨i, q, -, h2, rfl⟩
      · exact bd0
      · rw [← h2]; exact itp_bd hP i
    have hnx : (j = 0 ∧ p = none ∨ ∃ i q, j = i + 1 ∧ itp I s n i = some q ∧ p = some q) → nxt I s n p = itp I s n j := by
      rintro (⟨rfl, rfl⟩ | ⟨i, q, rfl, h2, rfl⟩)
      · rfl
      · simp only [itp, h2, mr]
    have hnx := hnx hp
    show bK8_level_30 _ _ _ _ _ _ _ _ = _
    by_cases c : k < j
    · have : j = k + 1 := by omega
      subst this
      rcases hp with ⟨h1, -⟩ | ⟨i, q, h1, h2, rfl⟩
      · omega
      · have : i = k := by omega
        subst this
        simp only [bK8_level_30, if_pos (nI_lt (show i < i + 1 by omega) (show i + 1 < 2 ^ 31 by omega)), h2, mr]
        rfl
    · simp only [bK8_level_30, if_neg (nI_nlt (show j ≤ k by omega) hk)]
      have := r_next (L := L) h hn hP hs hpb (fK8_level_30 f) (nI k) w (nI j) n 0 FU none bd0 (by omega) (by simp only [FU]; omega)
      refine Eq.trans this ?_
      rw [show fd (gN I s p) n 0 none = itp I s n j from hnx]
      cases e : itp I s n j with
      | none =>
        have e2 := itp_none (k - j) j e
        rw [show j + (k - j) = k by omega] at e2
        rw [e2]; rfl
      | some q =>
        show fK8_level_30 f s (nI k) w (nI q) (nI j + 1) I L = _
        rw [nI_1]
        exact ih (j + 1) f (some q) (Or.inr ⟨j, q, rfl, e, rfl⟩) (by omega) (by omega) (by omega)
def gSu (I : FI) (s p : Int32) : Nat → Int32 → Int32 := fun o a => if I 4 o = 0 then (if I 1 o = s then (if I 3 o = p then a + I 2 o else a) else a) else a
def gCo (I : FI) (s p : Int32) : Nat → Int32 → Int32 := fun o a => if I 4 o = 0 then (if I 1 o = s then (if I 3 o = p then a + 1 else a) else a) else a
theorem c_left {I : FI} {L : FL} {n : Nat} (h : I 11 1 = nI n) (hn : n ≤ 40) (s p : Int32) : ∀ (d k f : Nat) (a : Int32), k + d = n → d < f → fK4_leftAt_5 f s p a (nI k) I L = some (fd (gSu I s p) d k a) := by
  intro d
  induction d with
  | zero =>
    intro k f a hk hf
    obtain ⟨f, rfl⟩ := fu1 hf
    show bK4_leftAt_5 _ _ _ _ _ _ _ = _
    simp only [bK4_leftAt_5, h, lp_out (show n ≤ k by omega) (show k ≤ 40 by omega), if_true, fd]
  | succ d ih =>
    intro k f a hk hf
    obtain ⟨f, rfl⟩ := fu1 hf
    obtain ⟨e1, e2, e3, e4⟩ := lp_in (show k < n by omega) hn
    show bK4_leftAt_5 _ _ _ _ _ _ _ = some (fd (gSu I s p) d (k + 1) (gSu I s p k a))
    simp only [bK4_leftAt_5, h, e3, if_false, g40_nI _ e4, fK4_isInBook, nm_eq, fK4_leftAt_55, nI_1, gSu]
    by_cases c : I 4 k = 0
    · by_cases c2 : I 1 k = s
      · by_cases c3 : I 3 k = p
        · simp only [if_pos c, if_pos c2, if_pos c3, bn_eq, i10, if_false]; exact ih (k + 1) f _ (by omega) (by omega)
        · simp only [if_pos c, if_pos c2, if_neg c3, bn_eq, i10, if_false]; exact ih (k + 1) f _ (by omega) (by omega)
      · simp only [if_pos c, if_neg c2, bn_eq, if_true]; exact ih (k + 1) f _ (by omega) (by omega)
    · simp only [if_neg c, bn_eq, if_true]; exact ih (k + 1) f _ (by omega) (by omega)
theorem c_ords {I : FI} {L : FL} {n : Nat} (h : I 11 1 = nI n) (hn : n ≤ 40) (s p : Int32) : ∀ (d k f : Nat) (a : Int32), k + d = n → d < f → fK4_ordersAt_5 f s p a (nI k) I L = some (fd (gCo I s p) d k a) := by
  intro d
  induction d with
  | zero =>
    intro k f a hk hf
    obtain ⟨f, rfl⟩ := fu1 hf
    show bK4_ordersAt_5 _ _ _ _ _ _ _ = _
    simp only [bK4_ordersAt_5, h, lp_out (show n ≤ k by omega) (show k ≤ 40 by omega), if_true, fd]
  | succ d ih =>
    intro k f a hk hf
    obtain ⟨f, rfl⟩ := fu1 hf
    obtain ⟨e1, e2, e3, e4⟩ := lp_in (show k < n by omega) hn
    show bK4_ordersAt_5 _ _ _ _ _ _ _ = some (fd (gCo I s p) d (k + 1) (gCo I s p k a))
    simp only [bK4_ordersAt_5, h, e3, if_false, g40_nI _ e4, fK4_isInBook, nm_eq, fK4_ordersAt_45, nI_1, gCo]
    by_cases c : I 4 k = 0
    · by_cases c2 : I 1 k = s
      · by_cases c3 : I 3 k = p
        · simp only [if_pos c, if_pos c2, if_pos c3, bn_eq, i10, if_false]; exact ih (k + 1) f _ (by omega) (by omega)
        · simp only [if_pos c, if_pos c2, if_neg c3, bn_eq, i10, if_false]; exact ih (k + 1) f _ (by omega) (by omega)
      · simp only [if_pos c, if_neg c2, bn_eq, if_true]; exact ih (k + 1) f _ (by omega) (by omega)
    · simp only [if_neg c, bn_eq, if_true]; exact ih (k + 1) f _ (by omega) (by omega)
theorem r_sums {I : FI} {L : FL} {n : Nat} (h : I 11 1 = nI n) (hn : n ≤ 40) (s w p : Int32) : ∀ (d k f : Nat) (a b : Int32), k + d = n → d < f → fK8_level_188 f s w p a b (nI k) I L = (if w = 0 then some p else (if w = 1 then some (fd (gSu I s p) d k a) else some (fd (gCo I s p) d k b))) := by
  intro d
  induction d with
  | zero =>
    intro k f a b hk hf
    obtain ⟨f, rfl⟩ := fu1 hf
    show bK8_level_188 _ _ _ _ _ _ _ _ _ = _
    simp only [bK8_level_188, h, lp_out (show n ≤ k by omega) (show k ≤ 40 by omega), if_true, fd]
  | succ d ih =>
    intro k f a b hk hf
    obtain ⟨f, rfl⟩ := fu1 hf
    obtain ⟨e1, e2, e3, e4⟩ := lp_in (show k < n by omega) hn
    show bK8_level_188 _ _ _ _ _ _ _ _ _ = (if w = 0 then some p else (if w = 1 then some (fd (gSu I s p) d (k + 1) (gSu I s p k a)) else some (fd (gCo I s p) d (k + 1) (gCo I s p k b))))
    rw [← ih (k + 1) f _ _ (by omega) (by omega)]
    simp only [bK8_level_188, h, e3, if_false, e1, e2, ck_tt, nm_eq, fK8_level_248, nI_1]
    by_cases c : I 4 k = 0
    · by_cases c2 : I 1 k = s
      · by_cases c3 : I 3 k = p
        · simp only [gSu, gCo, if_pos c, if_pos c2, if_pos c3]
        · simp only [gSu, gCo, if_pos c, if_pos c2, if_neg c3]
      · simp only [gSu, gCo, if_pos c, if_neg c2]
    · simp only [gSu, gCo, if_neg c]
theorem PK.rel {I J : FI} {n : Nat} (h : PK I n) (hR : Rr I J) : PK J n := by
  intro k hk
  have e : J 3 k = I 3 k := hR.at (by omega)
  have := h k hk
  unfold pr at this ⊢
  rw [e]
  exact this
theorem itp_rel {I J : FI} {s : Int32} {n : Nat} (hR : Rr I J) : ∀ k, itp J s n k = itp I s n k := by
  have one : ∀ b, nxt J s n b = nxt I s n b := fun b => fd_congr n 0 none (fun o r _ _ => by
    have e1 : J 1 o = I 1 o := hR.at (by omega)
    have e3 : J 3 o = I 3 o := hR.at (by omega)
    have e4 : J 4 o = I 4 o := hR.at (by omega)
    simp only [gN, pr, e1, e3, e4]; rfl)
  intro k
  induction k with
  | zero => exact one none
  | succ k ih => simp only [itp, ih, one]
theorem level_rel {I J : FI} {L K : FL} {n B T : Nat} (a b c : Int32) (hI : Inv I L n B T) (hR : Rr I J) : ∃ r, fK7_level a b c I L = some r ∧ fK8_level a b c J K = some r := by
  have h40 := hI.2.1
  have hnJ : J 11 1 = nI n := by rw [hR.at (by omega)]; exact hI.1
  have hP := PK.of hI
  have hPJ := hP.rel hR
  have id1 : ∀ x : Option Int32, bn x (fun r => some r) = x := fun x => by cases x <;> rfl
  have main : (a = 0 ∨ a = 1) → ∃ r, fK7_level_11 a b c I L = some r ∧ (if b < 0 then some (-1) else (if c < 0 then some (-1) else (if c ≤ 2 then fK8_level_30 FU a b c (-1) 0 J K else some (-1)))) = some r := by
    intro ha
    by_cases cb : b < 0
    · exact ⟨-1, by simp only [fK7_level_11, fK4_priceAt, if_pos cb, bn_eq, if_true], by rw [if_pos cb]⟩
    · obtain ⟨k, hk, rfl⟩ := nI_of cb
      have cp := c_priceAt (L := L) hI.1 h40 hP ha hk
      have rp := r_at (L := K) hnJ h40 hPJ ha hk c 41 0 FU none (Or.inl ⟨rfl, rfl⟩) (by omega) (by omega) (by simp only [FU]; omega)
      have rp' : fK8_level_30 FU a (nI k) c (-1) 0 J K = _ := rp
      rw [itp_rel hR] at rp'
      rw [if_neg cb, rp']
      simp only [fK7_level_11, cp, bn_eq, id1]
      cases e : itp I a n k with
      | none =>
        refine ⟨-1, by rw [if_pos (show enc none = -1 from rfl)], ?_⟩
        simp only [mr, ite_self]
      | some q =>
        have hq := itp_bd (s := a) hP k q e
        rw [if_neg (show ¬ enc (some q) = -1 from nI_m1 (by omega))]
        have es : fd (gSu J a (nI q)) n 0 0 = fd (gSu I a (nI q)) n 0 0 := fd_congr n 0 0 (fun o x _ ho => by
          have e1 : J 1 o = I 1 o := hR.at (by omega)
          have e2 : J 2 o = I 2 o := hR.at (by omega)
          have e3 : J 3 o = I 3 o := hR.at (by omega)
          have e4 : J 4 o = I 4 o := hR.at (by omega)
          simp only [gSu, e1, e2, e3, e4])
        have ec : fd (gCo J a (nI q)) n 0 0 = fd (gCo I a (nI q)) n 0 0 := fd_congr n 0 0 (fun o x _ ho => by
          have e1 : J 1 o = I 1 o := hR.at (by omega)
          have e3 : J 3 o = I 3 o := hR.at (by omega)
          have e4 : J 4 o = I 4 o := hR.at (by omega)
          simp only [gCo, e1, e3, e4])
        have rs : fK8_level_188 FU a c (nI q) 0 0 0 J K = _ := r_sums (L := K) hnJ h40 a c (nI q) n 0 FU 0 0 (by omega) (by simp only [FU]; omega)
        have cl : fK4_leftAt a (enc (some q)) I L = _ := c_left (L := L) hI.1 h40 a (nI q) n 0 FU 0 (by omega) (by simp only [FU]; omega)
        have co : fK4_ordersAt a (enc (some q)) I L = _ := c_ords (L := L) hI.1 h40 a (nI q) n 0 FU 0 (by omega) (by simp only [FU]; omega)
        rw [es, ec] at rs
        rw [cl, co]
        simp only [mr]
        rw [rs]
        generalize fd (gSu I a (nI q)) n 0 0 = A
        generalize fd (gCo I a (nI q)) n 0 0 = D
        rcases ask_n (x := c) (m := 2) (by decide) with h | ⟨h, h'⟩ | ⟨j, hj, rfl⟩
        · have q0 : ¬ c = 0 := neg_ne h 0 (by decide)
          have q1 : ¬ c = 1 := neg_ne h 1 (by decide)
          have q2 : ¬ c = 2 := neg_ne h 2 (by decide)
          exact ⟨-1, by simp only [if_neg q0, if_neg q1, if_neg q2], if_pos h⟩
        · have q0 : ¬ c = 0 := big_ne h' 0 (by omega) (by decide)
          have q1 : ¬ c = 1 := big_ne h' 1 (by omega) (by decide)
          have q2 : ¬ c = 2 := big_ne h' 2 (by omega) (by decide)
          have h'' : ¬ c ≤ 2 := h'
          exact ⟨-1, by simp only [if_neg q0, if_neg q1, if_neg q2], by rw [if_neg h, if_neg h'']⟩
        · rcases (show j = 0 ∨ j = 1 ∨ j = 2 by omega) with rfl | rfl | rfl
          · exact ⟨nI q, rfl, rfl⟩
          · exact ⟨A, rfl, rfl⟩
          · exact ⟨D, rfl, rfl⟩
  rcases ask_n (x := a) (m := 1) (by decide) with h | ⟨h, h'⟩ | ⟨j, hj, rfl⟩
  · have q0 : ¬ a = 0 := neg_ne h 0 (by decide)
    have q1 : ¬ a = 1 := neg_ne h 1 (by decide)
    exact ⟨-1, by simp only [fK7_level, if_neg q0, if_neg q1], by simp only [fK8_level, if_pos h]⟩
  · have q0 : ¬ a = 0 := big_ne h' 0 (by omega) (by decide)
    have q1 : ¬ a = 1 := big_ne h' 1 (by omega) (by decide)
    have h'' : (1 : Int32) < a := Int32.not_le.mp h'
    exact ⟨-1, by simp only [fK7_level, if_neg q0, if_neg q1], by simp only [fK8_level, if_neg h, if_pos h'']⟩
  · rcases (show j = 0 ∨ j = 1 by omega) with rfl | rfl
    · obtain ⟨r, h1, h2⟩ := main (Or.inl rfl)
      refine ⟨r, ?_, ?_⟩
      · rw [← h1]; simp only [fK7_level, show nI 0 = 0 from rfl, if_true]
      · rw [← h2]; simp only [fK8_level, show nI 0 = 0 from rfl, show ¬ (0 : Int32) < 0 by decide, show ¬ (1 : Int32) < 0 by decide, if_false]
    · obtain ⟨r, h1, h2⟩ := main (Or.inr rfl)
      refine ⟨r, ?_, ?_⟩
      · rw [← h1]; simp only [fK7_level, show nI 1 = 1 from rfl, i10, if_true, if_false]
      · rw [← h2]; simp only [fK8_level, show nI 1 = 1 from rfl, show ¬ (1 : Int32) < 0 by decide, show ¬ (1 : Int32) < 1 by decide, if_false]
