/-! PURE PART 1: the counting loops of both sides as folds -/
def fd {α : Type} (g : Nat → α → α) : Nat → Nat → α → α
  | 0, _, a => a
  | d + 1, k, a => fd g d (k + 1) (g k a)
theorem ck_tt {α : Type} {x : Option α} : ck true x = x := rfl
theorem nm_eq {α β : Type} {x : α} {f : α → β} : nm x f = f x := rfl
theorem bn_eq {α β : Type} {a : α} {f : α → Option β} : bn (some a) f = f a := rfl
theorem bq_eq {α β : Type} {a : α} {I : FI} {L : FL} {f : α → FI → FL → Option β} : bq (some (a, I, L)) f = f a I L := rfl
theorem bv_eq {β : Type} {I : FI} {L : FL} {f : FI → FL → Option β} : bv (some (I, L)) f = f I L := rfl
theorem mo_none {β : Type} {a : Option β} {f : Fin 40 → Option β} : mo none a f = a := rfl
theorem mo_some {β : Type} {a : Option β} {f : Fin 40 → Option β} {x : Fin 40} : mo (some x) a f = f x := rfl
theorem fd_congr {α : Type} {g g' : Nat → α → α} : ∀ (d k : Nat) (a : α), (∀ o a, k ≤ o → o < k + d → g o a = g' o a) → fd g d k a = fd g' d k a := by
  intro d
  induction d with
  | zero => intro k a _; rfl
  | succ d ih =>
    intro k a h
    show fd g d (k + 1) (g k a) = fd g' d (k + 1) (g' k a)
    rw [h k a (Nat.le_refl _) (by omega)]
    exact ih (k + 1) _ (fun o a h1 h2 => h o a (by omega) (by omega))
theorem fd_rel {α β : Type} {g : Nat → α → α} {g' : Nat → β → β} (R : Nat → α → β → Prop) : ∀ (d k : Nat) (a : α) (b : β), R k a b → (∀ o a b, k ≤ o → o < k + d → R o a b → R (o + 1) (g o a) (g' o b)) → R (k + d) (fd g d k a) (fd g' d k b) := by
  intro d
  induction d with
  | zero => intro k a b h _; exact h
  | succ d ih =>
    intro k a b h hs
    have h1 := ih (k + 1) (g k a) (g' k b) (hs k a b (Nat.le_refl _) (by omega) h) (fun o a b h1 h2 h3 => hs o a b (by omega) (by omega) h3)
    rw [show k + (d + 1) = k + 1 + d by omega]
    exact h1
/-- what a loop over the orders meets at k -/
theorem lp_in {n k : Nat} (hk : k < n) (hn : n ≤ 40) : inb (nI k) 40 = true ∧ (nI k).toNatClampNeg = k ∧ (nI n ≤ nI k ↔ False) ∧ k < 40 :=
  ⟨inb_nI (by omega) (by decide), nI_clamp (by omega), iff_false_intro (nI_ge hk (by omega)), by omega⟩
theorem lp_out {n k : Nat} (hk : n ≤ k) (hn : k ≤ 40) : (nI n ≤ nI k ↔ True) := iff_true_intro (nI_le hk (by omega))
theorem fu1 {f d : Nat} (h : d < f) : ∃ g, f = g + 1 := ⟨f - 1, by omega⟩
def gSl (I : FI) : Nat → Int32 → Int32 := fun o a => if I 4 o = 1 then a + 1 else a
theorem c_sleep {I : FI} {L : FL} {n : Nat} (h : I 11 1 = nI n) (hn : n ≤ 40) : ∀ (d k f : Nat) (a : Int32), k + d = n → d < f → fK4_sleepingStops_4 f a (nI k) I L = some (fd (gSl I) d k a) := by
  intro d
  induction d with
  | zero =>
    intro k f a hk hf
    obtain ⟨f, rfl⟩ := fu1 hf
    show bK4_sleepingStops_4 _ _ _ _ _ = _
    simp only [bK4_sleepingStops_4, h, lp_out (show n ≤ k by omega) (show k ≤ 40 by omega), if_true, fd]
  | succ d ih =>
    intro k f a hk hf
    obtain ⟨f, rfl⟩ := fu1 hf
    obtain ⟨e1, e2, e3, e4⟩ := lp_in (show k < n by omega) hn
    show bK4_sleepingStops_4 _ _ _ _ _ = some (fd (gSl I) d (k + 1) (gSl I k a))
    simp only [bK4_sleepingStops_4, h, e3, if_false, g40_nI _ e4, nm_eq, fK4_sleepingStops_28, nI_1, gSl]
    by_cases c : I 4 k = 1
    · simp only [if_pos c]; exact ih (k + 1) f _ (by omega) (by omega)
    · simp only [if_neg c]; exact ih (k + 1) f _ (by omega) (by omega)
theorem r_count {I : FI} {L : FL} {n : Nat} (h : I 11 1 = nI n) (hn : n ≤ 40) (w : Int32) : ∀ (d k f : Nat) (a : Int32), k + d = n → d < f → fK8_count_16 f w a (nI k) I L = (if w = 0 then some (I 11 1) else (if w = 1 then some (I 11 2) else (if w = 2 then some (I 11 3) else (if w = 3 then some (I 11 4) else (if w = 4 then some (I 11 5) else (if w = 5 then some (I 11 0) else some (fd (gSl I) d k a))))))) := by
  intro d
  induction d with
  | zero =>
    intro k f a hk hf
    obtain ⟨f, rfl⟩ := fu1 hf
    show bK8_count_16 _ _ _ _ _ _ = _
    simp only [bK8_count_16, h, lp_out (show n ≤ k by omega) (show k ≤ 40 by omega), if_true, fd]
  | succ d ih =>
    intro k f a hk hf
    obtain ⟨f, rfl⟩ := fu1 hf
    obtain ⟨e1, e2, e3, e4⟩ := lp_in (show k < n by omega) hn
    show bK8_count_16 (fK8_count_16 f) w a (nI k) I L = _
    rw [show fd (gSl I) (d + 1) k a = fd (gSl I) d (k + 1) (gSl I k a) from rfl]
    simp only [bK8_count_16, e1, e2, ck_tt, nm_eq, fK8_count_37, nI_1, gSl]
    rw [if_neg (by rw [h]; exact e3.mp)]
    by_cases c : I 4 k = 1
    · simp only [if_pos c]; exact ih (k + 1) f _ (by omega) (by omega)
    · simp only [if_neg c]; exact ih (k + 1) f _ (by omega) (by omega)
/-- OPEN orders and STOPS of a trader -/
def gWt (I : FI) (t : Int32) : Nat → Int32 → Int32 := fun o a => if I 0 o = t then (if I 4 o = 2 then a else a + 1) else a
def gWl (I : FI) (t : Int32) : Nat → Int64 → Int64 := fun o a => if I 0 o = t then (if I 4 o = 2 then a else a + 1) else a
theorem c_wait {I : FI} {L : FL} {n : Nat} (h : I 11 1 = nI n) (hn : n ≤ 40) (t : Int32) : ∀ (d k f : Nat) (a : Int32), k + d = n → d < f → fK4_waitingOf_4 f t a (nI k) I L = some (fd (gWt I t) d k a) := by
  intro d
  induction d with
  | zero =>
    intro k f a hk hf
    obtain ⟨f, rfl⟩ := fu1 hf
    show bK4_waitingOf_4 _ _ _ _ _ _ = _
    simp only [bK4_waitingOf_4, h, lp_out (show n ≤ k by omega) (show k ≤ 40 by omega), if_true, fd]
  | succ d ih =>
    intro k f a hk hf
    obtain ⟨f, rfl⟩ := fu1 hf
    obtain ⟨e1, e2, e3, e4⟩ := lp_in (show k < n by omega) hn
    show bK4_waitingOf_4 _ _ _ _ _ _ = some (fd (gWt I t) d (k + 1) (gWt I t k a))
    simp only [bK4_waitingOf_4, h, e3, if_false, g40_nI _ e4, nm_eq, fK4_waitingOf_41, nI_1, gWt]
    by_cases c : I 0 k = t
    · by_cases c2 : I 4 k = 2
      · simp only [if_pos c, if_pos c2]; exact ih (k + 1) f _ (by omega) (by omega)
      · simp only [if_pos c, if_neg c2]; exact ih (k + 1) f _ (by omega) (by omega)
    · simp only [if_neg c]; exact ih (k + 1) f _ (by omega) (by omega)
theorem r_wait {I : FI} {L : FL} {n : Nat} (h : I 11 1 = nI n) (hn : n ≤ 40) (t : Int32) : ∀ (d k f : Nat) (a : Int64), k + d = n → d < f → fK8_trader_79 f t a (nI k) I L = some (fd (gWl I t) d k a) := by
  intro d
  induction d with
  | zero =>
    intro k f a hk hf
    obtain ⟨f, rfl⟩ := fu1 hf
    show bK8_trader_79 _ _ _ _ _ _ = _
    simp only [bK8_trader_79, h, lp_out (show n ≤ k by omega) (show k ≤ 40 by omega), if_true, fd]
  | succ d ih =>
    intro k f a hk hf
    obtain ⟨f, rfl⟩ := fu1 hf
    obtain ⟨e1, e2, e3, e4⟩ := lp_in (show k < n by omega) hn
    show bK8_trader_79 _ _ _ _ _ _ = some (fd (gWl I t) d (k + 1) (gWl I t k a))
    simp only [bK8_trader_79, h, e3, if_false, e1, e2, ck_tt, nm_eq, fK8_trader_114, nI_1, gWl]
    by_cases c : I 0 k = t
    · by_cases c2 : I 4 k = 2
      · simp only [if_pos c, if_pos c2]; exact ih (k + 1) f _ (by omega) (by omega)
      · simp only [if_pos c, if_neg c2]; exact ih (k + 1) f _ (by omega) (by omega)
    · simp only [if_neg c]; exact ih (k + 1) f _ (by omega) (by omega)
/-- what is held -/
def hcG (I : FI) (t : Int32) (o : Nat) : Int64 := if I 4 o = 0 then (if I 0 o = t then (if I 1 o = 0 then (I 2 o).toInt64 * (I 3 o).toInt64 else 0) else 0) else 0
def hgG (I : FI) (t : Int32) (o : Nat) : Int64 := if I 4 o = 0 then (if I 0 o = t then (if I 1 o = 1 then (I 2 o).toInt64 else 0) else 0) else 0
theorem r_hc {I : FI} {L : FL} {n : Nat} (h : I 11 1 = nI n) (hn : n ≤ 40) (t : Int32) : ∀ (d k f : Nat) (a : Int64), k + d = n → d < f → fK8_heldCash_5 f t a (nI k) I L = some (fd (fun o a => a + hcG I t o) d k a) := by
  intro d
  induction d with
  | zero =>
    intro k f a hk hf
    obtain ⟨f, rfl⟩ := fu1 hf
    show bK8_heldCash_5 _ _ _ _ _ _ = _
    simp only [bK8_heldCash_5, h, lp_out (show n ≤ k by omega) (show k ≤ 40 by omega), if_true, fd]
  | succ d ih =>
    intro k f a hk hf
    obtain ⟨f, rfl⟩ := fu1 hf
    obtain ⟨e1, e2, e3, e4⟩ := lp_in (show k < n by omega) hn
    show bK8_heldCash_5 _ _ _ _ _ _ = some (fd (fun o a => a + hcG I t o) d (k + 1) (a + hcG I t k))
    simp only [bK8_heldCash_5, h, e3, if_false, e1, e2, ck_tt, nm_eq, fK8_heldCash_65, nI_1, hcG]
    by_cases c : I 4 k = 0
    · by_cases c2 : I 0 k = t
      · by_cases c3 : I 1 k = 0
        · simp only [if_pos c, if_pos c2, if_pos c3]; exact ih (k + 1) f _ (by omega) (by omega)
        · simp only [if_pos c, if_pos c2, if_neg c3, Int64.add_zero]; exact ih (k + 1) f _ (by omega) (by omega)
      · simp only [if_pos c, if_neg c2, Int64.add_zero]; exact ih (k + 1) f _ (by omega) (by omega)
    · simp only [if_neg c, Int64.add_zero]; exact ih (k + 1) f _ (by omega) (by omega)
theorem r_hg {I : FI} {L : FL} {n : Nat} (h : I 11 1 = nI n) (hn : n ≤ 40) (t : Int32) : ∀ (d k f : Nat) (a : Int64), k + d = n → d < f → fK8_heldGoods_5 f t a (nI k) I L = some (fd (fun o a => a + hgG I t o) d k a) := by
  intro d
  induction d with
  | zero =>
    intro k f a hk hf
    obtain ⟨f, rfl⟩ := fu1 hf
    show bK8_heldGoods_5 _ _ _ _ _ _ = _
    simp only [bK8_heldGoods_5, h, lp_out (show n ≤ k by omega) (show k ≤ 40 by omega), if_true, fd]
  | succ d ih =>
    intro k f a hk hf
    obtain ⟨f, rfl⟩ := fu1 hf
    obtain ⟨e1, e2, e3, e4⟩ := lp_in (show k < n by omega) hn
    show bK8_heldGoods_5 _ _ _ _ _ _ = some (fd (fun o a => a + hgG I t o) d (k + 1) (a + hgG I t k))
    simp only [bK8_heldGoods_5, h, e3, if_false, e1, e2, ck_tt, nm_eq, fK8_heldGoods_57, nI_1, hgG]
    by_cases c : I 4 k = 0
    · by_cases c2 : I 0 k = t
      · by_cases c3 : I 1 k = 1
        · simp only [if_pos c, if_pos c2, if_pos c3]; exact ih (k + 1) f _ (by omega) (by omega)
        · simp only [if_pos c, if_pos c2, if_neg c3, Int64.add_zero]; exact ih (k + 1) f _ (by omega) (by omega)
      · simp only [if_pos c, if_neg c2, Int64.add_zero]; exact ih (k + 1) f _ (by omega) (by omega)
    · simp only [if_neg c, Int64.add_zero]; exact ih (k + 1) f _ (by omega) (by omega)
/-- sums -/
def sm (g : Nat → Int64) : Nat → Int64
  | 0 => 0
  | n + 1 => sm g n + g n
theorem fd_sm (g : Nat → Int64) : ∀ (d k : Nat) (a : Int64), fd (fun o a => a + g o) d k (a + sm g k) = a + sm g (k + d) := by
  intro d
  induction d with
  | zero => intro k a; rfl
  | succ d ih =>
    intro k a
    show fd _ d (k + 1) (a + sm g k + g k) = _
    rw [Int64.add_assoc, show sm g k + g k = sm g (k + 1) from rfl, ih (k + 1) a, show k + 1 + d = k + (d + 1) by omega]
theorem fd_sm0 (g : Nat → Int64) (n : Nat) : fd (fun o a => a + g o) n 0 0 = sm g n := by
  have h := fd_sm g n 0 0
  simpa [sm] using h
theorem r_heldCash {I : FI} {L : FL} {n : Nat} (h : I 11 1 = nI n) (hn : n ≤ 40) (t : Int32) : fK8_heldCash t I L = some (sm (hcG I t) n) := by
  have := r_hc (L := L) h hn t n 0 FU 0 (by omega) (by simp only [FU]; omega)
  rw [fd_sm0] at this
  exact this
theorem r_heldGoods {I : FI} {L : FL} {n : Nat} (h : I 11 1 = nI n) (hn : n ≤ 40) (t : Int32) : fK8_heldGoods t I L = some (sm (hgG I t) n) := by
  have := r_hg (L := L) h hn t n 0 FU 0 (by omega) (by simp only [FU]; omega)
  rw [fd_sm0] at this
  exact this
theorem sm_congr {g g' : Nat → Int64} : ∀ {n : Nat}, (∀ k, k < n → g k = g' k) → sm g n = sm g' n := by
  intro n
  induction n with
  | zero => intro _; rfl
  | succ n ih => intro h; show sm g n + g n = sm g' n + g' n; rw [ih (fun k hk => h k (by omega)), h n (by omega)]
theorem sm_upd {g g' : Nat → Int64} {m : Nat} : ∀ {n : Nat}, m < n → (∀ k, k < n → k ≠ m → g' k = g k) → sm g' n = sm g n - g m + g' m := by
  intro n
  induction n with
  | zero => intro h; omega
  | succ n ih =>
    intro hm h
    show sm g' n + g' n = sm g n + g n - g m + g' m
    by_cases e : n = m
    · subst e
      rw [sm_congr (g := g') (g' := g) (fun k hk => h k (by omega) (by omega)), Int64.add_sub_cancel]
    · rw [ih (by omega) (fun k hk => h k (by omega)), h n (by omega) e]
      grind
