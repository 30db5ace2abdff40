/-! PURE PART 4: what ties the two sides, what always holds; cancel and settle -/
def Rr (I J : FI) : Prop := ∀ f j, (f ≤ 10 ∨ (f = 11 ∧ j ≠ 0)) → I f j = J f j
def Rl (L K : FL) : Prop := L 0 = K 0 ∧ L 1 = K 1
theorem Rr.set {I J : FI} (h : Rr I J) {f j : Nat} {v : Int32} : Rr (sI I f j v) (sI J f j v) := by
  intro a b ha
  simp only [sI, h a b ha]
theorem Rr.own {I J : FI} (h : Rr I J) {f j : Nat} {v : Int32} (hf : 12 ≤ f ∨ (f = 11 ∧ j = 0)) : Rr (sI I f j v) J := by
  intro a b ha
  rw [sI_at (by omega)]
  exact h a b ha
theorem Rr.ref {I J : FI} (h : Rr I J) {f j : Nat} {v : Int32} (hf : 12 ≤ f ∨ (f = 11 ∧ j = 0)) : Rr I (sI J f j v) := by
  intro a b ha
  rw [sI_at (by omega)]
  exact h a b ha
theorem Rr.at {I J : FI} (h : Rr I J) {f : Nat} {j : Nat} (hf : f ≤ 10 ∨ (f = 11 ∧ j ≠ 0)) : J f j = I f j := (h f j hf).symm
theorem Rl.set0 {L K : FL} (h : Rl L K) {f j : Nat} {v : Int64} : Rl (sL L f j v) (sL K f j v) := by
  constructor
  · funext b; simp only [sL, h.1]
  · funext b; simp only [sL, h.2]
theorem Rl.own {L K : FL} (h : Rl L K) {f j : Nat} {v : Int64} (hf : 2 ≤ f) : Rl (sL L f j v) K := by
  constructor
  · rw [sL_row (by omega)]; exact h.1
  · rw [sL_row (by omega)]; exact h.2
def OK1 (I : FI) (k : Nat) : Prop := ∃ t s q p : Nat, t < 8 ∧ s < 2 ∧ q ≤ 9999 ∧ p ≤ 9999 ∧ I 0 k = nI t ∧ I 1 k = nI s ∧ I 2 k = nI q ∧ I 3 k = nI p ∧ (I 4 k = 0 ∨ I 4 k = 1 ∨ I 4 k = 2) ∧ (I 4 k = 0 → 1 ≤ p)
def fc (L : FL) (t : Nat) : Int64 := L 0 t - L 2 t
def fg (L : FL) (t : Nat) : Int64 := L 1 t - L 3 t
def Inv (I : FI) (L : FL) (n B T : Nat) : Prop := I 11 1 = nI n ∧ n ≤ 40 ∧ (∀ k, k < n → OK1 I k) ∧ (∃ τ, τ ≤ T ∧ I 11 2 = nI τ) ∧
  ∀ t, t < 8 → L 2 t = sm (hcG I (nI t)) n ∧ L 3 t = sm (hgG I (nI t)) n ∧ (∃ F, F ≤ B ∧ fc L t = lN F) ∧ (∃ F, F ≤ B ∧ fg L t = lN F)
theorem nI_inj8 {a b : Nat} (ha : a < 8) (hb : b < 8) : nI a = nI b ↔ a = b := nI_eq (by omega) (by omega)
theorem nI_01 {s : Nat} (hs : s < 2) : (nI s = 0 ∧ s = 0) ∨ (nI s = 1 ∧ s = 1) := by
  rcases (show s = 0 ∨ s = 1 by omega) with rfl | rfl
  · exact Or.inl ⟨rfl, rfl⟩
  · exact Or.inr ⟨rfl, rfl⟩
theorem OK1.side {I : FI} {k : Nat} (h : OK1 I k) : I 1 k = 0 ∨ I 1 k = 1 := by
  obtain ⟨t, s, q, p, -, hs, -, -, -, h1, -⟩ := h
  rw [h1]
  rcases nI_01 hs with ⟨e, -⟩ | ⟨e, -⟩
  · exact Or.inl e
  · exact Or.inr e
theorem c_hold {I : FI} {L : FL} {m : Fin 40} {x : Int32} {t : Nat} (h0 : I 0 m.val = nI t) (ht : t < 8) : fK2_hold m x I L = some (I, if I 1 m.val = 1 then sL L 3 t (L 3 t + x.toInt64) else sL L 2 t (L 2 t + x.toInt64 * (I 3 m.val).toInt64)) := by
  simp only [fK2_hold, h0, g8_nI _ ht, nm_eq]
  by_cases c : I 1 m.val = 1
  · simp only [if_pos c]
  · simp only [if_neg c]
theorem hc_ne {I : FI} {t : Nat} {k u : Nat} (h : I 0 k = nI u) (hu : u < 8) (ht : t < 8) (e : u ≠ t) : hcG I (nI t) k = 0 := by
  have : ¬ nI u = nI t := fun q => e ((nI_inj8 hu ht).mp q)
  simp only [hcG, h, if_neg this, ite_self]
theorem hg_ne {I : FI} {t : Nat} {k u : Nat} (h : I 0 k = nI u) (hu : u < 8) (ht : t < 8) (e : u ≠ t) : hgG I (nI t) k = 0 := by
  have : ¬ nI u = nI t := fun q => e ((nI_inj8 hu ht).mp q)
  simp only [hgG, h, if_neg this, ite_self]
theorem hc_closed {I : FI} {x : Int32} {k : Nat} (h : I 4 k ≠ 0) : hcG I x k = 0 := by simp only [hcG, if_neg h]
theorem hg_closed {I : FI} {x : Int32} {k : Nat} (h : I 4 k ≠ 0) : hgG I x k = 0 := by simp only [hgG, if_neg h]
theorem hc_sell {I : FI} {x : Int32} {k : Nat} (h : I 1 k = 1) : hcG I x k = 0 := by
  have : ¬ I 1 k = 0 := by rw [h]; decide
  simp only [hcG, if_neg this, ite_self]
theorem hg_buy {I : FI} {x : Int32} {k : Nat} (h : I 1 k = 0) : hgG I x k = 0 := by
  have : ¬ I 1 k = 1 := by rw [h]; decide
  simp only [hgG, if_neg this, ite_self]
theorem hc_is {I : FI} {t k q p : Nat} (h4 : I 4 k = 0) (h0 : I 0 k = nI t) (h1 : I 1 k = 0) (h2 : I 2 k = nI q) (h3 : I 3 k = nI p) (hq : q ≤ 9999) (hp : p ≤ 9999) : hcG I (nI t) k = lN (q * p) := by
  simp only [hcG, h4, h0, h1, h2, h3, if_true, nIl (show q < 2 ^ 31 by omega), nIl (show p < 2 ^ 31 by omega), lN_mul]
theorem hg_is {I : FI} {t k q : Nat} (h4 : I 4 k = 0) (h0 : I 0 k = nI t) (h1 : I 1 k = 1) (h2 : I 2 k = nI q) (hq : q ≤ 9999) : hgG I (nI t) k = lN q := by
  simp only [hgG, h4, h0, h1, h2, if_true, nIl (show q < 2 ^ 31 by omega)]
/-- the sums depend on the orders' rows 0 to 4 alone -/
theorem hc_congr {I I' : FI} {x : Int32} {k : Nat} (h : ∀ f, f ≤ 4 → I' f k = I f k) : hcG I' x k = hcG I x k := by
  simp only [hcG, h 0 (by omega), h 1 (by omega), h 2 (by omega), h 3 (by omega), h 4 (by omega)]
theorem hg_congr {I I' : FI} {x : Int32} {k : Nat} (h : ∀ f, f ≤ 4 → I' f k = I f k) : hgG I' x k = hgG I x k := by
  simp only [hgG, h 0 (by omega), h 1 (by omega), h 2 (by omega), h 3 (by omega), h 4 (by omega)]
theorem OK1.congr {I I' : FI} {k : Nat} (h : OK1 I k) (e : ∀ f, f ≤ 4 → I' f k = I f k) : OK1 I' k := by
  unfold OK1 at h ⊢
  rw [e 0 (by omega), e 1 (by omega), e 2 (by omega), e 3 (by omega), e 4 (by omega)]
  exact h
theorem pq_le {q p : Nat} (hq : q ≤ 9999) (hp : p ≤ 9999) : q * p ≤ 100000000 := Nat.le_trans (Nat.mul_le_mul hq hp) (by decide)
/-- an OPEN order is cancelled -/
theorem c_cancel {I : FI} {L : FL} {n B T : Nat} (hI : Inv I L n B T) (m : Fin 40) (hm : m.val < n) (ho : I 4 m.val = 0) : ∃ L', fK2_cancel m I L = some (sI I 4 m.val 2, L') ∧ Inv (sI I 4 m.val 2) L' n (B + 100000000) T ∧ L' 0 = L 0 ∧ L' 1 = L 1 ∧
    (∀ t, t < 8 → (I 1 m.val = 1 ∨ I 0 m.val ≠ nI t) → fc L' t = fc L t) ∧ (∀ t, t < 8 → (I 1 m.val = 0 ∨ I 0 m.val ≠ nI t) → fg L' t = fg L t) := by
  obtain ⟨hn, h40, hk, hτ, hs⟩ := hI
  obtain ⟨t0, s, q, p, ht0, hs2, hq, hp, e0, e1, e2, e3, e4, e5⟩ := hk m.val hm
  have hx : (-(I 2 m.val)).toInt64 = - lN q := by rw [e2]; exact neg_l (by omega)
  have r11 : ∀ j, sI I 4 m.val 2 11 j = I 11 j := fun j => sI_at (by omega)
  have rk : ∀ k, k ≠ m.val → ∀ f, f ≤ 4 → sI I 4 m.val 2 f k = I f k := fun k hk f _ => sI_at (by omega)
  have rm4 : sI I 4 m.val 2 4 m.val = 2 := sI_eq
  have rmf : ∀ f, f ≠ 4 → sI I 4 m.val 2 f m.val = I f m.val := fun f hf => sI_at (by omega)
  have hok : ∀ k, k < n → OK1 (sI I 4 m.val 2) k := by
    intro k hkn
    by_cases e : k = m.val
    · subst e
      refine ⟨t0, s, q, p, ht0, hs2, hq, hp, ?_, ?_, ?_, ?_, ?_, ?_⟩
      · rw [rmf 0 (by omega)]; exact e0
      · rw [rmf 1 (by omega)]; exact e1
      · rw [rmf 2 (by omega)]; exact e2
      · rw [rmf 3 (by omega)]; exact e3
      · rw [rm4]; exact Or.inr (Or.inr rfl)
      · rw [rm4]; intro z; exact absurd z (by decide)
    · exact (hk k hkn).congr (rk k e)
  have c4 : sI I 4 m.val 2 4 m.val ≠ 0 := by rw [rm4]; decide
  rcases nI_01 hs2 with ⟨z1, z2⟩ | ⟨z1, z2⟩
  · -- a buy
    have e1' : I 1 m.val = 0 := by rw [e1]; exact z1
    have ne1 : ¬ I 1 m.val = 1 := by rw [e1']; decide
    refine ⟨sL L 2 t0 (L 2 t0 + (-(I 2 m.val)).toInt64 * (I 3 m.val).toInt64), ?_, ⟨by rw [r11]; exact hn, h40, hok, by rw [r11]; exact hτ, ?_⟩, ?_, ?_, ?_, ?_⟩
    · simp only [fK2_cancel, if_pos ho, c_hold e0 ht0, if_neg ne1, bv_eq, fK2_cancel_17, nm_eq]
    · intro t ht
      obtain ⟨a1, a2, ⟨F, hF, a3⟩, ⟨F2, hF2, a4⟩⟩ := hs t ht
      have g1 : sm (hgG (sI I 4 m.val 2) (nI t)) n = sm (hgG I (nI t)) n := sm_congr (fun k hkn => by
        by_cases e : k = m.val
        · subst e; rw [hg_closed c4, hg_buy e1']
        · exact hg_congr (rk k e))
      have g2 : sm (hcG (sI I 4 m.val 2) (nI t)) n = sm (hcG I (nI t)) n - hcG I (nI t) m.val := by
        rw [sm_upd (g := hcG I (nI t)) (g' := hcG (sI I 4 m.val 2) (nI t)) hm (fun k hkn e => hc_congr (rk k e)), hc_closed c4]
        grind
      have l3 : ∀ j, sL L 2 t0 (L 2 t0 + (-(I 2 m.val)).toInt64 * (I 3 m.val).toInt64) 3 j = L 3 j := fun j => sL_at (by omega)
      have l1 : ∀ j, sL L 2 t0 (L 2 t0 + (-(I 2 m.val)).toInt64 * (I 3 m.val).toInt64) 1 j = L 1 j := fun j => sL_at (by omega)
      have l0 : ∀ j, sL L 2 t0 (L 2 t0 + (-(I 2 m.val)).toInt64 * (I 3 m.val).toInt64) 0 j = L 0 j := fun j => sL_at (by omega)
      by_cases e : t0 = t
      · subst e
        have l2 : sL L 2 t0 (L 2 t0 + (-(I 2 m.val)).toInt64 * (I 3 m.val).toInt64) 2 t0 = L 2 t0 - lN (q * p) := by
          rw [sL_eq, hx, e3, nIl (show p < 2 ^ 31 by omega), ← lN_mul]
          grind
        refine ⟨?_, by rw [l3, g1]; exact a2, ⟨F + q * p, ?_, ?_⟩, ⟨F2, by omega, ?_⟩⟩
        · rw [l2, g2, hc_is ho e0 e1' e2 e3 hq hp, a1]
        · have := pq_le hq hp; omega
        · unfold fc at a3 ⊢
          rw [l0, l2, ← lN_add, ← a3]
          grind
        · unfold fg at a4 ⊢; rw [l1, l3]; exact a4
      · have l2 : sL L 2 t0 (L 2 t0 + (-(I 2 m.val)).toInt64 * (I 3 m.val).toInt64) 2 t = L 2 t := sL_at (by omega)
        refine ⟨?_, by rw [l3, g1]; exact a2, ⟨F, by omega, ?_⟩, ⟨F2, by omega, ?_⟩⟩
        · rw [l2, g2, hc_ne e0 ht0 ht e, a1]; grind
        · unfold fc at a3 ⊢; rw [l0, l2]; exact a3
        · unfold fg at a4 ⊢; rw [l1, l3]; exact a4
    · funext j; exact sL_at (by omega)
    · funext j; exact sL_at (by omega)
    · intro t ht h
      rcases h with h | h
      · exact absurd h ne1
      · unfold fc
        rw [sL_at (by omega), sL_at (by rintro ⟨-, z⟩; exact h (by rw [z]; exact e0))]
    · intro t ht h
      unfold fg
      rw [sL_at (by omega), sL_at (by omega)]
  · -- a sell
    have e1' : I 1 m.val = 1 := by rw [e1]; exact z1
    refine ⟨sL L 3 t0 (L 3 t0 + (-(I 2 m.val)).toInt64), ?_, ⟨by rw [r11]; exact hn, h40, hok, by rw [r11]; exact hτ, ?_⟩, ?_, ?_, ?_, ?_⟩
    · simp only [fK2_cancel, if_pos ho, c_hold e0 ht0, if_pos e1', bv_eq, fK2_cancel_17, nm_eq]
    · intro t ht
      obtain ⟨a1, a2, ⟨F, hF, a3⟩, ⟨F2, hF2, a4⟩⟩ := hs t ht
      have g1 : sm (hcG (sI I 4 m.val 2) (nI t)) n = sm (hcG I (nI t)) n := sm_congr (fun k hkn => by
        by_cases e : k = m.val
        · subst e; rw [hc_closed c4, hc_sell e1']
        · exact hc_congr (rk k e))
      have g2 : sm (hgG (sI I 4 m.val 2) (nI t)) n = sm (hgG I (nI t)) n - hgG I (nI t) m.val := by
        rw [sm_upd (g := hgG I (nI t)) (g' := hgG (sI I 4 m.val 2) (nI t)) hm (fun k hkn e => hg_congr (rk k e)), hg_closed c4]
        grind
      have l2 : ∀ j, sL L 3 t0 (L 3 t0 + (-(I 2 m.val)).toInt64) 2 j = L 2 j := fun j => sL_at (by omega)
      have l1 : ∀ j, sL L 3 t0 (L 3 t0 + (-(I 2 m.val)).toInt64) 1 j = L 1 j := fun j => sL_at (by omega)
      have l0 : ∀ j, sL L 3 t0 (L 3 t0 + (-(I 2 m.val)).toInt64) 0 j = L 0 j := fun j => sL_at (by omega)
      by_cases e : t0 = t
      · subst e
        have l3 : sL L 3 t0 (L 3 t0 + (-(I 2 m.val)).toInt64) 3 t0 = L 3 t0 - lN q := by
          rw [sL_eq, hx]
          grind
        refine ⟨by rw [l2, g1]; exact a1, ?_, ⟨F, by omega, ?_⟩, ⟨F2 + q, by omega, ?_⟩⟩
        · rw [l3, g2, hg_is ho e0 e1' e2 hq, a2]
        · unfold fc at a3 ⊢; rw [l0, l2]; exact a3
        · unfold fg at a4 ⊢
          rw [l1, l3, ← lN_add, ← a4]
          grind
      · have l3 : sL L 3 t0 (L 3 t0 + (-(I 2 m.val)).toInt64) 3 t = L 3 t := sL_at (by omega)
        refine ⟨by rw [l2, g1]; exact a1, ?_, ⟨F, by omega, ?_⟩, ⟨F2, by omega, ?_⟩⟩
        · rw [l3, g2, hg_ne e0 ht0 ht e, a2]; grind
        · unfold fc at a3 ⊢; rw [l0, l2]; exact a3
        · unfold fg at a4 ⊢; rw [l1, l3]; exact a4
    · funext j; exact sL_at (by omega)
    · funext j; exact sL_at (by omega)
    · intro t ht h
      unfold fc
      rw [sL_at (by omega), sL_at (by omega)]
    · intro t ht h
      rcases h with h | h
      · rw [e1'] at h; exact absurd h (by decide)
      · unfold fg
        rw [sL_at (by omega), sL_at (by rintro ⟨-, z⟩; exact h (by rw [z]; exact e0))]
