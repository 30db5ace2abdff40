/-! PURE PART 6: what holds behind a trade -/
theorem lN_subE {a b : Nat} (h : b ≤ a) : lN (a - b) = lN a - lN b := (lN_sub h).symm
theorem nI_subE {a b : Nat} (h : b ≤ a) : nI a - nI b = nI (a - b) := pk_sub h
theorem nI_z {a : Nat} (h : a < 2 ^ 31) : nI a = 0 ↔ a = 0 := nI_eq (b := 0) h (by decide)
section TRD
variable {I : FI} {L : FL} {n B T : Nat} {o m t s u q lo w p : Nat} {x : Int32} {b c : Int32}
def trI (I : FI) (o m w p : Nat) (x b c : Int32) : FI := trB (trA I o m (nI w)) x b c (nI p) (nI w)
theorem trI_row {f : Nat} (h : f = 0 ∨ f = 1 ∨ f = 3 ∨ f = 5 ∨ f = 6 ∨ 12 ≤ f) : trI I o m w p x b c f = I f := by
  unfold trI
  rw [trB_row (by omega), trA_row (by omega) (by omega)]
theorem trI_2 {k : Nat} (hom : o ≠ m) : trI I o m w p x b c 2 k = if k = m then I 2 m - nI w else if k = o then I 2 o - nI w else I 2 k := by
  unfold trI
  rw [trB_row (by omega), trA_2 hom]
theorem trI_4 {k : Nat} (hom : o ≠ m) : trI I o m w p x b c 4 k = if k = m then (if I 2 m - nI w = 0 then 2 else I 4 m) else I 4 k := by
  unfold trI
  rw [trB_row (by omega), trA_4 hom]
theorem trI_11 {j : Nat} (h : j ≠ 2) (h4 : j ≠ 4) : trI I o m w p x b c 11 j = I 11 j := by
  unfold trI
  rw [trB_11 h h4, trA_row (by omega) (by omega)]
theorem trI_112 : trI I o m w p x b c 11 2 = I 11 2 + 1 := by
  unfold trI
  rw [trB_112, trA_row (by omega) (by omega)]
theorem inv_trade (hI : Inv I L n B T) (ho : o < n) (hm : m < n) (hom : o ≠ m) (ho4 : I 4 o = 2) (hm4 : I 4 m = 0) (h0o : I 0 o = nI t) (ht : t < 8) (h0m : I 0 m = nI u) (hu : u < 8) (htu : t ≠ u) (h1 : I 1 m = nI (1 - s)) (hs : s < 2)
    (h2m : I 2 m = nI q) (hq : q ≤ 9999) (h2o : I 2 o = nI lo) (hlo : lo ≤ 9999) (h3 : I 3 m = nI p) (hp : p ≤ 9999) (hp1 : 1 ≤ p) (hwq : w ≤ q) (hwl : w ≤ lo)
    (hF : s = 0 → ∃ F, fc L t = lN F ∧ F ≤ B ∧ w * p ≤ F) (hG : s = 1 → ∃ F, fg L t = lN F ∧ F ≤ B ∧ w ≤ F) (hB : B < 2 ^ 60) :
    ∃ L', L' = (if s = 0 then sL (trL L t u (lN (w * p)) (lN w)) 3 u (L 3 u - lN w) else sL (trL L u t (lN (w * p)) (lN w)) 2 u (L 2 u - lN (w * p))) ∧ Inv (trI I o m w p x b c) L' n (B + 100000000) (T + 1) ∧
      (s = 0 → fc L' t = fc L t - lN (w * p)) ∧ (s = 1 → fg L' t = fg L t - lN w) := by
  obtain ⟨hn, h40, hk, ⟨τ, hτ, hτ2⟩, hsm⟩ := hI
  have hwp : w * p ≤ 100000000 := pq_le (by omega) hp
  have e2m : trI I o m w p x b c 2 m = nI (q - w) := by rw [trI_2 hom, if_pos rfl, h2m, nI_subE hwq]
  have e2o : trI I o m w p x b c 2 o = nI (lo - w) := by rw [trI_2 hom, if_neg hom, if_pos rfl, h2o, nI_subE hwl]
  have e4m : trI I o m w p x b c 4 m = if q - w = 0 then 2 else 0 := by
    rw [trI_4 hom, if_pos rfl, h2m, nI_subE hwq, hm4]
    have := nI_z (a := q - w) (by omega)
    by_cases z : q - w = 0
    · rw [if_pos (this.mpr z), if_pos z]
    · rw [if_neg (fun y => z (this.mp y)), if_neg z]
  have e4o : trI I o m w p x b c 4 o = 2 := by rw [trI_4 hom, if_neg hom, ho4]
  have erow : ∀ k f, f = 0 ∨ f = 1 ∨ f = 3 → trI I o m w p x b c f k = I f k := fun k f hf => by rw [trI_row (by omega)]
  have eoth : ∀ k, k ≠ o → k ≠ m → ∀ f, f ≤ 4 → trI I o m w p x b c f k = I f k := by
    intro k k1 k2 f hf
    rcases (show f = 0 ∨ f = 1 ∨ f = 3 ∨ f = 2 ∨ f = 4 by omega) with z | z | z | z | z
    · exact erow k f (by omega)
    · exact erow k f (by omega)
    · exact erow k f (by omega)
    · subst z; rw [trI_2 hom, if_neg k2, if_neg k1]
    · subst z; rw [trI_4 hom, if_neg k2]
  have hok : ∀ k, k < n → OK1 (trI I o m w p x b c) k := by
    intro k hkn
    by_cases k1 : k = m
    · subst k1
      obtain ⟨t0, s0, q0, p0, a1, a2, a3, a4, a5, a6, a7, a8, a9, a10⟩ := hk k hm
      refine ⟨t0, s0, q - w, p0, a1, a2, by omega, a4, by rw [erow k 0 (by omega)]; exact a5, by rw [erow k 1 (by omega)]; exact a6, e2m, by rw [erow k 3 (by omega)]; exact a8, ?_, fun _ => a10 hm4⟩
      rw [e4m]
      split
      · exact Or.inr (Or.inr rfl)
      · exact Or.inl rfl
    · by_cases k2 : k = o
      · subst k2
        obtain ⟨t0, s0, q0, p0, a1, a2, a3, a4, a5, a6, a7, a8, a9, a10⟩ := hk k ho
        refine ⟨t0, s0, lo - w, p0, a1, a2, by omega, a4, by rw [erow k 0 (by omega)]; exact a5, by rw [erow k 1 (by omega)]; exact a6, e2o, by rw [erow k 3 (by omega)]; exact a8, by rw [e4o]; exact Or.inr (Or.inr rfl), ?_⟩
        rw [e4o]; intro z; exact absurd z (by decide)
      · exact (hk k hkn).congr (eoth k k2 k1)
  have hn' : trI I o m w p x b c 11 1 = nI n := by rw [trI_11 (by omega) (by omega)]; exact hn
  have hτ' : ∃ τ, τ ≤ T + 1 ∧ trI I o m w p x b c 11 2 = nI τ := ⟨τ + 1, by omega, by rw [trI_112, hτ2, nI_1]⟩
  have c2 : I 4 o ≠ 0 := by rw [ho4]; decide
  have c2' : trI I o m w p x b c 4 o ≠ 0 := by rw [e4o]; decide
  rcases (show s = 0 ∨ s = 1 by omega) with z | z
  · subst z
    obtain ⟨F, hF1, hF2, hF3⟩ := hF rfl
    have h1' : I 1 m = 1 := h1
    have h1'' : trI I o m w p x b c 1 m = 1 := by rw [erow m 1 (by omega)]; exact h1'
    refine ⟨sL (trL L t u (lN (w * p)) (lN w)) 3 u (L 3 u - lN w), by rw [if_pos rfl], ⟨hn', h40, hok, hτ', ?_⟩, ?_, fun h => absurd h (by omega)⟩
    · intro v hv
      obtain ⟨a1, a2, ⟨F1, hF1', a3⟩, ⟨F2, hF2', a4⟩⟩ := hsm v hv
      have g1 : sm (hcG (trI I o m w p x b c) (nI v)) n = sm (hcG I (nI v)) n := sm_congr (fun k hkn => by
        by_cases k1 : k = m
        · subst k1; rw [hc_sell h1'', hc_sell h1']
        · by_cases k2 : k = o
          · subst k2; rw [hc_closed c2', hc_closed c2]
          · exact hc_congr (eoth k k2 k1))
      have g2 : sm (hgG (trI I o m w p x b c) (nI v)) n = sm (hgG I (nI v)) n - hgG I (nI v) m + hgG (trI I o m w p x b c) (nI v) m := sm_upd hm (fun k hkn k1 => by
        by_cases k2 : k = o
        · subst k2; rw [hg_closed c2', hg_closed c2]
        · exact hg_congr (eoth k k2 k1))
      have l2 : sL (trL L t u (lN (w * p)) (lN w)) 3 u (L 3 u - lN w) 2 v = L 2 v := by rw [sL_at (by omega), trL_23 (by omega)]
      have l0 : sL (trL L t u (lN (w * p)) (lN w)) 3 u (L 3 u - lN w) 0 v = if v = u then L 0 u + lN (w * p) else if v = t then L 0 t - lN (w * p) else L 0 v := by rw [sL_at (by omega), trL_0 htu]
      have l1 : sL (trL L t u (lN (w * p)) (lN w)) 3 u (L 3 u - lN w) 1 v = if v = u then L 1 u - lN w else if v = t then L 1 t + lN w else L 1 v := by rw [sL_at (by omega), trL_1 htu]
      by_cases v1 : v = u
      · subst v1
        have l3 : sL (trL L t v (lN (w * p)) (lN w)) 3 v (L 3 v - lN w) 3 v = L 3 v - lN w := sL_eq
        have hm' : hgG (trI I o m w p x b c) (nI v) m = lN (q - w) := by
          by_cases zz : q - w = 0
          · rw [hg_closed (by rw [e4m, if_pos zz]; decide), zz]; rfl
          · exact hg_is (by rw [e4m, if_neg zz]) (by rw [erow m 0 (by omega)]; exact h0m) h1'' e2m (by omega)
        rw [hg_is hm4 h0m h1' h2m hq, hm', lN_subE hwq] at g2
        refine ⟨by rw [l2, g1]; exact a1, ?_, ⟨F1 + w * p, by omega, ?_⟩, ⟨F2, by omega, ?_⟩⟩
        · rw [l3, g2, ← a2]; grind
        · unfold fc at a3 ⊢; rw [l0, l2, if_pos rfl, ← lN_add, ← a3]; grind
        · unfold fg at a4 ⊢; rw [l1, l3, if_pos rfl, ← a4]; grind
      · have l3 : sL (trL L t u (lN (w * p)) (lN w)) 3 u (L 3 u - lN w) 3 v = L 3 v := by rw [sL_at (by omega), trL_23 (by omega)]
        have hm' : hgG (trI I o m w p x b c) (nI v) m = 0 := hg_ne (u := u) (by rw [erow m 0 (by omega)]; exact h0m) hu hv (Ne.symm v1)
        rw [hg_ne h0m hu hv (Ne.symm v1), hm'] at g2
        have g2' : sm (hgG (trI I o m w p x b c) (nI v)) n = sm (hgG I (nI v)) n := by rw [g2]; grind
        by_cases v2 : v = t
        · subst v2
          have hFF : F = F1 := by
            have := hF1.symm.trans a3
            exact (pk_lEQ (by omega) (by omega)).mp this
          subst hFF
          refine ⟨by rw [l2, g1]; exact a1, by rw [l3, g2']; exact a2, ⟨F - w * p, by omega, ?_⟩, ⟨F2 + w, by omega, ?_⟩⟩
          · unfold fc at a3 ⊢; rw [l0, l2, if_neg v1, if_pos rfl, lN_subE hF3, ← a3]; grind
          · unfold fg at a4 ⊢; rw [l1, l3, if_neg v1, if_pos rfl, ← lN_add, ← a4]; grind
        · refine ⟨by rw [l2, g1]; exact a1, by rw [l3, g2']; exact a2, ⟨F1, by omega, ?_⟩, ⟨F2, by omega, ?_⟩⟩
          · unfold fc at a3 ⊢; rw [l0, l2, if_neg v1, if_neg v2]; exact a3
          · unfold fg at a4 ⊢; rw [l1, l3, if_neg v1, if_neg v2]; exact a4
    · intro _
      unfold fc
      rw [sL_at (by omega), sL_at (by omega), trL_0 htu, trL_23 (by omega), if_neg htu, if_pos rfl]
      grind
  · subst z
    obtain ⟨F, hF1, hF2, hF3⟩ := hG rfl
    have h1' : I 1 m = 0 := h1
    have h1'' : trI I o m w p x b c 1 m = 0 := by rw [erow m 1 (by omega)]; exact h1'
    refine ⟨sL (trL L u t (lN (w * p)) (lN w)) 2 u (L 2 u - lN (w * p)), by rw [if_neg (by omega)], ⟨hn', h40, hok, hτ', ?_⟩, fun h => absurd h (by omega), ?_⟩
    · intro v hv
      obtain ⟨a1, a2, ⟨F1, hF1', a3⟩, ⟨F2, hF2', a4⟩⟩ := hsm v hv
      have g1 : sm (hgG (trI I o m w p x b c) (nI v)) n = sm (hgG I (nI v)) n := sm_congr (fun k hkn => by
        by_cases k1 : k = m
        · subst k1; rw [hg_buy h1'', hg_buy h1']
        · by_cases k2 : k = o
          · subst k2; rw [hg_closed c2', hg_closed c2]
          · exact hg_congr (eoth k k2 k1))
      have g2 : sm (hcG (trI I o m w p x b c) (nI v)) n = sm (hcG I (nI v)) n - hcG I (nI v) m + hcG (trI I o m w p x b c) (nI v) m := sm_upd hm (fun k hkn k1 => by
        by_cases k2 : k = o
        · subst k2; rw [hc_closed c2', hc_closed c2]
        · exact hc_congr (eoth k k2 k1))
      have l3 : sL (trL L u t (lN (w * p)) (lN w)) 2 u (L 2 u - lN (w * p)) 3 v = L 3 v := by rw [sL_at (by omega), trL_23 (by omega)]
      have l0 : sL (trL L u t (lN (w * p)) (lN w)) 2 u (L 2 u - lN (w * p)) 0 v = if v = t then L 0 t + lN (w * p) else if v = u then L 0 u - lN (w * p) else L 0 v := by rw [sL_at (by omega), trL_0 (Ne.symm htu)]
      have l1 : sL (trL L u t (lN (w * p)) (lN w)) 2 u (L 2 u - lN (w * p)) 1 v = if v = t then L 1 t - lN w else if v = u then L 1 u + lN w else L 1 v := by rw [sL_at (by omega), trL_1 (Ne.symm htu)]
      by_cases v1 : v = u
      · subst v1
        have l2 : sL (trL L v t (lN (w * p)) (lN w)) 2 v (L 2 v - lN (w * p)) 2 v = L 2 v - lN (w * p) := sL_eq
        have hm' : hcG (trI I o m w p x b c) (nI v) m = lN ((q - w) * p) := by
          by_cases zz : q - w = 0
          · rw [hc_closed (by rw [e4m, if_pos zz]; decide), zz, Nat.zero_mul]; rfl
          · exact hc_is (by rw [e4m, if_neg zz]) (by rw [erow m 0 (by omega)]; exact h0m) h1'' e2m (by rw [erow m 3 (by omega)]; exact h3) (by omega) hp
        rw [hc_is hm4 h0m h1' h2m h3 hq hp, hm', Nat.sub_mul, lN_subE (Nat.mul_le_mul_right p hwq)] at g2
        refine ⟨?_, by rw [l3, g1]; exact a2, ⟨F1, by omega, ?_⟩, ⟨F2 + w, by omega, ?_⟩⟩
        · rw [l2, g2, ← a1]; grind
        · unfold fc at a3 ⊢; rw [l0, l2, if_neg (Ne.symm htu), if_pos rfl, ← a3]; grind
        · unfold fg at a4 ⊢; rw [l1, l3, if_neg (Ne.symm htu), if_pos rfl, ← lN_add, ← a4]; grind
      · have l2 : sL (trL L u t (lN (w * p)) (lN w)) 2 u (L 2 u - lN (w * p)) 2 v = L 2 v := by rw [sL_at (by omega), trL_23 (by omega)]
        have hm' : hcG (trI I o m w p x b c) (nI v) m = 0 := hc_ne (u := u) (by rw [erow m 0 (by omega)]; exact h0m) hu hv (Ne.symm v1)
        rw [hc_ne h0m hu hv (Ne.symm v1), hm'] at g2
        have g2' : sm (hcG (trI I o m w p x b c) (nI v)) n = sm (hcG I (nI v)) n := by rw [g2]; grind
        by_cases v2 : v = t
        · subst v2
          have hFF : F = F2 := by
            have := hF1.symm.trans a4
            exact (pk_lEQ (by omega) (by omega)).mp this
          subst hFF
          refine ⟨by rw [l2, g2']; exact a1, by rw [l3, g1]; exact a2, ⟨F1 + w * p, by omega, ?_⟩, ⟨F - w, by omega, ?_⟩⟩
          · unfold fc at a3 ⊢; rw [l0, l2, if_pos rfl, ← lN_add, ← a3]; grind
          · unfold fg at a4 ⊢; rw [l1, l3, if_pos rfl, lN_subE hF3, ← a4]; grind
        · refine ⟨by rw [l2, g2']; exact a1, by rw [l3, g1]; exact a2, ⟨F1, by omega, ?_⟩, ⟨F2, by omega, ?_⟩⟩
          · unfold fc at a3 ⊢; rw [l0, l2, if_neg v2, if_neg v1]; exact a3
          · unfold fg at a4 ⊢; rw [l1, l3, if_neg v2, if_neg v1]; exact a4
    · intro _
      unfold fg
      rw [sL_at (by omega), sL_at (by omega), trL_1 (Ne.symm htu), trL_23 (by omega), if_pos rfl]
      grind
end TRD
