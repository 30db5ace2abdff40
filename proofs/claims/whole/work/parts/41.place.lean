/-! PURE PART 12: orders are placed alike -/
theorem inv_open {I : FI} {L : FL} {n B T : Nat} (hI : Inv I L n B T) (m : Fin 40) (hm : m.val < n) (ho : I 4 m.val = 2) {t0 s q p : Nat} (ht0 : t0 < 8) (hs2 : s < 2) (hq : q ≤ 9999) (hp : p ≤ 9999) (hp1 : 1 ≤ p) (e0 : I 0 m.val = nI t0) (e1 : I 1 m.val = nI s) (e2 : I 2 m.val = nI q) (e3 : I 3 m.val = nI p) (hF : Fnd L t0 s p q B) (hB : B < 2 ^ 60) :
    ∃ L', L' = (if I 1 m.val = 1 then sL L 3 t0 (L 3 t0 + (nI q).toInt64) else sL L 2 t0 (L 2 t0 + (nI q).toInt64 * (nI p).toInt64)) ∧ Inv (sI I 4 m.val 0) L' n B T ∧ L' 0 = L 0 ∧ L' 1 = L 1 := by
  obtain ⟨hn, h40, hk, hτ, hs⟩ := hI
  have hql : (nI q).toInt64 = lN q := nIl (by omega)
  have hpl : (nI p).toInt64 = lN p := nIl (by omega)
  have r11 : ∀ j, sI I 4 m.val 0 11 j = I 11 j := fun j => sI_at (by omega)
  have rk : ∀ k, k ≠ m.val → ∀ f, f ≤ 4 → sI I 4 m.val 0 f k = I f k := fun k hk f _ => sI_at (by omega)
  have rm4 : sI I 4 m.val 0 4 m.val = 0 := sI_eq
  have rmf : ∀ f, f ≠ 4 → sI I 4 m.val 0 f m.val = I f m.val := fun f hf => sI_at (by omega)
  have hok : ∀ k, k < n → OK1 (sI I 4 m.val 0) k := by
    intro k hkn
    by_cases e : k = m.val
    · subst e
      exact ⟨t0, s, q, p, ht0, hs2, hq, hp, by rw [rmf 0 (by omega)]; exact e0, by rw [rmf 1 (by omega)]; exact e1, by rw [rmf 2 (by omega)]; exact e2, by rw [rmf 3 (by omega)]; exact e3, Or.inl rm4, fun _ => hp1⟩
    · exact (hk k hkn).congr (rk k e)
  have c4 : I 4 m.val ≠ 0 := by rw [ho]; decide
  rcases nI_01 hs2 with ⟨z1, z2⟩ | ⟨z1, z2⟩
  · have e1' : I 1 m.val = 0 := by rw [e1]; exact z1
    have ne1 : ¬ I 1 m.val = 1 := by rw [e1']; decide
    obtain ⟨F0, f1, f2, f3⟩ := hF.1 z2 (by omega)
    refine ⟨sL L 2 t0 (L 2 t0 + lN (q * p)), by rw [if_neg ne1, hql, hpl, lN_mul], ⟨by rw [r11]; exact hn, h40, hok, by rw [r11]; exact hτ, ?_⟩, by funext j; exact sL_at (by omega), by funext j; exact sL_at (by omega)⟩
    intro t ht
    obtain ⟨a1, a2, ⟨F, hF, a3⟩, ⟨F2, hF2, a4⟩⟩ := hs t ht
    have g1 : sm (hgG (sI I 4 m.val 0) (nI t)) n = sm (hgG I (nI t)) n := sm_congr (fun k hkn => by
      by_cases e : k = m.val
      · subst e; rw [hg_closed c4, hg_buy (by rw [rmf 1 (by omega)]; exact e1')]
      · exact hg_congr (rk k e))
    have g2 := sm_upd (g := hcG I (nI t)) (g' := hcG (sI I 4 m.val 0) (nI t)) hm (fun k hkn e => hc_congr (rk k e))
    rw [hc_closed c4] at g2
    have l3 : ∀ j, sL L 2 t0 (L 2 t0 + lN (q * p)) 3 j = L 3 j := fun j => sL_at (by omega)
    have l1 : ∀ j, sL L 2 t0 (L 2 t0 + lN (q * p)) 1 j = L 1 j := fun j => sL_at (by omega)
    have l0 : ∀ j, sL L 2 t0 (L 2 t0 + lN (q * p)) 0 j = L 0 j := fun j => sL_at (by omega)
    by_cases e : t0 = t
    · subst e
      have eF : F0 = F := (pk_lEQ (by omega) (by omega)).mp (f1.symm.trans a3)
      subst eF
      have l2 : sL L 2 t0 (L 2 t0 + lN (q * p)) 2 t0 = L 2 t0 + lN (q * p) := sL_eq
      rw [hc_is rm4 (by rw [rmf 0 (by omega)]; exact e0) (by rw [rmf 1 (by omega)]; exact e1') (by rw [rmf 2 (by omega)]; exact e2) (by rw [rmf 3 (by omega)]; exact e3) hq hp] at g2
      refine ⟨?_, by rw [l3, g1]; exact a2, ⟨F0 - q * p, by omega, ?_⟩, ⟨F2, by omega, ?_⟩⟩
      · rw [l2, g2, a1]; grind
      · unfold fc at a3 ⊢
        rw [l0, l2, lN_subE f3, ← a3]
        grind
      · unfold fg at a4 ⊢; rw [l1, l3]; exact a4
    · have l2 : sL L 2 t0 (L 2 t0 + lN (q * p)) 2 t = L 2 t := sL_at (by omega)
      rw [hc_ne (u := t0) (by rw [rmf 0 (by omega)]; exact e0) ht0 ht e] at g2
      refine ⟨?_, by rw [l3, g1]; exact a2, ⟨F, by omega, ?_⟩, ⟨F2, by omega, ?_⟩⟩
      · rw [l2, g2, a1]; grind
      · unfold fc at a3 ⊢; rw [l0, l2]; exact a3
      · unfold fg at a4 ⊢; rw [l1, l3]; exact a4
  · have e1' : I 1 m.val = 1 := by rw [e1]; exact z1
    obtain ⟨F0, f1, f2, f3⟩ := hF.2 z2
    refine ⟨sL L 3 t0 (L 3 t0 + lN q), by rw [if_pos e1', hql], ⟨by rw [r11]; exact hn, h40, hok, by rw [r11]; exact hτ, ?_⟩, by funext j; exact sL_at (by omega), by funext j; exact sL_at (by omega)⟩
    intro t ht
    obtain ⟨a1, a2, ⟨F, hF, a3⟩, ⟨F2, hF2, a4⟩⟩ := hs t ht
    have g1 : sm (hcG (sI I 4 m.val 0) (nI t)) n = sm (hcG I (nI t)) n := sm_congr (fun k hkn => by
      by_cases e : k = m.val
      · subst e; rw [hc_closed c4, hc_sell (by rw [rmf 1 (by omega)]; exact e1')]
      · exact hc_congr (rk k e))
    have g2 := sm_upd (g := hgG I (nI t)) (g' := hgG (sI I 4 m.val 0) (nI t)) hm (fun k hkn e => hg_congr (rk k e))
    rw [hg_closed c4] at g2
    have l2 : ∀ j, sL L 3 t0 (L 3 t0 + lN q) 2 j = L 2 j := fun j => sL_at (by omega)
    have l1 : ∀ j, sL L 3 t0 (L 3 t0 + lN q) 1 j = L 1 j := fun j => sL_at (by omega)
    have l0 : ∀ j, sL L 3 t0 (L 3 t0 + lN q) 0 j = L 0 j := fun j => sL_at (by omega)
    by_cases e : t0 = t
    · subst e
      have eF : F0 = F2 := (pk_lEQ (by omega) (by omega)).mp (f1.symm.trans a4)
      subst eF
      have l3 : sL L 3 t0 (L 3 t0 + lN q) 3 t0 = L 3 t0 + lN q := sL_eq
      rw [hg_is rm4 (by rw [rmf 0 (by omega)]; exact e0) (by rw [rmf 1 (by omega)]; exact e1') (by rw [rmf 2 (by omega)]; exact e2) hq] at g2
      refine ⟨by rw [l2, g1]; exact a1, ?_, ⟨F, by omega, ?_⟩, ⟨F0 - q, by omega, ?_⟩⟩
      · rw [l3, g2, a2]; grind
      · unfold fc at a3 ⊢; rw [l0, l2]; exact a3
      · unfold fg at a4 ⊢
        rw [l1, l3, lN_subE f3, ← a4]
        grind
    · have l3 : sL L 3 t0 (L 3 t0 + lN q) 3 t = L 3 t := sL_at (by omega)
      rw [hg_ne (u := t0) (by rw [rmf 0 (by omega)]; exact e0) ht0 ht e] at g2
      refine ⟨by rw [l2, g1]; exact a1, ?_, ⟨F, by omega, ?_⟩, ⟨F2, by omega, ?_⟩⟩
      · rw [l3, g2, a2]; grind
      · unfold fc at a3 ⊢; rw [l0, l2]; exact a3
      · unfold fg at a4 ⊢; rw [l1, l3]; exact a4
theorem ent_st {I : FI} {n : Nat} {t s q p v v' : Int32} : sI (ent I n t s q p v) 4 n v' = ent I n t s q p v' := by
  funext a b
  simp only [ent, sI]
  by_cases h : a = 4 ∧ b = n
  · obtain ⟨rfl, rfl⟩ := h
    simp
  · simp [h]
theorem c_full {I : FI} {L : FL} {n : Nat} (h : I 11 1 = nI n) (hn : n ≤ 40) : fK4_isFull I L = some (if n < 40 then 0 else 1) := by
  have := nI_ltI (a := n) (b := 40) (by omega) (by decide)
  by_cases c : n < 40
  · simp only [fK4_isFull, h, if_pos c]; exact if_pos (this.mpr c)
  · simp only [fK4_isFull, h, if_neg c]; exact if_neg (fun z => c (this.mp z))
theorem r_full {n : Nat} (hn : n ≤ 40) : (nI n = (40 : Int32)) ↔ ¬ n < 40 := by
  have := nI_eq (a := n) (b := 40) (by omega) (by decide)
  constructor
  · intro h; have := this.mp h; omega
  · intro h; exact this.mpr (by omega)
theorem stop_rel {I J : FI} {L K : FL} {n B T t s q p : Nat} (hI : Inv I L n B T) (hR : Rr I J) (hL : Rl L K) (h1 : I 15 1 = nI t) (h2 : I 15 2 = nI s) (h3 : I 15 3 = nI q) (h4 : I 15 4 = nI p) (ht : t < 8) (hs : s < 2) (hq : q ≤ 9999) (hp : p ≤ 9999) :
    ∃ (r : Int32) (I' : FI) (L' : FL) (J' : FI) (K' : FL), fK2_placeStop I L = some (r, I', L') ∧ (if J 11 1 = 40 then some (-15, J, K) else fK8_fresh (nI t) (nI s) (nI q) (nI p) 1 J K) = some (r, J', K') ∧ Out I J B T I' L' J' K' := by
  have h40 := hI.2.1
  have hnJ : J 11 1 = nI n := by rw [hR.at (by omega)]; exact hI.1
  by_cases c : n < 40
  · have nf : ¬ nI n = (40 : Int32) := fun z => (r_full h40).mp z c
    refine ⟨nI n, ent I n (nI t) (nI s) (nI q) (nI p) 1, L, ent J n (nI t) (nI s) (nI q) (nI p) 1, K, ?_, ?_, Rr_ent hR, hL, ⟨n + 1, inv_ent hI c ht hs hq hp (Or.inl rfl)⟩, ent_old (by omega) (by omega), ent_old (by omega) (by omega)⟩
    · simp only [fK2_placeStop, c_full hI.1 h40, if_pos c, bn_eq, if_true, c_enter hI.1 c, bq_eq, g40_nI _ c, nm_eq, h1, h2, h3, h4, ent_st]
    · rw [hnJ, if_neg nf, r_fresh hnJ c]
  · have nf : nI n = (40 : Int32) := (r_full h40).mpr c
    refine ⟨-15, I, L, J, K, ?_, by rw [hnJ, if_pos nf], Out.same hI hR hL (by omega) (by omega)⟩
    simp only [fK2_placeStop, c_full hI.1 h40, if_neg c, bn_eq]
    exact if_neg (by decide)
/-- funds -/
theorem c_funds {I : FI} {L : FL} {t s q p F G : Nat} (h1 : I 15 1 = nI t) (h2 : I 15 2 = nI s) (h3 : I 15 3 = nI q) (h4 : I 15 4 = nI p) (ht : t < 8) (hs : s < 2) (hq : q ≤ 9999) (hp : p ≤ 9999) (hF : fc L t = lN F) (hG : fg L t = lN G) (hF2 : F < 2 ^ 60) (hG2 : G < 2 ^ 60) :
    fK2_hasFunds I L = some (if s = 1 then (if G < q then 0 else 1) else (if F < q * p then 0 else 1)) := by
  have hF' : L 0 t - L 2 t = lN F := hF
  have hG' : L 1 t - L 3 t = lN G := hG
  have hqp := pq_le hq hp
  rcases nI_01 hs with ⟨z1, z2⟩ | ⟨z1, z2⟩
  · subst z2
    have := lN_ex (a := F) (b := q * p) (by omega) (by omega)
    simp only [fK2_hasFunds, h1, g8_nI _ ht, h2, if_neg (show ¬ nI 0 = 1 by decide), fK0_freeCash, hF', bn_eq, h3, h4, nIl (show q < 2 ^ 31 by omega), nIl (show p < 2 ^ 31 by omega), lN_mul, lg_lt, if_neg (show ¬ (0 : Nat) = 1 by omega)]
    by_cases c : F < q * p
    · rw [if_pos (this.mpr c), if_pos c]
    · rw [if_neg (fun z => c (this.mp z)), if_neg c]
  · subst z2
    have := lN_ex (a := G) (b := q) (by omega) (by omega)
    simp only [fK2_hasFunds, h1, g8_nI _ ht, h2, if_pos (show nI 1 = 1 from rfl), fK0_freeGoods, hG', bn_eq, h3, nIl (show q < 2 ^ 31 by omega), lg_lt, if_true]
    by_cases c : G < q
    · rw [if_pos (this.mpr c), if_pos c]
    · rw [if_neg (fun z => c (this.mp z)), if_neg c]
theorem any_rel {I J : FI} {L K : FL} {n B T t s q : Nat} (hI : Inv I L n B T) (hR : Rr I J) (hL : Rl L K) (h1 : I 15 1 = nI t) (h2 : I 15 2 = nI s) (h3 : I 15 3 = nI q) (h4 : I 15 4 = nI 0) (ht : t < 8) (hs : s < 2) (hq : q ≤ 9999) (hB : B + 4200000000 < 2 ^ 60) (hT : T + 42 < 2 ^ 30) :
    ∃ (r : Int32) (I' : FI) (L' : FL) (J' : FI) (K' : FL), fK2_placeAny I L = some (r, I', L') ∧ (if J 11 1 = 40 then some (-15, J, K) else (if nI s = 1 then bn (fK8_freeGoods (nI t) J K) (fun r_14 => (if 0 ≤ (lg_cmp r_14 (nI q).toInt64) then fK8_ordered_76 (nI s) (nI t) (nI q) J K else some ((-16), J, K))) else fK8_ordered_76 (nI s) (nI t) (nI q) J K)) = some (r, J', K') ∧ Out I J (B + 4200000000) (T + 42) I' L' J' K' := by
  have h40 := hI.2.1
  have hnJ : J 11 1 = nI n := by rw [hR.at (by omega)]; exact hI.1
  obtain ⟨-, -, ⟨F, hFB, hFe⟩, ⟨G, hGB, hGe⟩⟩ := hI.2.2.2.2 t ht
  obtain ⟨-, fgr⟩ := r_free hI hR hL ht
  have fun_c := c_funds (I := I) (L := L) (p := 0) h1 h2 h3 h4 ht hs hq (by omega) hFe hGe (by omega) (by omega)
  by_cases c : n < 40
  · have nf : ¬ nI n = (40 : Int32) := fun z => (r_full h40).mp z c
    -- once it comes
    have come : (s = 1 → q ≤ G) → ∃ (r : Int32) (I' : FI) (L' : FL) (J' : FI) (K' : FL), fK2_placeAny_32 I L = some (r, I', L') ∧ fK8_ordered_76 (nI s) (nI t) (nI q) J K = some (r, J', K') ∧ Out I J (B + 4200000000) (T + 42) I' L' J' K' := by
      intro hsG
      obtain ⟨n0, n1, n2, n3, n4, n5, n6⟩ := ent_new (I := I) (n := n) (t := nI t) (s := nI s) (q := nI q) (p := nI 0) (v := 2)
      have hE := inv_ent hI c ht hs hq (show 0 ≤ 9999 by omega) (v := 2) (Or.inr rfl)
      obtain ⟨I', L', J', K', q', m1, m2, r3, r4, r5, -, -, -, r9, r10⟩ := meet40 (o := ⟨n, c⟩) (a := 1) (lim := 0) (q := q) (lo := q) ht hs (by omega) (Or.inr ⟨rfl, rfl⟩) (show n < n + 1 by omega) hE (Rr_ent hR) hL n4 n0 n1 n2 (fun z => absurd z (by decide)) hq (Nat.le_refl q) ⟨fun _ z => absurd rfl z, fun z => ⟨G, hGe, hGB, hsG z⟩⟩ hB hT
      refine ⟨nI n, I', L', J', K', ?_, ?_, r3, r4, ⟨n + 1, r5⟩, ?_, ?_⟩
      · have w3 : ent I n (nI t) (nI s) (nI q) (nI 0) 2 15 3 = nI q := by rw [ent_old (by omega) (by omega)]; exact h3
        have m1' : fK2_meet ⟨n, c⟩ 0 (nI q) (ent I n (nI t) (nI s) (nI q) (nI 0) 2) L = some (I', L') := m1
        simp only [fK2_placeAny_32, c_enter hI.1 c, bq_eq, g40_nI _ c, h1, h2, h3, h4, w3, m1', bv_eq]
      · have m2' : fK8_meets (nI n) (nI q) 1 (ent J n (nI t) (nI s) (nI q) 0 2) K = some (J', K') := m2
        simp only [fK8_ordered_76, r_fresh hnJ c, bq_eq, m2', bv_eq]
      · rw [r9.2.1 0 (by omega) (by omega)]; exact ent_old (by omega) (by omega)
      · rw [r10]; exact ent_old (by omega) (by omega)
    rw [hnJ, if_neg nf]
    rcases nI_01 hs with ⟨z1, z2⟩ | ⟨z1, z2⟩
    · subst z2
      obtain ⟨r, I', L', J', K', a1, a2, a3⟩ := come (fun z => absurd z (by omega))
      refine ⟨r, I', L', J', K', ?_, by rw [if_neg (show ¬ nI 0 = 1 by decide)]; exact a2, a3⟩
      simp only [fK2_placeAny, c_full hI.1 h40, if_pos c, bn_eq, if_true, h2, if_neg (show ¬ nI 0 = 1 by decide)]
      exact a1
    · subst z2
      rw [if_pos (show nI 1 = 1 from rfl), fgr, bn_eq, hGe, nIl (show q < 2 ^ 31 by omega)]
      have lt := lN_ex (a := G) (b := q) (by omega) (by omega)
      have cs : fK2_placeAny I L = (if G < q then some (-16, I, L) else fK2_placeAny_32 I L) := by
        simp only [fK2_placeAny, c_full hI.1 h40, if_pos c, bn_eq, if_true, h2, if_pos (show nI 1 = 1 from rfl), fun_c]
        by_cases z : G < q
        · simp only [if_pos z, if_true]
        · simp only [if_neg z, if_neg (show ¬ (1 : Int32) = 0 by decide)]
      by_cases z : G < q
      · refine ⟨-16, I, L, J, K, by rw [cs, if_pos z], ?_, Out.same hI hR hL (by omega) (by omega)⟩
        rw [if_neg (fun y => (lg_ge.mp y) (lt.mpr z))]
      · obtain ⟨r, I', L', J', K', a1, a2, a3⟩ := come (fun _ => by omega)
        exact ⟨r, I', L', J', K', by rw [cs, if_neg z]; exact a1, by rw [if_pos (lg_ge.mpr (fun y => z (lt.mp y)))]; exact a2, a3⟩
  · have nf : nI n = (40 : Int32) := (r_full h40).mpr c
    refine ⟨-15, I, L, J, K, ?_, by rw [hnJ, if_pos nf], Out.same hI hR hL (by omega) (by omega)⟩
    simp only [fK2_placeAny, c_full hI.1 h40, if_neg c, bn_eq]
    exact if_neg (by decide)
