/-! PURE PART 11: less; amounts -/
theorem inv_less {I : FI} {L : FL} {n B T : Nat} (hI : Inv I L n B T) (m : Fin 40) (hm : m.val < n) {q y : Nat} (h2 : I 2 m.val = nI q) (hq9 : q ≤ 9999) (hy : y ≤ q) : ∃ L', (if I 4 m.val = 0 then bv (fK2_hold m (-(nI y)) I L) (fun I_9 L_10 => fK2_lessen_56 m I_9 L_10) else fK2_lessen_56 m I L) = fK2_lessen_56 m I L' ∧ Inv (sI I 2 m.val (nI (q - y))) L' n (B + 100000000) T ∧ L' 0 = L 0 ∧ L' 1 = L 1 := by
  obtain ⟨hn, h40, hk, hτ, hs⟩ := hI
  obtain ⟨t0, s, q0, p, ht0, hs2, hq0, hp, e0, e1, e2, e3, e4, e5⟩ := hk m.val hm
  have hqq : q0 = q := (nI_eq (by omega) (by omega)).mp (e2.symm.trans h2)
  subst hqq
  have hx : (-(nI y)).toInt64 = - lN y := neg_l (by omega)
  have r11 : ∀ j, sI I 2 m.val (nI (q0 - y)) 11 j = I 11 j := fun j => sI_at (by omega)
  have rk : ∀ k, k ≠ m.val → ∀ f, f ≤ 4 → sI I 2 m.val (nI (q0 - y)) f k = I f k := fun k hk f _ => sI_at (by omega)
  have rm2 : sI I 2 m.val (nI (q0 - y)) 2 m.val = nI (q0 - y) := sI_eq
  have rmf : ∀ f, f ≠ 2 → sI I 2 m.val (nI (q0 - y)) f m.val = I f m.val := fun f hf => sI_at (by omega)
  have hok : ∀ k, k < n → OK1 (sI I 2 m.val (nI (q0 - y))) k := by
    intro k hkn
    by_cases e : k = m.val
    · subst e
      refine ⟨t0, s, q0 - y, p, ht0, hs2, by omega, hp, by rw [rmf 0 (by omega)]; exact e0, by rw [rmf 1 (by omega)]; exact e1, rm2, by rw [rmf 3 (by omega)]; exact e3, by rw [rmf 4 (by omega)]; exact e4, by rw [rmf 4 (by omega)]; exact e5⟩
    · exact (hk k hkn).congr (rk k e)
  by_cases h4 : I 4 m.val = 0
  · rw [if_pos h4, c_hold e0 ht0, bv_eq]
    rcases nI_01 hs2 with ⟨z1, z2⟩ | ⟨z1, z2⟩
    · have e1' : I 1 m.val = 0 := by rw [e1]; exact z1
      have ne1 : ¬ I 1 m.val = 1 := by rw [e1']; decide
      rw [if_neg ne1]
      refine ⟨_, rfl, ⟨by rw [r11]; exact hn, h40, hok, by rw [r11]; exact hτ, ?_⟩, ?_, ?_⟩
      · intro t ht
        obtain ⟨a1, a2, ⟨F, hF, a3⟩, ⟨F2, hF2, a4⟩⟩ := hs t ht
        have g1 : sm (hgG (sI I 2 m.val (nI (q0 - y))) (nI t)) n = sm (hgG I (nI t)) n := sm_congr (fun k hkn => by
          by_cases e : k = m.val
          · subst e; rw [hg_buy (by rw [rmf 1 (by omega)]; exact e1'), hg_buy e1']
          · exact hg_congr (rk k e))
        have g2 := sm_upd (g := hcG I (nI t)) (g' := hcG (sI I 2 m.val (nI (q0 - y))) (nI t)) hm (fun k hkn e => hc_congr (rk k e))
        have l3 : ∀ j, sL L 2 t0 (L 2 t0 + (-(nI y)).toInt64 * (I 3 m.val).toInt64) 3 j = L 3 j := fun j => sL_at (by omega)
        have l1 : ∀ j, sL L 2 t0 (L 2 t0 + (-(nI y)).toInt64 * (I 3 m.val).toInt64) 1 j = L 1 j := fun j => sL_at (by omega)
        have l0 : ∀ j, sL L 2 t0 (L 2 t0 + (-(nI y)).toInt64 * (I 3 m.val).toInt64) 0 j = L 0 j := fun j => sL_at (by omega)
        by_cases e : t0 = t
        · subst e
          have l2 : sL L 2 t0 (L 2 t0 + (-(nI y)).toInt64 * (I 3 m.val).toInt64) 2 t0 = L 2 t0 - lN (y * p) := by
            rw [sL_eq, hx, e3, nIl (show p < 2 ^ 31 by omega), ← lN_mul]
            grind
          rw [hc_is h4 e0 e1' e2 e3 hq9 hp, hc_is (by rw [rmf 4 (by omega)]; exact h4) (by rw [rmf 0 (by omega)]; exact e0) (by rw [rmf 1 (by omega)]; exact e1') rm2 (by rw [rmf 3 (by omega)]; exact e3) (by omega) hp, Nat.sub_mul, lN_subE (Nat.mul_le_mul_right p hy)] at g2
          have hyp : y * p ≤ 100000000 := pq_le (by omega) hp
          refine ⟨?_, by rw [l3, g1]; exact a2, ⟨F + y * p, by omega, ?_⟩, ⟨F2, by omega, ?_⟩⟩
          · rw [l2, g2, ← a1]; grind
          · unfold fc at a3 ⊢
            rw [l0, l2, ← lN_add, ← a3]
            grind
          · unfold fg at a4 ⊢; rw [l1, l3]; exact a4
        · have l2 : sL L 2 t0 (L 2 t0 + (-(nI y)).toInt64 * (I 3 m.val).toInt64) 2 t = L 2 t := sL_at (by omega)
          rw [hc_ne e0 ht0 ht e, hc_ne (u := t0) (by rw [rmf 0 (by omega)]; exact e0) ht0 ht e] at g2
          refine ⟨?_, by rw [l3, g1]; exact a2, ⟨F, by omega, ?_⟩, ⟨F2, by omega, ?_⟩⟩
          · rw [l2, g2, a1]; grind
          · unfold fc at a3 ⊢; rw [l0, l2]; exact a3
          · unfold fg at a4 ⊢; rw [l1, l3]; exact a4
      · funext j; exact sL_at (by omega)
      · funext j; exact sL_at (by omega)
    · have e1' : I 1 m.val = 1 := by rw [e1]; exact z1
      rw [if_pos e1']
      refine ⟨_, rfl, ⟨by rw [r11]; exact hn, h40, hok, by rw [r11]; exact hτ, ?_⟩, ?_, ?_⟩
      · intro t ht
        obtain ⟨a1, a2, ⟨F, hF, a3⟩, ⟨F2, hF2, a4⟩⟩ := hs t ht
        have g1 : sm (hcG (sI I 2 m.val (nI (q0 - y))) (nI t)) n = sm (hcG I (nI t)) n := sm_congr (fun k hkn => by
          by_cases e : k = m.val
          · subst e; rw [hc_sell (by rw [rmf 1 (by omega)]; exact e1'), hc_sell e1']
          · exact hc_congr (rk k e))
        have g2 := sm_upd (g := hgG I (nI t)) (g' := hgG (sI I 2 m.val (nI (q0 - y))) (nI t)) hm (fun k hkn e => hg_congr (rk k e))
        have l2 : ∀ j, sL L 3 t0 (L 3 t0 + (-(nI y)).toInt64) 2 j = L 2 j := fun j => sL_at (by omega)
        have l1 : ∀ j, sL L 3 t0 (L 3 t0 + (-(nI y)).toInt64) 1 j = L 1 j := fun j => sL_at (by omega)
        have l0 : ∀ j, sL L 3 t0 (L 3 t0 + (-(nI y)).toInt64) 0 j = L 0 j := fun j => sL_at (by omega)
        by_cases e : t0 = t
        · subst e
          have l3 : sL L 3 t0 (L 3 t0 + (-(nI y)).toInt64) 3 t0 = L 3 t0 - lN y := by
            rw [sL_eq, hx]
            grind
          rw [hg_is h4 e0 e1' e2 hq9, hg_is (by rw [rmf 4 (by omega)]; exact h4) (by rw [rmf 0 (by omega)]; exact e0) (by rw [rmf 1 (by omega)]; exact e1') rm2 (by omega), lN_subE hy] at g2
          refine ⟨by rw [l2, g1]; exact a1, ?_, ⟨F, by omega, ?_⟩, ⟨F2 + y, by omega, ?_⟩⟩
          · rw [l3, g2, ← a2]; grind
          · unfold fc at a3 ⊢; rw [l0, l2]; exact a3
          · unfold fg at a4 ⊢
            rw [l1, l3, ← lN_add, ← a4]
            grind
        · have l3 : sL L 3 t0 (L 3 t0 + (-(nI y)).toInt64) 3 t = L 3 t := sL_at (by omega)
          rw [hg_ne e0 ht0 ht e, hg_ne (u := t0) (by rw [rmf 0 (by omega)]; exact e0) ht0 ht e] at g2
          refine ⟨by rw [l2, g1]; exact a1, ?_, ⟨F, by omega, ?_⟩, ⟨F2, by omega, ?_⟩⟩
          · rw [l3, g2, a2]; grind
          · unfold fc at a3 ⊢; rw [l0, l2]; exact a3
          · unfold fg at a4 ⊢; rw [l1, l3]; exact a4
      · funext j; exact sL_at (by omega)
      · funext j; exact sL_at (by omega)
  · rw [if_neg h4]
    refine ⟨L, rfl, ⟨by rw [r11]; exact hn, h40, hok, by rw [r11]; exact hτ, ?_⟩, rfl, rfl⟩
    intro t ht
    obtain ⟨a1, a2, ⟨F, hF, a3⟩, ⟨F2, hF2, a4⟩⟩ := hs t ht
    refine ⟨?_, ?_, ⟨F, by omega, a3⟩, ⟨F2, by omega, a4⟩⟩
    · rw [a1]; exact sm_congr (fun k hkn => by
        by_cases e : k = m.val
        · subst e; rw [hc_closed h4, hc_closed (by rw [rmf 4 (by omega)]; exact h4)]
        · exact (hc_congr (rk k e)).symm)
    · rw [a2]; exact sm_congr (fun k hkn => by
        by_cases e : k = m.val
        · subst e; rw [hg_closed h4, hg_closed (by rw [rmf 4 (by omega)]; exact h4)]
        · exact (hg_congr (rk k e)).symm)
theorem less_rel {I J : FI} {L K : FL} {n B T t x y : Nat} (hI : Inv I L n B T) (hR : Rr I J) (hL : Rl L K) (h1 : I 15 1 = nI t) (h7 : I 15 7 = nI x) (h8 : I 15 8 = nI y) (ht : t < 8) (hx : x ≤ 9999999) (hy : y ≤ 9999999) {w : Int32} :
    ∃ (r : Int32) (I' : FI) (L' : FL) (J' : FI) (K' : FL), fK2_lessen I L = some (r, I', L') ∧ fK8_done_373 1 (nI t) (nI x) (nI y) w w J K = some (r, J', K') ∧ Out I J (B + 100000000) T I' L' J' K' := by
  have h40 := hI.2.1
  have hnJ : J 11 1 = nI n := by rw [hR.at (by omega)]; exact hI.1
  have a : ¬ nI x < 0 := nI_pos (by omega)
  have b : ¬ nI t < 0 := nI_pos (by omega)
  have z0 : (0 : Int32) ≤ nI y := nI_pos' (by omega)
  have n10 : ¬ (1 : Int32) = 0 := by decide
  rcases target (L := L) hI h1 h7 ht hx with ⟨c, e⟩ | ⟨hx2, hxn, hh⟩
  · refine ⟨-12, I, L, J, K, ?_, ?_, Out.same hI hR hL (by omega) (by omega)⟩
    · simp only [fK2_lessen, e, bn_eq]; exact if_neg (by decide)
    · have le : ¬ nI x < nI n := nI_nlt c (by omega)
      simp only [fK8_done_373, if_true, if_neg b, if_neg a, if_pos z0, hnJ, if_neg le]
  · have lt : nI x < nI n := nI_lt hxn (by omega)
    have e1 : inb (nI x) 40 = true := inb_nI hx2 (by decide)
    have e2 : (nI x).toNatClampNeg = x := nI_clamp (by omega)
    have q0 : J 0 x = I 0 x := hR.at (by omega)
    have q4 : J 4 x = I 4 x := hR.at (by omega)
    have q2 : J 2 x = I 2 x := hR.at (by omega)
    have rs : fK8_done_373 1 (nI t) (nI x) (nI y) w w J K = (if I 0 x = nI t then (if I 4 x = 2 then some (-14, J, K) else (if nI y < I 2 x then some (sI J 2 x (I 2 x - nI y) 2 x, sI J 2 x (I 2 x - nI y), K) else some (-11, J, K))) else some (-13, J, K)) := by
      simp only [fK8_done_373, if_true, if_neg b, if_neg a, if_pos z0, hnJ, if_pos lt, e1, e2, ck_tt, q0, q4, q2, nm_eq, if_neg n10]
    rcases hh with ⟨c1, e⟩ | ⟨c1, c2, e⟩ | ⟨c1, c2, e⟩
    · refine ⟨-13, I, L, J, K, ?_, by rw [rs, if_neg c1], Out.same hI hR hL (by omega) (by omega)⟩
      simp only [fK2_lessen, e, bn_eq]; exact if_neg (by decide)
    · refine ⟨-14, I, L, J, K, ?_, by rw [rs, if_pos c1, if_pos c2], Out.same hI hR hL (by omega) (by omega)⟩
      simp only [fK2_lessen, e, bn_eq]; exact if_neg (by decide)
    · obtain ⟨t0, s0, q, p0, -, -, hq, -, -, -, e2q, -⟩ := hI.2.2.1 x hxn
      have cs : fK2_lessen I L = (if nI y < I 2 x then (if I 4 x = 0 then bv (fK2_hold ⟨x, hx2⟩ (-(nI y)) I L) (fun I_9 L_10 => fK2_lessen_56 ⟨x, hx2⟩ I_9 L_10) else fK2_lessen_56 ⟨x, hx2⟩ I L) else some (-11, I, L)) := by
        simp only [fK2_lessen, e, bn_eq, if_true, h7, g40_nI _ hx2, h8]
      by_cases c3 : nI y < I 2 x
      · have hyq : y < q := by
          rw [e2q] at c3
          exact (nI_ltI (by omega) (by omega)).mp c3
        obtain ⟨L', hl, hI', l0, l1⟩ := inv_less hI ⟨x, hx2⟩ hxn e2q hq (show y ≤ q by omega)
        have hv : I 2 x - nI y = nI (q - y) := by rw [e2q, nI_subE (by omega)]
        refine ⟨nI (q - y), sI I 2 x (nI (q - y)), L', sI J 2 x (nI (q - y)), K, ?_, ?_, hR.set, ⟨by rw [l0]; exact hL.1, by rw [l1]; exact hL.2⟩, ⟨n, hI'⟩, sI_at (by omega), sI_at (by omega)⟩
        · have hl' : (if I 4 x = 0 then bv (fK2_hold ⟨x, hx2⟩ (-(nI y)) I L) (fun I_9 L_10 => fK2_lessen_56 ⟨x, hx2⟩ I_9 L_10) else fK2_lessen_56 ⟨x, hx2⟩ I L) = fK2_lessen_56 ⟨x, hx2⟩ I L' := hl
          rw [cs, if_pos c3, hl']
          simp only [fK2_lessen_56, nm_eq, h8, hv, sI_eq]
        · rw [rs, if_pos c1, if_neg c2, if_pos c3, hv, sI_eq]
      · refine ⟨-11, I, L, J, K, by rw [cs, if_neg c3], by rw [rs, if_pos c1, if_neg c2, if_neg c3], Out.same hI hR hL (by omega) (by omega)⟩
/-- cash, goods, take -/
theorem inv_cash {I : FI} {L : FL} {n B T t : Nat} (hI : Inv I L n B T) (ht : t < 8) {v : Int64} {F' : Nat} (h : fc L t + v = lN F') (hF : F' ≤ B + 100000000) : Inv I (sL L 0 t (L 0 t + v)) n (B + 100000000) T := by
  obtain ⟨a, b, c, d, e⟩ := hI
  refine ⟨a, b, c, d, fun x hx => ?_⟩
  obtain ⟨e1, e2, ⟨F, f1, f2⟩, ⟨G, g1, g2⟩⟩ := e x hx
  refine ⟨by rw [sL_at (by omega)]; exact e1, by rw [sL_at (by omega)]; exact e2, ?_, ⟨G, by omega, by unfold fg at g2 ⊢; rw [sL_at (by omega), sL_at (by omega)]; exact g2⟩⟩
  by_cases z : x = t
  · subst z
    refine ⟨F', hF, ?_⟩
    rw [← h]
    unfold fc
    rw [sL_eq, sL_at (by omega)]
    grind
  · refine ⟨F, by omega, ?_⟩
    unfold fc at f2 ⊢
    rw [sL_at (by omega), sL_at (by omega)]
    exact f2
theorem inv_goods {I : FI} {L : FL} {n B T t : Nat} (hI : Inv I L n B T) (ht : t < 8) {v : Int64} {F' : Nat} (h : fg L t + v = lN F') (hF : F' ≤ B + 100000000) : Inv I (sL L 1 t (L 1 t + v)) n (B + 100000000) T := by
  obtain ⟨a, b, c, d, e⟩ := hI
  refine ⟨a, b, c, d, fun x hx => ?_⟩
  obtain ⟨e1, e2, ⟨F, f1, f2⟩, ⟨G, g1, g2⟩⟩ := e x hx
  refine ⟨by rw [sL_at (by omega)]; exact e1, by rw [sL_at (by omega)]; exact e2, ⟨F, by omega, by unfold fc at f2 ⊢; rw [sL_at (by omega), sL_at (by omega)]; exact f2⟩, ?_⟩
  by_cases z : x = t
  · subst z
    refine ⟨F', hF, ?_⟩
    rw [← h]
    unfold fg
    rw [sL_eq, sL_at (by omega)]
    grind
  · refine ⟨G, by omega, ?_⟩
    unfold fg at g2 ⊢
    rw [sL_at (by omega), sL_at (by omega)]
    exact g2
/-- the reference's amounts: which of the three words it was -/
def amtR (v : Nat) (t y : Nat) (J : FI) (K : FL) : Option (Int32 × FI × FL) := if v = 1 then some (nI y, J, sL K 0 t (K 0 t + lN y)) else if v = 2 then some (nI y, J, sL K 1 t (K 1 t + lN y)) else bn (fK8_freeCash (nI t) J K) (fun r => if r < lN y then some (-16, J, K) else some (nI y, J, sL K 0 t (K 0 t - lN y)))
theorem amount_rel {I J : FI} {L K : FL} {n B T t y v : Nat} (hI : Inv I L n B T) (hR : Rr I J) (hL : Rl L K) (h0 : I 15 0 = nI v) (hv : v = 1 ∨ v = 2 ∨ v = 3) (h1 : I 15 1 = nI t) (h8 : I 15 8 = nI y) (ht : t < 8) (hy : y ≤ 9999999) (hB : B < 2 ^ 60) :
    ∃ (r : Int32) (I' : FI) (L' : FL) (J' : FI) (K' : FL), fK2_moveAmount I L = some (r, I', L') ∧ amtR v t y J K = some (r, J', K') ∧ Out I J (B + 100000000) T I' L' J' K' := by
  obtain ⟨-, -, ⟨F, hFB, hFe⟩, ⟨G, hGB, hGe⟩⟩ := hI.2.2.2.2 t ht
  have hyl : (nI y).toInt64 = lN y := nIl (by omega)
  rcases hv with rfl | rfl | rfl
  · refine ⟨nI y, I, sL L 0 t (L 0 t + lN y), J, sL K 0 t (K 0 t + lN y), ?_, ?_, hR, hL.setv (by rw [hL.1]), ⟨n, inv_cash hI ht (by rw [hFe, lN_add]) (by omega)⟩, rfl, rfl⟩
    · simp only [fK2_moveAmount, h1, g8_nI _ ht, h0, h8, hyl, nm_eq, if_neg (show ¬ nI 1 = 2 by decide), if_pos (show nI 1 = 1 from rfl)]
    · simp only [amtR, if_true]
  · refine ⟨nI y, I, sL L 1 t (L 1 t + lN y), J, sL K 1 t (K 1 t + lN y), ?_, ?_, hR, hL.setv (by rw [hL.2]), ⟨n, inv_goods hI ht (by rw [hGe, lN_add]) (by omega)⟩, rfl, rfl⟩
    · simp only [fK2_moveAmount, h1, g8_nI _ ht, h0, h8, hyl, nm_eq, if_pos (show nI 2 = 2 from rfl)]
    · simp only [amtR, if_neg (show ¬ (2 : Nat) = 1 by omega), if_true]
  · obtain ⟨fr, -⟩ := r_free hI hR hL ht
    have hFe' : L 0 t - L 2 t = lN F := hFe
    have cs : fK2_moveAmount I L = (if lN F < lN y then some (-16, I, L) else some (nI y, I, sL L 0 t (L 0 t - lN y))) := by
      simp only [fK2_moveAmount, h1, g8_nI _ ht, h0, h8, hyl, nm_eq, if_neg (show ¬ nI 3 = 2 by decide), if_neg (show ¬ nI 3 = 1 by decide), fK0_freeCash, hFe', bn_eq, lg_ge]
      by_cases c : lN F < lN y
      · rw [if_neg (fun z => z c), if_pos c]
      · rw [if_pos c, if_neg c]
    have rs : amtR 3 t y J K = (if lN F < lN y then some (-16, J, K) else some (nI y, J, sL K 0 t (K 0 t - lN y))) := by
      simp only [amtR, if_neg (show ¬ (3 : Nat) = 1 by omega), if_neg (show ¬ (3 : Nat) = 2 by omega), fr, bn_eq, hFe]
    by_cases c : lN F < lN y
    · exact ⟨-16, I, L, J, K, by rw [cs, if_pos c], by rw [rs, if_pos c], Out.same hI hR hL (by omega) (by omega)⟩
    · have hle : y ≤ F := by
        rcases Nat.lt_or_ge F y with z | z
        · exact absurd ((lN_ex (by omega) (by omega)).mpr z) c
        · exact z
      refine ⟨nI y, I, sL L 0 t (L 0 t - lN y), J, sL K 0 t (K 0 t - lN y), by rw [cs, if_neg c], by rw [rs, if_neg c], hR, hL.setv (by rw [hL.1]), ⟨n, ?_⟩, rfl, rfl⟩
      have e : L 0 t - lN y = L 0 t + -lN y := by grind
      rw [e]
      exact inv_cash (F' := F - y) hI ht (by rw [hFe, lN_subE hle]; grind) (by omega)
