/-! PURE PART 19: cancel, less, stop; no such line -/
section V2
variable {I0 J : FI} {L K : FL} {w z n B T : Nat}
/-- what the reference asks of the first word, when it is none of the first six texts -/
theorem d_325 (hC : RC I0 J w z) (h : (SW I0 w 0 12 = true) ∨ (SW I0 w 0 13 = true)) : fK8_done J K = fK8_done_325 J K := by
  have g9 := g_is (K := K) hC 9 15 (by decide) rfl rfl
  have g10 := g_is (K := K) hC 10 16 (by decide) rfl rfl
  have g11 := g_is (K := K) hC 11 17 (by decide) rfl rfl
  have g0 := g_is (K := K) hC 0 18 (by decide) rfl rfl
  have g1 := g_is (K := K) hC 1 19 (by decide) rfl rfl
  have g8 := g_is (K := K) hC 8 26 (by decide) rfl rfl
  have g12 := g_is (K := K) hC 12 27 (by decide) rfl rfl
  have g13 := g_is (K := K) hC 13 28 (by decide) rfl rfl
  rcases h with h | h
  · have hx := firsts (show 12 < 15 by omega) h
    simp only [fK8_done, g9, g10, g11, g0, g1, g8, g12, bn_eq, hx 0 (by omega) (by omega), hx 1 (by omega) (by omega), hx 8 (by omega) (by omega), hx 9 (by omega) (by omega), hx 10 (by omega) (by omega), hx 11 (by omega) (by omega), h, b2t, b2f, if_true, if_neg i10]
  · have hx := firsts (show 13 < 15 by omega) h
    simp only [fK8_done, g9, g10, g11, g0, g1, g8, g12, g13, bn_eq, hx 0 (by omega) (by omega), hx 1 (by omega) (by omega), hx 8 (by omega) (by omega), hx 9 (by omega) (by omega), hx 10 (by omega) (by omega), hx 11 (by omega) (by omega), hx 12 (by omega) (by omega), h, b2t, b2f, if_true, if_neg i10]
theorem v_cancel (hI : Inv I0 L n B T) (hR : Rr I0 J) (hL : Rl L K) (hC : RC I0 J w z) (h : SW I0 w 0 12 = true) : Vb I0 J L K B T := by
  have hx := firsts (show 12 < 15 by omega) h
  have sf : ∀ i, i < 15 → fK5_says 0 i I0 L = some (b2i (SW I0 w 0 i)) := fun i hi => f_says hC (by simp only [nJS]; omega)
  have rd : rdC I0 L = bq (fK1_readCancel I0 L) (fun r I L => nm (sI I 15 0 r) (fun I => some (I, L))) := by
    simp only [rdC, sf 0 (by omega), sf 1 (by omega), sf 8 (by omega), sf 9 (by omega), sf 10 (by omega), sf 11 (by omega), sf 12 (by omega), bn_eq, hx 0 (by omega) (by omega), hx 1 (by omega) (by omega), hx 8 (by omega) (by omega), hx 9 (by omega) (by omega), hx 10 (by omega) (by omega), hx 11 (by omega) (by omega), h, b2t, b2f, if_true, if_neg i10]
  have g13 := g_is (K := K) hC 13 28 (by decide) rfl rfl
  have pw' : fK8_whose 1 J K = some (lim 0 7 (NW I0 w 1)) := p_whose (K := K) (k := 1) hC (by omega)
  have pa' : fK8_any 2 J K = some (NW I0 w 2) := p_any (K := K) (k := 2) hC (by omega)
  have rs : fK8_done J K = fK8_done_373 0 (lim 0 7 (NW I0 w 1)) (NW I0 w 2) 0 3 (nI w) J K := by
    rw [d_325 hC (Or.inl h)]
    simp only [fK8_done_325, g13, bn_eq, hx 13 (by omega) (by omega), b2f, pw', pa', if_true, fK8_done_358, hC.1]
  have pnT : PN (lim 0 7 (NW I0 w 1)) := pn_lim (a := 0) (b := 7) hC 1 (by decide) (by decide)
  have pnN := pn_nw hC 2
  have q2 : fK5_number 2 I0 L = some (NW I0 w 2) := q_number (k := 2) Sc.rf hC.2.1 hC.2.2.1 hC.2.2.2.1 hC.2.2.2.2.1 (by omega)
  have qo : fK1_readOwner 1 (sI I0 15 7 (NW I0 w 2)) L = some (if lim 0 7 (NW I0 w 1) = -1 then 0 else 1, sI (sI I0 15 7 (NW I0 w 2)) 15 1 (lim 0 7 (NW I0 w 1)), L) := q_owner (k := 1) Sc.rf.set hC.2.1 hC.2.2.1 hC.2.2.2.1 hC.2.2.2.2.1 (by omega)
  have a12 : sI I0 15 7 (NW I0 w 2) 12 0 = nI w := by rw [sI_at (by omega)]; exact hC.2.2.2.1
  have a7 : sI (sI I0 15 7 (NW I0 w 2)) 15 1 (lim 0 7 (NW I0 w 1)) 15 7 = NW I0 w 2 := by rw [sI_at (by omega), sI_eq]
  have w3 := wI hC 3 (by omega)
  by_cases c3 : w = 3
  · have c3' : nI w = 3 := w3.mpr c3
    by_cases ct : lim 0 7 (NW I0 w 1) = -1
    · refine vb_no hI hR hL (I2 := sI (sI (sI I0 15 7 (NW I0 w 2)) 15 1 (lim 0 7 (NW I0 w 1))) 15 0 0) (Sc.rf.set.set.set) ?_ sI_eq ?_
      · rw [rd]
        simp only [fK1_readCancel, q2, bn_eq, nm_eq, a12, if_pos c3', qo, bq_eq, if_pos ct, if_true]
      · rw [rs]
        simp only [fK8_done_373, if_pos c3', if_pos (pnT.lt.mpr ct)]
    · by_cases cn : NW I0 w 2 = -1
      · refine vb_no hI hR hL (I2 := sI (sI (sI I0 15 7 (NW I0 w 2)) 15 1 (lim 0 7 (NW I0 w 1))) 15 0 0) (Sc.rf.set.set.set) ?_ sI_eq ?_
        · rw [rd]
          simp only [fK1_readCancel, q2, bn_eq, nm_eq, a12, if_pos c3', qo, bq_eq, if_neg ct, if_neg i10, a7, if_pos cn]
        · rw [rs]
          simp only [fK8_done_373, if_pos c3', if_neg (fun y => ct (pnT.lt.mp y)), if_pos (pnN.lt.mpr cn)]
      · obtain ⟨t, -, ht7, et⟩ := ex_lim (a := 0) (b := 7) hC 1 (by decide) (by decide) ct
        have et' : lim 0 7 (NW I0 w 1) = nI t := et
        obtain ⟨y, hy, ey⟩ := pnN.ex cn
        have rd2 : rdC I0 L = some (sI (sI (sI I0 15 7 (NW I0 w 2)) 15 1 (lim 0 7 (NW I0 w 1))) 15 0 7, L) := by
          rw [rd]
          simp only [fK1_readCancel, q2, bn_eq, nm_eq, a12, if_pos c3', qo, bq_eq, if_neg ct, if_neg i10, a7, if_neg cn]
        have hs : Sc I0 (sI (sI (sI I0 15 7 (NW I0 w 2)) 15 1 (lim 0 7 (NW I0 w 1))) 15 0 7) := Sc.rf.set.set.set
        have k0 : sI (sI (sI (sI I0 15 7 (NW I0 w 2)) 15 1 (lim 0 7 (NW I0 w 1))) 15 0 7) 11 0 0 15 0 = 7 := by rw [sc_15, sI_eq]
        have k1 : sI (sI (sI (sI I0 15 7 (NW I0 w 2)) 15 1 (lim 0 7 (NW I0 w 1))) 15 0 7) 11 0 0 15 1 = nI t := by rw [sc_15, sI_at (by omega), sI_eq]; exact et'
        have k7 : sI (sI (sI (sI I0 15 7 (NW I0 w 2)) 15 1 (lim 0 7 (NW I0 w 1))) 15 0 7) 11 0 0 15 7 = nI y := by rw [sc_15, sI_at (by omega), a7]; exact ey
        refine vb_of hI hR rd2 (x := fK2_cancelAsked (sI (sI (sI (sI I0 15 7 (NW I0 w 2)) 15 1 (lim 0 7 (NW I0 w 1))) 15 0 7) 11 0 0) L) (y := fK8_done_373 0 (nI t) (nI y) 0 (nI w) (nI w) J K) (by rw [perf k0]; rfl) ?_ (B' := B + 100000000) (T' := T) (by omega) (by omega) (cancel_rel (sc_inv hs hI) (sc_rr hs hR) hL k1 k7 (by omega) hy)
        rw [rs, et', ey, c3']
  · have c3' : ¬ nI w = 3 := fun y => c3 (w3.mp y)
    refine vb_no hI hR hL (I2 := sI (sI I0 15 7 (NW I0 w 2)) 15 0 0) (Sc.rf.set.set) ?_ sI_eq ?_
    · rw [rd]
      simp only [fK1_readCancel, q2, bn_eq, nm_eq, a12, if_neg c3', bq_eq]
    · rw [rs]
      simp only [fK8_done_373, if_neg c3']
theorem v_less (hI : Inv I0 L n B T) (hR : Rr I0 J) (hL : Rl L K) (hC : RC I0 J w z) (h : SW I0 w 0 13 = true) : Vb I0 J L K B T := by
  have hx := firsts (show 13 < 15 by omega) h
  have sf : ∀ i, i < 15 → fK5_says 0 i I0 L = some (b2i (SW I0 w 0 i)) := fun i hi => f_says hC (by simp only [nJS]; omega)
  have rd : rdC I0 L = bq (fK1_readLess I0 L) (fun r I L => nm (sI I 15 0 r) (fun I => some (I, L))) := by
    simp only [rdC, sf 0 (by omega), sf 1 (by omega), sf 8 (by omega), sf 9 (by omega), sf 10 (by omega), sf 11 (by omega), sf 12 (by omega), sf 13 (by omega), bn_eq, hx 0 (by omega) (by omega), hx 1 (by omega) (by omega), hx 8 (by omega) (by omega), hx 9 (by omega) (by omega), hx 10 (by omega) (by omega), hx 11 (by omega) (by omega), hx 12 (by omega) (by omega), h, b2t, b2f, if_true, if_neg i10]
  have g13 := g_is (K := K) hC 13 28 (by decide) rfl rfl
  have pw' : fK8_whose 1 J K = some (lim 0 7 (NW I0 w 1)) := p_whose (K := K) (k := 1) hC (by omega)
  have pa' : fK8_any 2 J K = some (NW I0 w 2) := p_any (K := K) (k := 2) hC (by omega)
  have pb' : fK8_any 3 J K = some (NW I0 w 3) := p_any (K := K) (k := 3) hC (by omega)
  have rs : fK8_done J K = fK8_done_373 1 (lim 0 7 (NW I0 w 1)) (NW I0 w 2) (NW I0 w 3) 4 (nI w) J K := by
    rw [d_325 hC (Or.inr h)]
    simp only [fK8_done_325, g13, bn_eq, h, b2t, pw', pa', pb', if_neg i10, fK8_done_358, hC.1]
  have pnT : PN (lim 0 7 (NW I0 w 1)) := pn_lim (a := 0) (b := 7) hC 1 (by decide) (by decide)
  have pnN := pn_nw hC 2
  have pnM := pn_nw hC 3
  have q2 : fK5_number 2 I0 L = some (NW I0 w 2) := q_number (k := 2) Sc.rf hC.2.1 hC.2.2.1 hC.2.2.2.1 hC.2.2.2.2.1 (by omega)
  have q3 : fK5_number 3 (sI I0 15 7 (NW I0 w 2)) L = some (NW I0 w 3) := q_number (k := 3) Sc.rf.set hC.2.1 hC.2.2.1 hC.2.2.2.1 hC.2.2.2.2.1 (by omega)
  have qo : fK1_readOwner 1 (sI (sI I0 15 7 (NW I0 w 2)) 15 8 (NW I0 w 3)) L = some (if lim 0 7 (NW I0 w 1) = -1 then 0 else 1, sI (sI (sI I0 15 7 (NW I0 w 2)) 15 8 (NW I0 w 3)) 15 1 (lim 0 7 (NW I0 w 1)), L) := q_owner (k := 1) Sc.rf.set.set hC.2.1 hC.2.2.1 hC.2.2.2.1 hC.2.2.2.2.1 (by omega)
  have a12 : sI (sI I0 15 7 (NW I0 w 2)) 15 8 (NW I0 w 3) 12 0 = nI w := by rw [sI_at (by omega), sI_at (by omega)]; exact hC.2.2.2.1
  have a7 : sI (sI (sI I0 15 7 (NW I0 w 2)) 15 8 (NW I0 w 3)) 15 1 (lim 0 7 (NW I0 w 1)) 15 7 = NW I0 w 2 := by rw [sI_at (by omega), sI_at (by omega), sI_eq]
  have a8 : sI (sI (sI I0 15 7 (NW I0 w 2)) 15 8 (NW I0 w 3)) 15 1 (lim 0 7 (NW I0 w 1)) 15 8 = NW I0 w 3 := by rw [sI_at (by omega), sI_eq]
  have w4 := wI hC 4 (by omega)
  by_cases c4 : w = 4
  · have c4' : nI w = 4 := w4.mpr c4
    by_cases ct : lim 0 7 (NW I0 w 1) = -1
    · refine vb_no hI hR hL (I2 := sI (sI (sI (sI I0 15 7 (NW I0 w 2)) 15 8 (NW I0 w 3)) 15 1 (lim 0 7 (NW I0 w 1))) 15 0 0) (Sc.rf.set.set.set.set) ?_ sI_eq ?_
      · rw [rd]
        simp only [fK1_readLess, q2, q3, bn_eq, nm_eq, a12, if_pos c4', qo, bq_eq, if_pos ct, if_true]
      · rw [rs]
        simp only [fK8_done_373, if_pos c4', if_pos (pnT.lt.mpr ct)]
    · by_cases cn : NW I0 w 2 = -1
      · refine vb_no hI hR hL (I2 := sI (sI (sI (sI I0 15 7 (NW I0 w 2)) 15 8 (NW I0 w 3)) 15 1 (lim 0 7 (NW I0 w 1))) 15 0 0) (Sc.rf.set.set.set.set) ?_ sI_eq ?_
        · rw [rd]
          simp only [fK1_readLess, q2, q3, bn_eq, nm_eq, a12, if_pos c4', qo, bq_eq, if_neg ct, if_neg i10, a7, if_pos cn]
        · rw [rs]
          simp only [fK8_done_373, if_pos c4', if_neg (fun y => ct (pnT.lt.mp y)), if_pos (pnN.lt.mpr cn)]
      · by_cases cm : NW I0 w 3 = -1
        · refine vb_no hI hR hL (I2 := sI (sI (sI (sI I0 15 7 (NW I0 w 2)) 15 8 (NW I0 w 3)) 15 1 (lim 0 7 (NW I0 w 1))) 15 0 0) (Sc.rf.set.set.set.set) ?_ sI_eq ?_
          · rw [rd]
            simp only [fK1_readLess, q2, q3, bn_eq, nm_eq, a12, if_pos c4', qo, bq_eq, if_neg ct, if_neg i10, a7, if_neg cn, a8, if_pos cm]
          · rw [rs]
            simp only [fK8_done_373, if_pos c4', if_neg (fun y => ct (pnT.lt.mp y)), if_neg (fun y => cn (pnN.lt.mp y)), if_neg (fun y => (pnM.ge.mp y) cm)]
        · obtain ⟨t, -, ht7, et⟩ := ex_lim (a := 0) (b := 7) hC 1 (by decide) (by decide) ct
          have et' : lim 0 7 (NW I0 w 1) = nI t := et
          obtain ⟨x, hx9, ex⟩ := pnN.ex cn
          obtain ⟨y, hy, ey⟩ := pnM.ex cm
          have rd2 : rdC I0 L = some (sI (sI (sI (sI I0 15 7 (NW I0 w 2)) 15 8 (NW I0 w 3)) 15 1 (lim 0 7 (NW I0 w 1))) 15 0 8, L) := by
            rw [rd]
            simp only [fK1_readLess, q2, q3, bn_eq, nm_eq, a12, if_pos c4', qo, bq_eq, if_neg ct, if_neg i10, a7, if_neg cn, a8, if_neg cm]
          have hs : Sc I0 (sI (sI (sI (sI I0 15 7 (NW I0 w 2)) 15 8 (NW I0 w 3)) 15 1 (lim 0 7 (NW I0 w 1))) 15 0 8) := Sc.rf.set.set.set.set
          have k0 : sI (sI (sI (sI (sI I0 15 7 (NW I0 w 2)) 15 8 (NW I0 w 3)) 15 1 (lim 0 7 (NW I0 w 1))) 15 0 8) 11 0 0 15 0 = 8 := by rw [sc_15, sI_eq]
          have k1 : sI (sI (sI (sI (sI I0 15 7 (NW I0 w 2)) 15 8 (NW I0 w 3)) 15 1 (lim 0 7 (NW I0 w 1))) 15 0 8) 11 0 0 15 1 = nI t := by rw [sc_15, sI_at (by omega), sI_eq]; exact et'
          have k7 : sI (sI (sI (sI (sI I0 15 7 (NW I0 w 2)) 15 8 (NW I0 w 3)) 15 1 (lim 0 7 (NW I0 w 1))) 15 0 8) 11 0 0 15 7 = nI x := by rw [sc_15, sI_at (by omega), a7]; exact ex
          have k8 : sI (sI (sI (sI (sI I0 15 7 (NW I0 w 2)) 15 8 (NW I0 w 3)) 15 1 (lim 0 7 (NW I0 w 1))) 15 0 8) 11 0 0 15 8 = nI y := by rw [sc_15, sI_at (by omega), a8]; exact ey
          refine vb_of hI hR rd2 (x := fK2_lessen (sI (sI (sI (sI (sI I0 15 7 (NW I0 w 2)) 15 8 (NW I0 w 3)) 15 1 (lim 0 7 (NW I0 w 1))) 15 0 8) 11 0 0) L) (y := fK8_done_373 1 (nI t) (nI x) (nI y) (nI w) (nI w) J K) (by rw [perf k0]; rfl) ?_ (B' := B + 100000000) (T' := T) (by omega) (by omega) (less_rel (sc_inv hs hI) (sc_rr hs hR) hL k1 k7 k8 (by omega) hx9 hy)
          rw [rs, et', ex, ey, c4']
  · have c4' : ¬ nI w = 4 := fun y => c4 (w4.mp y)
    refine vb_no hI hR hL (I2 := sI (sI (sI I0 15 7 (NW I0 w 2)) 15 8 (NW I0 w 3)) 15 0 0) (Sc.rf.set.set.set) ?_ sI_eq ?_
    · rw [rd]
      simp only [fK1_readLess, q2, q3, bn_eq, nm_eq, a12, if_neg c4', bq_eq]
    · rw [rs]
      simp only [fK8_done_373, if_neg c4']
/-- none of the texts -/
theorem v_none (hI : Inv I0 L n B T) (hR : Rr I0 J) (hL : Rl L K) (hC : RC I0 J w z) (h0 : I0 15 0 = 0) (h : ∀ i, i = 0 ∨ i = 1 ∨ (8 ≤ i ∧ i < 15) → SW I0 w 0 i = false) : Vb I0 J L K B T := by
  have sf : ∀ i, i < 15 → fK5_says 0 i I0 L = some (b2i (SW I0 w 0 i)) := fun i hi => f_says hC (by simp only [nJS]; omega)
  have g9 := g_is (K := K) hC 9 15 (by decide) rfl rfl
  have g10 := g_is (K := K) hC 10 16 (by decide) rfl rfl
  have g11 := g_is (K := K) hC 11 17 (by decide) rfl rfl
  have g0 := g_is (K := K) hC 0 18 (by decide) rfl rfl
  have g1 := g_is (K := K) hC 1 19 (by decide) rfl rfl
  have g8 := g_is (K := K) hC 8 26 (by decide) rfl rfl
  have g12 := g_is (K := K) hC 12 27 (by decide) rfl rfl
  have g13 := g_is (K := K) hC 13 28 (by decide) rfl rfl
  have g14 := g_is (K := K) hC 14 29 (by decide) rfl rfl
  refine vb_no hI hR hL (I2 := I0) Sc.rf ?_ h0 ?_
  · simp only [rdC, sf 0 (by omega), sf 1 (by omega), sf 8 (by omega), sf 9 (by omega), sf 10 (by omega), sf 11 (by omega), sf 12 (by omega), sf 13 (by omega), sf 14 (by omega), bn_eq, h 0 (by omega), h 1 (by omega), h 8 (by omega), h 9 (by omega), h 10 (by omega), h 11 (by omega), h 12 (by omega), h 13 (by omega), h 14 (by omega), b2f, if_true]
  · simp only [fK8_done, g9, g10, g11, g0, g1, g8, g12, g13, g14, bn_eq, h 0 (by omega), h 1 (by omega), h 8 (by omega), h 9 (by omega), h 10 (by omega), h 11 (by omega), h 12 (by omega), h 13 (by omega), h 14 (by omega), b2f, if_true]
end V2
