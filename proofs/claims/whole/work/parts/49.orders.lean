/-! PURE PART 20: stop, buy and sell as lines -/
section V3
variable {I0 J : FI} {L K : FL} {w z n B T : Nat}
theorem v_stop (hI : Inv I0 L n B T) (hR : Rr I0 J) (hL : Rl L K) (hC : RC I0 J w z) (h : SW I0 w 0 8 = true) : Vb I0 J L K B T := by
  have hx := firsts (show 8 < 15 by omega) h
  have sf : ∀ i, i < 15 → fK5_says 0 i I0 L = some (b2i (SW I0 w 0 i)) := fun i hi => f_says hC (by simp only [nJS]; omega)
  have rd : rdC I0 L = bq (fK1_readStop I0 L) (fun r I L => nm (sI I 15 0 r) (fun I => some (I, L))) := by
    simp only [rdC, sf 0 (by omega), sf 1 (by omega), sf 8 (by omega), bn_eq, hx 0 (by omega) (by omega), hx 1 (by omega) (by omega), h, b2t, b2f, if_true, if_neg i10]
  have g9 := g_is (K := K) hC 9 15 (by decide) rfl rfl
  have g10 := g_is (K := K) hC 10 16 (by decide) rfl rfl
  have g11 := g_is (K := K) hC 11 17 (by decide) rfl rfl
  have g0 := g_is (K := K) hC 0 18 (by decide) rfl rfl
  have g1 := g_is (K := K) hC 1 19 (by decide) rfl rfl
  have g8 := g_is (K := K) hC 8 26 (by decide) rfl rfl
  have k0 : fK8_is 1 18 J K = some (b2i (SW I0 w 1 0)) := p_is (k := 1) hC 0 18 (by decide) (by omega) rfl rfl
  have k1 : fK8_is 1 19 J K = some (b2i (SW I0 w 1 1)) := p_is (k := 1) hC 1 19 (by decide) (by omega) rfl rfl
  have k4 : fK8_is 4 21 J K = some (b2i (SW I0 w 4 3)) := p_is (k := 4) hC 3 21 (by decide) (by omega) rfl rfl
  have pT : fK8_whose 2 J K = some (lim 0 7 (NW I0 w 2)) := p_whose (K := K) (k := 2) hC (by omega)
  have pQ : fK8_number 3 1 9999 J K = some (lim 1 9999 (NW I0 w 3)) := p_num (K := K) (k := 3) (a := 1) (b := 9999) hC (by decide) (by omega)
  have pP : fK8_number 5 1 9999 J K = some (lim 1 9999 (NW I0 w 5)) := p_num (K := K) (k := 5) (a := 1) (b := 9999) hC (by decide) (by omega)
  have rs : fK8_done J K = fK8_done_241 (lim 0 7 (NW I0 w 2)) (lim 1 9999 (NW I0 w 3)) (lim 1 9999 (NW I0 w 5)) (if SW I0 w 1 0 = true then 0 else if SW I0 w 1 1 = true then 1 else -1) J K := by
    simp only [fK8_done, g9, g10, g11, g0, g1, g8, bn_eq, hx 0 (by omega) (by omega), hx 1 (by omega) (by omega), hx 9 (by omega) (by omega), hx 10 (by omega) (by omega), hx 11 (by omega) (by omega), h, b2t, b2f, if_true, if_neg i10, pT, pQ, pP, k0, k1]
    cases SW I0 w 1 0 with
    | true => simp only [b2t, i10, if_false, if_true]
    | false =>
      cases SW I0 w 1 1 with
      | true => simp only [b2t, b2f, i10, if_true, Bool.false_eq_true, if_false]
      | false => simp only [b2f, if_true, Bool.false_eq_true, if_false]
  have pnT : PN (lim 0 7 (NW I0 w 2)) := pn_lim (a := 0) (b := 7) hC 2 (by decide) (by decide)
  have pnQ : PN (lim 1 9999 (NW I0 w 3)) := pn_lim (a := 1) (b := 9999) hC 3 (by decide) (by decide)
  have pnP : PN (lim 1 9999 (NW I0 w 5)) := pn_lim (a := 1) (b := 9999) hC 5 (by decide) (by decide)
  have w6 := wI hC 6 (by omega)
  by_cases c6 : w = 6
  · have c6' : nI w = 6 := w6.mpr c6
    obtain ⟨s, hs2, hsd, hu⟩ : ∃ s : Nat, s < 2 ∧ ((SW I0 w 1 0 = true ∧ s = 0) ∨ (SW I0 w 1 0 = false ∧ s = 1)) ∧ (¬ (SW I0 w 1 0 = false ∧ SW I0 w 1 1 = false) → (if SW I0 w 1 0 = true then (0 : Int32) else if SW I0 w 1 1 = true then 1 else -1) = nI s) := by
      cases e : SW I0 w 1 0 with
      | true => exact ⟨0, by omega, Or.inl ⟨rfl, rfl⟩, fun _ => rfl⟩
      | false =>
        refine ⟨1, by omega, Or.inr ⟨rfl, rfl⟩, fun hh => ?_⟩
        cases e1 : SW I0 w 1 1 with
        | true => rfl
        | false => exact absurd ⟨rfl, e1⟩ hh
    have qb : fK1_readBasics 1 I0 L = _ := q_basics (k := 1) (L := L) (I := I0) Sc.rf hC.2.1 hC.2.2.1 hC.2.2.2.1 hC.2.2.2.2.1 (by omega) s hsd
    by_cases cb : SW I0 w 1 0 = false ∧ SW I0 w 1 1 = false
    · rw [if_pos cb] at qb
      refine vb_no hI hR hL (I2 := sI (sI (sI I0 15 2 (nI s)) 15 3 (lim 1 9999 (NW I0 w (1 + 2)))) 15 0 0) (Sc.rf.set.set.set) ?_ sI_eq ?_
      · rw [rd]
        simp only [fK1_readStop, hC.2.2.2.1, if_pos c6', qb, bq_eq, if_true, nm_eq]
      · rw [rs]
        simp only [fK8_done_241, hC.1, if_pos c6', cb.1, cb.2, Bool.false_eq_true, if_false, if_pos (show (-1 : Int32) < 0 by decide)]
    · rw [if_neg cb] at qb
      rw [hu cb] at rs
      have ns : ¬ nI s < 0 := nI_pos (by omega)
      by_cases ct : lim 0 7 (NW I0 w 2) = -1
      · refine vb_no hI hR hL (I2 := sI (sI (sI (sI I0 15 2 (nI s)) 15 3 (lim 1 9999 (NW I0 w (1 + 2)))) 15 1 (lim 0 7 (NW I0 w (1 + 1)))) 15 0 0) (Sc.rf.set.set.set.set) ?_ sI_eq ?_
        · rw [rd]
          simp only [fK1_readStop, hC.2.2.2.1, if_pos c6', qb, bq_eq, if_pos ct, if_true, nm_eq]
        · rw [rs]
          simp only [fK8_done_241, hC.1, if_pos c6', if_neg ns, if_pos (pnT.lt.mpr ct)]
      · by_cases cq : lim 1 9999 (NW I0 w 3) = -1
        · refine vb_no hI hR hL (I2 := sI (sI (sI (sI I0 15 2 (nI s)) 15 3 (lim 1 9999 (NW I0 w (1 + 2)))) 15 1 (lim 0 7 (NW I0 w (1 + 1)))) 15 0 0) (Sc.rf.set.set.set.set) ?_ sI_eq ?_
          · rw [rd]
            simp only [fK1_readStop, hC.2.2.2.1, if_pos c6', qb, bq_eq, if_neg ct, if_pos cq, if_true, nm_eq]
          · rw [rs]
            simp only [fK8_done_241, hC.1, if_pos c6', if_neg ns, if_neg (fun y => ct (pnT.lt.mp y)), if_pos (pnQ.lt.mpr cq)]
        · have hsb : Sc I0 (sI (sI (sI I0 15 2 (nI s)) 15 3 (lim 1 9999 (NW I0 w (1 + 2)))) 15 1 (lim 0 7 (NW I0 w (1 + 1)))) := Sc.rf.set.set.set
          have qp : fK1_readPrice 4 (sI (sI (sI I0 15 2 (nI s)) 15 3 (lim 1 9999 (NW I0 w (1 + 2)))) 15 1 (lim 0 7 (NW I0 w (1 + 1)))) L = _ := q_price (k := 4) (L := L) hsb hC.2.1 hC.2.2.1 hC.2.2.2.1 hC.2.2.2.2.1 (by omega)
          have cls : ∀ x : Int32, (if SW I0 w 4 3 = true then (if lim 1 9999 (NW I0 w (4 + 1)) = -1 then (0 : Int32) else 1) else 0) = x → rdC I0 L = some (sI (sI (sI (sI (sI I0 15 2 (nI s)) 15 3 (lim 1 9999 (NW I0 w (1 + 2)))) 15 1 (lim 0 7 (NW I0 w (1 + 1)))) 15 4 (lim 1 9999 (NW I0 w (4 + 1)))) 15 0 (if x = 0 then 0 else 6), L) := by
            intro x ex
            rw [rd]
            simp only [fK1_readStop, hC.2.2.2.1, if_pos c6', qb, bq_eq, if_neg ct, if_neg cq, if_neg i10, qp, ex]
            by_cases x0 : x = 0
            · simp only [if_pos x0, bq_eq, nm_eq]
            · simp only [if_neg x0, bq_eq, nm_eq]
          have ref : fK8_done J K = (if SW I0 w 4 3 = false then some (-11, J, K) else (if 0 ≤ lim 1 9999 (NW I0 w 5) then (if J 11 1 = 40 then some (-15, J, K) else fK8_fresh (lim 0 7 (NW I0 w 2)) (nI s) (lim 1 9999 (NW I0 w 3)) (lim 1 9999 (NW I0 w 5)) 1 J K) else some (-11, J, K))) := by
            rw [rs]
            simp only [fK8_done_241, hC.1, if_pos c6', if_neg ns, if_neg (fun y => ct (pnT.lt.mp y)), if_neg (fun y => cq (pnQ.lt.mp y)), k4, bn_eq, b2i_0, bq_id]
          cases ca : SW I0 w 4 3 with
          | false =>
            have r1 := cls 0 (by rw [ca]; rfl)
            refine vb_no hI hR hL (Sc.rf.set.set.set.set.set) r1 (by rw [sI_eq]; rfl) ?_
            rw [ref, ca]; rfl
          | true =>
            by_cases cp : lim 1 9999 (NW I0 w 5) = -1
            · have r1 := cls 0 (by rw [ca]; exact if_pos cp)
              refine vb_no hI hR hL (Sc.rf.set.set.set.set.set) r1 (by rw [sI_eq]; rfl) ?_
              rw [ref, ca, if_neg (by decide), if_neg (fun y => (pnP.ge.mp y) cp)]
            · have r1 := cls 1 (by rw [ca]; exact if_neg cp)
              obtain ⟨t, -, ht7, et⟩ := ex_lim (a := 0) (b := 7) hC 2 (by decide) (by decide) ct
              obtain ⟨q, -, hq9, eq⟩ := ex_lim (a := 1) (b := 9999) hC 3 (by decide) (by decide) cq
              obtain ⟨p, -, hp9, ep⟩ := ex_lim (a := 1) (b := 9999) hC 5 (by decide) (by decide) cp
              have et' : lim 0 7 (NW I0 w 2) = nI t := et
              have eq' : lim 1 9999 (NW I0 w 3) = nI q := eq
              have ep' : lim 1 9999 (NW I0 w 5) = nI p := ep
              rw [if_neg i10] at r1
              have hs : Sc I0 (sI (sI (sI (sI (sI I0 15 2 (nI s)) 15 3 (lim 1 9999 (NW I0 w (1 + 2)))) 15 1 (lim 0 7 (NW I0 w (1 + 1)))) 15 4 (lim 1 9999 (NW I0 w (4 + 1)))) 15 0 6) := Sc.rf.set.set.set.set.set
              have m0 : sI (sI (sI (sI (sI (sI I0 15 2 (nI s)) 15 3 (lim 1 9999 (NW I0 w (1 + 2)))) 15 1 (lim 0 7 (NW I0 w (1 + 1)))) 15 4 (lim 1 9999 (NW I0 w (4 + 1)))) 15 0 6) 11 0 0 15 0 = 6 := by rw [sc_15, sI_eq]
              have m1 : sI (sI (sI (sI (sI (sI I0 15 2 (nI s)) 15 3 (lim 1 9999 (NW I0 w (1 + 2)))) 15 1 (lim 0 7 (NW I0 w (1 + 1)))) 15 4 (lim 1 9999 (NW I0 w (4 + 1)))) 15 0 6) 11 0 0 15 1 = nI t := by rw [sc_15, sI_at (by omega), sI_at (by omega), sI_eq]; exact et'
              have m2 : sI (sI (sI (sI (sI (sI I0 15 2 (nI s)) 15 3 (lim 1 9999 (NW I0 w (1 + 2)))) 15 1 (lim 0 7 (NW I0 w (1 + 1)))) 15 4 (lim 1 9999 (NW I0 w (4 + 1)))) 15 0 6) 11 0 0 15 2 = nI s := by rw [sc_15, sI_at (by omega), sI_at (by omega), sI_at (by omega), sI_at (by omega), sI_eq]
              have m3 : sI (sI (sI (sI (sI (sI I0 15 2 (nI s)) 15 3 (lim 1 9999 (NW I0 w (1 + 2)))) 15 1 (lim 0 7 (NW I0 w (1 + 1)))) 15 4 (lim 1 9999 (NW I0 w (4 + 1)))) 15 0 6) 11 0 0 15 3 = nI q := by rw [sc_15, sI_at (by omega), sI_at (by omega), sI_at (by omega), sI_eq]; exact eq'
              have m4 : sI (sI (sI (sI (sI (sI I0 15 2 (nI s)) 15 3 (lim 1 9999 (NW I0 w (1 + 2)))) 15 1 (lim 0 7 (NW I0 w (1 + 1)))) 15 4 (lim 1 9999 (NW I0 w (4 + 1)))) 15 0 6) 11 0 0 15 4 = nI p := by rw [sc_15, sI_at (by omega), sI_eq]; exact ep'
              refine vb_of hI hR r1 (x := fK2_placeStop (sI (sI (sI (sI (sI (sI I0 15 2 (nI s)) 15 3 (lim 1 9999 (NW I0 w (1 + 2)))) 15 1 (lim 0 7 (NW I0 w (1 + 1)))) 15 4 (lim 1 9999 (NW I0 w (4 + 1)))) 15 0 6) 11 0 0) L) (by rw [perf m0]; rfl) ?_ (B' := B) (T' := T) (by omega) (by omega) (stop_rel (sc_inv hs hI) (sc_rr hs hR) hL m1 m2 m3 m4 (by omega) hs2 hq9 hp9)
              rw [ref, ca, if_neg (by decide), if_pos (pnP.ge.mpr cp), et', eq', ep']
  · have c6' : ¬ nI w = 6 := fun y => c6 (w6.mp y)
    refine vb_no hI hR hL (I2 := sI I0 15 0 0) (Sc.rf.set) ?_ sI_eq ?_
    · rw [rd]
      simp only [fK1_readStop, hC.2.2.2.1, if_neg c6', bq_eq, nm_eq]
    · rw [rs]
      simp only [fK8_done_241, hC.1, if_neg c6']
/-- what the reference makes of the words behind the price -/
theorem o98 (hC : RC I0 J w z) {s t q : Int32} (p : Int32) (hp : lim 1 9999 (NW I0 w 4) = p) (hp1 : ¬ p = -1) (ha : SW I0 w 3 3 = true) :
    fK8_ordered_98 s t q J K = (if w = 5 then fK8_ordered_272 s t q p 0 0 0 0 J K else if w = 6 then (if SW I0 w 5 5 = true then fK8_ordered_272 s t q p 0 1 0 0 J K else if SW I0 w 5 6 = true then fK8_ordered_272 s t q p 0 0 1 0 J K else if SW I0 w 5 7 = true then fK8_ordered_272 s t q p 0 0 0 1 J K else some (-11, J, K)) else if w = 7 then (if SW I0 w 5 4 = true then (if 0 ≤ lim 1 99 (NW I0 w 6) then fK8_ordered_272 s t q p (lim 1 99 (NW I0 w 6)) 0 0 0 J K else some (-11, J, K)) else some (-11, J, K)) else some (-11, J, K)) := by
  have k3 : fK8_is 3 21 J K = some (b2i (SW I0 w 3 3)) := p_is (k := 3) hC 3 21 (by decide) (by omega) rfl rfl
  have k5 : fK8_is 5 22 J K = some (b2i (SW I0 w 5 5)) := p_is (k := 5) hC 5 22 (by decide) (by omega) rfl rfl
  have k6 : fK8_is 5 23 J K = some (b2i (SW I0 w 5 6)) := p_is (k := 5) hC 6 23 (by decide) (by omega) rfl rfl
  have k7 : fK8_is 5 24 J K = some (b2i (SW I0 w 5 7)) := p_is (k := 5) hC 7 24 (by decide) (by omega) rfl rfl
  have k4 : fK8_is 5 25 J K = some (b2i (SW I0 w 5 4)) := p_is (k := 5) hC 4 25 (by decide) (by omega) rfl rfl
  have pP : fK8_number 4 1 9999 J K = some (lim 1 9999 (NW I0 w 4)) := p_num (K := K) (k := 4) (a := 1) (b := 9999) hC (by decide) (by omega)
  have pN : fK8_number 6 1 99 J K = some (lim 1 99 (NW I0 w 6)) := p_num (K := K) (k := 6) (a := 1) (b := 99) hC (by decide) (by omega)
  have pnP : PN (lim 1 9999 (NW I0 w 4)) := pn_lim (a := 1) (b := 9999) hC 4 (by decide) (by decide)
  have gp : 0 ≤ p := by rw [← hp]; exact pnP.ge.mpr (by rw [hp]; exact hp1)
  have w5 : nI w = 5 ↔ w = 5 := wI hC 5 (by omega)
  have w6 : nI w = 6 ↔ w = 6 := wI hC 6 (by omega)
  have w7 : nI w = 7 ↔ w = 7 := wI hC 7 (by omega)
  simp only [fK8_ordered_98, pP, k3, bn_eq, ha, b2t, if_neg i10, hp, if_pos gp, hC.1, w6]
  by_cases c6 : w = 6
  · have c5 : ¬ w = 5 := by omega
    have c7 : ¬ w = 7 := by omega
    rw [if_pos c6, if_neg c5, if_pos c6, k5, bn_eq]
    cases e5 : SW I0 w 5 5 with
    | true =>
      have e6 : SW I0 w 5 6 = false := SW_excl (i := 5) (by omega) (by omega) (by omega) e5
      have e7 : SW I0 w 5 7 = false := SW_excl (i := 5) (by omega) (by omega) (by omega) e5
      simp only [b2t, b2f, if_neg i10, if_true, eq_self, fK8_ordered_154, hC.1, w6, if_pos c6, k6, e6, bn_eq, fK8_ordered_179, fK8_ordered_180, k7, e7, fK8_ordered_205, fK8_ordered_206, w7, if_neg c7, fK8_ordered_246, w5, if_neg c5]
    | false =>
      cases e6 : SW I0 w 5 6 with
      | true =>
        have e7 : SW I0 w 5 7 = false := SW_excl (i := 6) (by omega) (by omega) (by omega) e6
        simp only [b2t, b2f, if_neg i10, if_true, eq_self, fK8_ordered_153, fK8_ordered_154, hC.1, w6, if_pos c6, k6, e6, bn_eq, fK8_ordered_180, k7, e7, fK8_ordered_205, fK8_ordered_206, w7, if_neg c7, fK8_ordered_246, w5, if_neg c5, Bool.false_eq_true, if_false]
      | false =>
        cases e7 : SW I0 w 5 7 with
        | true =>
          simp only [b2t, b2f, if_neg i10, if_true, eq_self, fK8_ordered_153, fK8_ordered_154, hC.1, w6, if_pos c6, k6, e6, bn_eq, fK8_ordered_179, fK8_ordered_180, k7, e7, fK8_ordered_206, w7, if_neg c7, fK8_ordered_246, w5, if_neg c5, Bool.false_eq_true, if_false]
        | false =>
          simp only [b2f, if_true, fK8_ordered_153, fK8_ordered_154, hC.1, w6, if_pos c6, k6, e6, bn_eq, fK8_ordered_179, fK8_ordered_180, k7, e7, fK8_ordered_205, fK8_ordered_206, w7, if_neg c7, fK8_ordered_246, w5, if_neg c5, Bool.false_eq_true, if_false]
  · rw [if_neg c6, if_neg c6]
    by_cases c7 : w = 7
    · have c5 : ¬ w = 5 := by omega
      rw [if_neg c5, if_pos c7]
      simp only [fK8_ordered_153, fK8_ordered_154, hC.1, w6, if_neg c6, fK8_ordered_179, fK8_ordered_180, fK8_ordered_205, fK8_ordered_206, w7, if_pos c7, k4, bn_eq, fK8_ordered_246, w5, if_neg c5, pN]
      cases e4 : SW I0 w 5 4 with
      | true => simp only [b2t, if_neg i10, if_true]
      | false => simp only [b2f, if_true, Bool.false_eq_true, if_false]
    · rw [if_neg c7]
      simp only [fK8_ordered_153, fK8_ordered_154, hC.1, w6, if_neg c6, fK8_ordered_179, fK8_ordered_180, fK8_ordered_205, fK8_ordered_206, w7, if_neg c7, fK8_ordered_246, w5, if_true]
set_option maxHeartbeats 2000000 in
theorem v_order (hI : Inv I0 L n B T) (hR : Rr I0 J) (hL : Rl L K) (hC : RC I0 J w z) (hB : B + 4200000000 < 2 ^ 60) (hT : T + 42 < 2 ^ 30) (h : SW I0 w 0 0 = true ∨ SW I0 w 0 1 = true) : Vb I0 J L K B T := by
  have sf : ∀ i, i < 15 → fK5_says 0 i I0 L = some (b2i (SW I0 w 0 i)) := fun i hi => f_says hC (by simp only [nJS]; omega)
  have g9 := g_is (K := K) hC 9 15 (by decide) rfl rfl
  have g10 := g_is (K := K) hC 10 16 (by decide) rfl rfl
  have g11 := g_is (K := K) hC 11 17 (by decide) rfl rfl
  have g0 := g_is (K := K) hC 0 18 (by decide) rfl rfl
  have g1 := g_is (K := K) hC 1 19 (by decide) rfl rfl
  -- the side
  obtain ⟨s, hs2, hsd, rd, rs0⟩ : ∃ s : Nat, s < 2 ∧ ((SW I0 w 0 0 = true ∧ s = 0) ∨ (SW I0 w 0 0 = false ∧ s = 1)) ∧ rdC I0 L = bq (fK1_readOrder I0 L) (fun r I L => nm (sI I 15 0 r) (fun I => some (I, L))) ∧ fK8_done J K = fK8_ordered (nI s) J K := by
    rcases h with h | h
    · have hx := firsts (show 0 < 15 by omega) h
      refine ⟨0, by omega, Or.inl ⟨h, rfl⟩, ?_, ?_⟩
      · simp only [rdC, sf 0 (by omega), bn_eq, h, b2t, i10, if_false, fK1_read_33]
      · simp only [fK8_done, g9, g10, g11, g0, bn_eq, hx 9 (by omega) (by omega), hx 10 (by omega) (by omega), hx 11 (by omega) (by omega), h, b2t, b2f, i10, if_true, if_false, fK8_done_156, fK8_done_172, bq_id]; rfl
    · have hx := firsts (show 1 < 15 by omega) h
      refine ⟨1, by omega, Or.inr ⟨hx 0 (by omega) (by omega), rfl⟩, ?_, ?_⟩
      · simp only [rdC, sf 0 (by omega), sf 1 (by omega), bn_eq, h, hx 0 (by omega) (by omega), b2t, b2f, i10, if_true, if_false, fK1_read_33]
      · simp only [fK8_done, g9, g10, g11, g0, g1, bn_eq, hx 0 (by omega) (by omega), hx 9 (by omega) (by omega), hx 10 (by omega) (by omega), hx 11 (by omega) (by omega), h, b2t, b2f, i10, if_true, if_false, fK8_done_156, fK8_done_172, bq_id]; rfl
  have hnb : ¬ (SW I0 w 0 0 = false ∧ SW I0 w 0 1 = false) := by
    rintro ⟨e1, e2⟩
    rcases h with h | h
    · rw [h] at e1; exact absurd e1 (by decide)
    · rw [h] at e2; exact absurd e2 (by decide)
  have qb : fK1_readBasics 0 I0 L = _ := q_basics (k := 0) (L := L) (I := I0) Sc.rf hC.2.1 hC.2.2.1 hC.2.2.2.1 hC.2.2.2.2.1 (by omega) s hsd
  rw [if_neg hnb] at qb
  have pT : fK8_whose 1 J K = some (lim 0 7 (NW I0 w 1)) := p_whose (K := K) (k := 1) hC (by omega)
  have pQ : fK8_number 2 1 9999 J K = some (lim 1 9999 (NW I0 w 2)) := p_num (K := K) (k := 2) (a := 1) (b := 9999) hC (by decide) (by omega)
  have k2 : fK8_is 3 20 J K = some (b2i (SW I0 w 3 2)) := p_is (k := 3) hC 2 20 (by decide) (by omega) rfl rfl
  have pnT : PN (lim 0 7 (NW I0 w 1)) := pn_lim (a := 0) (b := 7) hC 1 (by decide) (by decide)
  have pnQ : PN (lim 1 9999 (NW I0 w 2)) := pn_lim (a := 1) (b := 9999) hC 2 (by decide) (by decide)
  have w4 : nI w = 4 ↔ w = 4 := wI hC 4 (by omega)
  by_cases ct : lim 0 7 (NW I0 w 1) = -1
  · refine vb_no hI hR hL (I2 := sI (sI (sI (sI I0 15 2 (nI s)) 15 3 (lim 1 9999 (NW I0 w (0 + 2)))) 15 1 (lim 0 7 (NW I0 w (0 + 1)))) 15 0 0) (Sc.rf.set.set.set.set) ?_ sI_eq ?_
    · rw [rd]
      simp only [fK1_readOrder, qb, bq_eq, if_pos ct, if_true, nm_eq]
    · rw [rs0]
      simp only [fK8_ordered, pT, pQ, bn_eq, if_pos (pnT.lt.mpr ct)]
  · by_cases cq : lim 1 9999 (NW I0 w 2) = -1
    · refine vb_no hI hR hL (I2 := sI (sI (sI (sI I0 15 2 (nI s)) 15 3 (lim 1 9999 (NW I0 w (0 + 2)))) 15 1 (lim 0 7 (NW I0 w (0 + 1)))) 15 0 0) (Sc.rf.set.set.set.set) ?_ sI_eq ?_
      · rw [rd]
        simp only [fK1_readOrder, qb, bq_eq, if_neg ct, if_pos cq, if_true, nm_eq]
      · rw [rs0]
        simp only [fK8_ordered, pT, pQ, bn_eq, if_neg (fun y => ct (pnT.lt.mp y)), if_neg (fun y => (pnQ.ge.mp y) cq)]
    · obtain ⟨t, -, ht7, et⟩ := ex_lim (a := 0) (b := 7) hC 1 (by decide) (by decide) ct
      obtain ⟨q, -, hq9, eq⟩ := ex_lim (a := 1) (b := 9999) hC 2 (by decide) (by decide) cq
      have et' : lim 0 7 (NW I0 w 1) = nI t := et
      have eq' : lim 1 9999 (NW I0 w 2) = nI q := eq
      have hsb : Sc I0 (sI (sI (sI I0 15 2 (nI s)) 15 3 (lim 1 9999 (NW I0 w (0 + 2)))) 15 1 (lim 0 7 (NW I0 w (0 + 1)))) := Sc.rf.set.set.set
      have bf1 : sI (sI (sI I0 15 2 (nI s)) 15 3 (lim 1 9999 (NW I0 w (0 + 2)))) 15 1 (lim 0 7 (NW I0 w (0 + 1))) 15 1 = nI t := by rw [sI_eq]; exact et'
      have bf2 : sI (sI (sI I0 15 2 (nI s)) 15 3 (lim 1 9999 (NW I0 w (0 + 2)))) 15 1 (lim 0 7 (NW I0 w (0 + 1))) 15 2 = nI s := by rw [sI_at (by omega), sI_at (by omega), sI_eq]
      have bf3 : sI (sI (sI I0 15 2 (nI s)) 15 3 (lim 1 9999 (NW I0 w (0 + 2)))) 15 1 (lim 0 7 (NW I0 w (0 + 1))) 15 3 = nI q := by rw [sI_at (by omega), sI_eq]; exact eq'
      have rd1 : rdC I0 L = bq (if (nI w) = 4 then bn (fK5_says 3 2 (sI (sI (sI I0 15 2 (nI s)) 15 3 (lim 1 9999 (NW I0 w (0 + 2)))) 15 1 (lim 0 7 (NW I0 w (0 + 1)))) L) (fun r_8 => (if r_8 = 0 then fK1_readOrder_36 (sI (sI (sI I0 15 2 (nI s)) 15 3 (lim 1 9999 (NW I0 w (0 + 2)))) 15 1 (lim 0 7 (NW I0 w (0 + 1)))) L else some (5, sI (sI (sI (sI I0 15 2 (nI s)) 15 3 (lim 1 9999 (NW I0 w (0 + 2)))) 15 1 (lim 0 7 (NW I0 w (0 + 1)))) 15 4 0, L))) else fK1_readOrder_36 (sI (sI (sI I0 15 2 (nI s)) 15 3 (lim 1 9999 (NW I0 w (0 + 2)))) 15 1 (lim 0 7 (NW I0 w (0 + 1)))) L) (fun r I L => nm (sI I 15 0 r) (fun I => some (I, L))) := by
        rw [rd]
        simp only [fK1_readOrder, qb, bq_eq, if_neg ct, if_neg cq, i10, if_false, Sc_w hsb hC.2.2.2.1, nm_eq]
      have rs1 : fK8_done J K = (if nI w = 4 then (if SW I0 w 3 2 = false then fK8_ordered_98 (nI s) (nI t) (nI q) J K else (if J 11 1 = 40 then some (-15, J, K) else (if nI s = 1 then bn (fK8_freeGoods (nI t) J K) (fun r_14 => (if 0 ≤ (lg_cmp r_14 (nI q).toInt64) then fK8_ordered_76 (nI s) (nI t) (nI q) J K else some ((-16), J, K))) else fK8_ordered_76 (nI s) (nI t) (nI q) J K))) else fK8_ordered_98 (nI s) (nI t) (nI q) J K) := by
        rw [rs0]
        have nt : ¬ nI t < 0 := nI_pos (by omega)
        have nq : (0 : Int32) ≤ nI q := nI_pos' (by omega)
        simp only [fK8_ordered, pT, pQ, bn_eq, et', eq', if_neg nt, if_pos nq, hC.1, k2, b2i_0]
      generalize hZ : sI (sI (sI I0 15 2 (nI s)) 15 3 (lim 1 9999 (NW I0 w (0 + 2)))) 15 1 (lim 0 7 (NW I0 w (0 + 1))) = Z at hsb bf1 bf2 bf3 rd1
      clear rd qb hZ
      -- with a price
      have rest : rdC I0 L = bq (fK1_readOrder_36 Z L) (fun r I L => nm (sI I 15 0 r) (fun I => some (I, L))) → fK8_done J K = fK8_ordered_98 (nI s) (nI t) (nI q) J K → Vb I0 J L K B T := by
        intro rd2 rs2
        have k3 : fK8_is 3 21 J K = some (b2i (SW I0 w 3 3)) := p_is (k := 3) hC 3 21 (by decide) (by omega) rfl rfl
        have pP : fK8_number 4 1 9999 J K = some (lim 1 9999 (NW I0 w 4)) := p_num (K := K) (k := 4) (a := 1) (b := 9999) hC (by decide) (by omega)
        have pnP : PN (lim 1 9999 (NW I0 w 4)) := pn_lim (a := 1) (b := 9999) hC 4 (by decide) (by decide)
        have qp : fK1_readPrice 3 Z L = _ := q_price (k := 3) (L := L) hsb hC.2.1 hC.2.2.1 hC.2.2.2.1 hC.2.2.2.2.1 (by omega)
        have noP : (if SW I0 w 3 3 = true then (if lim 1 9999 (NW I0 w (3 + 1)) = -1 then (0 : Int32) else 1) else 0) = 0 → fK8_done J K = some (-11, J, K) → Vb I0 J L K B T := by
          intro e1 e2
          rw [e1] at qp
          refine vb_no hI hR hL (I2 := sI (sI Z 15 4 (lim 1 9999 (NW I0 w (3 + 1)))) 15 0 0) hsb.set.set ?_ sI_eq e2
          rw [rd2]
          simp only [fK1_readOrder_36, qp, bq_eq, if_true, nm_eq]
        cases ca : SW I0 w 3 3 with
        | false =>
          refine noP (by rw [ca]; rfl) ?_
          rw [rs2]
          simp only [fK8_ordered_98, pP, k3, bn_eq, ca, b2f, if_true]
        | true =>
          by_cases cp : lim 1 9999 (NW I0 w 4) = -1
          · refine noP (by rw [ca]; exact if_pos cp) ?_
            rw [rs2]
            simp only [fK8_ordered_98, pP, k3, bn_eq, ca, b2t, i10, if_false, if_neg (fun y => (pnP.ge.mp y) cp)]
          · have e1 : (if SW I0 w 3 3 = true then (if lim 1 9999 (NW I0 w (3 + 1)) = -1 then (0 : Int32) else 1) else 0) = 1 := by rw [ca]; exact if_neg cp
            rw [e1] at qp
            obtain ⟨p, hp1, hp9, ep⟩ := ex_lim (a := 1) (b := 9999) hC 4 (by decide) (by decide) cp
            have ep' : lim 1 9999 (NW I0 w 4) = nI p := ep
            have o := o98 (K := K) (s := nI s) (t := nI t) (q := nI q) hC (nI p) ep' (by rw [← ep']; exact cp) ca
            rw [o] at rs2
            obtain ⟨b, I', y1, y2, y3, y4, y5⟩ := q_way (k := 5) (L := L) (I := sI Z 15 4 (lim 1 9999 (NW I0 w (3 + 1)))) hsb.set hC.2.1 hC.2.2.1 hC.2.2.2.1 hC.2.2.2.2.1 (by omega)
            have y1' : fK1_readWay 5 (sI Z 15 4 (lim 1 9999 (NW I0 w (3 + 1)))) L = some (b, I', L) := y1
            have rd3 : rdC I0 L = some (sI I' 15 0 (if b = 0 then 0 else 4), L) := by
              rw [rd2]
              simp only [fK1_readOrder_36, qp, bq_eq, i10, if_false, y1']
              by_cases b0 : b = 0
              · simp only [b0, if_true, bq_eq, nm_eq]
              · simp only [b0, if_false, bq_eq, nm_eq]
            -- the fields
            have z1 : I' 15 1 = nI t := by rw [y3 1 (by omega) (by omega), sI_at (by omega)]; exact bf1
            have z2 : I' 15 2 = nI s := by rw [y3 2 (by omega) (by omega), sI_at (by omega)]; exact bf2
            have z3 : I' 15 3 = nI q := by rw [y3 3 (by omega) (by omega), sI_at (by omega)]; exact bf3
            have z4 : I' 15 4 = nI p := by rw [y3 4 (by omega) (by omega), sI_eq]; exact ep'
            have no : b = 0 → fK8_done J K = some (-11, J, K) → Vb I0 J L K B T := by
              intro b0 e2
              rw [if_pos b0] at rd3
              exact vb_no hI hR hL y2.set rd3 sI_eq e2
            have yes : b = 1 → ∀ v k : Nat, v ≤ 4 → wayN I0 w 5 = v → (v = 4 → I' 15 6 = nI k ∧ 1 ≤ k ∧ k ≤ 99) → fK8_done J K = fK8_ordered_272 (nI s) (nI t) (nI q) (nI p) (if v = 4 then nI k else 0) (if v = 1 then 1 else 0) (if v = 2 then 1 else 0) (if v = 3 then 1 else 0) J K → Vb I0 J L K B T := by
              intro b1 v k hv hwv h6 e2
              rw [b1, if_neg i10] at rd3
              have m0 : sI (sI I' 15 0 4) 11 0 0 15 0 = 4 := by rw [sc_15, sI_eq]
              have mm : ∀ j, j ≠ 0 → sI (sI I' 15 0 4) 11 0 0 15 j = I' 15 j := fun j hj => by rw [sc_15, sI_at (by omega)]
              have hs := y2.set (j := 0) (v := 4)
              refine vb_of hI hR rd3 (x := fK2_placeLimit (sI (sI I' 15 0 4) 11 0 0) L) (by rw [perf m0]; rfl) e2 (B' := B + 4200000000) (T' := T + 42) (by omega) (by omega) ?_
              exact limit_rel (w := v) (k := k) (sc_inv hs hI) (sc_rr hs hR) hL (by rw [mm 1 (by omega)]; exact z1) (by rw [mm 2 (by omega)]; exact z2) (by rw [mm 3 (by omega)]; exact z3) (by rw [mm 4 (by omega)]; exact z4) (by rw [mm 5 (by omega), y4, hwv]) hv (fun q => by rw [mm 6 (by omega)]; exact h6 q) (by omega) hs2 hq9 hp9 hp1 hB hT
            -- how many words
            have none5 : w ≤ 5 → ∀ i, SW I0 w 5 i = false := fun hw5 i => by
              have : ¬ 5 < w := by omega
              simp only [SW, this, decide_false, Bool.false_and]
            by_cases c5 : w = 5
            · have e4 := none5 (by omega) 4
              have wn : wayN I0 w 5 = 0 := by simp only [wayN, none5 (show w ≤ 5 by omega), Bool.false_eq_true, if_false]
              rcases y5 with ⟨x, -⟩ | ⟨-, hb⟩
              · rw [e4] at x; exact absurd x (by decide)
              · rw [wn, if_pos rfl, if_pos c5] at hb
                rw [if_pos c5] at rs2
                exact yes hb 0 0 (by omega) wn (fun x => absurd x (by omega)) rs2
            · rw [if_neg c5] at rs2
              by_cases c6 : w = 6
              · rw [if_pos c6] at rs2
                cases e4 : SW I0 w 5 4 with
                | true =>
                  have e5 : SW I0 w 5 5 = false := SW_excl (i := 4) (by omega) (by omega) (by omega) e4
                  have e6 : SW I0 w 5 6 = false := SW_excl (i := 4) (by omega) (by omega) (by omega) e4
                  have e7 : SW I0 w 5 7 = false := SW_excl (i := 4) (by omega) (by omega) (by omega) e4
                  rw [e5, e6, e7] at rs2
                  rcases y5 with ⟨-, hb, -⟩ | ⟨x, -⟩
                  · rw [if_neg (by omega)] at hb
                    exact no hb rs2
                  · rw [e4] at x; exact absurd x (by decide)
                | false =>
                  rcases y5 with ⟨x, -⟩ | ⟨-, hb⟩
                  · rw [e4] at x; exact absurd x (by decide)
                  · cases e5 : SW I0 w 5 5 with
                    | true =>
                      have wn : wayN I0 w 5 = 1 := by simp only [wayN, e4, e5, Bool.false_eq_true, if_false, if_true]
                      rw [wn] at hb
                      replace hb : b = 1 := hb.trans (if_pos (by rw [if_neg (show ¬ (1 : Nat) = 0 by omega)]; omega))
                      rw [e5] at rs2
                      exact yes hb 1 0 (by omega) wn (fun x => absurd x (by omega)) rs2
                    | false =>
                      cases e6 : SW I0 w 5 6 with
                      | true =>
                        have wn : wayN I0 w 5 = 2 := by simp only [wayN, e4, e5, e6, Bool.false_eq_true, if_false, if_true]
                        rw [wn] at hb
                        replace hb : b = 1 := hb.trans (if_pos (by rw [if_neg (show ¬ (2 : Nat) = 0 by omega)]; omega))
                        rw [e5, e6] at rs2
                        exact yes hb 2 0 (by omega) wn (fun x => absurd x (by omega)) rs2
                      | false =>
                        cases e7 : SW I0 w 5 7 with
                        | true =>
                          have wn : wayN I0 w 5 = 3 := by simp only [wayN, e4, e5, e6, e7, Bool.false_eq_true, if_false, if_true]
                          rw [wn] at hb
                          replace hb : b = 1 := hb.trans (if_pos (by rw [if_neg (show ¬ (3 : Nat) = 0 by omega)]; omega))
                          rw [e5, e6, e7] at rs2
                          exact yes hb 3 0 (by omega) wn (fun x => absurd x (by omega)) rs2
                        | false =>
                          have wn : wayN I0 w 5 = 0 := by simp only [wayN, e4, e5, e6, e7, Bool.false_eq_true, if_false]
                          rw [wn, if_pos rfl, if_neg (by omega)] at hb
                          rw [e5, e6, e7] at rs2
                          exact no hb rs2
              · rw [if_neg c6] at rs2
                by_cases c7 : w = 7
                · rw [if_pos c7] at rs2
                  cases e4 : SW I0 w 5 4 with
                  | true =>
                    rcases y5 with ⟨-, hb, h6⟩ | ⟨x, -⟩
                    · rw [if_pos (by omega)] at hb
                      rw [e4, if_pos rfl] at rs2
                      have pnN : PN (lim 1 99 (NW I0 w 6)) := pn_lim (a := 1) (b := 99) hC 6 (by decide) (by decide)
                      by_cases cn : lim 1 99 (NW I0 w 6) = -1
                      · have hb' : b = 0 := hb.trans (if_pos cn)
                        rw [if_neg (fun y => (pnN.ge.mp y) cn)] at rs2
                        exact no hb' rs2
                      · have hb' : b = 1 := hb.trans (if_neg cn)
                        rw [if_pos (pnN.ge.mpr cn)] at rs2
                        obtain ⟨k, hk1, hk9, ek⟩ := ex_lim (a := 1) (b := 99) hC 6 (by decide) (by decide) cn
                        have ek' : lim 1 99 (NW I0 w 6) = nI k := ek
                        have wn : wayN I0 w 5 = 4 := by simp only [wayN, e4, if_true]
                        rw [ek'] at rs2
                        exact yes hb' 4 k (by omega) wn (fun _ => ⟨(h6 (by omega)).trans ek', hk1, hk9⟩) rs2
                    · rw [e4] at x; exact absurd x (by decide)
                  | false =>
                    rw [e4] at rs2
                    rcases y5 with ⟨x, -⟩ | ⟨-, hb⟩
                    · rw [e4] at x; exact absurd x (by decide)
                    · have : ¬ w = (if wayN I0 w 5 = 0 then 5 else 5 + 1) := by split <;> omega
                      rw [if_neg this] at hb
                      exact no hb rs2
                · rw [if_neg c7] at rs2
                  have hw := hC.2.1
                  have e4 := none5 (by omega) 4
                  have wn : wayN I0 w 5 = 0 := by simp only [wayN, none5 (show w ≤ 5 by omega), Bool.false_eq_true, if_false]
                  rcases y5 with ⟨x, -⟩ | ⟨-, hb⟩
                  · rw [e4] at x; exact absurd x (by decide)
                  · rw [wn, if_pos rfl, if_neg c5] at hb
                    exact no hb rs2
      by_cases c4 : w = 4
      · rw [if_pos (w4.mpr c4)] at rd1 rs1
        have qs : fK5_says 3 2 Z L = some (b2i (SW I0 w 3 2)) := q_says (k := 3) hsb hC.2.1 hC.2.2.1 hC.2.2.2.1 hC.2.2.2.2.1 (by decide) (by omega)
        rw [qs, bn_eq] at rd1
        cases ca : SW I0 w 3 2 with
        | false =>
          rw [ca, b2f, if_pos rfl] at rd1
          rw [ca, if_pos rfl] at rs1
          exact rest rd1 rs1
        | true =>
          rw [ca, b2t, if_neg i10, bq_eq, nm_eq] at rd1
          rw [ca, if_neg (by decide)] at rs1
          have hs : Sc I0 (sI (sI Z 15 4 0) 15 0 5) := hsb.set.set
          have m0 : sI (sI (sI Z 15 4 0) 15 0 5) 11 0 0 15 0 = 5 := by rw [sc_15, sI_eq]
          have m1 : sI (sI (sI Z 15 4 0) 15 0 5) 11 0 0 15 1 = nI t := by rw [sc_15, sI_at (by omega), sI_at (by omega)]; exact bf1
          have m2 : sI (sI (sI Z 15 4 0) 15 0 5) 11 0 0 15 2 = nI s := by rw [sc_15, sI_at (by omega), sI_at (by omega)]; exact bf2
          have m3 : sI (sI (sI Z 15 4 0) 15 0 5) 11 0 0 15 3 = nI q := by rw [sc_15, sI_at (by omega), sI_at (by omega)]; exact bf3
          have m4 : sI (sI (sI Z 15 4 0) 15 0 5) 11 0 0 15 4 = nI 0 := by rw [sc_15, sI_at (by omega), sI_eq]; rfl
          exact vb_of hI hR rd1 (x := fK2_placeAny (sI (sI (sI Z 15 4 0) 15 0 5) 11 0 0) L) (by rw [perf m0]; rfl) rs1 (B' := B + 4200000000) (T' := T + 42) (by omega) (by omega) (any_rel (sc_inv hs hI) (sc_rr hs hR) hL m1 m2 m3 m4 (by omega) hs2 hq9 hB hT)
      · have c4' : ¬ nI w = 4 := fun y => c4 (w4.mp y)
        rw [if_neg c4'] at rd1 rs1
        exact rest rd1 rs1
end V3
