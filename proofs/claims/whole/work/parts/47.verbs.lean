/-! PURE PART 18: the verbs -/
section VB
variable {I0 J : FI} {L K : FL} {w z n B T : Nat}
def Vb (I0 J : FI) (L K : FL) (B T : Nat) : Prop := ∃ I2, rdC I0 L = some (I2, L) ∧ ∃ (r : Int32) (I9 : FI) (L10 : FL) (J8 : FI) (K9 : FL), fK2_perform (sI I2 11 0 0) L = some (r, I9, L10) ∧ fK8_done J K = some (r, J8, K9) ∧ Out (sI I2 11 0 0) J (B + 400000000000) (T + 42) I9 L10 J8 K9
theorem Out.mono {I J : FI} {B T B' T' : Nat} {I' : FI} {L' : FL} {J' : FI} {K' : FL} (h : Out I J B T I' L' J' K') (hB : B ≤ B') (hT : T ≤ T') : Out I J B' T' I' L' J' K' := by
  obtain ⟨a, b, ⟨n, c⟩, d⟩ := h
  exact ⟨a, b, ⟨n, c.mono hB hT⟩, d⟩
theorem sc_inv {I2 : FI} (h : Sc I0 I2) (hI : Inv I0 L n B T) : Inv (sI I2 11 0 0) L n B T := by
  refine hI.row (fun k _ f hf => ?_) ?_ ?_
  · rw [sI_at (by omega)]; exact h f k (by omega)
  · rw [sI_at (by omega)]; exact h 11 1 (by omega)
  · rw [sI_at (by omega)]; exact h 11 2 (by omega)
theorem sc_rr {I2 : FI} (h : Sc I0 I2) (hR : Rr I0 J) : Rr (sI I2 11 0 0) J := by
  intro f j hf
  rw [sI_at (by omega), h f j (by omega)]
  exact hR f j hf
theorem sc_15 {I2 : FI} (j : Nat) : sI I2 11 0 0 15 j = I2 15 j := sI_at (by omega)
theorem vb_no (hI : Inv I0 L n B T) (hR : Rr I0 J) (hL : Rl L K) {I2 : FI} (hs : Sc I0 I2) (h1 : rdC I0 L = some (I2, L)) (h0 : I2 15 0 = 0) (h2 : fK8_done J K = some (-11, J, K)) : Vb I0 J L K B T :=
  ⟨I2, h1, -11, sI I2 11 0 0, L, J, K, perf0 ((sc_15 0).trans h0), h2, Out.same (sc_inv hs hI) (sc_rr hs hR) hL (by omega) (by omega)⟩
theorem vb_of (hI : Inv I0 L n B T) (hR : Rr I0 J) {I2 : FI} (h1 : rdC I0 L = some (I2, L)) {x : Option (Int32 × FI × FL)} {y : Option (Int32 × FI × FL)} (hx : fK2_perform (sI I2 11 0 0) L = x) (hy : fK8_done J K = y) {B' T' : Nat} (hB : B' ≤ B + 400000000000) (hT : T' ≤ T + 42)
    (h : ∃ (r : Int32) (I9 : FI) (L10 : FL) (J8 : FI) (K9 : FL), x = some (r, I9, L10) ∧ y = some (r, J8, K9) ∧ Out (sI I2 11 0 0) J B' T' I9 L10 J8 K9) : Vb I0 J L K B T := by
  obtain ⟨r, I9, L10, J8, K9, a, b, c⟩ := h
  exact ⟨I2, h1, r, I9, L10, J8, K9, hx.trans a, hy.trans b, c.mono hB hT⟩
/-- which text the first word is -/
theorem firsts {i : Nat} (hi : i < 15) (h : SW I0 w 0 i = true) : ∀ i', i' < 15 → i' ≠ i → SW I0 w 0 i' = false := fun i' hi' hne => SW_excl hi hi' (Ne.symm hne) h
theorem f_says (hC : RC I0 J w z) {i : Nat} (hi : i < nJS) : fK5_says 0 i I0 L = some (b2i (SW I0 w 0 i)) := q_says (k := 0) Sc.rf hC.2.1 hC.2.2.1 hC.2.2.2.1 hC.2.2.2.2.1 hi (by omega)
theorem g_is (hC : RC I0 J w z) (i i' : Nat) (hi : i' < nJS) (hl : lenJS.getD i' 0 = lenJS.getD i 0) (hb : bytJS.getD i' [] = bytJS.getD i []) : fK8_is 0 i' J K = some (b2i (SW I0 w 0 i)) := p_is (k := 0) hC i i' hi (by omega) hl hb
theorem b2t : b2i true = 1 := rfl
theorem b2f : b2i false = 0 := rfl
theorem i10 : ¬ (1 : Int32) = 0 := by decide
/-- cash, goods, take -/
theorem v_amount (hI : Inv I0 L n B T) (hR : Rr I0 J) (hL : Rl L K) (hC : RC I0 J w z) (hB : B < 2 ^ 60) {v : Nat} (hv : v = 1 ∨ v = 2 ∨ v = 3) (h : SW I0 w 0 (8 + v) = true) : Vb I0 J L K B T := by
  have hx := firsts (show 8 + v < 15 by omega) h
  have sf : ∀ i, i < 15 → fK5_says 0 i I0 L = some (b2i (SW I0 w 0 i)) := fun i hi => f_says hC (by simp only [nJS]; omega)
  have c0 := hx 0 (by omega) (by omega)
  have c1 := hx 1 (by omega) (by omega)
  have c8 := hx 8 (by omega) (by omega)
  -- the class
  have rd : rdC I0 L = bq (fK1_readAmount (nI v) I0 L) (fun r I L => nm (sI I 15 0 r) (fun I => some (I, L))) := by
    rcases hv with rfl | rfl | rfl
    · simp only [rdC, sf 0 (by omega), sf 1 (by omega), sf 8 (by omega), sf 9 (by omega), bn_eq, c0, c1, c8, h, b2t, b2f, if_true, if_neg i10]; rfl
    · have c9 := hx 9 (by omega) (by omega)
      simp only [rdC, sf 0 (by omega), sf 1 (by omega), sf 8 (by omega), sf 9 (by omega), sf 10 (by omega), bn_eq, c0, c1, c8, c9, h, b2t, b2f, if_true, if_neg i10]; rfl
    · have c9 := hx 9 (by omega) (by omega)
      have c10 := hx 10 (by omega) (by omega)
      simp only [rdC, sf 0 (by omega), sf 1 (by omega), sf 8 (by omega), sf 9 (by omega), sf 10 (by omega), sf 11 (by omega), bn_eq, c0, c1, c8, c9, c10, h, b2t, b2f, if_true, if_neg i10]; rfl
  -- the reference
  have g9 := g_is (K := K) hC 9 15 (by decide) rfl rfl
  have g10 := g_is (K := K) hC 10 16 (by decide) rfl rfl
  have g11 := g_is (K := K) hC 11 17 (by decide) rfl rfl
  have rs : fK8_done J K = fK8_done_30 J K := by
    rcases hv with rfl | rfl | rfl
    · simp only [fK8_done, g9, bn_eq, h, b2t, if_neg i10]
    · have c9 := hx 9 (by omega) (by omega)
      simp only [fK8_done, g9, g10, bn_eq, h, c9, b2t, b2f, if_true, if_neg i10]
    · have c9 := hx 9 (by omega) (by omega)
      have c10 := hx 10 (by omega) (by omega)
      simp only [fK8_done, g9, g10, g11, bn_eq, h, c9, c10, b2t, b2f, if_true, if_neg i10]
  have pw := p_whose (K := K) (k := 1) hC (by omega)
  have pa := p_any (K := K) (k := 2) hC (by omega)
  have pw' : fK8_whose 1 J K = some (lim 0 7 (NW I0 w 1)) := pw
  have pa' : fK8_any 2 J K = some (NW I0 w 2) := pa
  have pnT : PN (lim 0 7 (NW I0 w 1)) := pn_lim (a := 0) (b := 7) hC 1 (by decide) (by decide)
  have pnN := pn_nw hC 2
  have q2 : fK5_number 2 I0 L = some (NW I0 w 2) := q_number (k := 2) Sc.rf hC.2.1 hC.2.2.1 hC.2.2.2.1 hC.2.2.2.2.1 (by omega)
  have qo : fK1_readOwner 1 (sI I0 15 8 (NW I0 w 2)) L = some (if lim 0 7 (NW I0 w 1) = -1 then 0 else 1, sI (sI I0 15 8 (NW I0 w 2)) 15 1 (lim 0 7 (NW I0 w 1)), L) := q_owner (k := 1) Sc.rf.set hC.2.1 hC.2.2.1 hC.2.2.2.1 hC.2.2.2.2.1 (by omega)
  have a12 : sI I0 15 8 (NW I0 w 2) 12 0 = nI w := by rw [sI_at (by omega)]; exact hC.2.2.2.1
  have a8 : sI (sI I0 15 8 (NW I0 w 2)) 15 1 (lim 0 7 (NW I0 w 1)) 15 8 = NW I0 w 2 := by rw [sI_at (by omega), sI_eq]
  have w3 := wI hC 3 (by omega)
  by_cases c3 : w = 3
  · have c3' : nI w = 3 := w3.mpr c3
    by_cases ct : lim 0 7 (NW I0 w 1) = -1
    · refine vb_no hI hR hL (I2 := sI (sI (sI I0 15 8 (NW I0 w 2)) 15 1 (lim 0 7 (NW I0 w 1))) 15 0 0) (Sc.rf.set.set.set) ?_ sI_eq ?_
      · rw [rd]
        simp only [fK1_readAmount, q2, bn_eq, nm_eq, a12, if_pos c3', qo, bq_eq, if_pos ct, if_true]
      · rw [rs]
        simp only [fK8_done_30, pw', pa', bn_eq, hC.1, if_pos c3', if_pos (pnT.lt.mpr ct)]
    · by_cases cn : NW I0 w 2 = -1
      · refine vb_no hI hR hL (I2 := sI (sI (sI I0 15 8 (NW I0 w 2)) 15 1 (lim 0 7 (NW I0 w 1))) 15 0 0) (Sc.rf.set.set.set) ?_ sI_eq ?_
        · rw [rd]
          simp only [fK1_readAmount, q2, bn_eq, nm_eq, a12, if_pos c3', qo, bq_eq, if_neg ct, if_neg i10, a8, if_pos cn]
        · rw [rs]
          simp only [fK8_done_30, pw', pa', bn_eq, hC.1, if_pos c3', if_neg (fun y => ct (pnT.lt.mp y)), if_neg (fun y => (pnN.ge.mp y) cn)]
      · obtain ⟨t, -, ht7, et⟩ := ex_lim (a := 0) (b := 7) hC 1 (by decide) (by decide) ct
        have et' : lim 0 7 (NW I0 w 1) = nI t := et
        obtain ⟨y, hy, ey⟩ := pnN.ex cn
        have rd2 : rdC I0 L = some (sI (sI (sI I0 15 8 (NW I0 w 2)) 15 1 (lim 0 7 (NW I0 w 1))) 15 0 (nI v), L) := by
          rw [rd]
          simp only [fK1_readAmount, q2, bn_eq, nm_eq, a12, if_pos c3', qo, bq_eq, if_neg ct, if_neg i10, a8, if_neg cn]
        have e1 : inb (nI t) 8 = true := inb_nI (by omega) (by decide)
        have e2 : (nI t).toNatClampNeg = t := nI_clamp (by omega)
        have hyl : (nI y).toInt64 = lN y := nIl (by omega)
        have rs2 : fK8_done J K = amtR v t y J K := by
          rw [rs]
          have nt : ¬ nI t < 0 := nI_pos (by omega)
          have ny : (0 : Int32) ≤ nI y := nI_pos' (by omega)
          have lgx : ∀ r : Int64, (if 0 ≤ lg_cmp r (lN y) then some (nI y, J, sL K 0 t (K 0 t - lN y)) else some (-16, J, K)) = (if r < lN y then some (-16, J, K) else some (nI y, J, sL K 0 t (K 0 t - lN y))) := by
            intro r
            by_cases q : r < lN y
            · rw [if_neg (fun x => (lg_ge.mp x) q), if_pos q]
            · rw [if_pos (lg_ge.mpr q), if_neg q]
          rcases hv with rfl | rfl | rfl
          · simp only [fK8_done_30, pw', pa', bn_eq, hC.1, if_pos c3', et', ey, if_neg nt, if_pos ny, g9, h, b2t, if_neg i10, e1, e2, ck_tt, nm_eq, hyl, amtR, if_true]
          · have c9 := hx 9 (by omega) (by omega)
            simp only [fK8_done_30, pw', pa', bn_eq, hC.1, if_pos c3', et', ey, if_neg nt, if_pos ny, g9, g10, h, c9, b2t, b2f, if_true, if_neg i10, e1, e2, ck_tt, nm_eq, hyl, amtR, if_neg (show ¬ (2 : Nat) = 1 by omega)]
          · have c9 := hx 9 (by omega) (by omega)
            have c10 := hx 10 (by omega) (by omega)
            simp only [fK8_done_30, pw', pa', bn_eq, hC.1, if_pos c3', et', ey, if_neg nt, if_pos ny, g9, g10, c9, c10, b2f, if_true, e1, e2, ck_tt, nm_eq, hyl, amtR, if_neg (show ¬ (3 : Nat) = 1 by omega), if_neg (show ¬ (3 : Nat) = 2 by omega), lgx]
        have hs : Sc I0 (sI (sI (sI I0 15 8 (NW I0 w 2)) 15 1 (lim 0 7 (NW I0 w 1))) 15 0 (nI v)) := Sc.rf.set.set.set
        have k0 : sI (sI (sI (sI I0 15 8 (NW I0 w 2)) 15 1 (lim 0 7 (NW I0 w 1))) 15 0 (nI v)) 11 0 0 15 0 = nI v := by rw [sc_15, sI_eq]
        have k1 : sI (sI (sI (sI I0 15 8 (NW I0 w 2)) 15 1 (lim 0 7 (NW I0 w 1))) 15 0 (nI v)) 11 0 0 15 1 = nI t := by rw [sc_15, sI_at (by omega), sI_eq]; exact et'
        have k8 : sI (sI (sI (sI I0 15 8 (NW I0 w 2)) 15 1 (lim 0 7 (NW I0 w 1))) 15 0 (nI v)) 11 0 0 15 8 = nI y := by rw [sc_15, sI_at (by omega), a8]; exact ey
        refine vb_of hI hR rd2 (x := fK2_moveAmount (sI (sI (sI (sI I0 15 8 (NW I0 w 2)) 15 1 (lim 0 7 (NW I0 w 1))) 15 0 (nI v)) 11 0 0) L) ?_ rs2 (B' := B + 100000000) (T' := T) (by omega) (by omega) (amount_rel (sc_inv hs hI) (sc_rr hs hR) hL k0 hv k1 k8 (by omega) hy hB)
        rw [perf k0]
        rcases hv with rfl | rfl | rfl
        · exact if_pos rfl
        · rw [if_neg (show ¬ nI 2 = 1 by decide)]; exact if_pos rfl
        · rw [if_neg (show ¬ nI 3 = 1 by decide), if_neg (show ¬ nI 3 = 2 by decide)]; exact if_pos rfl
  · have c3' : ¬ nI w = 3 := fun y => c3 (w3.mp y)
    refine vb_no hI hR hL (I2 := sI (sI I0 15 8 (NW I0 w 2)) 15 0 0) (Sc.rf.set.set) ?_ sI_eq ?_
    · rw [rd]
      simp only [fK1_readAmount, q2, bn_eq, nm_eq, a12, if_neg c3', bq_eq]
    · rw [rs]
      simp only [fK8_done_30, pw', pa', bn_eq, hC.1, if_neg c3']
/-- tick -/
theorem v_tick (hI : Inv I0 L n B T) (hR : Rr I0 J) (hL : Rl L K) (hC : RC I0 J w z) (h : SW I0 w 0 14 = true) : Vb I0 J L K B T := by
  have hx := firsts (show 14 < 15 by omega) h
  have sf : ∀ i, i < 15 → fK5_says 0 i I0 L = some (b2i (SW I0 w 0 i)) := fun i hi => f_says hC (by simp only [nJS]; omega)
  have rd : rdC I0 L = bq (fK1_readTick I0 L) (fun r I L => nm (sI I 15 0 r) (fun I => some (I, L))) := by
    simp only [rdC, sf 0 (by omega), sf 1 (by omega), sf 8 (by omega), sf 9 (by omega), sf 10 (by omega), sf 11 (by omega), sf 12 (by omega), sf 13 (by omega), sf 14 (by omega), bn_eq, hx 0 (by omega) (by omega), hx 1 (by omega) (by omega), hx 8 (by omega) (by omega), hx 9 (by omega) (by omega), hx 10 (by omega) (by omega), hx 11 (by omega) (by omega), hx 12 (by omega) (by omega), hx 13 (by omega) (by omega), h, b2t, b2f, if_true, if_neg i10]
  have g9 := g_is (K := K) hC 9 15 (by decide) rfl rfl
  have g10 := g_is (K := K) hC 10 16 (by decide) rfl rfl
  have g11 := g_is (K := K) hC 11 17 (by decide) rfl rfl
  have g0 := g_is (K := K) hC 0 18 (by decide) rfl rfl
  have g1 := g_is (K := K) hC 1 19 (by decide) rfl rfl
  have g8 := g_is (K := K) hC 8 26 (by decide) rfl rfl
  have g12 := g_is (K := K) hC 12 27 (by decide) rfl rfl
  have g13 := g_is (K := K) hC 13 28 (by decide) rfl rfl
  have g14 := g_is (K := K) hC 14 29 (by decide) rfl rfl
  have pn : fK8_number 1 1 99 J K = some (lim 1 99 (NW I0 w 1)) := p_num (K := K) (k := 1) (a := 1) (b := 99) hC (by decide) (by omega)
  have rs : fK8_done J K = (if nI w = 2 then (if 0 ≤ lim 1 99 (NW I0 w 1) then fK8_done_517 FU (lim 1 99 (NW I0 w 1)) 0 0 J K else some (-11, J, K)) else some (-11, J, K)) := by
    simp only [fK8_done, g9, g10, g11, g0, g1, g8, g12, g13, g14, bn_eq, hx 0 (by omega) (by omega), hx 1 (by omega) (by omega), hx 8 (by omega) (by omega), hx 9 (by omega) (by omega), hx 10 (by omega) (by omega), hx 11 (by omega) (by omega), hx 12 (by omega) (by omega), hx 13 (by omega) (by omega), h, b2t, b2f, if_true, if_neg i10, pn, hC.1]
  have pnT : PN (lim 1 99 (NW I0 w 1)) := pn_lim (a := 1) (b := 99) hC 1 (by decide) (by decide)
  have qt : fK1_readTicks 1 I0 L = some (if lim 1 99 (NW I0 w 1) = -1 then 0 else 1, sI I0 15 6 (lim 1 99 (NW I0 w 1)), L) := q_ticks (k := 1) Sc.rf hC.2.1 hC.2.2.1 hC.2.2.2.1 hC.2.2.2.2.1 (by omega)
  have w2 := wI hC 2 (by omega)
  by_cases c2 : w = 2
  · have c2' : nI w = 2 := w2.mpr c2
    by_cases ct : lim 1 99 (NW I0 w 1) = -1
    · refine vb_no hI hR hL (I2 := sI (sI I0 15 6 (lim 1 99 (NW I0 w 1))) 15 0 0) (Sc.rf.set.set) ?_ sI_eq ?_
      · rw [rd]
        simp only [fK1_readTick, hC.2.2.2.1, if_pos c2', qt, bq_eq, if_pos ct, if_true, nm_eq]
      · rw [rs, if_pos c2', if_neg (fun y => (pnT.ge.mp y) ct)]
    · obtain ⟨N, -, hN, eN⟩ := ex_lim (a := 1) (b := 99) hC 1 (by decide) (by decide) ct
      have eN' : lim 1 99 (NW I0 w 1) = nI N := eN
      have rd2 : rdC I0 L = some (sI (sI I0 15 6 (lim 1 99 (NW I0 w 1))) 15 0 9, L) := by
        rw [rd]
        simp only [fK1_readTick, hC.2.2.2.1, if_pos c2', qt, bq_eq, if_neg ct, if_neg i10, nm_eq]
      have hs : Sc I0 (sI (sI I0 15 6 (lim 1 99 (NW I0 w 1))) 15 0 9) := Sc.rf.set.set
      have k0 : sI (sI (sI I0 15 6 (lim 1 99 (NW I0 w 1))) 15 0 9) 11 0 0 15 0 = 9 := by rw [sc_15, sI_eq]
      have k6 : sI (sI (sI I0 15 6 (lim 1 99 (NW I0 w 1))) 15 0 9) 11 0 0 15 6 = nI N := by rw [sc_15, sI_at (by omega), sI_eq]; exact eN'
      obtain ⟨v', I', L', J', K', r1, r2, r3, r4, r5, r6, r7⟩ := tick_out hN N 0 FU FU 0 _ J L K B T (by omega) (by simp only [FU]; omega) (by simp only [FU]; omega) (sc_inv hs hI) (sc_rr hs hR) hL
      refine ⟨_, rd2, v', I', L', J', K', ?_, ?_, r3, r4, ⟨n, r5.mono (by omega) (by omega)⟩, r6, r7⟩
      · rw [perf k0, k6]
        have : fK2_passTime (nI N) (sI (sI (sI I0 15 6 (lim 1 99 (NW I0 w 1))) 15 0 9) 11 0 0) L = some (v', I', L') := r1
        rw [this]
        rfl
      · rw [rs, if_pos c2', eN', if_pos (nI_pos' (by omega))]
        exact r2
  · have c2' : ¬ nI w = 2 := fun y => c2 (w2.mp y)
    refine vb_no hI hR hL (I2 := sI I0 15 0 0) (Sc.rf.set) ?_ sI_eq ?_
    · rw [rd]
      simp only [fK1_readTick, hC.2.2.2.1, if_neg c2', bq_eq, nm_eq]
    · rw [rs, if_neg c2']
end VB
