/-! PURE PART 8: both sides meet alike -/
theorem bst_same {I J : FI} {s p : Int32} {n : Nat} (h : Rr I J) (hn : n ≤ 40) : bst J s p n = bst I s p n :=
  bst_congr (fun k _ => ⟨h.at (by omega), h.at (by omega), h.at (by omega)⟩) hn
def MeetOut (n : Nat) (o : Fin 40) (t s lim : Nat) (a : Int32) (oc : Nat) (I J : FI) (L K : FL) (B T j q lo f g : Nat) : Prop :=
  ∃ (I' : FI) (L' : FL) (J' : FI) (K' : FL) (q' : Nat), fK2_meet_6 f o (nI lim) (nI q) (nI j) I L = some (I', L') ∧ fK8_meets_19 g (nI o.val) a (nI t) (nI s) (nI q) J K = some (J', K') ∧ Rr I' J' ∧ Rl L' K' ∧ Inv I' L' n (B + (oc + 2) * 100000000) (T + (oc + 2)) ∧ q' ≤ q ∧ I' 2 o.val = nI (lo - q + q') ∧ Fnd L' t s lim q' (B + (oc + 2) * 100000000) ∧ Fr I I' ∧ J' 11 0 = J 11 0
set_option maxHeartbeats 4000000 in
theorem meet_rel {n : Nat} {o : Fin 40} {t s lim : Nat} {a : Int32} (ht : t < 8) (hs : s < 2) (hlim : lim ≤ 9999) (ha : (a = 0 ∧ 1 ≤ lim) ∨ (a = 1 ∧ lim = 0)) (ho : o.val < n) :
    ∀ (oc : Nat) (I J : FI) (L K : FL) (B T j q lo f g : Nat), Inv I L n B T → Rr I J → Rl L K → I 4 o.val = 2 → I 0 o.val = nI t → I 1 o.val = nI s → I 2 o.val = nI lo → (a = 0 → I 3 o.val = nI lim) → lo ≤ 9999 → q ≤ lo → ocn I n ≤ oc → j + oc ≤ 40 → Fnd L t s lim q B → B + (oc + 2) * 100000000 < 2 ^ 60 → T + (oc + 2) < 2 ^ 30 → oc + 2 < f → oc + 2 < g →
      MeetOut n o t s lim a oc I J L K B T j q lo f g := by
  intro oc
  induction oc using Nat.strongRecOn with
  | ind oc ih =>
    intro I J L K B T j q lo f g hI hR hL h4 h0 h1 h2 h3 hlo hq hoc hj hF hB hT hf hg
    obtain ⟨f, rfl⟩ : ∃ z, f = z + 1 := ⟨f - 1, by omega⟩
    obtain ⟨g, rfl⟩ : ∃ z, g = z + 1 := ⟨g - 1, by omega⟩
    have h40 := hI.2.1
    have stop : ∀ (e1 : fK2_meet_6 (f + 1) o (nI lim) (nI q) (nI j) I L = some (I, L)) (e2 : fK8_meets_19 (g + 1) (nI o.val) a (nI t) (nI s) (nI q) J K = some (J, K)), MeetOut n o t s lim a oc I J L K B T j q lo (f + 1) (g + 1) :=
      fun e1 e2 => ⟨I, L, J, K, q, e1, e2, hR, hL, hI.mono (by omega) (by omega), Nat.le_refl _, by rw [h2, Nat.sub_add_cancel hq], hF.mono (Nat.le_refl _) (by omega), Fr.rf, rfl⟩
    by_cases q0 : q = 0
    · subst q0
      exact stop (c_zero f (by omega)) (r_zero g)
    · have hnJ : J 11 1 = nI n := by rw [hR.at (by omega)]; exact hI.1
      have h3J : (a = 0 ∧ J 3 o.val = nI lim) ∨ (a = 1 ∧ lim = 0) := by
        rcases ha with ⟨z, -⟩ | z
        · exact Or.inl ⟨z, by rw [hR.at (by omega)]; exact h3 z⟩
        · exact Or.inr z
      have cs := c_step (L := L) (lim := lim) hI h1 hs (show j ≤ 41 by omega) (show 1 ≤ q by omega) (by omega) f
      have rs := r_step (K := K) (t := t) (s := s) hnJ h40 (show 1 ≤ q by omega) (by omega) h3J g
      rw [bst_same hR h40] at rs
      cases hb : bst I (nI s) (nI lim) n with
      | none =>
        rw [hb, mo_none] at cs rs
        exact stop cs rs
      | some m =>
        rw [hb, mo_some] at cs rs
        obtain ⟨hm, hism⟩ := bst_some h40 hb
        obtain ⟨hm4, hm1, hmp⟩ := isM_open hism
        have hoc1 : 1 ≤ oc := Nat.le_trans (ocn_pos hm4 hm) hoc
        have hom : o.val ≠ m.val := fun e => by rw [e, hm4] at h4; exact absurd h4 (by decide)
        obtain ⟨u, s', qm, p, hu, hs', hqm, hp, m0, m1, m2, m3, -, hp1⟩ := hI.2.2.1 m.val hm
        have hp1 := hp1 hm4
        have hs1 : s' = 1 - s := by
          have : s' ≠ s := fun e => hm1 (by rw [m1, e])
          omega
        subst hs1
        have J0 : J 0 m.val = nI u := by rw [hR.at (by omega)]; exact m0
        have J2 : J 2 m.val = nI qm := by rw [hR.at (by omega)]; exact m2
        have J3 : J 3 m.val = nI p := by rw [hR.at (by omega)]; exact m3
        by_cases same : u = t
        · -- of the same trader: cancelled
          subst same
          rw [m0, h0, if_pos rfl] at cs
          rw [J0, if_pos rfl] at rs
          obtain ⟨L1, hc1, hI1, hl0, hl1, hfc, hfg⟩ := c_cancel hI m hm hm4
          rw [hc1, bv_eq] at cs
          have hoc2 : ocn (sI I 4 m.val 2) n ≤ oc - 1 := by
            have := ocn_close (I := I) (I' := sI I 4 m.val 2) hm4 (by rw [sI_eq]; decide) hm (fun k _ hk => sI_at (by omega))
            omega
          have hF1 : Fnd L1 u s lim q (B + 100000000) := by
            refine ⟨fun z1 z2 => ?_, fun z1 => ?_⟩
            · obtain ⟨F, f1, f2, f3⟩ := hF.1 z1 z2
              subst z1
              exact ⟨F, by rw [hfc u ht (Or.inl m1)]; exact f1, by omega, f3⟩
            · obtain ⟨F, f1, f2, f3⟩ := hF.2 z1
              subst z1
              exact ⟨F, by rw [hfg u ht (Or.inl m1)]; exact f1, by omega, f3⟩
          obtain ⟨I', L', J', K', q', r1, r2, r3, r4, r5, r6, r7, r8, r9, r10⟩ := ih (oc - 1) (by omega) (sI I 4 m.val 2) (sI J 4 m.val 2) L1 K (B + 100000000) T (j + 1) q lo f g hI1 hR.set ⟨by rw [hl0]; exact hL.1, by rw [hl1]; exact hL.2⟩
            (by rw [sI_at (by omega)]; exact h4) (by rw [sI_at (by omega)]; exact h0) (by rw [sI_at (by omega)]; exact h1) (by rw [sI_at (by omega)]; exact h2) (fun z => by rw [sI_at (by omega)]; exact h3 z) hlo hq hoc2 (by omega) hF1 (by omega) (by omega) (by omega) (by omega)
          exact ⟨I', L', J', K', q', cs.trans r1, rs.trans r2, r3, r4, r5.mono (by omega) (by omega), r6, r7, r8.mono (Nat.le_refl _) (by omega), (Fr_close hm4).tr r9, by rw [r10, sI_at (by omega)]⟩
        · -- a trade, or none
          have dif : ¬ nI u = nI t := fun z => same ((nI_inj8 hu ht).mp z)
          rw [m0, h0, if_neg dif, m3, mn_eq m2 hqm (by omega)] at cs
          rw [J0, if_neg dif, J3, mn_eq J2 hqm (by omega)] at rs
          obtain ⟨fr1, fr2⟩ := r_free hI hR hL ht
          obtain ⟨-, -, ⟨F, hFB, hFe⟩, ⟨Gd, hGB, hGe⟩⟩ := hI.2.2.2.2 t ht
          -- the quantity
          have hw : ∃ w, w ≤ min qm q ∧ fK2_payable o (nI p) (nI (min qm q)) I L = some (nI w) ∧ (s = 0 → w * p ≤ F) ∧ (w = min qm q ∨ (s = 0 ∧ a = 1 ∧ lim = 0 ∧ w = F / p)) ∧
              fK8_meets_19 (g + 1) (nI o.val) a (nI t) (nI s) (nI q) J K = fK8_meets_126 (fK8_meets_19 g) (nI o.val) a (nI t) (nI s) (nI q) (nI m.val) (nI w) (nI p) J K := by
            rcases nI_01 hs with ⟨z1, z2⟩ | ⟨z1, z2⟩
            · -- a buy
              subst z2
              have pay := c_pay0 (I := I) (L := L) (a := min qm q) (p := p) (h1.trans z1) h0 ht hFe (by omega) hp1 hp (by omega)
              rcases ha with ⟨a0, hl1⟩ | ⟨a1, hl0⟩
              · have hle : p ≤ lim := by
                  rcases hmp with e | ⟨-, e⟩ | ⟨e, -⟩
                  · have := (nI_z (a := lim) (by omega)).mp e; omega
                  · rw [m3] at e
                    have := nI_ltI (a := lim) (b := p) (by omega) (by omega)
                    rcases Nat.lt_or_ge lim p with q1 | q1
                    · exact absurd (this.mpr q1) e
                    · exact q1
                  · exact absurd z1 e
                obtain ⟨F', f1, f2, f3⟩ := hF.1 rfl (by omega)
                have eF : F' = F := (pk_lEQ (by omega) (by omega)).mp (f1.symm.trans hFe)
                subst eF
                have hqp : q * p ≤ F' := Nat.le_trans (Nat.mul_le_mul_left q hle) f3
                have hdiv : q ≤ F' / p := (Nat.le_div_iff_mul_le (by omega)).mpr hqp
                refine ⟨min qm q, Nat.le_refl _, by rw [pay, Nat.min_eq_right (by omega)], fun _ => Nat.le_trans (Nat.mul_le_mul_right p (Nat.min_le_right qm q)) hqp, Or.inl rfl, ?_⟩
                rw [rs, if_pos a0]
              · refine ⟨min (F / p) (min qm q), Nat.min_le_right _ _, pay, fun _ => Nat.le_trans (Nat.mul_le_mul_right p (Nat.min_le_left _ _)) (Nat.div_mul_le_self F p), ?_, ?_⟩
                · rcases Nat.le_total (F / p) (min qm q) with y | y
                  · exact Or.inr ⟨rfl, a1, hl0, Nat.min_eq_left y⟩
                  · exact Or.inl (Nat.min_eq_right y)
                · have d3 : decide (¬ (nI p).toInt64 = 0) = true := by
                    rw [decide_eq_true_eq, nIl (show p < 2 ^ 31 by omega)]
                    intro z
                    have := (pk_lEQ (a := p) (b := 0) (by omega) (by decide)).mp z
                    omega
                  rw [rs, if_neg (by rw [a1]; decide), if_pos z1, fr1, bn_eq, hFe, d3, ck_tt, pay_eq (by omega) hp1 hp (by omega)]
            · -- a sell
              subst z2
              refine ⟨min qm q, Nat.le_refl _, c_pay1 (h1.trans z1), fun z => absurd z (by omega), Or.inl rfl, ?_⟩
              rw [rs]
              rcases ha with ⟨a0, -⟩ | ⟨a1, -⟩
              · rw [if_pos a0]
              · rw [if_neg (by rw [a1]; decide), if_neg (by rw [z1]; decide)]
          obtain ⟨w, hwm, hpay, hwF, hwk, rs'⟩ := hw
          clear rs
          rw [hpay, bn_eq] at cs
          by_cases w0 : w = 0
          · subst w0
            rw [if_pos (show nI 0 = 0 from rfl)] at cs
            refine stop cs (rs'.trans ?_)
            simp only [fK8_meets_126, if_pos (show nI 0 = 0 from rfl)]
          · have hwne : ¬ nI w = 0 := fun z => w0 ((nI_z (by omega)).mp z)
            have hwq : w ≤ qm := Nat.le_trans hwm (Nat.min_le_left _ _)
            have hwq2 : w ≤ q := Nat.le_trans hwm (Nat.min_le_right _ _)
            rw [if_neg hwne] at cs
            obtain ⟨τ, hτ1, hτ2⟩ := hI.2.2.2.1
            have hxI : inb (trX I) 200 = true := trX_in hτ2 (by omega)
            have hxJ : trX J = trX I := by unfold trX; rw [hR.at (by omega)]
            have hGs : s = 1 → ∃ F, fg L t = lN F ∧ F ≤ B ∧ w ≤ F := fun z => by
              obtain ⟨F', f1, f2, f3⟩ := hF.2 z
              exact ⟨F', f1, f2, by omega⟩
            -- buyer and seller
            obtain ⟨b, c, hb8, hc8, hsC, hsR⟩ : ∃ b c : Nat, b < 8 ∧ c < 8 ∧ ((I 1 o.val = 0 ∧ I 0 o.val = nI b ∧ I 0 m.val = nI c) ∨ (¬ I 1 o.val = 0 ∧ I 0 m.val = nI b ∧ I 0 o.val = nI c)) ∧ ((nI s = 0 ∧ nI t = nI b ∧ J 0 m.val = nI c) ∨ (¬ nI s = 0 ∧ J 0 m.val = nI b ∧ nI t = nI c)) := by
              rcases nI_01 hs with ⟨z1, z2⟩ | ⟨z1, z2⟩
              · exact ⟨t, u, ht, hu, Or.inl ⟨h1.trans z1, h0, m0⟩, Or.inl ⟨z1, rfl, J0⟩⟩
              · exact ⟨u, t, hu, ht, Or.inr ⟨by rw [h1, z1]; decide, m0, h0⟩, Or.inr ⟨by rw [z1]; decide, J0, rfl⟩⟩
            have hset := c_settle_eq (L := L) (w := nI w) hb8 hc8 hu m0 hsC hom hxI
            have hrse := r_settle_eq (K := K) (fK8_meets_19 g) (a := a) (more := nI q) (p := nI p) o.isLt m.isLt hb8 hc8 hwne hsR (by rw [hxJ]; exact hxI)
            obtain ⟨L1, hL1, hI1, hfc1, hfg1⟩ := inv_trade (x := trX I) (b := nI b) (c := nI c) (w := w) hI ho hm hom h4 hm4 h0 ht m0 hu (Ne.symm same) m1 hs m2 hqm h2 hlo m3 hp hp1 hwq (by omega) (fun z => ⟨F, hFe, hFB, hwF z⟩) hGs (by omega)
            have hneg : (-nI w).toInt64 = - lN w := neg_l (by omega)
            have hwl : (nI w).toInt64 = lN w := nIl (by omega)
            have hpl : (nI p).toInt64 = lN p := nIl (by omega)
            rw [m3, hwl, hpl, lN_mul, hneg] at hset
            -- the class's L is L1
            have hLeq : (if I 1 m.val = 1 then sL (trL L b c (lN (w * p)) (lN w)) 3 u (trL L b c (lN (w * p)) (lN w) 3 u + -lN w) else sL (trL L b c (lN (w * p)) (lN w)) 2 u (trL L b c (lN (w * p)) (lN w) 2 u + -lN w * lN p)) = L1 ∧ Rl L1 (trL K b c (lN (w * p)) (lN w)) := by
              rcases hsC with ⟨y1, y2, y3⟩ | ⟨y1, y2, y3⟩
              · have eb : b = t := ((nI_inj8 ht hb8).mp (h0.symm.trans y2)).symm
                have ec : c = u := ((nI_inj8 hu hc8).mp (m0.symm.trans y3)).symm
                subst eb; subst ec
                have s0 : s = 0 := (nI_z (by omega)).mp (h1.symm.trans y1)
                subst s0
                rw [if_pos rfl] at hL1
                have e1 : I 1 m.val = 1 := m1
                have e2 : trL L b c (lN (w * p)) (lN w) 3 c + -lN w = L 3 c - lN w := by rw [trL_23 (by omega)]; grind
                rw [if_pos e1, e2, ← hL1]
                exact ⟨rfl, hL1 ▸ (Rl_L hL).own (by omega)⟩
              · have ec : c = t := ((nI_inj8 ht hc8).mp (h0.symm.trans y3)).symm
                have eb : b = u := ((nI_inj8 hu hb8).mp (m0.symm.trans y2)).symm
                subst eb; subst ec
                have s0 : s = 1 := by
                  rcases nI_01 hs with ⟨z1, -⟩ | ⟨-, z2⟩
                  · exact absurd (h1.trans z1) y1
                  · exact z2
                subst s0
                rw [if_neg (by omega)] at hL1
                have e1 : ¬ I 1 m.val = 1 := by rw [m1]; decide
                have e2 : trL L b c (lN (w * p)) (lN w) 2 b + -lN w * lN p = L 2 b - lN (w * p) := by rw [trL_23 (by omega), ← lN_mul]; grind
                rw [if_neg e1, e2, ← hL1]
                exact ⟨rfl, hL1 ▸ (Rl_L hL).own (by omega)⟩
            rw [hLeq.1] at hset
            rw [hset, bv_eq, nI_subE hwq2] at cs
            rw [hrse, nI_subE hwq2, hwl, hpl, lN_mul, hxJ] at rs'
            have hR1 : Rr (trI I o.val m.val w p (trX I) (nI b) (nI c)) (trB (trA J o.val m.val (nI w)) (trX I) (nI b) (nI c) (nI p) (nI w)) := Rr_B (Rr_A hR)
            change fK2_meet_6 (f + 1) o (nI lim) (nI q) (nI j) I L = fK2_meet_6 f o (nI lim) (nI (q - w)) (nI (j + 1)) (trI I o.val m.val w p (trX I) (nI b) (nI c)) L1 at cs
            have t4 : trI I o.val m.val w p (trX I) (nI b) (nI c) 4 o.val = 2 := by rw [trI_4 hom, if_neg hom]; exact h4
            have t0 : trI I o.val m.val w p (trX I) (nI b) (nI c) 0 o.val = nI t := by rw [trI_row (by omega)]; exact h0
            have t1 : trI I o.val m.val w p (trX I) (nI b) (nI c) 1 o.val = nI s := by rw [trI_row (by omega)]; exact h1
            have t2 : trI I o.val m.val w p (trX I) (nI b) (nI c) 2 o.val = nI (lo - w) := by rw [trI_2 hom, if_neg hom, if_pos rfl, h2, nI_subE (by omega)]
            have t3 : a = 0 → trI I o.val m.val w p (trX I) (nI b) (nI c) 3 o.val = nI lim := fun z => by rw [trI_row (by omega)]; exact h3 z
            have hF1 : Fnd L1 t s lim (q - w) (B + 100000000) := by
              refine ⟨fun z1 z2 => ?_, fun z1 => ?_⟩
              · obtain ⟨F', f1, f2, f3⟩ := hF.1 z1 z2
                have eF : F' = F := (pk_lEQ (by omega) (by omega)).mp (f1.symm.trans hFe)
                subst eF
                have hle : p ≤ lim := by
                  rcases hmp with e | ⟨-, e⟩ | ⟨e, -⟩
                  · have := (nI_z (a := lim) (by omega)).mp e; omega
                  · rw [m3] at e
                    have := nI_ltI (a := lim) (b := p) (by omega) (by omega)
                    rcases Nat.lt_or_ge lim p with q1 | q1
                    · exact absurd (this.mpr q1) e
                    · exact q1
                  · exact absurd (by rw [z1]; rfl) e
                have hwlim : w * p ≤ w * lim := Nat.mul_le_mul_left w hle
                refine ⟨F' - w * p, by rw [hfc1 z1, hFe, lN_subE (hwF z1)], by omega, ?_⟩
                rw [Nat.sub_mul]
                have := Nat.mul_le_mul_right lim hwq2
                omega
              · obtain ⟨F', f1, f2, f3⟩ := hF.2 z1
                exact ⟨F' - w, by rw [hfg1 z1, f1, lN_subE (by omega)], by omega, by omega⟩
            have hz11 : trB (trA J o.val m.val (nI w)) (trX I) (nI b) (nI c) (nI p) (nI w) 11 0 = J 11 0 := by rw [trB_11 (by omega) (by omega), trA_row (by omega) (by omega)]
            have hfr : Fr I (trI I o.val m.val w p (trX I) (nI b) (nI c)) := Fr_trade hom hm4
            have hsub : ∀ q', q' ≤ q - w → lo - w - (q - w) + q' = lo - q + q' := fun q' _ => by omega
            by_cases wq : w = qm
            · -- the match is done
              have h4m : trI I o.val m.val w p (trX I) (nI b) (nI c) 4 m.val = 2 := by
                rw [trI_4 hom, if_pos rfl, m2, nI_subE hwq, if_pos ((nI_z (by omega)).mpr (by omega))]
              have hoc2 : ocn (trI I o.val m.val w p (trX I) (nI b) (nI c)) n ≤ oc - 1 := by
                have := ocn_close (I := I) (I' := trI I o.val m.val w p (trX I) (nI b) (nI c)) hm4 (by rw [h4m]; decide) hm (fun k _ hk => by rw [trI_4 hom, if_neg hk])
                omega
              obtain ⟨I', L', J', K', q', r1, r2, r3, r4, r5, r6, r7, r8, r9, r10⟩ := ih (oc - 1) (by omega) _ _ L1 _ (B + 100000000) (T + 1) (j + 1) (q - w) (lo - w) f g hI1 hR1 hLeq.2 t4 t0 t1 t2 t3 (by omega) (by omega) hoc2 (by omega) hF1 (by omega) (by omega) (by omega) (by omega)
              exact ⟨I', L', J', K', q', cs.trans r1, rs'.trans r2, r3, r4, r5.mono (by omega) (by omega), by omega, by rw [r7, hsub q' r6], r8.mono (Nat.le_refl _) (by omega), hfr.tr r9, r10.trans hz11⟩
            · -- it ends with the next step
              obtain ⟨f, rfl⟩ : ∃ z, f = z + 1 := ⟨f - 1, by omega⟩
              obtain ⟨g, rfl⟩ : ∃ z, g = z + 1 := ⟨g - 1, by omega⟩
              have fin : ∀ (e1 : fK2_meet_6 (f + 1) o (nI lim) (nI (q - w)) (nI (j + 1)) (trI I o.val m.val w p (trX I) (nI b) (nI c)) L1 = some (trI I o.val m.val w p (trX I) (nI b) (nI c), L1)) (e2 : fK8_meets_19 (g + 1) (nI o.val) a (nI t) (nI s) (nI (q - w)) (trB (trA J o.val m.val (nI w)) (trX I) (nI b) (nI c) (nI p) (nI w)) (trL K b c (lN (w * p)) (lN w)) = some (trB (trA J o.val m.val (nI w)) (trX I) (nI b) (nI c) (nI p) (nI w), trL K b c (lN (w * p)) (lN w))), MeetOut n o t s lim a oc I J L K B T j q lo (f + 1 + 1) (g + 1 + 1) :=
                fun e1 e2 => ⟨_, _, _, _, q - w, cs.trans e1, rs'.trans e2, hR1, hLeq.2, hI1.mono (by omega) (by omega), by omega, by rw [t2, show lo - q + (q - w) = lo - w by omega], hF1.mono (Nat.le_refl _) (by omega), hfr, hz11⟩
              by_cases wq2 : w = q
              · have z : q - w = 0 := by omega
                rw [z] at fin
                exact fin (c_zero f (by omega)) (r_zero g)
              · -- the money is at its end
                rcases hwk with hk | ⟨s0, a1, l0, hk⟩
                · exfalso
                  rcases Nat.le_total qm q with y | y
                  · rw [Nat.min_eq_left y] at hk; exact wq hk
                  · rw [Nat.min_eq_right y] at hk; exact wq2 hk
                · have hmz : ¬ qm - w = 0 := by omega
                  have b1 : bst (trI I o.val m.val w p (trX I) (nI b) (nI c)) (nI s) (nI lim) n = some m := by
                    rw [← hb]
                    refine bst_congr (fun k _ => ⟨?_, by rw [trI_row (by omega)], by rw [trI_row (by omega)]⟩) h40
                    rw [trI_4 hom]
                    by_cases e : k = m.val
                    · subst e
                      rw [if_pos rfl, m2, nI_subE hwq, if_neg (fun z => hmz ((nI_z (by omega)).mp z))]
                    · rw [if_neg e]
                  have e0 : trI I o.val m.val w p (trX I) (nI b) (nI c) 0 m.val = nI u := by rw [trI_row (by omega)]; exact m0
                  have e3 : trI I o.val m.val w p (trX I) (nI b) (nI c) 3 m.val = nI p := by rw [trI_row (by omega)]; exact m3
                  have e2 : trI I o.val m.val w p (trX I) (nI b) (nI c) 2 m.val = nI (qm - w) := by rw [trI_2 hom, if_pos rfl, m2, nI_subE hwq]
                  have hF2 : fc L1 t = lN (F - w * p) := by rw [hfc1 s0, hFe, lN_subE (hwF s0)]
                  have hz : (F - w * p) / p = 0 := by
                    apply Nat.div_eq_of_lt
                    have := Nat.div_add_mod F p
                    have hmod := Nat.mod_lt F (show 0 < p by omega)
                    rw [hk]
                    have : F / p * p = p * (F / p) := Nat.mul_comm _ _
                    omega
                  have pay := c_pay0 (I := trI I o.val m.val w p (trX I) (nI b) (nI c)) (L := L1) (a := min (qm - w) (q - w)) (p := p) (t1.trans (by rw [s0]; rfl)) t0 ht hF2 (by omega) hp1 hp (by omega)
                  rw [hz, Nat.zero_min] at pay
                  have hnJ1 : (trB (trA J o.val m.val (nI w)) (trX I) (nI b) (nI c) (nI p) (nI w)) 11 1 = nI n := by rw [hR1.at (by omega)]; exact hI1.1
                  obtain ⟨gr1, -⟩ := r_free hI1 hR1 hLeq.2 ht
                  have cs2 := c_step (L := L1) (lim := lim) hI1 t1 hs (show j + 1 ≤ 41 by omega) (show 1 ≤ q - w by omega) (by omega) f
                  have rs2 := r_step (o := o) (K := trL K b c (lN (w * p)) (lN w)) (t := t) (s := s) hnJ1 h40 (show 1 ≤ q - w by omega) (by omega) (Or.inr ⟨a1, l0⟩) g
                  rw [bst_same hR1 h40] at rs2
                  have f0 : (trB (trA J o.val m.val (nI w)) (trX I) (nI b) (nI c) (nI p) (nI w)) 0 m.val = nI u := by rw [hR1.at (by omega)]; exact e0
                  have f2 : (trB (trA J o.val m.val (nI w)) (trX I) (nI b) (nI c) (nI p) (nI w)) 2 m.val = nI (qm - w) := by rw [hR1.at (by omega)]; exact e2
                  have f3 : (trB (trA J o.val m.val (nI w)) (trX I) (nI b) (nI c) (nI p) (nI w)) 3 m.val = nI p := by rw [hR1.at (by omega)]; exact e3
                  have d3 : decide (¬ (nI p).toInt64 = 0) = true := by
                    rw [decide_eq_true_eq, nIl (show p < 2 ^ 31 by omega)]
                    intro z
                    have := (pk_lEQ (a := p) (b := 0) (by omega) (by decide)).mp z
                    omega
                  rw [b1, mo_some, e0, t0, if_neg dif, e3, mn_eq e2 (by omega) (by omega), pay, bn_eq, if_pos (show nI 0 = 0 from rfl)] at cs2
                  rw [b1, mo_some, f0, if_neg dif, f3, mn_eq f2 (by omega) (by omega), if_neg (by rw [a1]; decide), if_pos (show nI s = 0 by rw [s0]; rfl), gr1, bn_eq, hF2, d3, ck_tt, pay_eq (by omega) hp1 hp (by omega), hz, Nat.zero_min] at rs2
                  refine fin cs2 (rs2.trans ?_)
                  simp only [fK8_meets_126, if_pos (show nI 0 = 0 from rfl)]
