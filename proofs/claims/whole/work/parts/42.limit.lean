/-! PURE PART 13: limit orders -/
theorem Rr.fix {I J : FI} (h : Rr I J) {f j : Nat} {v : Int32} (e : J f j = v) : Rr (sI I f j v) J := by
  intro a b ha
  by_cases z : a = f ∧ b = j
  · obtain ⟨rfl, rfl⟩ := z
    rw [sI_eq, e]
  · rw [sI_at z]; exact h a b ha
theorem limit_rel {I J : FI} {L K : FL} {n B T t s q p w k : Nat} (hI : Inv I L n B T) (hR : Rr I J) (hL : Rl L K) (h1 : I 15 1 = nI t) (h2 : I 15 2 = nI s) (h3 : I 15 3 = nI q) (h4 : I 15 4 = nI p) (h5 : I 15 5 = nI w) (hw : w ≤ 4) (h6 : w = 4 → I 15 6 = nI k ∧ 1 ≤ k ∧ k ≤ 99) (ht : t < 8) (hs : s < 2) (hq : q ≤ 9999) (hp : p ≤ 9999) (hp1 : 1 ≤ p) (hB : B + 4200000000 < 2 ^ 60) (hT : T + 42 < 2 ^ 30) :
    ∃ (r : Int32) (I' : FI) (L' : FL) (J' : FI) (K' : FL), fK2_placeLimit I L = some (r, I', L') ∧ fK8_ordered_272 (nI s) (nI t) (nI q) (nI p) (if w = 4 then nI k else 0) (if w = 1 then 1 else 0) (if w = 2 then 1 else 0) (if w = 3 then 1 else 0) J K = some (r, J', K') ∧ Out I J (B + 4200000000) (T + 42) I' L' J' K' := by
  have h40 := hI.2.1
  have hnJ : J 11 1 = nI n := by rw [hR.at (by omega)]; exact hI.1
  obtain ⟨-, -, ⟨F, hFB, hFe⟩, ⟨G, hGB, hGe⟩⟩ := hI.2.2.2.2 t ht
  obtain ⟨fcr, fgr⟩ := r_free hI hR hL ht
  have fun_c := c_funds (I := I) (L := L) h1 h2 h3 h4 ht hs hq hp hFe hGe (by omega) (by omega)
  have hs01 : nI s = 0 ∨ nI s = 1 := by rcases nI_01 hs with ⟨e, -⟩ | ⟨e, -⟩ <;> simp [e]
  have wI : ∀ a, a ≤ 4 → (nI w = nI a ↔ w = a) := fun a ha => nI_eq (by omega) (by omega)
  by_cases c : n < 40
  · have nf : ¬ nI n = (40 : Int32) := fun z => (r_full h40).mp z c
    -- once it comes
    have come : (s = 0 → q * p ≤ F) → (s = 1 → q ≤ G) → ∃ (r : Int32) (I' : FI) (L' : FL) (J' : FI) (K' : FL),
        (bq (fK4_enter I L) (fun r_11 I_12 L_13 => g40 r_11 (fun o_15 => bv (fK2_meet o_15 (I_12 3 o_15.val) (I_12 2 o_15.val) I_12 L_13) (fun I_17 L_18 => (if (I_17 2 o_15.val) ≤ 0 then some (r_11, I_17, L_18) else (if (I_17 15 5) = 1 then some (r_11, I_17, L_18) else nm (sI I_17 4 o_15.val 0) (fun I_21 => (if (I_21 15 5) = 4 then fK2_placeLimit_109 r_11 o_15 ((I_21 11 5) + (I_21 15 6)) o_15 I_21 L_18 else fK2_placeLimit_109 r_11 o_15 (-1) o_15 I_21 L_18)))))))) = some (r, I', L') ∧
        fK8_ordered_357 (nI s) (nI t) (nI q) (nI p) (if w = 4 then nI k else 0) (if w = 1 then 1 else 0) J K = some (r, J', K') ∧ Out I J (B + 4200000000) (T + 42) I' L' J' K' := by
      intro hsF hsG
      obtain ⟨n0, n1, n2, n3, n4, n5, n6⟩ := ent_new (I := I) (n := n) (t := nI t) (s := nI s) (q := nI q) (p := nI p) (v := 2)
      have hE := inv_ent hI c ht hs hq hp (v := 2) (Or.inr rfl)
      obtain ⟨I', L', J', K', q', m1, m2, r3, r4, r5, r6, r7, r8, r9, r10⟩ := meet40 (o := ⟨n, c⟩) (a := 0) (lim := p) (q := q) (lo := q) ht hs hp (Or.inl ⟨rfl, hp1⟩) (show n < n + 1 by omega) hE (Rr_ent hR) hL n4 n0 n1 n2 (fun _ => n3) hq (Nat.le_refl q) ⟨fun z _ => ⟨F, hFe, hFB, hsF z⟩, fun z => ⟨G, hGe, hGB, hsG z⟩⟩ hB hT
      have hq' : I' 2 n = nI q' := by
        have : I' 2 n = nI (q - q + q') := r7
        rw [this, Nat.sub_self, Nat.zero_add]
      have J2 : J' 2 n = nI q' := by rw [r3.at (by omega)]; exact hq'
      have i0 : I' 0 n = nI t := by rw [r9.1 0 (by omega)]; exact n0
      have i1 : I' 1 n = nI s := by rw [r9.1 1 (by omega)]; exact n1
      have i3 : I' 3 n = nI p := by rw [r9.1 3 (by omega)]; exact n3
      have i5 : I' 5 n = -1 := by rw [r9.1 5 (by omega)]; exact n5
      have i4 : I' 4 n = 2 := by
        rcases r9.2.2 n with e | ⟨e, -⟩
        · rw [e]; exact n4
        · rw [n4] at e; exact absurd e (by decide)
      have i15 : ∀ j, I' 15 j = I 15 j := fun j => by rw [r9.1 15 (by omega)]; exact ent_old (by omega) (by omega)
      have z11 : I' 11 0 = I 11 0 := by rw [r9.2.1 0 (by omega) (by omega)]; exact ent_old (by omega) (by omega)
      have zJ11 : J' 11 0 = J 11 0 := by rw [r10]; exact ent_old (by omega) (by omega)
      have e1 : inb (nI n) 40 = true := inb_nI c (by decide)
      have e2 : (nI n).toNatClampNeg = n := nI_clamp (by omega)
      have m1' : fK2_meet ⟨n, c⟩ (nI p) (nI q) (ent I n (nI t) (nI s) (nI q) (nI p) 2) L = some (I', L') := m1
      have m2' : fK8_meets (nI n) (nI q) 0 (ent J n (nI t) (nI s) (nI q) (nI p) 2) K = some (J', K') := m2
      have cs : (bq (fK4_enter I L) (fun r_11 I_12 L_13 => g40 r_11 (fun o_15 => bv (fK2_meet o_15 (I_12 3 o_15.val) (I_12 2 o_15.val) I_12 L_13) (fun I_17 L_18 => (if (I_17 2 o_15.val) ≤ 0 then some (r_11, I_17, L_18) else (if (I_17 15 5) = 1 then some (r_11, I_17, L_18) else nm (sI I_17 4 o_15.val 0) (fun I_21 => (if (I_21 15 5) = 4 then fK2_placeLimit_109 r_11 o_15 ((I_21 11 5) + (I_21 15 6)) o_15 I_21 L_18 else fK2_placeLimit_109 r_11 o_15 (-1) o_15 I_21 L_18)))))))) = (if nI q' ≤ 0 then some (nI n, I', L') else (if nI w = 1 then some (nI n, I', L') else (if nI w = 4 then fK2_placeLimit_109 (nI n) ⟨n, c⟩ (I' 11 5 + I 15 6) ⟨n, c⟩ (sI I' 4 n 0) L' else fK2_placeLimit_109 (nI n) ⟨n, c⟩ (-1) ⟨n, c⟩ (sI I' 4 n 0) L'))) := by
        simp only [c_enter hI.1 c, bq_eq, g40_nI _ c, h1, h2, h3, h4, n2, n3, m1', bv_eq, hq', i15, h5, nm_eq]
        have a1 : sI I' 4 n 0 15 5 = nI w := by rw [sI_at (by omega), i15]; exact h5
        have a2 : sI I' 4 n 0 11 5 = I' 11 5 := sI_at (by omega)
        have a3 : sI I' 4 n 0 15 6 = I 15 6 := by rw [sI_at (by omega)]; exact i15 6
        rw [a1, a2, a3]
      have rs : fK8_ordered_357 (nI s) (nI t) (nI q) (nI p) (if w = 4 then nI k else 0) (if w = 1 then 1 else 0) J K = (if nI q' ≤ 0 then some (nI n, J', K') else (if (if w = 1 then (1 : Int32) else 0) = 0 then (if (if w = 4 then nI k else 0) ≤ 0 then some (nI n, sI J' 4 n 0, K') else some (nI n, sI (sI J' 4 n 0) 5 n (J' 11 5 + (if w = 4 then nI k else 0)), K')) else some (nI n, J', K'))) := by
        simp only [fK8_ordered_357, r_fresh hnJ c, bq_eq, m2', bv_eq, e1, e2, ck_tt, J2, nm_eq]
        have a2 : sI J' 4 n 0 11 5 = J' 11 5 := sI_at (by omega)
        rw [a2]
      rw [cs, rs]
      by_cases q0 : q' = 0
      · subst q0
        rw [if_pos (show nI 0 ≤ 0 by decide), if_pos (show nI 0 ≤ 0 by decide)]
        exact ⟨nI n, I', L', J', K', rfl, rfl, r3, r4, ⟨n + 1, r5⟩, z11, zJ11⟩
      · have npos : ¬ nI q' ≤ 0 := nI_nle (by omega) (by omega)
        rw [if_neg npos, if_neg npos]
        by_cases w1 : w = 1
        · rw [if_pos (show nI w = 1 from (wI 1 (by omega)).mpr w1), if_pos w1, if_neg (show ¬ (1 : Int32) = 0 by decide)]
          exact ⟨nI n, I', L', J', K', rfl, rfl, r3, r4, ⟨n + 1, r5⟩, z11, zJ11⟩
        · rw [if_neg (show ¬ nI w = 1 from fun z => w1 ((wI 1 (by omega)).mp z)), if_neg w1, if_pos rfl]
          obtain ⟨L2, hL2, hI2, l0, l1⟩ := inv_open r5 ⟨n, c⟩ (show n < n + 1 by omega) i4 ht hs (show q' ≤ 9999 by omega) hp hp1 i0 i1 hq' i3 r8 (by omega)
          have pl : ∀ e, fK2_placeLimit_109 (nI n) ⟨n, c⟩ e ⟨n, c⟩ (sI I' 4 n 0) L' = some (nI n, sI (sI I' 4 n 0) 5 n e, L2) := by
            intro e
            have b0 : sI (sI I' 4 n 0) 5 n e 0 n = nI t := by rw [sI_at (by omega), sI_at (by omega)]; exact i0
            have b1 : sI (sI I' 4 n 0) 5 n e 1 n = I' 1 n := by rw [sI_at (by omega), sI_at (by omega)]
            have b2 : sI (sI I' 4 n 0) 5 n e 2 n = nI q' := by rw [sI_at (by omega), sI_at (by omega)]; exact hq'
            have b3 : sI (sI I' 4 n 0) 5 n e 3 n = nI p := by rw [sI_at (by omega), sI_at (by omega)]; exact i3
            have hh := c_hold (I := sI (sI I' 4 n 0) 5 n e) (L := L') (m := ⟨n, c⟩) (x := nI q') b0 ht
            simp only [fK2_placeLimit_109, nm_eq, b2, hh, bv_eq]
            rw [hL2, b1, b3]
          have hI3 : ∀ e, Inv (sI (sI I' 4 n 0) 5 n e) L2 (n + 1) (B + 4200000000) (T + 42) := fun e => Inv.set (f := 5) hI2 (by omega) (by omega) (by omega)
          have hL3 : Rl L2 K' := ⟨by rw [l0]; exact r4.1, by rw [l1]; exact r4.2⟩
          by_cases w4 : w = 4
          · obtain ⟨h6a, h6b, h6c⟩ := h6 w4
            have kp : ¬ nI k ≤ 0 := nI_nle (by omega) (by omega)
            rw [if_pos (show nI w = 4 from (wI 4 (by omega)).mpr w4), if_pos w4, if_neg kp, pl]
            refine ⟨nI n, _, L2, _, K', rfl, rfl, ?_, hL3, ⟨n + 1, hI3 _⟩, ?_, ?_⟩
            · exact (r3.set).setv (by rw [h6a, r3.at (by omega)])
            · rw [sI_at (by omega), sI_at (by omega)]; exact z11
            · rw [sI_at (by omega), sI_at (by omega)]; exact zJ11
          · rw [if_neg (show ¬ nI w = 4 from fun z => w4 ((wI 4 (by omega)).mp z)), if_neg w4, if_pos (show (0 : Int32) ≤ 0 by decide), pl]
            refine ⟨nI n, _, L2, _, K', rfl, rfl, ?_, hL3, ⟨n + 1, hI3 _⟩, ?_, ?_⟩
            · exact (r3.set).fix (by rw [sI_at (by omega), r3.at (by omega)]; exact i5)
            · rw [sI_at (by omega), sI_at (by omega)]; exact z11
            · rw [sI_at (by omega)]; exact zJ11
    -- does it find its matches
    have find : (fK2_findsItsMatches I L = some 1 ∧ fK8_ordered_320 (nI s) (nI t) (nI q) (nI p) (if w = 4 then nI k else 0) (if w = 1 then 1 else 0) (if w = 2 then 1 else 0) (if w = 3 then 1 else 0) J K = fK8_ordered_357 (nI s) (nI t) (nI q) (nI p) (if w = 4 then nI k else 0) (if w = 1 then 1 else 0) J K) ∨ (fK2_findsItsMatches I L = some 0 ∧ fK8_ordered_320 (nI s) (nI t) (nI q) (nI p) (if w = 4 then nI k else 0) (if w = 1 then 1 else 0) (if w = 2 then 1 else 0) (if w = 3 then 1 else 0) J K = some (-17, J, K)) := by
      have fm := c_firstMatch (L := L) hI.1 h40 (nI p) hs01 (fun k hk => (hI.2.2.1 k hk).side)
      by_cases w3 : w = 3
      · subst w3
        have cs : fK2_findsItsMatches I L = mo (bst I (nI s) (nI p) n) (some 1) (fun _ => some 0) := by
          simp only [fK2_findsItsMatches, nm_eq, h5, if_pos (show nI 3 = 3 from rfl), h2, h4, fm, bn_eq]
        have rs := r_match (L := K) hnJ h40 (nI s) (nI p)
        rw [bst_same hR h40] at rs
        cases hb : bst I (nI s) (nI p) n with
        | none =>
          refine Or.inl ⟨by rw [cs, hb, mo_none], ?_⟩
          simp only [fK8_ordered_320, if_neg (show ¬ (3 : Nat) = 2 by omega), if_true, fK8_ordered_339, if_neg (show ¬ (1 : Int32) = 0 by decide), rs, hb, bn_eq, rI]
          exact if_pos (by decide)
        | some m =>
          refine Or.inr ⟨by rw [cs, hb, mo_some], ?_⟩
          have hm := m.isLt
          simp only [fK8_ordered_320, if_neg (show ¬ (3 : Nat) = 2 by omega), if_true, fK8_ordered_339, if_neg (show ¬ (1 : Int32) = 0 by decide), rs, hb, bn_eq, rI]
          exact if_neg (nI_pos (by omega))
      · by_cases w2 : w = 2
        · subst w2
          obtain ⟨S, hS, hS1, hS2⟩ := others_eq (I := I) h40 (nI s) (nI p) (nI t) (fun k hk => by obtain ⟨_, _, q, _, _, _, hq, _, _, _, e, _⟩ := hI.2.2.1 k hk; exact ⟨q, hq, e⟩)
          have co := c_others (L := L) hI.1 h40 (nI p) (nI t) hs01 (fun k hk => (hI.2.2.1 k hk).side) n 0 FU 0 (by omega) (by simp only [FU]; omega)
          have ro := r_others (L := K) hnJ h40 (nI s) (nI p) (nI t) n 0 FU 0 (by omega) (by simp only [FU]; omega)
          have hJI : fd (gMl J (nI s) (nI p) (nI t)) n 0 0 = fd (gMl I (nI s) (nI p) (nI t)) n 0 0 := fd_congr n 0 0 (fun o a _ ho => by
            have q0 : J 0 o = I 0 o := hR.at (by omega)
            have q2 : J 2 o = I 2 o := hR.at (by omega)
            have qm : isM J (nI s) (nI p) o = isM I (nI s) (nI p) o := isM_congr (hR.at (by omega)) (hR.at (by omega)) (hR.at (by omega))
            simp only [gMl, q0, q2, qm])
          rw [hS1] at co
          rw [hJI, hS2] at ro
          have co' : fK4_matchesOfOthers (1 - nI s) (nI p) (nI t) I L = some (nI S) := co
          have ro' : fK8_sum (nI t) (nI s) (nI p) J K = some (lN S) := ro
          have lt1 := nI_ltI (a := S) (b := q) (by omega) (by omega)
          have lt2 := lN_ex (a := S) (b := q) (by omega) (by omega)
          have cs : fK2_findsItsMatches I L = (if nI S < nI q then some 0 else some 1) := by
            simp only [fK2_findsItsMatches, nm_eq, h5, if_neg (show ¬ nI 2 = 3 by decide), if_pos (show nI 2 = 2 from rfl), h2, h4, h1, h3, co', bn_eq, fK2_findsItsMatches_67]
          have rs : fK8_ordered_320 (nI s) (nI t) (nI q) (nI p) (if 2 = 4 then nI k else 0) (if 2 = 1 then 1 else 0) (if 2 = 2 then 1 else 0) (if 2 = 3 then 1 else 0) J K = (if lN S < lN q then some (-17, J, K) else fK8_ordered_357 (nI s) (nI t) (nI q) (nI p) (if 2 = 4 then nI k else 0) (if 2 = 1 then 1 else 0) J K) := by
            simp only [fK8_ordered_320, if_true, if_neg (show ¬ (1 : Int32) = 0 by decide), ro', bn_eq, lg_lt, nIl (show q < 2 ^ 31 by omega), fK8_ordered_339, if_neg (show ¬ (2 : Nat) = 3 by omega)]
          by_cases z : S < q
          · exact Or.inr ⟨by rw [cs, if_pos (lt1.mpr z)], by rw [rs, if_pos (lt2.mpr z)]⟩
          · exact Or.inl ⟨by rw [cs, if_neg (fun y => z (lt1.mp y))], by rw [rs, if_neg (fun y => z (lt2.mp y))]⟩
        · refine Or.inl ⟨?_, ?_⟩
          · have a3 : ¬ nI w = 3 := fun z => w3 ((wI 3 (by omega)).mp z)
            have a2 : ¬ nI w = 2 := fun z => w2 ((wI 2 (by omega)).mp z)
            simp only [fK2_findsItsMatches, nm_eq, h5, if_neg a3, if_neg a2, fK2_findsItsMatches_67]
          · simp only [fK8_ordered_320, if_neg w2, if_true, fK8_ordered_339, if_neg w3]
    -- with funds
    have paid : (s = 0 → q * p ≤ F) → (s = 1 → q ≤ G) → fK2_hasFunds I L = some 1 → ∃ (r : Int32) (I' : FI) (L' : FL) (J' : FI) (K' : FL), fK2_placeLimit I L = some (r, I', L') ∧ fK8_ordered_320 (nI s) (nI t) (nI q) (nI p) (if w = 4 then nI k else 0) (if w = 1 then 1 else 0) (if w = 2 then 1 else 0) (if w = 3 then 1 else 0) J K = some (r, J', K') ∧ Out I J (B + 4200000000) (T + 42) I' L' J' K' := by
      intro f1 f2 f3
      rcases find with ⟨g1, g2⟩ | ⟨g1, g2⟩
      · obtain ⟨r, I', L', J', K', a1, a2, a3⟩ := come f1 f2
        refine ⟨r, I', L', J', K', ?_, by rw [g2]; exact a2, a3⟩
        simp only [fK2_placeLimit, c_full hI.1 h40, if_pos c, bn_eq, if_true, f3, if_neg (show ¬ (1 : Int32) = 0 by decide), g1]
        exact a1
      · refine ⟨-17, I, L, J, K, ?_, g2, Out.same hI hR hL (by omega) (by omega)⟩
        simp only [fK2_placeLimit, c_full hI.1 h40, if_pos c, bn_eq, if_true, f3, if_neg (show ¬ (1 : Int32) = 0 by decide), g1]
    have poor : fK2_hasFunds I L = some 0 → fK2_placeLimit I L = some (-16, I, L) := by
      intro f3
      simp only [fK2_placeLimit, c_full hI.1 h40, if_pos c, bn_eq, if_true, f3]
    have hqp := pq_le hq hp
    rcases nI_01 hs with ⟨z1, z2⟩ | ⟨z1, z2⟩
    · subst z2
      have lt := lN_ex (a := F) (b := q * p) (by omega) (by omega)
      have rs : fK8_ordered_272 (nI 0) (nI t) (nI q) (nI p) (if w = 4 then nI k else 0) (if w = 1 then 1 else 0) (if w = 2 then 1 else 0) (if w = 3 then 1 else 0) J K = (if lN F < lN (q * p) then some (-16, J, K) else fK8_ordered_320 (nI 0) (nI t) (nI q) (nI p) (if w = 4 then nI k else 0) (if w = 1 then 1 else 0) (if w = 2 then 1 else 0) (if w = 3 then 1 else 0) J K) := by
        simp only [fK8_ordered_272, hnJ, if_neg nf, if_pos (show nI 0 = 0 from rfl), fcr, bn_eq, hFe, nIl (show q < 2 ^ 31 by omega), nIl (show p < 2 ^ 31 by omega), lN_mul, lg_ge]
        by_cases z : lN F < lN (q * p)
        · rw [if_neg (fun y => y z), if_pos z]
        · rw [if_pos z, if_neg z]
      rw [rs]
      rw [if_neg (show ¬ (0 : Nat) = 1 by omega)] at fun_c
      by_cases z : F < q * p
      · rw [if_pos z] at fun_c
        exact ⟨-16, I, L, J, K, poor fun_c, by rw [if_pos (lt.mpr z)], Out.same hI hR hL (by omega) (by omega)⟩
      · rw [if_neg z] at fun_c
        rw [if_neg (fun y => z (lt.mp y))]
        exact paid (fun _ => by omega) (fun y => absurd y (by omega)) fun_c
    · subst z2
      have lt := lN_ex (a := G) (b := q) (by omega) (by omega)
      have rs : fK8_ordered_272 (nI 1) (nI t) (nI q) (nI p) (if w = 4 then nI k else 0) (if w = 1 then 1 else 0) (if w = 2 then 1 else 0) (if w = 3 then 1 else 0) J K = (if lN G < lN q then some (-16, J, K) else fK8_ordered_320 (nI 1) (nI t) (nI q) (nI p) (if w = 4 then nI k else 0) (if w = 1 then 1 else 0) (if w = 2 then 1 else 0) (if w = 3 then 1 else 0) J K) := by
        simp only [fK8_ordered_272, hnJ, if_neg nf, if_neg (show ¬ nI 1 = 0 by decide), fgr, bn_eq, hGe, nIl (show q < 2 ^ 31 by omega), lg_ge]
        by_cases z : lN G < lN q
        · rw [if_neg (fun y => y z), if_pos z]
        · rw [if_pos z, if_neg z]
      rw [rs]
      rw [if_pos rfl] at fun_c
      by_cases z : G < q
      · rw [if_pos z] at fun_c
        exact ⟨-16, I, L, J, K, poor fun_c, by rw [if_pos (lt.mpr z)], Out.same hI hR hL (by omega) (by omega)⟩
      · rw [if_neg z] at fun_c
        rw [if_neg (fun y => z (lt.mp y))]
        exact paid (fun y => absurd y (by omega)) (fun _ => by omega) fun_c
  · have nf : nI n = (40 : Int32) := (r_full h40).mpr c
    refine ⟨-15, I, L, J, K, ?_, ?_, Out.same hI hR hL (by omega) (by omega)⟩
    · simp only [fK2_placeLimit, c_full hI.1 h40, if_neg c, bn_eq]
      exact if_neg (by decide)
    · simp only [fK8_ordered_272, hnJ, if_pos nf]
