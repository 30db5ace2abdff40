/-! PURE PART 9: stops wake alike; orders come alike -/
def scn (I : FI) : Nat → Nat
  | 0 => 0
  | n + 1 => scn I n + (if I 4 n = 1 then 1 else 0)
theorem scn_le (I : FI) : ∀ n, scn I n ≤ n
  | 0 => Nat.le_refl 0
  | n + 1 => by
    have := scn_le I n
    rw [scn]
    split <;> omega
theorem scn_congr {I I' : FI} : ∀ {n : Nat}, (∀ k, k < n → (I' 4 k = 1 ↔ I 4 k = 1)) → scn I' n = scn I n := by
  intro n
  induction n with
  | zero => intro _; simp only [scn]
  | succ n ih => intro h; rw [scn, scn, ih (fun k hk => h k (by omega))]; simp only [h n (by omega)]
theorem scn_close {I I' : FI} {m : Nat} (h0 : I 4 m = 1) (h1 : I' 4 m ≠ 1) : ∀ {n : Nat}, m < n → (∀ k, k < n → k ≠ m → I' 4 k = I 4 k) → scn I' n + 1 = scn I n := by
  intro n
  induction n with
  | zero => intro h; omega
  | succ n ih =>
    intro hm h
    rw [scn, scn]
    by_cases e : n = m
    · subst e
      rw [scn_congr (I := I) (I' := I') (fun k hk => by rw [h k (by omega) (by omega)]), if_neg h1, if_pos h0]
    · have := ih (by omega) (fun k hk => h k (by omega))
      rw [h n (by omega) e]
      omega
theorem scn_pos {I : FI} {m : Nat} (h0 : I 4 m = 1) : ∀ {n : Nat}, m < n → 1 ≤ scn I n := by
  intro n
  induction n with
  | zero => intro h; omega
  | succ n ih =>
    intro hm
    rw [scn]
    by_cases e : n = m
    · subst e; rw [if_pos h0]; omega
    · have := ih (by omega); omega
theorem Fr.stops {I I' : FI} (h : Fr I I') {k : Nat} : I' 4 k = 1 ↔ I 4 k = 1 := by
  rcases h.2.2 k with e | ⟨e1, e2⟩
  · rw [e]
  · rw [e1, e2]; decide
/-- an order that isn't OPEN may change its state to another that isn't -/
theorem Inv.state {I : FI} {L : FL} {n B T : Nat} (hI : Inv I L n B T) {k : Nat} (h : I 4 k ≠ 0) {v : Int32} (hv : v = 1 ∨ v = 2) : Inv (sI I 4 k v) L n B T := by
  obtain ⟨a, b, c, d, e⟩ := hI
  have hv0 : v ≠ 0 := by rcases hv with rfl | rfl <;> decide
  have rk : ∀ j, j ≠ k → ∀ f, f ≤ 4 → sI I 4 k v f j = I f j := fun j hj f _ => sI_at (by omega)
  have rm : ∀ f, f ≠ 4 → sI I 4 k v f k = I f k := fun f hf => sI_at (by omega)
  refine ⟨by rw [sI_at (by omega)]; exact a, b, fun j hj => ?_, by rw [sI_at (by omega)]; exact d, fun t ht => ?_⟩
  · by_cases z : j = k
    · subst z
      obtain ⟨t, s, q, p, a1, a2, a3, a4, a5, a6, a7, a8, a9, a10⟩ := c j hj
      refine ⟨t, s, q, p, a1, a2, a3, a4, by rw [rm 0 (by omega)]; exact a5, by rw [rm 1 (by omega)]; exact a6, by rw [rm 2 (by omega)]; exact a7, by rw [rm 3 (by omega)]; exact a8, ?_, ?_⟩
      · rw [sI_eq]; rcases hv with rfl | rfl
        · exact Or.inr (Or.inl rfl)
        · exact Or.inr (Or.inr rfl)
      · rw [sI_eq]; intro y; exact absurd y hv0
    · exact (c j hj).congr (rk j z)
  · obtain ⟨e1, e2, e3, e4⟩ := e t ht
    refine ⟨?_, ?_, e3, e4⟩
    · rw [e1]; exact sm_congr (fun j hj => by
        by_cases z : j = k
        · subst z; rw [hc_closed h, hc_closed (by rw [sI_eq]; exact hv0)]
        · exact (hc_congr (rk j z)).symm)
    · rw [e2]; exact sm_congr (fun j hj => by
        by_cases z : j = k
        · subst z; rw [hg_closed h, hg_closed (by rw [sI_eq]; exact hv0)]
        · exact (hg_congr (rk j z)).symm)
theorem min_l {a b : Nat} (ha : a < 2 ^ 62) (hb : b < 2 ^ 62) : (if lN a < lN b then lN a else lN b).toInt32 = nI (min a b) := by
  have := lN_ex (a := a) (b := b) (by omega) (by omega)
  by_cases c : a < b
  · rw [if_pos (this.mpr c), Nat.min_eq_left (by omega), lN_i32]
  · rw [if_neg (fun z => c (this.mp z)), Nat.min_eq_right (by omega), lN_i32]
/-- a whole meeting -/
theorem meet40 {n : Nat} {o : Fin 40} {t s lim : Nat} {a : Int32} (ht : t < 8) (hs : s < 2) (hlim : lim ≤ 9999) (ha : (a = 0 ∧ 1 ≤ lim) ∨ (a = 1 ∧ lim = 0)) (ho : o.val < n) {I J : FI} {L K : FL} {B T q lo : Nat} (hI : Inv I L n B T) (hR : Rr I J) (hL : Rl L K) (h4 : I 4 o.val = 2) (h0 : I 0 o.val = nI t) (h1 : I 1 o.val = nI s) (h2 : I 2 o.val = nI lo) (h3 : a = 0 → I 3 o.val = nI lim) (hlo : lo ≤ 9999) (hq : q ≤ lo) (hF : Fnd L t s lim q B) (hB : B + 4200000000 < 2 ^ 60) (hT : T + 42 < 2 ^ 30) :
    ∃ (I' : FI) (L' : FL) (J' : FI) (K' : FL) (q' : Nat), fK2_meet o (nI lim) (nI q) I L = some (I', L') ∧ fK8_meets (nI o.val) (nI q) a J K = some (J', K') ∧ Rr I' J' ∧ Rl L' K' ∧ Inv I' L' n (B + 4200000000) (T + 42) ∧ q' ≤ q ∧ I' 2 o.val = nI (lo - q + q') ∧ Fnd L' t s lim q' (B + 4200000000) ∧ Fr I I' ∧ J' 11 0 = J 11 0 := by
  have h40 := hI.2.1
  obtain ⟨I', L', J', K', q', r1, r2, r3, r4, r5, r6, r7, r8, r9, r10⟩ := meet_rel ht hs hlim ha ho 40 I J L K B T 0 q lo FU FU hI hR hL h4 h0 h1 h2 h3 hlo hq (Nat.le_trans (ocn_le _ _) h40) (Nat.le_refl 40) hF hB hT (by decide) (by decide)
  refine ⟨I', L', J', K', q', r1, ?_, r3, r4, r5, r6, r7, r8, r9, r10⟩
  have e1 : inb (nI o.val) 40 = true := inb_nI o.isLt (by decide)
  have e2 : (nI o.val).toNatClampNeg = o.val := nI_clamp (by have := o.isLt; omega)
  simp only [fK8_meets, e1, e2, ck_tt, nm_eq, hR.at (show (0 : Nat) ≤ 10 ∨ (0 = 11 ∧ o.val ≠ 0) from Or.inl (by omega)), hR.at (show (1 : Nat) ≤ 10 ∨ (1 = 11 ∧ o.val ≠ 0) from Or.inl (by omega)), h0, h1]
  exact r2
set_option maxHeartbeats 4000000 in
theorem wake_rel {n : Nat} {got : Int32} : ∀ (sc : Nat) (I J : FI) (L K : FL) (B T i f g : Nat), Inv I L n B T → Rr I J → Rl L K → scn I n ≤ sc → i + sc = 40 → B + sc * 4200000000 < 2 ^ 60 → T + sc * 42 < 2 ^ 30 → sc < f → sc < g →
    ∃ (I' : FI) (L' : FL) (J' : FI) (K' : FL), fK2_wakeStops_2 f (nI i) I L = some (I', L') ∧ fK8_line_43 g got (rI (wkL J n 0)) J K = some (got, J', K') ∧ Rr I' J' ∧ Rl L' K' ∧ Inv I' L' n (B + sc * 4200000000) (T + sc * 42) ∧ I' 11 0 = I 11 0 ∧ J' 11 0 = J 11 0 := by
  intro sc
  induction sc with
  | zero =>
    intro I J L K B T i f g hI hR hL hsc hi hB hT hf hg
    obtain ⟨f, rfl⟩ := fu1 hf
    obtain ⟨g, rfl⟩ := fu1 hg
    have hw : wkL J n 0 = none := by
      cases hb : wkL J n 0 with
      | none => rfl
      | some x =>
        obtain ⟨h1, h2⟩ := wkL_some hI.2.1 n 0 x (by omega) hb
        have := scn_pos (I := I) (m := x.val) (by rw [← hR.at (by omega)]; exact h2) h1
        omega
    refine ⟨I, L, J, K, ?_, ?_, hR, hL, hI.mono (by omega) (by omega), rfl, rfl⟩
    · show bK2_wakeStops_2 _ _ _ _ = _
      have : (40 : Int32) ≤ nI i := by rw [show i = 40 by omega]; decide
      simp only [bK2_wakeStops_2, if_pos this]
    · show bK8_line_43 _ _ _ _ _ = _
      rw [hw]
      simp only [bK8_line_43, rI]
      exact if_pos (by decide)
  | succ sc ih =>
    intro I J L K B T i f g hI hR hL hsc hi hB hT hf hg
    obtain ⟨f, rfl⟩ := fu1 hf
    obtain ⟨g, rfl⟩ := fu1 hg
    have h40 := hI.2.1
    have hwJ : wkL J n 0 = wkL I n 0 := wkL_congr (n := n) (fun k _ => ⟨hR.at (by omega), hR.at (by omega), hR.at (by omega)⟩) (hR.at (by omega)) n 0 (by omega)
    have hi40 : ¬ (40 : Int32) ≤ nI i := nI_ge (a := i) (b := 40) (by omega) (by decide)
    have cw := c_wake (L := L) hI.1 h40
    have cs : fK2_wakeStops_2 (f + 1) (nI i) I L = bK2_wakeStops_2 (fK2_wakeStops_2 f) (nI i) I L := rfl
    have rs : fK8_line_43 (g + 1) got (rI (wkL I n 0)) J K = bK8_line_43 (fK8_line_43 g) got (rI (wkL I n 0)) J K := rfl
    rw [hwJ]
    simp only [bK2_wakeStops_2, if_neg hi40, cw, bn_eq] at cs
    cases hb : wkL I n 0 with
    | none =>
      rw [hb] at cs rs
      refine ⟨I, L, J, K, cs, rs.trans ?_, hR, hL, hI.mono (by omega) (by omega), rfl, rfl⟩
      simp only [bK8_line_43, rI]
      exact if_pos (by decide)
    | some o =>
      rw [hb, mo_some] at cs
      rw [hb] at rs
      obtain ⟨hon, ho4⟩ := wkL_some h40 n 0 o (by omega) hb
      obtain ⟨t, s, lo, p, ht, hs, hlo, hp, h0, h1, h2, h3, -, -⟩ := hI.2.2.1 o.val hon
      have hoc : o.val < 40 := o.isLt
      have e1 : inb (nI o.val) 40 = true := inb_nI hoc (by decide)
      have e2 : (nI o.val).toNatClampNeg = o.val := nI_clamp (by omega)
      have ne : ¬ nI o.val < 0 := nI_pos (by omega)
      have I5 : Inv (sI I 4 o.val 2) L n B T := hI.state (by rw [ho4]; decide) (Or.inr rfl)
      have R5 : Rr (sI I 4 o.val 2) (sI J 4 o.val 2) := hR.set
      obtain ⟨-, -, -, ⟨G, hGB, hGe⟩⟩ := hI.2.2.2.2 t ht
      obtain ⟨-, fgr⟩ := r_free hI hR hL ht
      have J0 : J 0 o.val = nI t := by rw [hR.at (by omega)]; exact h0
      have J1 : J 1 o.val = nI s := by rw [hR.at (by omega)]; exact h1
      have J2 : J 2 o.val = nI lo := by rw [hR.at (by omega)]; exact h2
      have i4 : sI I 4 o.val 2 4 o.val = 2 := sI_eq
      have i0 : sI I 4 o.val 2 0 o.val = nI t := by rw [sI_at (by omega)]; exact h0
      have i1 : sI I 4 o.val 2 1 o.val = nI s := by rw [sI_at (by omega)]; exact h1
      have i2 : sI I 4 o.val 2 2 o.val = nI lo := by rw [sI_at (by omega)]; exact h2
      have j0 : sI J 4 o.val 2 0 o.val = nI t := by rw [sI_at (by omega)]; exact J0
      have j1 : sI J 4 o.val 2 1 o.val = nI s := by rw [sI_at (by omega)]; exact J1
      have hlol : (nI lo).toInt64 = lN lo := nIl (by omega)
      -- the quantity
      have hq : ∃ q, q ≤ lo ∧ Fnd L t s 0 q B ∧ fK2_wakeStops_2 (f + 1) (nI i) I L = bv (fK2_meet o 0 (nI q) (sI I 4 o.val 2) L) (fun I_2 L_3 => fK2_wakeStops_2 f (nI (i + 1)) I_2 L_3) ∧ fK8_line_43 (g + 1) got (rI (some o)) J K = bv (fK8_meets (nI o.val) (nI q) 1 (sI J 4 o.val 2) K) (fun I_4 L_5 => bn (fK8_waking I_4 L_5) (fun r_7 => fK8_line_43 g got r_7 I_4 L_5)) := by
        rcases nI_01 hs with ⟨z1, z2⟩ | ⟨z1, z2⟩
        · subst z2
          have n1 : ¬ nI 0 = 1 := by decide
          refine ⟨lo, Nat.le_refl _, ⟨fun _ z => absurd rfl z, fun z => absurd z (by omega)⟩, ?_, ?_⟩
          · rw [cs]
            simp only [nm_eq, i1, if_neg n1, fK2_wakeStops_58, i2, hlol, Int64.lt_irrefl, if_false, lN_i32, nI_1]
          · rw [rs]
            simp only [bK8_line_43, rI, if_neg ne, e1, e2, ck_tt, nm_eq, J1, if_neg n1, J2, fK8_line_81]
        · subst z2
          refine ⟨min lo G, Nat.min_le_left _ _, ⟨fun z => absurd z (by omega), fun _ => ⟨G, hGe, hGB, Nat.min_le_right _ _⟩⟩, ?_, ?_⟩
          · rw [cs]
            have hGe' : L 1 t - L 3 t = lN G := hGe
            simp only [nm_eq, i1, if_pos (show nI 1 = 1 from rfl), i0, g8_nI _ ht, fK0_freeGoods, hGe', bn_eq, fK2_wakeStops_58, i2, hlol, min_l (show lo < 2 ^ 62 by omega) (show G < 2 ^ 62 by omega), nI_1]
          · rw [rs]
            simp only [bK8_line_43, rI, if_neg ne, e1, e2, ck_tt, nm_eq, J1, if_pos (show nI 1 = 1 from rfl), J0, fgr, bn_eq, J2, hGe, hlol, min_l (show G < 2 ^ 62 by omega) (show lo < 2 ^ 62 by omega), Nat.min_comm G lo, fK8_line_81]
      obtain ⟨q, hql, hF, cs', rs'⟩ := hq
      obtain ⟨I', L', J', K', q', m1, m2, r3, r4, r5, -, -, -, r9, r10⟩ := meet40 (a := 1) ht hs (show (0 : Nat) ≤ 9999 by omega) (Or.inr ⟨rfl, rfl⟩) hon I5 R5 hL i4 i0 i1 i2 (fun z => absurd z (by decide)) hlo hql hF (by omega) (by omega)
      have hn' : J' 11 1 = nI n := by rw [r3.at (by omega)]; exact r5.1
      rw [show fK2_meet o 0 (nI q) (sI I 4 o.val 2) L = some (I', L') from m1, bv_eq] at cs'
      rw [m2, bv_eq, r_wake hn' h40, bn_eq] at rs'
      have hsc2 : scn I' n ≤ sc := by
        have a := scn_close (I := I) (I' := sI I 4 o.val 2) ho4 (by rw [sI_eq]; decide) hon (fun k _ hk => sI_at (by omega))
        have b := scn_congr (I := sI I 4 o.val 2) (I' := I') (n := n) (fun k _ => r9.stops)
        omega
      obtain ⟨I'', L'', J'', K'', s1, s2, s3, s4, s5, s6, s7⟩ := ih I' J' L' K' (B + 4200000000) (T + 42) (i + 1) f g r5 r3 r4 hsc2 (by omega) (by omega) (by omega) (by omega) (by omega)
      refine ⟨I'', L'', J'', K'', cs'.trans s1, rs'.trans s2, s3, s4, s5.mono (by omega) (by omega), ?_, ?_⟩
      · rw [s6, r9.2.1 0 (by omega) (by omega), sI_at (by omega)]
      · rw [s7, r10, sI_at (by omega)]
/-- an order comes -/
def ent (I : FI) (n : Nat) (t s q p v : Int32) : FI := sI (sI (sI (sI (sI (sI (sI I 0 n t) 1 n s) 2 n q) 3 n p) 4 n v) 5 n (-1)) 11 1 (nI n + 1)
theorem Rr_ent {I J : FI} (h : Rr I J) {n : Nat} {t s q p v : Int32} : Rr (ent I n t s q p v) (ent J n t s q p v) := ((((((h.set).set).set).set).set).set).set
theorem c_enter {I : FI} {L : FL} {n : Nat} (h : I 11 1 = nI n) (hn : n < 40) : fK4_enter I L = some (nI n, ent I n (I 15 1) (I 15 2) (I 15 3) (I 15 4) 2, L) := by
  simp only [fK4_enter, h, nm_eq, g40_nI _ hn]
  rw [sI_at (by omega), sI_at (by omega), sI_at (by omega), sI_at (by omega), sI_at (by omega), sI_at (by omega), sI_at (by omega), sI_at (by omega), sI_at (by omega), sI_at (by omega), sI_at (by omega), sI_at (by omega), h]
  rfl
theorem r_fresh {J : FI} {K : FL} {n : Nat} (h : J 11 1 = nI n) (hn : n < 40) {t s q p v : Int32} : fK8_fresh t s q p v J K = some (nI n, ent J n t s q p v, K) := by
  have e1 : inb (nI n) 40 = true := inb_nI hn (by decide)
  have e2 : (nI n).toNatClampNeg = n := nI_clamp (by omega)
  have k : ∀ (Z : FI) (f j : Nat) (v : Int32), f ≠ 11 → sI Z f j v 11 1 = Z 11 1 := fun Z f j v hf => sI_at (by omega)
  simp only [fK8_fresh, nm_eq, h, e1, e2, ck_tt, k _ _ _ _ (show (0 : Nat) ≠ 11 by omega), k _ _ _ _ (show (1 : Nat) ≠ 11 by omega), k _ _ _ _ (show (2 : Nat) ≠ 11 by omega), k _ _ _ _ (show (3 : Nat) ≠ 11 by omega), k _ _ _ _ (show (4 : Nat) ≠ 11 by omega), k _ _ _ _ (show (5 : Nat) ≠ 11 by omega)]
  rfl
theorem ent_old {I : FI} {n f j : Nat} {t s q p v : Int32} (h : j ≠ n ∨ 6 ≤ f) (h2 : ¬ (f = 11 ∧ j = 1)) : ent I n t s q p v f j = I f j := by
  unfold ent
  rw [sI_at (by omega), sI_at (by omega), sI_at (by omega), sI_at (by omega), sI_at (by omega), sI_at (by omega), sI_at (by omega)]
theorem ent_new {I : FI} {n : Nat} {t s q p v : Int32} : ent I n t s q p v 0 n = t ∧ ent I n t s q p v 1 n = s ∧ ent I n t s q p v 2 n = q ∧ ent I n t s q p v 3 n = p ∧ ent I n t s q p v 4 n = v ∧ ent I n t s q p v 5 n = -1 ∧ ent I n t s q p v 11 1 = nI (n + 1) := by
  unfold ent
  refine ⟨?_, ?_, ?_, ?_, ?_, ?_, ?_⟩
  · rw [sI_at (by omega), sI_at (by omega), sI_at (by omega), sI_at (by omega), sI_at (by omega), sI_at (by omega), sI_eq]
  · rw [sI_at (by omega), sI_at (by omega), sI_at (by omega), sI_at (by omega), sI_at (by omega), sI_eq]
  · rw [sI_at (by omega), sI_at (by omega), sI_at (by omega), sI_at (by omega), sI_eq]
  · rw [sI_at (by omega), sI_at (by omega), sI_at (by omega), sI_eq]
  · rw [sI_at (by omega), sI_at (by omega), sI_eq]
  · rw [sI_at (by omega), sI_eq]
  · rw [sI_eq, nI_1]
theorem inv_ent {I : FI} {L : FL} {n B T : Nat} (hI : Inv I L n B T) (hn : n < 40) {t s q p : Nat} (ht : t < 8) (hs : s < 2) (hq : q ≤ 9999) (hp : p ≤ 9999) {v : Int32} (hv : v = 1 ∨ v = 2) : Inv (ent I n (nI t) (nI s) (nI q) (nI p) v) L (n + 1) B T := by
  obtain ⟨a, b, c, d, e⟩ := hI
  have hv0 : v ≠ 0 := by rcases hv with rfl | rfl <;> decide
  obtain ⟨n0, n1, n2, n3, n4, n5, n6⟩ := ent_new (I := I) (n := n) (t := nI t) (s := nI s) (q := nI q) (p := nI p) (v := v)
  have old : ∀ k, k < n → ∀ f, f ≤ 4 → ent I n (nI t) (nI s) (nI q) (nI p) v f k = I f k := fun k hk f hf => ent_old (by omega) (by omega)
  refine ⟨n6, by omega, fun k hk => ?_, by rw [ent_old (by omega) (by omega)]; exact d, fun x hx => ?_⟩
  · by_cases z : k = n
    · subst z
      refine ⟨t, s, q, p, ht, hs, hq, hp, n0, n1, n2, n3, ?_, ?_⟩
      · rw [n4]; rcases hv with rfl | rfl
        · exact Or.inr (Or.inl rfl)
        · exact Or.inr (Or.inr rfl)
      · rw [n4]; intro y; exact absurd y hv0
    · exact (c k (by omega)).congr (old k (by omega))
  · obtain ⟨e1, e2, e3, e4⟩ := e x hx
    refine ⟨?_, ?_, e3, e4⟩
    · rw [sm, hc_closed (by rw [n4]; exact hv0), Int64.add_zero, e1]
      exact sm_congr (fun k hk => (hc_congr (old k hk)).symm)
    · rw [sm, hg_closed (by rw [n4]; exact hv0), Int64.add_zero, e2]
      exact sm_congr (fun k hk => (hg_congr (old k hk)).symm)
