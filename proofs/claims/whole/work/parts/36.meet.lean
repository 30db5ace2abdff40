/-! PURE PART 7: meeting -/
def Fnd (L : FL) (t s lim q B : Nat) : Prop := (s = 0 → lim ≠ 0 → ∃ F, fc L t = lN F ∧ F ≤ B ∧ q * lim ≤ F) ∧ (s = 1 → ∃ F, fg L t = lN F ∧ F ≤ B ∧ q ≤ F)
theorem Fnd.mono {L : FL} {t s lim q q' B B' : Nat} (h : Fnd L t s lim q B) (hq : q' ≤ q) (hB : B ≤ B') : Fnd L t s lim q' B' := by
  refine ⟨fun h1 h2 => ?_, fun h1 => ?_⟩
  · obtain ⟨F, a, b, c⟩ := h.1 h1 h2
    exact ⟨F, a, by omega, Nat.le_trans (Nat.mul_le_mul_right lim hq) c⟩
  · obtain ⟨F, a, b, c⟩ := h.2 h1
    exact ⟨F, a, by omega, by omega⟩
theorem Inv.mono {I : FI} {L : FL} {n B T B' T' : Nat} (h : Inv I L n B T) (hB : B ≤ B') (hT : T ≤ T') : Inv I L n B' T' := by
  obtain ⟨a, b, c, ⟨τ, d1, d2⟩, e⟩ := h
  refine ⟨a, b, c, ⟨τ, by omega, d2⟩, fun t ht => ?_⟩
  obtain ⟨e1, e2, ⟨F, f1, f2⟩, ⟨F', g1, g2⟩⟩ := e t ht
  exact ⟨e1, e2, ⟨F, by omega, f2⟩, ⟨F', by omega, g2⟩⟩
/-- what meeting leaves -/
def Fr (I I' : FI) : Prop := (∀ f, f = 0 ∨ f = 1 ∨ f = 3 ∨ f = 5 ∨ f = 6 ∨ 12 ≤ f → I' f = I f) ∧ (∀ j, j ≠ 2 → j ≠ 4 → I' 11 j = I 11 j) ∧ ∀ k, I' 4 k = I 4 k ∨ (I 4 k = 0 ∧ I' 4 k = 2)
theorem Fr.rf {I : FI} : Fr I I := ⟨fun _ _ => rfl, fun _ _ _ => rfl, fun _ => Or.inl rfl⟩
theorem Fr.tr {I I' I'' : FI} (h : Fr I I') (h' : Fr I' I'') : Fr I I'' := by
  refine ⟨fun f hf => (h'.1 f hf).trans (h.1 f hf), fun j a b => (h'.2.1 j a b).trans (h.2.1 j a b), fun k => ?_⟩
  rcases h'.2.2 k with e | ⟨e1, e2⟩
  · rcases h.2.2 k with g | ⟨g1, g2⟩
    · exact Or.inl (e.trans g)
    · exact Or.inr ⟨g1, e.trans g2⟩
  · rcases h.2.2 k with g | ⟨g1, g2⟩
    · exact Or.inr ⟨g.symm.trans e1, e2⟩
    · exact Or.inr ⟨g1, e2⟩
theorem Fr_close {I : FI} {m : Nat} (h : I 4 m = 0) : Fr I (sI I 4 m 2) := by
  refine ⟨fun f hf => sI_row (by omega), fun j _ _ => sI_at (by omega), fun k => ?_⟩
  by_cases e : k = m
  · subst e; exact Or.inr ⟨h, sI_eq⟩
  · exact Or.inl (sI_at (by omega))
theorem Fr_trade {I : FI} {o m w p : Nat} {x b c : Int32} (hom : o ≠ m) (h : I 4 m = 0) : Fr I (trI I o m w p x b c) := by
  refine ⟨fun f hf => trI_row hf, fun j a b => trI_11 a b, fun k => ?_⟩
  rw [trI_4 hom]
  by_cases e : k = m
  · subst e
    rw [if_pos rfl]
    split
    · exact Or.inr ⟨h, rfl⟩
    · exact Or.inl rfl
  · rw [if_neg e]; exact Or.inl rfl
/-- how many are OPEN -/
def ocn (I : FI) : Nat → Nat
  | 0 => 0
  | n + 1 => ocn I n + (if I 4 n = 0 then 1 else 0)
theorem ocn_le (I : FI) : ∀ n, ocn I n ≤ n
  | 0 => Nat.le_refl 0
  | n + 1 => by
    have := ocn_le I n
    rw [ocn]
    split <;> omega
theorem ocn_congr {I I' : FI} : ∀ {n : Nat}, (∀ k, k < n → I' 4 k = I 4 k) → ocn I' n = ocn I n := by
  intro n
  induction n with
  | zero => intro _; simp only [ocn]
  | succ n ih => intro h; rw [ocn, ocn, ih (fun k hk => h k (by omega)), h n (by omega)]
theorem ocn_close {I I' : FI} {m : Nat} (h0 : I 4 m = 0) (h1 : I' 4 m ≠ 0) : ∀ {n : Nat}, m < n → (∀ k, k < n → k ≠ m → I' 4 k = I 4 k) → ocn I' n + 1 = ocn I n := by
  intro n
  induction n with
  | zero => intro h; omega
  | succ n ih =>
    intro hm h
    rw [ocn, ocn]
    by_cases e : n = m
    · subst e
      rw [ocn_congr (I := I) (I' := I') (fun k hk => h k (by omega) (by omega)), if_neg h1, if_pos h0]
    · have := ih (by omega) (fun k hk => h k (by omega))
      rw [h n (by omega) e]
      omega
theorem ocn_pos {I : FI} {m : Nat} (h0 : I 4 m = 0) : ∀ {n : Nat}, m < n → 1 ≤ ocn I n := by
  intro n
  induction n with
  | zero => intro h; omega
  | succ n ih =>
    intro hm
    rw [ocn]
    by_cases e : n = m
    · subst e; rw [if_pos h0]; omega
    · have := ih (by omega); omega
theorem isM_open {I : FI} {s p : Int32} {k : Nat} (h : isM I s p k = true) : I 4 k = 0 ∧ ¬ I 1 k = s ∧ (p = 0 ∨ (s = 0 ∧ ¬ p < I 3 k) ∨ (¬ s = 0 ∧ ¬ I 3 k < p)) := by
  simp only [isM, Bool.and_eq_true, decide_eq_true_eq, Bool.not_eq_true', decide_eq_false_iff_not, Bool.or_eq_true] at h
  refine ⟨h.1.1, h.1.2, ?_⟩
  rcases h.2 with e | e
  · exact Or.inl e
  · by_cases hs : s = 0
    · rw [if_pos hs] at e
      simp only [Bool.not_eq_true', decide_eq_false_iff_not] at e
      exact Or.inr (Or.inl ⟨hs, e⟩)
    · rw [if_neg hs] at e
      simp only [Bool.not_eq_true', decide_eq_false_iff_not] at e
      exact Or.inr (Or.inr ⟨hs, e⟩)
section MT
variable {I J : FI} {L K : FL} {n B T : Nat} {o : Fin 40} {t s lim q j : Nat}
theorem c_zero (f : Nat) (hj : j ≤ 41) {x : Int32} : fK2_meet_6 (f + 1) o x (nI 0) (nI j) I L = some (I, L) := by
  show bK2_meet_6 _ _ _ _ _ _ _ = _
  have a : ¬ (42 : Int32) ≤ nI j := nI_ge (a := j) (b := 42) (by omega) (by decide)
  have b : nI 0 ≤ 0 := by decide
  simp only [bK2_meet_6, if_neg a, if_pos b]
theorem r_zero (g : Nat) {x y z v : Int32} : fK8_meets_19 (g + 1) x y z v (nI 0) J K = some (J, K) := by
  show bK8_meets_19 _ _ _ _ _ _ _ _ = _
  have b : nI 0 ≤ 0 := by decide
  simp only [bK8_meets_19, if_pos b]
theorem c_step (hI : Inv I L n B T) (h1 : I 1 o.val = nI s) (hs : s < 2) (hj : j ≤ 41) (hq1 : 1 ≤ q) (hq : q ≤ 9999) (f : Nat) :
    fK2_meet_6 (f + 1) o (nI lim) (nI q) (nI j) I L = mo (bst I (nI s) (nI lim) n) (some (I, L)) (fun m => if I 0 m.val = I 0 o.val then bv (fK2_cancel m I L) (fun I' L' => fK2_meet_6 f o (nI lim) (nI q) (nI (j + 1)) I' L') else bn (fK2_payable o (I 3 m.val) (if I 2 m.val < nI q then I 2 m.val else nI q) I L) (fun r => if r = 0 then some (I, L) else bv (fK2_settle o m r I L) (fun I' L' => fK2_meet_6 f o (nI lim) (nI q - r) (nI (j + 1)) I' L'))) := by
  show bK2_meet_6 _ _ _ _ _ _ _ = _
  have a : ¬ (42 : Int32) ≤ nI j := nI_ge (a := j) (b := 42) (by omega) (by decide)
  have b : ¬ nI q ≤ 0 := nI_nle (by omega) (by omega)
  have hs' : nI s = 0 ∨ nI s = 1 := by rcases nI_01 hs with ⟨e, -⟩ | ⟨e, -⟩ <;> simp [e]
  have fm := c_firstMatch (L := L) hI.1 hI.2.1 (nI lim) hs' (fun k hk => (hI.2.2.1 k hk).side)
  simp only [bK2_meet_6, if_neg a, if_neg b, h1, fm, bn_eq, fK2_meet_105, nm_eq, nI_1]
theorem r_step (hn : J 11 1 = nI n) (h40 : n ≤ 40) (hq1 : 1 ≤ q) (hq : q ≤ 9999) {a : Int32} (ha : (a = 0 ∧ J 3 o.val = nI lim) ∨ (a = 1 ∧ lim = 0)) (g : Nat) :
    fK8_meets_19 (g + 1) (nI o.val) a (nI t) (nI s) (nI q) J K = mo (bst J (nI s) (nI lim) n) (some (J, K)) (fun m => if J 0 m.val = nI t then fK8_meets_19 g (nI o.val) a (nI t) (nI s) (nI q) (sI J 4 m.val 2) K else (if a = 0 then fK8_meets_126 (fK8_meets_19 g) (nI o.val) a (nI t) (nI s) (nI q) (nI m.val) (if J 2 m.val < nI q then J 2 m.val else nI q) (J 3 m.val) J K else (if nI s = 0 then bn (fK8_freeCash (nI t) J K) (fun r => ck (decide (¬ (J 3 m.val).toInt64 = 0)) (fK8_meets_126 (fK8_meets_19 g) (nI o.val) a (nI t) (nI s) (nI q) (nI m.val) ((if r / (J 3 m.val).toInt64 < (if J 2 m.val < nI q then J 2 m.val else nI q).toInt64 then r / (J 3 m.val).toInt64 else (if J 2 m.val < nI q then J 2 m.val else nI q).toInt64).toInt32) (J 3 m.val) J K)) else fK8_meets_126 (fK8_meets_19 g) (nI o.val) a (nI t) (nI s) (nI q) (nI m.val) (if J 2 m.val < nI q then J 2 m.val else nI q) (J 3 m.val) J K))) := by
  have b : ¬ nI q ≤ 0 := nI_nle (by omega) (by omega)
  have e1 : inb (nI o.val) 40 = true := inb_nI o.isLt (by decide)
  have e2 : (nI o.val).toNatClampNeg = o.val := nI_clamp (by have := o.isLt; omega)
  have fm := r_match (L := K) hn h40 (nI s) (nI lim)
  have key : fK8_meets_19 (g + 1) (nI o.val) a (nI t) (nI s) (nI q) J K = fK8_meets_41 (fK8_meets_19 g) (nI o.val) a (nI t) (nI s) (nI q) (nI lim) (nI s) J K := by
    show bK8_meets_19 _ _ _ _ _ _ _ _ = _
    rcases ha with ⟨rfl, h3⟩ | ⟨rfl, rfl⟩
    · simp only [bK8_meets_19, if_neg b, if_true, e1, e2, ck_tt, h3]
    · simp only [bK8_meets_19, if_neg b, if_neg (show ¬ (1 : Int32) = 0 by decide)]; rfl
  rw [key]
  simp only [fK8_meets_41, fm, bn_eq]
  cases hb : bst J (nI s) (nI lim) n with
  | none => simp only [mo_none, rI]; exact if_neg (by decide)
  | some m =>
    have hm := m.isLt
    have a0 : (0 : Int32) ≤ nI m.val := nI_pos' (by omega)
    have e3 : inb (nI m.val) 40 = true := inb_nI hm (by decide)
    have e4 : (nI m.val).toNatClampNeg = m.val := nI_clamp (by omega)
    simp only [mo_some, rI, if_pos a0, e3, e4, ck_tt, nm_eq]
theorem mn_eq {x : Int32} {a b : Nat} (h : x = nI a) (ha : a ≤ 9999) (hb : b ≤ 9999) : (if x < nI b then x else nI b) = nI (min a b) := by
  subst h
  have := nI_ltI (a := a) (b := b) (by omega) (by omega)
  by_cases c : a < b
  · rw [if_pos (this.mpr c), Nat.min_eq_left (by omega)]
  · rw [if_neg (fun z => c (this.mp z)), Nat.min_eq_right (by omega)]
theorem pay_eq {F p a : Nat} (hF : F < 2 ^ 60) (hp : 1 ≤ p) (hp2 : p ≤ 9999) (ha : a ≤ 9999) : ((if lN F / (nI p).toInt64 < (nI a).toInt64 then lN F / (nI p).toInt64 else (nI a).toInt64).toInt32) = nI (min (F / p) a) := by
  have hd : F / p < 2 ^ 60 := Nat.lt_of_le_of_lt (Nat.div_le_self F p) hF
  rw [nIl (show p < 2 ^ 31 by omega), nIl (show a < 2 ^ 31 by omega), pk_lDiv (by omega) (by omega) (by omega)]
  have := lN_ex (a := F / p) (b := a) (by omega) (by omega)
  by_cases c : F / p < a
  · rw [if_pos (this.mpr c), Nat.min_eq_left (by omega), lN_i32]
  · rw [if_neg (fun z => c (this.mp z)), Nat.min_eq_right (by omega), lN_i32]
theorem c_pay1 {x y : Int32} (h1 : I 1 o.val = 1) : fK2_payable o x y I L = some y := by simp only [fK2_payable, if_pos h1]
theorem c_pay0 {p a F : Nat} (h1 : I 1 o.val = 0) (h0 : I 0 o.val = nI t) (ht : t < 8) (hf : fc L t = lN F) (hF : F < 2 ^ 60) (hp : 1 ≤ p) (hp2 : p ≤ 9999) (ha : a ≤ 9999) : fK2_payable o (nI p) (nI a) I L = some (nI (min (F / p) a)) := by
  have a1 : ¬ I 1 o.val = 1 := by rw [h1]; decide
  have a2 : (0 : Int32) < nI p := nI_lt (a := 0) (by omega) (by omega)
  have hf' : L 0 t - L 2 t = lN F := hf
  have a3 : decide (¬ (nI p).toInt64 = 0) = true := by
    rw [decide_eq_true_eq, nIl (show p < 2 ^ 31 by omega)]
    intro z
    have := (pk_lEQ (a := p) (b := 0) (by omega) (by decide)).mp z
    omega
  simp only [fK2_payable, if_neg a1, if_pos a2, h0, g8_nI _ ht, fK0_freeCash, bn_eq, hf', a3, ck_tt, pay_eq hF hp hp2 ha]
/-- the reference's free cash is the class's -/
theorem r_free (hI : Inv I L n B T) (hR : Rr I J) (hL : Rl L K) (ht : t < 8) : fK8_freeCash (nI t) J K = some (fc L t) ∧ fK8_freeGoods (nI t) J K = some (fg L t) := by
  have e1 : inb (nI t) 8 = true := inb_nI ht (by decide)
  have e2 : (nI t).toNatClampNeg = t := nI_clamp (by omega)
  have hn : J 11 1 = nI n := by rw [hR.at (by omega)]; exact hI.1
  obtain ⟨a1, a2, -, -⟩ := hI.2.2.2.2 t ht
  have b1 : sm (hcG J (nI t)) n = L 2 t := by rw [a1]; exact sm_congr (fun k hk => hc_congr (fun f hf => hR.at (by omega)))
  have b2 : sm (hgG J (nI t)) n = L 3 t := by rw [a2]; exact sm_congr (fun k hk => hg_congr (fun f hf => hR.at (by omega)))
  constructor
  · simp only [fK8_freeCash, e1, e2, ck_tt, r_heldCash hn hI.2.1, bn_eq, b1, ← hL.1]; rfl
  · simp only [fK8_freeGoods, e1, e2, ck_tt, r_heldGoods hn hI.2.1, bn_eq, b2, ← hL.2]; rfl
end MT
