/-! PURE PART 14: the tape's words -/
def WW (I : FI) (w z : Nat) : Prop := ∀ k, k < w → ∃ a b, a < b ∧ b ≤ z ∧ I 13 k = nI a ∧ I 14 k = nI b
def Only (I I' : FI) : Prop := ∀ f j, f ≠ 12 → f ≠ 13 → f ≠ 14 → I' f j = I f j
theorem Only.rf {I : FI} : Only I I := fun _ _ _ _ _ => rfl
theorem Only.tr {I I' I'' : FI} (h : Only I I') (h' : Only I' I'') : Only I I'' := fun f j a b c => (h' f j a b c).trans (h f j a b c)
theorem Only.set {I : FI} {f j : Nat} {v : Int32} (h : f = 12 ∨ f = 13 ∨ f = 14) : Only I (sI I f j v) := fun a b _ _ _ => sI_at (by omega)
/-- a word is laid -/
def lay (I : FI) (w a i : Nat) : FI := sI (sI (sI I 13 w (nI a)) 14 w (nI i)) 12 0 (nI (w + 1))
theorem lay_only {I : FI} {w a i : Nat} : Only I (lay I w a i) := ((Only.set (Or.inr (Or.inl rfl))).tr (Only.set (Or.inr (Or.inr rfl)))).tr (Only.set (Or.inl rfl))
theorem lay_w {I : FI} {w a i : Nat} : lay I w a i 12 0 = nI (w + 1) := sI_eq
theorem lay_13 {I : FI} {w a i k : Nat} : lay I w a i 13 k = if k = w then nI a else I 13 k := by
  unfold lay
  rw [sI_at (by omega), sI_at (by omega)]
  by_cases e : k = w
  · subst e; rw [sI_eq, if_pos rfl]
  · rw [sI_at (by omega), if_neg e]
theorem lay_14 {I : FI} {w a i k : Nat} : lay I w a i 14 k = if k = w then nI i else I 14 k := by
  unfold lay
  rw [sI_at (by omega)]
  by_cases e : k = w
  · subst e; rw [sI_eq, if_pos rfl]
  · rw [sI_at (by omega), sI_at (by omega), if_neg e]
theorem WW.lay {I : FI} {w z a i : Nat} (h : WW I w z) (ha : a < i) (hi : i ≤ z) : WW (lay I w a i) (w + 1) z := by
  intro k hk
  rw [lay_13, lay_14]
  by_cases e : k = w
  · rw [if_pos e, if_pos e]; exact ⟨a, i, ha, hi, rfl, rfl⟩
  · rw [if_neg e, if_neg e]; exact h k (by omega)
/-- the reference alone -/
theorem r_cut {z : Nat} (hz : z ≤ 40) {K : FL} : ∀ (d i a w g g7 : Nat) (J : FI), i + d = z → a ≤ i → w ≤ 12 → J 12 0 = nI w → J 11 0 = nI z → WW J w z → d < g → d < g7 →
    ∃ (b : Int32) (J' : FI), fK8_taken_9 (fK8_taken_7 g7) g (nI a) (nI i) J K = some (b, J', K) ∧ Only J J' ∧ (b = 0 ∨ (b = 1 ∧ ∃ w', J' 12 0 = nI w' ∧ w < w' ∧ w' ≤ 12 ∧ WW J' w' z)) := by
  intro d
  induction d with
  | zero =>
    intro i a w g g7 J hi ha hw h12 h11 hW hg hg7
    obtain ⟨g, rfl⟩ := fu1 hg
    have iz : i = z := by omega
    subst iz
    show ∃ b J', bK8_taken_9 _ _ _ _ _ _ = some (b, J', K) ∧ _
    have le : nI i ≤ nI i := Int32.le_refl _
    simp only [bK8_taken_9, h11, if_pos le, fK8_taken_34]
    by_cases c : i = a
    · subst c
      exact ⟨0, J, if_pos rfl, Only.rf, Or.inl rfl⟩
    · have ne : ¬ nI i = nI a := fun y => c ((nI_eq (by omega) (by omega)).mp y)
      rw [if_neg ne]
      by_cases c12 : w = 12
      · subst c12
        exact ⟨0, J, if_pos h12, Only.rf, Or.inl rfl⟩
      · have n12 : ¬ J 12 0 = 12 := by rw [h12]; exact fun y => c12 ((nI_eq (b := 12) (by omega) (by decide)).mp y)
        have e1 : inb (nI w) 12 = true := inb_nI (by omega) (by decide)
        have e2 : (nI w).toNatClampNeg = w := nI_clamp (by omega)
        have s1 : sI J 13 w (nI a) 12 0 = nI w := by rw [sI_at (by omega)]; exact h12
        rw [if_neg n12]
        simp only [h12, e1, e2, ck_tt, nm_eq, s1, nI_1]
        have hl : sI (sI (sI J 13 w (nI a)) 12 0 (nI (w + 1))) 14 w (nI i) = lay J w a i := by
          funext x y; simp only [lay, sI]; by_cases hx : x = 12
          · subst hx; simp
          · simp [hx]
        rw [hl]
        have l11 : lay J w a i 11 0 = nI i := by rw [lay_only 11 0 (by omega) (by omega) (by omega)]; exact h11
        rw [l11, if_pos rfl]
        exact ⟨1, lay J w a i, rfl, lay_only, Or.inr ⟨rfl, w + 1, lay_w, by omega, by omega, hW.lay (by omega) (Nat.le_refl _)⟩⟩
  | succ d ih =>
    intro i a w g g7 J hi ha hw h12 h11 hW hg hg7
    obtain ⟨g, rfl⟩ := fu1 hg
    obtain ⟨g7, rfl⟩ := fu1 hg7
    have nle : ¬ nI z ≤ nI i := nI_ge (by omega) (by omega)
    have e1 : inb (nI i) 40 = true := inb_nI (by omega) (by decide)
    have e2 : (nI i).toNatClampNeg = i := nI_clamp (by omega)
    show ∃ b J', bK8_taken_9 _ _ _ _ _ _ = some (b, J', K) ∧ _
    simp only [bK8_taken_9, h11, if_neg nle, e1, e2, ck_tt, nm_eq, nI_1]
    by_cases cb : J 6 i = 32
    · rw [if_pos cb]
      simp only [fK8_taken_34]
      by_cases c : i = a
      · subst c
        exact ⟨0, J, if_pos rfl, Only.rf, Or.inl rfl⟩
      · have ne : ¬ nI i = nI a := fun y => c ((nI_eq (by omega) (by omega)).mp y)
        rw [if_neg ne]
        by_cases c12 : w = 12
        · subst c12
          exact ⟨0, J, if_pos h12, Only.rf, Or.inl rfl⟩
        · have n12 : ¬ J 12 0 = 12 := by rw [h12]; exact fun y => c12 ((nI_eq (b := 12) (by omega) (by decide)).mp y)
          have e3 : inb (nI w) 12 = true := inb_nI (by omega) (by decide)
          have e4 : (nI w).toNatClampNeg = w := nI_clamp (by omega)
          have s1 : sI J 13 w (nI a) 12 0 = nI w := by rw [sI_at (by omega)]; exact h12
          rw [if_neg n12]
          simp only [h12, e3, e4, ck_tt, nm_eq, s1, nI_1]
          have hl : sI (sI (sI J 13 w (nI a)) 12 0 (nI (w + 1))) 14 w (nI i) = lay J w a i := by
            funext x y; simp only [lay, sI]; by_cases hx : x = 12
            · subst hx; simp
            · simp [hx]
          rw [hl]
          have l11 : lay J w a i 11 0 = nI z := by rw [lay_only 11 0 (by omega) (by omega) (by omega)]; exact h11
          have nz : ¬ nI i = nI z := fun y => by have := (nI_eq (a := i) (b := z) (by omega) (by omega)).mp y; omega
          rw [l11, if_neg nz]
          obtain ⟨b, J', r1, r2, r3⟩ := ih (i + 1) (i + 1) (w + 1) FU g7 (lay J w a i) (by omega) (Nat.le_refl _) (by omega) lay_w l11 (hW.lay (by omega) (by omega)) (by simp only [FU]; omega) (by omega)
          refine ⟨b, J', r1, lay_only.tr r2, ?_⟩
          rcases r3 with e | ⟨e, w', f1, f2, f3, f4⟩
          · exact Or.inl e
          · exact Or.inr ⟨e, w', f1, by omega, f3, f4⟩
    · rw [if_neg cb]
      exact ih (i + 1) a w g (g7 + 1) J (by omega) (by omega) hw h12 h11 hW (by omega) (by omega)
/-- both cut alike -/
theorem cut_rel {z : Nat} (hz : z ≤ 40) {L K : FL} : ∀ (d i a w f g g7 : Nat) (I J : FI), i + d = z → a ≤ i → w ≤ 7 → I 12 0 = nI w → J 12 0 = nI w → I 11 0 = nI z → J 11 0 = nI z → (∀ j, J 6 j = I 6 j) → WW I w z → (∀ k, k < w → J 13 k = I 13 k ∧ J 14 k = I 14 k) → d + 1 < f → d < g → d < g7 →
    ∃ (b b' : Int32) (I' J' : FI), fK5_cutIntoWords_9 f (nI a) (nI i) I L = some (b, I', L) ∧ fK8_taken_9 (fK8_taken_7 g7) g (nI a) (nI i) J K = some (b', J', K) ∧ Only I I' ∧ Only J J' ∧
      ((b = 1 ∧ b' = 1 ∧ ∃ w', w' ≤ 7 ∧ I' 12 0 = nI w' ∧ J' 12 0 = nI w' ∧ WW I' w' z ∧ ∀ k, k < w' → J' 13 k = I' 13 k ∧ J' 14 k = I' 14 k) ∨ (b = 0 ∧ (b' = 0 ∨ (b' = 1 ∧ ∃ w', J' 12 0 = nI w' ∧ 7 < w' ∧ w' ≤ 12 ∧ WW J' w' z)))) := by
  have layc : ∀ (I : FI) (w a i : Nat), I 12 0 = nI w → w < 7 → (ck (inb (I 12 0) 7) (nm (sI I 13 (I 12 0).toNatClampNeg (nI a)) (fun I_4 => ck (inb (I_4 12 0) 7) (nm (sI I_4 14 (I_4 12 0).toNatClampNeg (nI i)) (fun I_6 => nm (sI I_6 12 0 ((I_6 12 0) + 1)) (fun I_7 => some I_7)))))) = some (lay I w a i) := by
    intro I w a i h12 hw
    have e1 : inb (nI w) 7 = true := inb_nI hw (by decide)
    have e2 : (nI w).toNatClampNeg = w := nI_clamp (by omega)
    have s1 : sI I 13 w (nI a) 12 0 = nI w := by rw [sI_at (by omega)]; exact h12
    have s2 : sI (sI I 13 w (nI a)) 14 w (nI i) 12 0 = nI w := by rw [sI_at (by omega)]; exact s1
    simp only [h12, e1, e2, ck_tt, nm_eq, s1, s2, nI_1]
    rfl
  have stepc : ∀ (k9 : Int32 → Int32 → FI → FL → Option (Int32 × FI × FL)) (I : FI) (w a i : Nat), I 12 0 = nI w → w < 7 → ¬ nI i = nI a → fK5_cutIntoWords_39 k9 (nI a) (nI i) I L = k9 (nI (i + 1)) (nI (i + 1)) (lay I w a i) L := by
    intro k9 I w a i h12 hw ne
    have e1 : inb (nI w) 7 = true := inb_nI hw (by decide)
    have e2 : (nI w).toNatClampNeg = w := nI_clamp (by omega)
    have s1 : sI I 13 w (nI a) 12 0 = nI w := by rw [sI_at (by omega)]; exact h12
    have s2 : sI (sI I 13 w (nI a)) 14 w (nI i) 12 0 = nI w := by rw [sI_at (by omega)]; exact s1
    have lt : nI w < (7 : Int32) := nI_lt (b := 7) hw (by decide)
    simp only [fK5_cutIntoWords_39, if_neg ne, h12, if_pos lt, e1, e2, ck_tt, nm_eq, s1, s2, nI_1, fK5_cutIntoWords_89]
    rfl
  have relay : ∀ (I J : FI) (w a i : Nat), (∀ k, k < w → J 13 k = I 13 k ∧ J 14 k = I 14 k) → ∀ k, k < w + 1 → lay J w a i 13 k = lay I w a i 13 k ∧ lay J w a i 14 k = lay I w a i 14 k := by
    intro I J w a i h k hk
    rw [lay_13, lay_13, lay_14, lay_14]
    by_cases e : k = w
    · rw [if_pos e, if_pos e, if_pos e, if_pos e]; exact ⟨rfl, rfl⟩
    · rw [if_neg e, if_neg e, if_neg e, if_neg e]; exact h k (by omega)
  have layr : ∀ (J : FI) (w a i : Nat), sI (sI (sI J 13 w (nI a)) 12 0 (nI (w + 1))) 14 w (nI i) = lay J w a i := by
    intro J w a i
    funext x y; simp only [lay, sI]; by_cases hx : x = 12
    · subst hx; simp
    · simp [hx]
  have stepr : ∀ (k7 : Int32 → FI → FL → Option (Int32 × FI × FL)) (k9 : Int32 → Int32 → FI → FL → Option (Int32 × FI × FL)) (J : FI) (w a i : Nat), J 12 0 = nI w → w < 12 → ¬ nI i = nI a → J 11 0 = nI z → fK8_taken_34 k7 k9 (nI a) (nI i) J K = if nI i = nI z then some (1, lay J w a i, K) else k7 (nI (i + 1)) (lay J w a i) K := by
    intro k7 k9 J w a i h12 hw ne h11
    have n12 : ¬ nI w = 12 := fun y => by have := (nI_eq (a := w) (b := 12) (by omega) (by decide)).mp y; omega
    have e3 : inb (nI w) 12 = true := inb_nI hw (by decide)
    have e4 : (nI w).toNatClampNeg = w := nI_clamp (by omega)
    have s1 : sI J 13 w (nI a) 12 0 = nI w := by rw [sI_at (by omega)]; exact h12
    have l11 : lay J w a i 11 0 = nI z := by rw [lay_only 11 0 (by omega) (by omega) (by omega)]; exact h11
    simp only [fK8_taken_34, if_neg ne, h12, if_neg n12, e3, e4, ck_tt, nm_eq, s1, nI_1, layr, l11]
  intro d
  induction d with
  | zero =>
    intro i a w f g g7 I J hi ha hw h12 j12 h11 j11 h6 hW hRW hf hg hg7
    obtain ⟨f, rfl⟩ : ∃ y, f = y + 1 := ⟨f - 1, by omega⟩
    have iz : i = z := by omega
    subst iz
    have le : nI i ≤ nI i := Int32.le_refl _
    have nlt : ¬ nI i < nI i := Int32.lt_irrefl
    have cs : fK5_cutIntoWords_9 (f + 1) (nI a) (nI i) I L = fK5_cutIntoWords_39 (fK5_cutIntoWords_9 f) (nI a) (nI i) I L := by
      show bK5_cutIntoWords_9 _ _ _ _ _ = _
      simp only [bK5_cutIntoWords_9, h11, if_neg nlt, if_pos le]
    rw [cs]
    by_cases c : i = a
    · obtain ⟨b', J', r1, r2, r3⟩ := r_cut hz (K := K) 0 i a w g g7 J (by omega) ha (by omega) j12 j11 (fun k hk => by obtain ⟨x, y, h1, h2, h3, h4⟩ := hW k hk; exact ⟨x, y, h1, h2, by rw [(hRW k hk).1]; exact h3, by rw [(hRW k hk).2]; exact h4⟩) hg hg7
      subst c
      have cz : fK5_cutIntoWords_39 (fK5_cutIntoWords_9 f) (nI i) (nI i) I L = some (0, I, L) := by simp only [fK5_cutIntoWords_39, if_true]
      obtain ⟨g, rfl⟩ := fu1 hg
      have rz : fK8_taken_9 (fK8_taken_7 g7) (g + 1) (nI i) (nI i) J K = some (0, J, K) := by
        show bK8_taken_9 _ _ _ _ _ _ = _
        simp only [bK8_taken_9, j11, if_pos le, fK8_taken_34, if_true]
      exact ⟨0, 0, I, J, cz, rz, Only.rf, Only.rf, Or.inr ⟨rfl, Or.inl rfl⟩⟩
    · have ne : ¬ nI i = nI a := fun y => c ((nI_eq (by omega) (by omega)).mp y)
      by_cases w7 : w < 7
      · obtain ⟨f, rfl⟩ : ∃ y, f = y + 1 := ⟨f - 1, by omega⟩
        obtain ⟨g, rfl⟩ := fu1 hg
        rw [stepc _ I w a i h12 w7 ne]
        have fin : fK5_cutIntoWords_9 (f + 1) (nI (i + 1)) (nI (i + 1)) (lay I w a i) L = some (1, lay I w a i, L) := by
          show bK5_cutIntoWords_9 _ _ _ _ _ = _
          have l11 : lay I w a i 11 0 = nI i := by rw [lay_only 11 0 (by omega) (by omega) (by omega)]; exact h11
          have lt : nI i < nI (i + 1) := nI_lt (by omega) (by omega)
          simp only [bK5_cutIntoWords_9, l11, if_pos lt]
        have rfin : fK8_taken_9 (fK8_taken_7 g7) (g + 1) (nI a) (nI i) J K = some (1, lay J w a i, K) := by
          show bK8_taken_9 _ _ _ _ _ _ = _
          simp only [bK8_taken_9, j11, if_pos le]
          rw [stepr _ _ J w a i j12 (by omega) ne j11, if_pos rfl]
        exact ⟨1, 1, lay I w a i, lay J w a i, fin, rfin, lay_only, lay_only, Or.inl ⟨rfl, rfl, w + 1, by omega, lay_w, lay_w, hW.lay (by omega) (Nat.le_refl _), relay I J w a i hRW⟩⟩
      · have cz : fK5_cutIntoWords_39 (fK5_cutIntoWords_9 f) (nI a) (nI i) I L = some (0, I, L) := by
          have nl : ¬ nI w < (7 : Int32) := nI_nlt (b := 7) (by omega) (by omega)
          simp only [fK5_cutIntoWords_39, if_neg ne, h12, if_neg nl]
        obtain ⟨b', J', r1, r2, r3⟩ := r_cut hz (K := K) 0 i a w g g7 J (by omega) ha (by omega) j12 j11 (fun k hk => by obtain ⟨x, y, h1, h2, h3, h4⟩ := hW k hk; exact ⟨x, y, h1, h2, by rw [(hRW k hk).1]; exact h3, by rw [(hRW k hk).2]; exact h4⟩) hg hg7
        refine ⟨0, b', I, J', cz, r1, Only.rf, r2, Or.inr ⟨rfl, ?_⟩⟩
        rcases r3 with e | ⟨e, w', q1, q2, q3, q4⟩
        · exact Or.inl e
        · exact Or.inr ⟨e, w', q1, by omega, q3, q4⟩
  | succ d ih =>
    intro i a w f g g7 I J hi ha hw h12 j12 h11 j11 h6 hW hRW hf hg hg7
    obtain ⟨f, rfl⟩ : ∃ y, f = y + 1 := ⟨f - 1, by omega⟩
    have nle : ¬ nI z ≤ nI i := nI_ge (by omega) (by omega)
    have nlt : ¬ nI z < nI i := nI_nlt (by omega) (by omega)
    have e1 : inb (nI i) 40 = true := inb_nI (by omega) (by decide)
    have e2 : (nI i).toNatClampNeg = i := nI_clamp (by omega)
    have cs : fK5_cutIntoWords_9 (f + 1) (nI a) (nI i) I L = if I 6 i = 32 then fK5_cutIntoWords_39 (fK5_cutIntoWords_9 f) (nI a) (nI i) I L else fK5_cutIntoWords_9 f (nI a) (nI (i + 1)) I L := by
      show bK5_cutIntoWords_9 _ _ _ _ _ = _
      simp only [bK5_cutIntoWords_9, h11, if_neg nlt, if_neg nle, e1, e2, ck_tt, fK5_cutIntoWords_89, nm_eq, nI_1]
    have any := r_cut hz (K := K) (d + 1) i a w g g7 J (by omega) ha (by omega) j12 j11 (fun k hk => by obtain ⟨x, y, h1, h2, h3, h4⟩ := hW k hk; exact ⟨x, y, h1, h2, by rw [(hRW k hk).1]; exact h3, by rw [(hRW k hk).2]; exact h4⟩) hg hg7
    obtain ⟨g, rfl⟩ := fu1 hg
    have rs : fK8_taken_9 (fK8_taken_7 g7) (g + 1) (nI a) (nI i) J K = if I 6 i = 32 then fK8_taken_34 (fK8_taken_7 g7) (fK8_taken_9 (fK8_taken_7 g7) g) (nI a) (nI i) J K else fK8_taken_9 (fK8_taken_7 g7) g (nI a) (nI (i + 1)) J K := by
      show bK8_taken_9 _ _ _ _ _ _ = _
      simp only [bK8_taken_9, j11, if_neg nle, e1, e2, ck_tt, nm_eq, nI_1, h6]
    by_cases cb : I 6 i = 32
    · by_cases c : i = a
      · subst c
        have cz : fK5_cutIntoWords_9 (f + 1) (nI i) (nI i) I L = some (0, I, L) := by rw [cs, if_pos cb]; simp only [fK5_cutIntoWords_39, if_true]
        have rz : fK8_taken_9 (fK8_taken_7 g7) (g + 1) (nI i) (nI i) J K = some (0, J, K) := by rw [rs, if_pos cb]; simp only [fK8_taken_34, if_true]
        exact ⟨0, 0, I, J, cz, rz, Only.rf, Only.rf, Or.inr ⟨rfl, Or.inl rfl⟩⟩
      · have ne : ¬ nI i = nI a := fun y => c ((nI_eq (by omega) (by omega)).mp y)
        by_cases w7 : w < 7
        · obtain ⟨g7, rfl⟩ := fu1 hg7
          have nz : ¬ nI i = nI z := fun y => by have := (nI_eq (a := i) (b := z) (by omega) (by omega)).mp y; omega
          rw [cs, rs, if_pos cb, if_pos cb, stepc _ I w a i h12 w7 ne, stepr _ _ J w a i j12 (by omega) ne j11, if_neg nz]
          have l11 : lay I w a i 11 0 = nI z := by rw [lay_only 11 0 (by omega) (by omega) (by omega)]; exact h11
          have lj11 : lay J w a i 11 0 = nI z := by rw [lay_only 11 0 (by omega) (by omega) (by omega)]; exact j11
          obtain ⟨b, b', I', J', r1, r2, r3, r4, r5⟩ := ih (i + 1) (i + 1) (w + 1) f FU g7 (lay I w a i) (lay J w a i) (by omega) (Nat.le_refl _) (by omega) lay_w lay_w l11 lj11 (fun j => by rw [lay_only 6 j (by omega) (by omega) (by omega), lay_only 6 j (by omega) (by omega) (by omega)]; exact h6 j) (hW.lay (by omega) (by omega)) (relay I J w a i hRW) (by omega) (by simp only [FU]; omega) (by omega)
          exact ⟨b, b', I', J', r1, r2, lay_only.tr r3, lay_only.tr r4, r5⟩
        · have cz : fK5_cutIntoWords_9 (f + 1) (nI a) (nI i) I L = some (0, I, L) := by
            have nl : ¬ nI w < (7 : Int32) := nI_nlt (b := 7) (by omega) (by omega)
            rw [cs, if_pos cb]
            simp only [fK5_cutIntoWords_39, if_neg ne, h12, if_neg nl]
          obtain ⟨b', J', r1, r2, r3⟩ := any
          refine ⟨0, b', I, J', cz, r1, Only.rf, r2, Or.inr ⟨rfl, ?_⟩⟩
          rcases r3 with e | ⟨e, w', q1, q2, q3, q4⟩
          · exact Or.inl e
          · exact Or.inr ⟨e, w', q1, by omega, q3, q4⟩
    · rw [cs, rs, if_neg cb, if_neg cb]
      exact ih (i + 1) a w f g g7 I J (by omega) (by omega) hw h12 j12 h11 j11 h6 hW hRW (by omega) (by omega) (by omega)
