/-! PURE PART 16: the class reads a line -/
def Sc (I0 I : FI) : Prop := ∀ f j, f ≠ 15 → I f j = I0 f j
theorem Sc.rf {I : FI} : Sc I I := fun _ _ _ => rfl
theorem Sc.set {I0 I : FI} (h : Sc I0 I) {j : Nat} {v : Int32} : Sc I0 (sI I 15 j v) := fun f k hf => by rw [sI_at (by omega)]; exact h f k hf
theorem nI_2 (a : Nat) : nI a + 2 = nI (a + 2) := nI_add a 2
theorem lim_cases {I : FI} {w z k a b : Nat} (hz : z ≤ 40) (hW : WW I w z) (hb : b < 2 ^ 30) (ha : a < 2 ^ 30) : lim (nI a) (nI b) (NW I w k) = -1 ∨ ∃ y, a ≤ y ∧ y ≤ b ∧ NW I w k = nI y ∧ lim (nI a) (nI b) (NW I w k) = nI y := by
  rcases NW_bd (k := k) hz hW with e | ⟨y, hy, e⟩
  · rw [e]
    unfold lim
    by_cases c : (-1 : Int32) < nI a
    · rw [if_pos c]; exact Or.inl rfl
    · rw [if_neg c]
      by_cases c2 : (-1 : Int32) ≤ nI b
      · rw [if_pos c2]; exact Or.inl rfl
      · rw [if_neg c2]; exact Or.inl rfl
  · rw [e]
    unfold lim
    by_cases c : nI y < nI a
    · rw [if_pos c]; exact Or.inl rfl
    · rw [if_neg c]
      by_cases c2 : nI y ≤ nI b
      · rw [if_pos c2]
        have hyb : y ≤ b := (nI_leI (by omega) (by omega)).mp c2
        refine Or.inr ⟨y, ?_, hyb, rfl, rfl⟩
        rcases Nat.lt_or_ge y a with q | q
        · exact absurd (nI_lt q (by omega)) c
        · exact q
      · rw [if_neg c2]; exact Or.inl rfl
theorem nI_m1 {y : Nat} (h : y < 2 ^ 31) : ¬ nI y = -1 := fun e => by
  have := nI_pos (n := y) h
  rw [e] at this
  exact this (by decide)
section RD
variable {I0 I : FI} {L : FL} {w z : Nat}
theorem Sc_w (h : Sc I0 I) (h12 : I0 12 0 = nI w) : I 12 0 = nI w := (h 12 0 (by omega)).trans h12
theorem Sc_W (h : Sc I0 I) (hW : WW I0 w z) : WW I w z := fun k hk => by
  obtain ⟨a, b, h1, h2, h3, h4⟩ := hW k hk
  exact ⟨a, b, h1, h2, (h 13 k (by omega)).trans h3, (h 14 k (by omega)).trans h4⟩
theorem Sc_SW (h : Sc I0 I) (k i : Nat) : SW I w k i = SW I0 w k i := SW_congr (fun j => h 6 j (by omega)) (fun k _ => ⟨h 13 k (by omega), h 14 k (by omega)⟩) rfl rfl
theorem Sc_NW (h : Sc I0 I) (k : Nat) : NW I w k = NW I0 w k := NW_congr (fun j => h 6 j (by omega)) (fun k _ => ⟨h 13 k (by omega), h 14 k (by omega)⟩)
theorem q_says (h : Sc I0 I) (hw : w ≤ 7) (hz : z ≤ 40) (h12 : I0 12 0 = nI w) (hW : WW I0 w z) {k i : Nat} (hi : i < nJS) (hk : k ≤ 100) : fK5_says (nI k) i I L = some (b2i (SW I0 w k i)) := by
  rw [c_says hw hz (Sc_w h h12) (Sc_W h hW) hi hk, Sc_SW h]
theorem q_number (h : Sc I0 I) (hw : w ≤ 7) (hz : z ≤ 40) (h12 : I0 12 0 = nI w) (hW : WW I0 w z) {k : Nat} (hk : k ≤ 100) : fK5_number (nI k) I L = some (NW I0 w k) := by
  rw [c_number hw hz (Sc_w h h12) (Sc_W h hW) hk, Sc_NW h]
theorem q_numberFrom (h : Sc I0 I) (hw : w ≤ 7) (hz : z ≤ 40) (h12 : I0 12 0 = nI w) (hW : WW I0 w z) {k : Nat} {lo hi : Int32} (hk : k ≤ 100) : fK5_numberFrom (nI k) lo hi I L = some (lim lo hi (NW I0 w k)) := by
  simp only [fK5_numberFrom, q_number h hw hz h12 hW hk, bn_eq, lim]
  by_cases c : NW I0 w k < lo
  · simp only [c, if_true]
  · by_cases c2 : NW I0 w k ≤ hi
    · have c3 : ¬ hi < NW I0 w k := Int32.not_lt.mpr c2
      simp only [c, c2, c3, if_true, if_false]
    · have c3 : hi < NW I0 w k := Int32.not_le.mp c2
      simp only [c, c2, c3, if_true, if_false]
theorem q_owner (h : Sc I0 I) (hw : w ≤ 7) (hz : z ≤ 40) (h12 : I0 12 0 = nI w) (hW : WW I0 w z) {k : Nat} (hk : k ≤ 100) : fK1_readOwner (nI k) I L = some (if lim 0 7 (NW I0 w k) = -1 then 0 else 1, sI I 15 1 (lim 0 7 (NW I0 w k)), L) := by
  simp only [fK1_readOwner, q_numberFrom h hw hz h12 hW hk, bn_eq, nm_eq, sI_eq]
  by_cases c : lim 0 7 (NW I0 w k) = -1
  · simp only [c, if_true]
  · simp only [c, if_false]
theorem q_ticks (h : Sc I0 I) (hw : w ≤ 7) (hz : z ≤ 40) (h12 : I0 12 0 = nI w) (hW : WW I0 w z) {k : Nat} (hk : k ≤ 100) : fK1_readTicks (nI k) I L = some (if lim 1 99 (NW I0 w k) = -1 then 0 else 1, sI I 15 6 (lim 1 99 (NW I0 w k)), L) := by
  simp only [fK1_readTicks, q_numberFrom h hw hz h12 hW hk, bn_eq, nm_eq, sI_eq]
  by_cases c : lim 1 99 (NW I0 w k) = -1
  · simp only [c, if_true]
  · simp only [c, if_false]
theorem q_price (h : Sc I0 I) (hw : w ≤ 7) (hz : z ≤ 40) (h12 : I0 12 0 = nI w) (hW : WW I0 w z) {k : Nat} (hk : k ≤ 90) : fK1_readPrice (nI k) I L = some (if SW I0 w k 3 = true then (if lim 1 9999 (NW I0 w (k + 1)) = -1 then 0 else 1) else 0, sI I 15 4 (lim 1 9999 (NW I0 w (k + 1))), L) := by
  simp only [fK1_readPrice, nI_1, q_numberFrom h hw hz h12 hW (show k + 1 ≤ 100 by omega), bn_eq, nm_eq, q_says (L := L) h.set hw hz h12 hW (show 3 < nJS by decide) (show k ≤ 100 by omega), b2i_0, sI_eq]
  cases SW I0 w k 3 with
  | false => simp only [if_true, Bool.false_eq_true, if_false]
  | true =>
    simp only [Bool.true_eq_false, if_false, if_true]
    by_cases c : lim 1 9999 (NW I0 w (k + 1)) = -1
    · simp only [c, if_true]
    · simp only [c, if_false]
theorem q_basics (h : Sc I0 I) (hw : w ≤ 7) (hz : z ≤ 40) (h12 : I0 12 0 = nI w) (hW : WW I0 w z) {k : Nat} (hk : k ≤ 90) (s : Nat) (hs : (SW I0 w k 0 = true ∧ s = 0) ∨ (SW I0 w k 0 = false ∧ s = 1)) :
    fK1_readBasics (nI k) I L = (if SW I0 w k 0 = false ∧ SW I0 w k 1 = false then some (0, sI (sI I 15 2 (nI s)) 15 3 (lim 1 9999 (NW I0 w (k + 2))), L) else some (if lim 0 7 (NW I0 w (k + 1)) = -1 then 0 else if lim 1 9999 (NW I0 w (k + 2)) = -1 then 0 else 1, sI (sI (sI I 15 2 (nI s)) 15 3 (lim 1 9999 (NW I0 w (k + 2)))) 15 1 (lim 0 7 (NW I0 w (k + 1))), L)) := by
  have s3 : ∀ (Z : FI) (v : Int32), sI (sI Z 15 3 v) 15 1 (lim 0 7 (NW I0 w (k + 1))) 15 3 = v := fun Z v => by rw [sI_at (by omega), sI_eq]
  have b51 : ∀ (Z : FI), Sc I0 Z → ∀ v, Z 15 3 = v → fK1_readBasics_51 (nI k) Z L = some (if lim 0 7 (NW I0 w (k + 1)) = -1 then 0 else if v = -1 then 0 else 1, sI Z 15 1 (lim 0 7 (NW I0 w (k + 1))), L) := by
    intro Z hZ v hv
    have a : sI Z 15 1 (lim 0 7 (NW I0 w (k + 1))) 15 3 = v := by rw [sI_at (by omega)]; exact hv
    simp only [fK1_readBasics_51, nI_1, q_owner hZ hw hz h12 hW (show k + 1 ≤ 100 by omega), bq_eq, a]
    by_cases c : lim 0 7 (NW I0 w (k + 1)) = -1
    · simp only [c, if_true]
    · by_cases c2 : v = -1
      · simp only [c, c2, if_true, if_false, if_neg (show ¬ (1 : Int32) = 0 by decide)]
      · simp only [c, c2, if_false, if_neg (show ¬ (1 : Int32) = 0 by decide)]
  have b16 : fK1_readBasics_16 (nI k) (nI s) I L = (if nI s = 0 then fK1_readBasics_51 (nI k) (sI (sI I 15 2 (nI s)) 15 3 (lim 1 9999 (NW I0 w (k + 2)))) L else (if SW I0 w k 1 = false then some (0, sI (sI I 15 2 (nI s)) 15 3 (lim 1 9999 (NW I0 w (k + 2))), L) else fK1_readBasics_51 (nI k) (sI (sI I 15 2 (nI s)) 15 3 (lim 1 9999 (NW I0 w (k + 2)))) L)) := by
    have a : sI (sI I 15 2 (nI s)) 15 3 (lim 1 9999 (NW I0 w (k + 2))) 15 2 = nI s := by rw [sI_at (by omega), sI_eq]
    simp only [fK1_readBasics_16, nm_eq, nI_2, q_numberFrom h.set hw hz h12 hW (show k + 2 ≤ 100 by omega), bn_eq, a, q_says (L := L) (h.set.set) hw hz h12 hW (show 1 < nJS by decide) (show k ≤ 100 by omega), b2i_0]
  have top : fK1_readBasics (nI k) I L = fK1_readBasics_16 (nI k) (nI s) I L := by
    simp only [fK1_readBasics, q_says (L := L) h hw hz h12 hW (show 0 < nJS by decide) (show k ≤ 100 by omega), bn_eq, b2i_0]
    rcases hs with ⟨e, rfl⟩ | ⟨e, rfl⟩
    · rw [if_neg (by rw [e]; decide)]; rfl
    · rw [if_pos e]; rfl
  rw [top, b16]
  have f := b51 (sI (sI I 15 2 (nI s)) 15 3 (lim 1 9999 (NW I0 w (k + 2)))) (h.set.set) _ sI_eq
  rcases hs with ⟨e, rfl⟩ | ⟨e, rfl⟩
  · rw [if_pos (show nI 0 = 0 from rfl), f, if_neg (show ¬ (SW I0 w k 0 = false ∧ SW I0 w k 1 = false) from fun y => by rw [e] at y; exact absurd y.1 (by decide))]
  · rw [if_neg (show ¬ nI 1 = 0 by decide), f]
    by_cases c : SW I0 w k 1 = false
    · rw [if_pos c, if_pos (show SW I0 w k 0 = false ∧ SW I0 w k 1 = false from ⟨e, c⟩)]
    · rw [if_neg c, if_neg (show ¬ (SW I0 w k 0 = false ∧ SW I0 w k 1 = false) from fun y => c y.2)]
/-- the way: its number, if the words are such -/
def wayN (I0 : FI) (w k : Nat) : Nat := if SW I0 w k 4 = true then 4 else if SW I0 w k 5 = true then 1 else if SW I0 w k 6 = true then 2 else if SW I0 w k 7 = true then 3 else 0
theorem q_way (h : Sc I0 I) (hw : w ≤ 7) (hz : z ≤ 40) (h12 : I0 12 0 = nI w) (hW : WW I0 w z) {k : Nat} (hk : k ≤ 90) :
    ∃ (b : Int32) (I' : FI), fK1_readWay (nI k) I L = some (b, I', L) ∧ Sc I0 I' ∧ (∀ j, j ≠ 5 → j ≠ 6 → I' 15 j = I 15 j) ∧ I' 15 5 = nI (wayN I0 w k) ∧
      ((SW I0 w k 4 = true ∧ b = (if w = k + 2 then (if lim 1 99 (NW I0 w (k + 1)) = -1 then 0 else 1) else 0) ∧ (w = k + 2 → I' 15 6 = lim 1 99 (NW I0 w (k + 1)))) ∨ (SW I0 w k 4 = false ∧ b = (if w = (if wayN I0 w k = 0 then k else k + 1) then 1 else 0))) := by
  have w86 : ∀ (v : Nat), v < 4 → ∀ x : Int32, x = nI v → fK1_readWay_86 (nI k) x I L = some (if w = (if v = 0 then k else k + 1) then 1 else 0, sI I 15 5 (nI v), L) := by
    intro v hv x ex
    subst ex
    have a1 : sI I 15 5 (nI v) 12 0 = nI w := by rw [sI_at (by omega)]; exact Sc_w h h12
    simp only [fK1_readWay_86, nm_eq, sI_eq, a1, fK1_readWay_107, nI_1]
    by_cases c : v = 0
    · subst c
      have e1 := nI_eq (a := w) (b := k) (by omega) (by omega)
      simp only [if_pos (show nI 0 = 0 from rfl), if_true]
      by_cases c2 : w = k
      · rw [if_pos (e1.mpr c2), if_pos c2]
      · rw [if_neg (fun y => c2 (e1.mp y)), if_neg c2]
    · have e1 := nI_eq (a := w) (b := k + 1) (by omega) (by omega)
      have n0 : ¬ nI v = 0 := fun y => c ((nI_z (by omega)).mp y)
      simp only [if_neg n0, if_neg c]
      by_cases c2 : w = k + 1
      · rw [if_pos (e1.mpr c2), if_pos c2]
      · rw [if_neg (fun y => c2 (e1.mp y)), if_neg c2]
  have s4 := q_says (L := L) h hw hz h12 hW (show 4 < nJS by decide) (show k ≤ 100 by omega)
  have s5 := q_says (L := L) h hw hz h12 hW (show 5 < nJS by decide) (show k ≤ 100 by omega)
  have s6 := q_says (L := L) h hw hz h12 hW (show 6 < nJS by decide) (show k ≤ 100 by omega)
  have s7 := q_says (L := L) h hw hz h12 hW (show 7 < nJS by decide) (show k ≤ 100 by omega)
  have oth : ∀ v, ∀ j, j ≠ 5 → j ≠ 6 → sI I 15 5 (nI v) 15 j = I 15 j := fun v j h5 _ => sI_at (by omega)
  cases c4 : SW I0 w k 4 with
  | false =>
    have wN : wayN I0 w k = if SW I0 w k 5 = true then 1 else if SW I0 w k 6 = true then 2 else if SW I0 w k 7 = true then 3 else 0 := by simp only [wayN, c4, Bool.false_eq_true, if_false]
    have rd : ∀ v, v < 4 → wayN I0 w k = v → fK1_readWay (nI k) I L = fK1_readWay_86 (nI k) (nI v) I L → ∃ (b : Int32) (I' : FI), fK1_readWay (nI k) I L = some (b, I', L) ∧ Sc I0 I' ∧ (∀ j, j ≠ 5 → j ≠ 6 → I' 15 j = I 15 j) ∧ I' 15 5 = nI (wayN I0 w k) ∧
      ((false = true ∧ b = (if w = k + 2 then (if lim 1 99 (NW I0 w (k + 1)) = -1 then 0 else 1) else 0) ∧ (w = k + 2 → I' 15 6 = lim 1 99 (NW I0 w (k + 1)))) ∨ (false = false ∧ b = (if w = (if wayN I0 w k = 0 then k else k + 1) then 1 else 0))) := by
      intro v hv e1 e2
      rw [e2, w86 v hv _ rfl]
      exact ⟨_, _, rfl, h.set, oth v, by rw [sI_eq, e1], Or.inr ⟨rfl, by rw [e1]⟩⟩
    cases c5 : SW I0 w k 5 with
    | true => exact rd 1 (by omega) (by rw [wN, c5]; rfl) (by simp only [fK1_readWay, s4, s5, c4, c5, bn_eq, b2i_0, if_true, Bool.true_eq_false, if_false]; rfl)
    | false =>
      cases c6 : SW I0 w k 6 with
      | true => exact rd 2 (by omega) (by rw [wN, c5, c6]; rfl) (by simp only [fK1_readWay, s4, s5, s6, c4, c5, c6, bn_eq, b2i_0, if_true, Bool.true_eq_false, if_false]; rfl)
      | false =>
        cases c7 : SW I0 w k 7 with
        | true => exact rd 3 (by omega) (by rw [wN, c5, c6, c7]; rfl) (by simp only [fK1_readWay, s4, s5, s6, s7, c4, c5, c6, c7, bn_eq, b2i_0, if_true, Bool.true_eq_false, if_false]; rfl)
        | false => exact rd 0 (by omega) (by rw [wN, c5, c6, c7]; rfl) (by simp only [fK1_readWay, s4, s5, s6, s7, c4, c5, c6, c7, bn_eq, b2i_0, if_true]; rfl)
  | true =>
    have wN : wayN I0 w k = 4 := by simp only [wayN, c4, if_true]
    have a1 : sI I 15 5 4 12 0 = nI w := by rw [sI_at (by omega)]; exact Sc_w h h12
    have e1 := nI_eq (a := w) (b := k + 2) (by omega) (by omega)
    have cs : fK1_readWay (nI k) I L = (if nI w = nI (k + 2) then bq (fK1_readTicks (nI (k + 1)) (sI I 15 5 4) L) (fun r_16 I_17 L_18 => (if r_16 = 0 then some (0, I_17, L_18) else some (1, I_17, L_18))) else some (0, sI I 15 5 4, L)) := by
      simp only [fK1_readWay, s4, c4, bn_eq, b2i_0, Bool.true_eq_false, if_false, nm_eq, a1, nI_2, nI_1]
    have tk := q_ticks (L := L) (I := sI I 15 5 4) h.set hw hz h12 hW (show k + 1 ≤ 100 by omega)
    by_cases c : w = k + 2
    · rw [cs, if_pos (e1.mpr c), tk, bq_eq]
      refine ⟨if lim 1 99 (NW I0 w (k + 1)) = -1 then 0 else 1, sI (sI I 15 5 4) 15 6 (lim 1 99 (NW I0 w (k + 1))), ?_, h.set.set, ?_, ?_, Or.inl ⟨rfl, by rw [if_pos c], fun _ => sI_eq⟩⟩
      · by_cases c2 : lim 1 99 (NW I0 w (k + 1)) = -1
        · simp only [c2, if_true]
        · simp only [c2, if_false, if_neg (show ¬ (1 : Int32) = 0 by decide)]
      · intro j h5 h6
        rw [sI_at (by omega), sI_at (by omega)]
      · rw [sI_at (by omega), sI_eq, wN]; rfl
    · rw [cs, if_neg (fun y => c (e1.mp y))]
      exact ⟨0, sI I 15 5 4, rfl, h.set, fun j h5 _ => sI_at (by omega), by rw [sI_eq, wN]; rfl, Or.inl ⟨rfl, by rw [if_neg c], fun y => absurd y c⟩⟩
end RD
