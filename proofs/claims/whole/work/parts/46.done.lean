/-! PURE PART 17: a line is done alike: the shared words -/
def rdC (I : FI) (L : FL) : Option (FI × FL) := bn (fK5_says 0 0 I L) (fun r_8 => (if r_8 = 0 then bn (fK5_says 0 1 I L) (fun r_11 => (if r_11 = 0 then bn (fK5_says 0 8 I L) (fun r_14 => (if r_14 = 0 then bn (fK5_says 0 9 I L) (fun r_17 => (if r_17 = 0 then bn (fK5_says 0 10 I L) (fun r_20 => (if r_20 = 0 then bn (fK5_says 0 11 I L) (fun r_23 => (if r_23 = 0 then bn (fK5_says 0 12 I L) (fun r_26 => (if r_26 = 0 then bn (fK5_says 0 13 I L) (fun r_29 => (if r_29 = 0 then bn (fK5_says 0 14 I L) (fun r_32 => (if r_32 = 0 then some (I, L) else bq (fK1_readTick I L) (fun r_35 I_36 L_37 => nm (sI I_36 15 0 r_35) (fun I_38 => some (I_38, L_37))))) else bq (fK1_readLess I L) (fun r_40 I1 L_42 => nm (sI I1 15 0 r_40) (fun I3 => some (I3, L_42))))) else bq (fK1_readCancel I L) (fun r_45 I6 L_47 => nm (sI I6 15 0 r_45) (fun I8 => some (I8, L_47))))) else bq (fK1_readAmount 3 I L) (fun r_50 I_51 L2 => nm (sI I_51 15 0 r_50) (fun I_53 => some (I_53, L2))))) else bq (fK1_readAmount 2 I L) (fun r_55 I_56 L7 => nm (sI I_56 15 0 r_55) (fun I_58 => some (I_58, L7))))) else bq (fK1_readAmount 1 I L) (fun r_60 I_61 L_62 => nm (sI I_61 15 0 r_60) (fun I_63 => some (I_63, L_62))))) else bq (fK1_readStop I L) (fun r_65 I_66 L_67 => nm (sI I_66 15 0 r_65) (fun I_68 => some (I_68, L_67))))) else fK1_read_33 I L)) else fK1_read_33 I L))
theorem bq_id {α : Type} {x : Option (α × FI × FL)} : bq x (fun a I L => some (a, I, L)) = x := by
  cases x with
  | none => rfl
  | some y => rfl
theorem rdC_eq {I I4 : FI} {L : FL} (h : fK5_cutIntoWords (sI I 15 0 0) L = some (1, I4, L)) : fK1_read I L = rdC I4 L := by
  simp only [fK1_read, nm_eq, h, bq_eq, if_neg (show ¬ (1 : Int32) = 0 by decide)]
  rfl
theorem rdC_no {I I4 : FI} {L : FL} (h : fK5_cutIntoWords (sI I 15 0 0) L = some (0, I4, L)) : fK1_read I L = some (I4, L) := by
  simp only [fK1_read, nm_eq, h, bq_eq, if_true]
/-- -1 or a number -/
def PN (x : Int32) : Prop := x = -1 ∨ ∃ y : Nat, y ≤ 9999999 ∧ x = nI y
theorem PN.lt {x : Int32} (h : PN x) : x < 0 ↔ x = -1 := by
  rcases h with rfl | ⟨y, hy, rfl⟩
  · decide
  · constructor
    · intro q; exact absurd q (nI_pos (by omega))
    · intro q; exact absurd q (nI_m1 (by omega))
theorem PN.ge {x : Int32} (h : PN x) : 0 ≤ x ↔ ¬ x = -1 := by
  rw [← h.lt, Int32.not_lt]
theorem PN.ex {x : Int32} (h : PN x) (hx : ¬ x = -1) : ∃ y : Nat, y ≤ 9999999 ∧ x = nI y := by
  rcases h with e | e
  · exact absurd e hx
  · exact e
theorem perf0 {I : FI} {L : FL} (h : I 15 0 = 0) : fK2_perform I L = some (-11, I, L) := by
  simp only [fK2_perform, h, if_neg (show ¬ (0 : Int32) = 1 by decide), if_neg (show ¬ (0 : Int32) = 2 by decide), if_neg (show ¬ (0 : Int32) = 3 by decide), if_neg (show ¬ (0 : Int32) = 4 by decide), if_neg (show ¬ (0 : Int32) = 5 by decide), if_neg (show ¬ (0 : Int32) = 6 by decide), if_neg (show ¬ (0 : Int32) = 7 by decide), if_neg (show ¬ (0 : Int32) = 8 by decide), if_neg (show ¬ (0 : Int32) = 9 by decide)]
theorem perf {I : FI} {L : FL} {v : Int32} (h : I 15 0 = v) : fK2_perform I L = (if v = 1 then fK2_moveAmount I L else if v = 2 then fK2_moveAmount I L else if v = 3 then fK2_moveAmount I L else if v = 4 then fK2_placeLimit I L else if v = 5 then fK2_placeAny I L else if v = 6 then fK2_placeStop I L else if v = 7 then fK2_cancelAsked I L else if v = 8 then fK2_lessen I L else if v = 9 then fK2_passTime (I 15 6) I L else some (-11, I, L)) := by
  subst h
  simp only [fK2_perform, bq_id]
section DN
variable {I0 J : FI} {L K : FL} {w z : Nat}
/-- the reference sees the same words -/
def RC (I0 J : FI) (w z : Nat) : Prop := J 12 0 = nI w ∧ w ≤ 7 ∧ z ≤ 40 ∧ I0 12 0 = nI w ∧ WW I0 w z ∧ (∀ j, J 6 j = I0 6 j) ∧ (∀ k, k < w → J 13 k = I0 13 k ∧ J 14 k = I0 14 k)
theorem RC.W (h : RC I0 J w z) : WW J w z := fun k hk => by
  obtain ⟨a, b, h1, h2, h3, h4⟩ := h.2.2.2.2.1 k hk
  exact ⟨a, b, h1, h2, by rw [(h.2.2.2.2.2.2 k hk).1]; exact h3, by rw [(h.2.2.2.2.2.2 k hk).2]; exact h4⟩
theorem p_is (h : RC I0 J w z) {k : Nat} (i i' : Nat) (hi : i' < nJS) (hk : k ≤ 100) (hl : lenJS.getD i' 0 = lenJS.getD i 0) (hb : bytJS.getD i' [] = bytJS.getD i []) : fK8_is (nI k) i' J K = some (b2i (SW I0 w k i)) := by
  rw [r_is (show w ≤ 12 by have := h.2.1; omega) h.2.2.1 h.1 h.W hi hk, SW_congr h.2.2.2.2.2.1 h.2.2.2.2.2.2 hl hb]
theorem p_num (h : RC I0 J w z) {k a b : Nat} (ha : a < 2 ^ 30) (hk : k ≤ 100) : fK8_number (nI k) (nI a) (nI b) J K = some (lim (nI a) (nI b) (NW I0 w k)) := by
  have hlo : (-1 : Int32) < nI a := by
    have := nI_pos' (n := a) (by omega)
    exact Int32.lt_of_lt_of_le (by decide) this
  rw [r_number hlo (show w ≤ 12 by have := h.2.1; omega) h.2.2.1 h.1 h.W hk, NW_congr h.2.2.2.2.2.1 h.2.2.2.2.2.2]
theorem p_whose (h : RC I0 J w z) {k : Nat} (hk : k ≤ 100) : fK8_whose (nI k) J K = some (lim 0 7 (NW I0 w k)) := by
  have := p_num (K := K) (a := 0) (b := 7) h (by decide) hk
  simp only [fK8_whose]
  rw [show fK8_number (nI k) 0 7 J K = some (lim 0 7 (NW I0 w k)) from this]
  rfl
theorem pn_nw (h : RC I0 J w z) (k : Nat) : PN (NW I0 w k) := NW_bd h.2.2.1 h.2.2.2.2.1
theorem p_any (h : RC I0 J w z) {k : Nat} (hk : k ≤ 100) : fK8_any (nI k) J K = some (NW I0 w k) := by
  have := p_num (K := K) (a := 0) (b := 9999999) h (by decide) hk
  simp only [fK8_any]
  rw [show fK8_number (nI k) 0 9999999 J K = some (lim 0 9999999 (NW I0 w k)) from this, bn_eq]
  rcases pn_nw h k with e | ⟨y, hy, e⟩
  · rw [e]; rfl
  · rw [e]
    have a : ¬ nI y < 0 := nI_pos (by omega)
    have b : nI y ≤ (9999999 : Int32) := nI_le (b := 9999999) hy (by decide)
    simp only [lim, if_neg a, if_pos b]
theorem pn_lim (h : RC I0 J w z) (k : Nat) {a b : Nat} (ha : a < 2 ^ 30) (hb : b ≤ 9999999) : PN (lim (nI a) (nI b) (NW I0 w k)) := by
  rcases lim_cases (k := k) (a := a) (b := b) h.2.2.1 h.2.2.2.2.1 (by omega) ha with e | ⟨y, -, h2, -, e⟩
  · exact Or.inl e
  · exact Or.inr ⟨y, by omega, e⟩
theorem ex_lim (h : RC I0 J w z) (k : Nat) {a b : Nat} (ha : a < 2 ^ 30) (hb : b < 2 ^ 30) (hx : ¬ lim (nI a) (nI b) (NW I0 w k) = -1) : ∃ y, a ≤ y ∧ y ≤ b ∧ lim (nI a) (nI b) (NW I0 w k) = nI y := by
  rcases lim_cases (k := k) (a := a) (b := b) h.2.2.1 h.2.2.2.2.1 hb ha with e | ⟨y, h1, h2, -, e⟩
  · exact absurd e hx
  · exact ⟨y, h1, h2, e⟩
theorem wI (h : RC I0 J w z) (a : Nat) (ha : a < 100) : (nI w = nI a ↔ w = a) := nI_eq (by have := h.2.1; omega) (by omega)
/-- more than seven words: the reference refuses -/
theorem done_many {w' : Nat} (hz : z ≤ 40) (h12 : J 12 0 = nI w') (h7 : 7 < w') (h12' : w' ≤ 12) (hW : WW J w' z) : fK8_done J K = some (-11, J, K) := by
  have is_ : ∀ k i, i < nJS → k ≤ 100 → ∃ b : Bool, fK8_is (nI k) i J K = some (b2i b) := fun k i hi hk => ⟨_, r_is h12' hz h12 hW hi hk⟩
  have nu : ∀ (k a b : Nat), a < 2 ^ 30 → k ≤ 100 → ∃ x : Int32, fK8_number (nI k) (nI a) (nI b) J K = some x := fun k a b ha hk => ⟨_, r_number (by have := nI_pos' (n := a) (by omega); exact Int32.lt_of_lt_of_le (by decide) this) h12' hz h12 hW hk⟩
  have ne : ∀ a : Nat, a < 8 → ¬ nI w' = nI a := fun a ha y => by have := (nI_eq (a := w') (b := a) (by omega) (by omega)).mp y; omega
  have ne2 : ¬ nI w' = 2 := ne 2 (by omega)
  have ne3 : ¬ nI w' = 3 := ne 3 (by omega)
  have ne4 : ¬ nI w' = 4 := ne 4 (by omega)
  have ne5 : ¬ nI w' = 5 := ne 5 (by omega)
  have ne6 : ¬ nI w' = 6 := ne 6 (by omega)
  have ne7 : ¬ nI w' = 7 := ne 7 (by omega)
  obtain ⟨b15, e15⟩ := is_ 0 15 (by decide) (by omega)
  obtain ⟨b16, e16⟩ := is_ 0 16 (by decide) (by omega)
  obtain ⟨b17, e17⟩ := is_ 0 17 (by decide) (by omega)
  obtain ⟨b18, e18⟩ := is_ 0 18 (by decide) (by omega)
  obtain ⟨b19, e19⟩ := is_ 0 19 (by decide) (by omega)
  obtain ⟨b26, e26⟩ := is_ 0 26 (by decide) (by omega)
  obtain ⟨b27, e27⟩ := is_ 0 27 (by decide) (by omega)
  obtain ⟨b28, e28⟩ := is_ 0 28 (by decide) (by omega)
  obtain ⟨b29, e29⟩ := is_ 0 29 (by decide) (by omega)
  obtain ⟨b321, e321⟩ := is_ 3 21 (by decide) (by omega)
  obtain ⟨b118, e118⟩ := is_ 1 18 (by decide) (by omega)
  obtain ⟨b119, e119⟩ := is_ 1 19 (by decide) (by omega)
  obtain ⟨x1, f1⟩ := nu 1 0 7 (by decide) (by omega)
  obtain ⟨x2, f2⟩ := nu 2 0 9999999 (by decide) (by omega)
  obtain ⟨x3, f3⟩ := nu 2 1 9999 (by decide) (by omega)
  obtain ⟨x4, f4⟩ := nu 4 1 9999 (by decide) (by omega)
  obtain ⟨x5, f5⟩ := nu 2 0 7 (by decide) (by omega)
  obtain ⟨x6, f6⟩ := nu 3 1 9999 (by decide) (by omega)
  obtain ⟨x7, f7⟩ := nu 5 1 9999 (by decide) (by omega)
  obtain ⟨x8, f8⟩ := nu 3 0 9999999 (by decide) (by omega)
  obtain ⟨x9, f9⟩ := nu 1 1 99 (by decide) (by omega)
  have E15 : fK8_is 0 15 J K = some (b2i b15) := e15
  have E16 : fK8_is 0 16 J K = some (b2i b16) := e16
  have E17 : fK8_is 0 17 J K = some (b2i b17) := e17
  have E18 : fK8_is 0 18 J K = some (b2i b18) := e18
  have E19 : fK8_is 0 19 J K = some (b2i b19) := e19
  have E26 : fK8_is 0 26 J K = some (b2i b26) := e26
  have E27 : fK8_is 0 27 J K = some (b2i b27) := e27
  have E28 : fK8_is 0 28 J K = some (b2i b28) := e28
  have E29 : fK8_is 0 29 J K = some (b2i b29) := e29
  have E321 : fK8_is 3 21 J K = some (b2i b321) := e321
  have E118 : fK8_is 1 18 J K = some (b2i b118) := e118
  have E119 : fK8_is 1 19 J K = some (b2i b119) := e119
  have F1 : fK8_number 1 0 7 J K = some x1 := f1
  have F2 : fK8_number 2 0 9999999 J K = some x2 := f2
  have F3 : fK8_number 2 1 9999 J K = some x3 := f3
  have F4 : fK8_number 4 1 9999 J K = some x4 := f4
  have F5 : fK8_number 2 0 7 J K = some x5 := f5
  have F6 : fK8_number 3 1 9999 J K = some x6 := f6
  have F7 : fK8_number 5 1 9999 J K = some x7 := f7
  have F8 : fK8_number 3 0 9999999 J K = some x8 := f8
  have F9 : fK8_number 1 1 99 J K = some x9 := f9
  have ord : ∀ s, fK8_ordered s J K = some (-11, J, K) := by
    intro s
    simp only [fK8_ordered, fK8_whose, F1, F3, bn_eq, h12, if_neg ne4, fK8_ordered_98, F4, E321, if_neg ne6, fK8_ordered_153, fK8_ordered_154, fK8_ordered_179, fK8_ordered_180, fK8_ordered_205, fK8_ordered_206, if_neg ne7, fK8_ordered_246, if_neg ne5, if_true, ite_self]
  have d30 : fK8_done_30 J K = some (-11, J, K) := by
    simp only [fK8_done_30, fK8_whose, fK8_any, F1, F2, bn_eq, h12, if_neg ne3]
  have d156 : fK8_done_156 J K = some (-11, J, K) := by
    simp only [fK8_done_156, E18, bn_eq, fK8_done_172, ord, bq_eq, ite_self]
  have d325 : fK8_done_325 J K = some (-11, J, K) := by
    simp only [fK8_done_325, E28, fK8_whose, fK8_any, F1, F2, F8, bn_eq, fK8_done_358, fK8_done_373, h12, if_neg ne3, if_neg ne4, ite_self]
  simp only [fK8_done, E15, E16, E17, E18, E19, E26, E27, E28, E29, bn_eq, d30, d156, d325, fK8_whose, F5, F6, F7, E118, E119, fK8_done_241, h12, if_neg ne6, F9, if_neg ne2, ite_self]
end DN
