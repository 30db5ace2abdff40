/-! what the constructors leave is the worlds' start -/
abbrev z0I : FI := fun _ _ => 0
abbrev z0L : FL := fun _ _ => 0
def al7 (h0 : Nat) (v : S7) (k : Nat) : Nat := match k with
  | 0 => h0
  | 1 => v.1.1
  | 2 => v.1.2 0
  | 3 => v.1.2 1
  | 4 => v.1.2 2
  | 5 => v.2.1
  | 6 => v.2.2.1
  | 7 => v.2.2.2.1
  | 8 => v.2.2.2.2.1.1
  | 9 => v.2.2.2.2.1.2.1
  | 10 => v.2.2.2.2.2.1.1
  | 11 => v.2.2.2.2.2.1.2 0
  | 12 => v.2.2.2.2.2.1.2 1
  | 13 => v.2.2.2.2.2.1.2 2
  | 14 => v.2.2.2.2.2.1.2 3
  | j + 15 => if j < 8 then v.2.2.2.2.2.2 j else v.2.2.2.2.1.2.2 (j - 8)
def g7 (k : Nat) : Nat := if k < 10 then k else if k < 23 then k + 40 else k - 13
def al8 (h0 : Nat) (v : Nat → Nat) (k : Nat) : Nat := match k with
  | 0 => h0
  | j + 1 => v j
theorem rc_cong {D : va_G} {cl : List vw_C} {H : Heap} {q n : Nat} {c : ClassId} {f g : Nat → Option Nat} (hfg : ∀ t, t < n → f t = g t) (h : va_at D cl (q, .inl (c, n, .inr (.inr (.inr (.inr f))))) H) : va_at D cl (q, .inl (c, n, .inr (.inr (.inr (.inr g))))) H := by
  have h1 : H[q]? = some (arrV c n (fun j => va_rf (f j))) := h
  show H[q]? = some (arrV c n (fun j => va_rf (g j)))
  rw [h1, arrV_congr (fun t ht => by rw [hfg t ht])]
abbrev e30 : va_E := .inr (3, [.int 0, .int 0, .int 0, .int 0, .int 0, .int 0])
abbrev e00 : va_E := .inr (0, [.long 0, .long 0, .long 0, .long 0])
def pA (cA : Nat → ClassId) (h0 : Nat) (v : S7) : va_W := (h0, .inr (7, [.ref v.1.1, .ref v.2.1, .ref v.2.2.1, .int 0])) :: (wC5 cA v.1.1 v.1.2 ++ [(v.2.1, .inr (1, [.int 0, .int 0, .int 0, .int 0, .int 0, .int 0, .int 0, .int 0, .int 0])), (v.2.2.1, .inr (2, [.ref v.2.2.2.1, .ref v.2.2.2.2.1.1, .ref v.2.2.2.2.2.1.1, .int 0, .int 0])), (v.2.2.2.1, .inl (cA 3, 8, .inr (.inr (.inr (.inr (fun t => some (v.2.2.2.2.2.2 t))))))), (v.2.2.2.2.1.1, .inr (4, [.ref v.2.2.2.2.1.2.1, .int 0])), (v.2.2.2.2.1.2.1, .inl (cA 2, 40, .inr (.inr (.inr (.inr (fun t => some (v.2.2.2.2.1.2.2 t)))))))])
theorem w7_split {cA : Nat → ClassId} {h0 : Nat} {v : S7} : wC7 cA h0 v = pA cA h0 v ++ (wM v.2.2.2.2.1.2.2 40 (fun _ => e30) ++ (wC6 cA v.2.2.2.2.2.1.1 v.2.2.2.2.2.1.2 ++ wM v.2.2.2.2.2.2 8 (fun _ => e00))) := by
  unfold wC7 wC2 mC2 wC4 pA
  simp only [List.cons_append, List.append_assoc, List.nil_append]
theorem pA_len {cA : Nat → ClassId} {h0 : Nat} {v : S7} : (pA cA h0 v).length = 10 := rfl
theorem wM_len {a : Nat → Nat} {n : Nat} {E : Nat → va_E} : (wM a n E).length = n := by simp [wM]
theorem w7_lo {cA : Nat → ClassId} {h0 : Nat} {v : S7} {k : Nat} {x : Nat × va_E} (h : (pA cA h0 v)[k]? = some x) : (wC7 cA h0 v)[k]? = some x := by
  rw [w7_split, List.getElem?_append_left (List.getElem?_eq_some_iff.mp h).1]; exact h
theorem w7_or {cA : Nat → ClassId} {h0 : Nat} {v : S7} {j : Nat} (h : j < 40) : (wC7 cA h0 v)[j + 10]? = some (v.2.2.2.2.1.2.2 j, e30) := by
  rw [w7_split, List.getElem?_append_right (by rw [pA_len]; omega), pA_len, Nat.add_sub_cancel, List.getElem?_append_left (by rw [wM_len]; exact h), wM_at h]
theorem w7_tr {cA : Nat → ClassId} {h0 : Nat} {v : S7} {j : Nat} {x : Nat × va_E} (h : (wC6 cA v.2.2.2.2.2.1.1 v.2.2.2.2.2.1.2)[j]? = some x) : (wC7 cA h0 v)[j + 50]? = some x := by
  rw [w7_split, List.getElem?_append_right (by rw [pA_len]; omega), pA_len, List.getElem?_append_right (by rw [wM_len]; omega), wM_len, show j + 50 - 10 - 40 = j by omega, List.getElem?_append_left (List.getElem?_eq_some_iff.mp h).1]
  exact h
theorem w7_ac {cA : Nat → ClassId} {h0 : Nat} {v : S7} {j : Nat} (h : j < 8) : (wC7 cA h0 v)[j + 55]? = some (v.2.2.2.2.2.2 j, e00) := by
  have l6 : (wC6 cA v.2.2.2.2.2.1.1 v.2.2.2.2.2.1.2).length = 5 := rfl
  rw [w7_split, List.getElem?_append_right (by rw [pA_len]; omega), pA_len, List.getElem?_append_right (by rw [wM_len]; omega), wM_len, List.getElem?_append_right (by rw [l6]; omega), l6, show j + 55 - 10 - 40 - 5 = j by omega, wM_at h]
theorem w7_e {D : va_G} {cA : Nat → ClassId} {H : Heap} {h0 : Nat} {v : S7} {sK sV : Nat → Nat} (k : Nat) (hk : k < 63) : ∃ e, (wC7 cA h0 v)[g7 k]? = some (al7 h0 v k, e) ∧ (va_at D vCl (al7 h0 v k, e) H → va_at D vCl (al7 h0 v k, cE (D, al7 h0 v, cA, sK, sV) z0I z0L k) H) := by
  have a15 : ∀ j, j < 8 → al7 h0 v (j + 15) = v.2.2.2.2.2.2 j := fun j hj => if_pos hj
  have a23 : ∀ j, al7 h0 v (j + 23) = v.2.2.2.2.1.2.2 j := fun j => by
    rw [show j + 23 = (j + 8) + 15 from rfl]
    simp only [al7]
    rw [if_neg (by omega), Nat.add_sub_cancel]
  by_cases h1 : k < 10
  · rw [show g7 k = k from if_pos h1]
    match k, h1 with
    | 0, _ => exact ⟨_, w7_lo rfl, fun h => h⟩
    | 1, _ => exact ⟨_, w7_lo rfl, fun h => h⟩
    | 2, _ => exact ⟨_, w7_lo rfl, fun h => h⟩
    | 3, _ => exact ⟨_, w7_lo rfl, fun h => h⟩
    | 4, _ => exact ⟨_, w7_lo rfl, fun h => h⟩
    | 5, _ => exact ⟨_, w7_lo rfl, fun h => h⟩
    | 6, _ => exact ⟨_, w7_lo rfl, fun h => h⟩
    | 7, _ => exact ⟨_, w7_lo rfl, rc_cong (fun t ht => congrArg some (a15 t ht).symm)⟩
    | 8, _ => exact ⟨_, w7_lo rfl, fun h => h⟩
    | 9, _ => exact ⟨_, w7_lo rfl, rc_cong (fun t ht => congrArg some (a23 t).symm)⟩
  · by_cases h2 : k < 15
    · rw [show g7 k = k - 10 + 50 by unfold g7; rw [if_neg h1, if_pos (by omega)]; omega]
      match k, h1, h2 with
      | 10, _, _ => exact ⟨_, w7_tr rfl, fun h => h⟩
      | 11, _, _ => exact ⟨_, w7_tr rfl, fun h => h⟩
      | 12, _, _ => exact ⟨_, w7_tr rfl, fun h => h⟩
      | 13, _, _ => exact ⟨_, w7_tr rfl, fun h => h⟩
      | 14, _, _ => exact ⟨_, w7_tr rfl, fun h => h⟩
    · by_cases h3 : k < 23
      · obtain ⟨j, rfl⟩ : ∃ j, k = j + 15 := ⟨k - 15, by omega⟩
        have hj : j < 8 := by omega
        rw [show g7 (j + 15) = j + 55 by unfold g7; rw [if_neg h1, if_pos h3], a15 j hj]
        refine ⟨_, w7_ac hj, fun h => ?_⟩
        rw [show cE (D, al7 h0 v, cA, sK, sV) z0I z0L (j + 15) = e00 from if_pos hj]
        exact h
      · obtain ⟨j, rfl⟩ : ∃ j, k = j + 23 := ⟨k - 23, by omega⟩
        have hj : j < 40 := by omega
        rw [show g7 (j + 23) = j + 10 by unfold g7; rw [if_neg h1, if_neg h3]; omega, a23 j]
        refine ⟨_, w7_or hj, fun h => ?_⟩
        rw [cE_or (G := (D, al7 h0 v, cA, sK, sV)) (I := z0I) (L := z0L) ⟨j, hj⟩]
        exact h
theorem g7_inj {i j : Nat} (hi : i < 63) (hj : j < 63) (h : g7 i = g7 j) : i = j := by
  unfold g7 at h
  by_cases a1 : i < 10 <;> by_cases a2 : i < 23 <;> by_cases b1 : j < 10 <;> by_cases b2 : j < 23 <;> simp only [a1, a2, b1, b2, if_true, if_false] at h <;> omega
theorem w7_of {D : va_G} {cA : Nat → ClassId} {A : Nat → Prop} {H : Heap} {h0 : Nat} {v : S7} {sK sV : Nat → Nat} (hP : va_P D vCl (wC7 cA h0 v) H) (hD : va_D A (wC7 cA h0 v)) :
    va_P D vCl (wM (al7 h0 v) 63 (cE (D, al7 h0 v, cA, sK, sV) z0I z0L)) H ∧ gJ (al7 h0 v) 63 ∧ ∀ k, k < 63 → A (al7 h0 v k) := by
  refine ⟨fun k q hk => ?_, fun i j hi hj e => ?_, fun k hk => ?_⟩
  · obtain ⟨hk9, rfl⟩ := wM_lt hk
    obtain ⟨e, h1, h2⟩ := w7_e (D := D) (cA := cA) (H := H) (h0 := h0) (v := v) (sK := sK) (sV := sV) k hk9
    exact h2 (hP _ _ h1)
  · obtain ⟨e1, h1, -⟩ := w7_e (D := D) (cA := cA) (H := H) (h0 := h0) (v := v) (sK := sK) (sV := sV) i hi
    obtain ⟨e2, h2, -⟩ := w7_e (D := D) (cA := cA) (H := H) (h0 := h0) (v := v) (sK := sK) (sV := sV) j hj
    exact g7_inj hi hj (hD.1 _ _ _ _ h1 h2 e)
  · obtain ⟨e1, h1, -⟩ := w7_e (D := D) (cA := cA) (H := H) (h0 := h0) (v := v) (sK := sK) (sV := sV) k hk
    exact hD.2 _ _ h1
theorem w8_e {D : va_G} {cA : Nat → ClassId} {h0 : Nat} {v : Nat → Nat} {sK sV : Nat → Nat} : ∀ k, k < 16 → (wC8 cA h0 v)[k]? = some (al8 h0 v k, rE (D, al8 h0 v, cA, sK, sV) z0I z0L k)
  | 0, _ => rfl
  | 1, _ => rfl
  | 2, _ => rfl
  | 3, _ => rfl
  | 4, _ => rfl
  | 5, _ => rfl
  | 6, _ => rfl
  | 7, _ => rfl
  | 8, _ => rfl
  | 9, _ => rfl
  | 10, _ => rfl
  | 11, _ => rfl
  | 12, _ => rfl
  | 13, _ => rfl
  | 14, _ => rfl
  | 15, _ => rfl
  | k + 16, hk => absurd hk (by omega)
theorem w8_of {D : va_G} {cA : Nat → ClassId} {A : Nat → Prop} {H : Heap} {h0 : Nat} {v : Nat → Nat} {sK sV : Nat → Nat} (hP : va_P D vCl (wC8 cA h0 v) H) (hD : va_D A (wC8 cA h0 v)) :
    va_P D vCl (wM (al8 h0 v) 16 (rE (D, al8 h0 v, cA, sK, sV) z0I z0L)) H ∧ gJ (al8 h0 v) 16 ∧ ∀ k, k < 16 → A (al8 h0 v k) := by
  refine ⟨fun k q hk => ?_, fun i j hi hj e => ?_, fun k hk => ?_⟩
  · obtain ⟨hk9, rfl⟩ := wM_lt hk
    exact hP _ _ (w8_e k hk9)
  · exact hD.1 _ _ _ _ (w8_e (D := D) (sK := sK) (sV := sV) i hi) (w8_e (D := D) (sK := sK) (sV := sV) j hj) e
  · exact hD.2 _ _ (w8_e (D := D) (sK := sK) (sV := sV) k hk)
