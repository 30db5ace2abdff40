/-! PURE PART 5: a trade -/
def trA (I : FI) (o m : Nat) (w : Int32) : FI := if sI (sI I 2 o (I 2 o - w)) 2 m (sI I 2 o (I 2 o - w) 2 m - w) 2 m = 0 then sI (sI (sI I 2 o (I 2 o - w)) 2 m (sI I 2 o (I 2 o - w) 2 m - w)) 4 m 2 else sI (sI I 2 o (I 2 o - w)) 2 m (sI I 2 o (I 2 o - w) 2 m - w)
def trC (I : FI) (x b c p w : Int32) : FI := sI (sI (sI (sI (sI I 11 4 p) 7 x.toNatClampNeg b) 8 x.toNatClampNeg c) 9 x.toNatClampNeg p) 10 x.toNatClampNeg w
def trB (I : FI) (x b c p w : Int32) : FI := sI (trC I x b c p w) 11 2 (trC I x b c p w 11 2 + 1)
def trL (L : FL) (b c : Nat) (y w : Int64) : FL := nm (sL L 0 b (L 0 b - y)) (fun L1 => nm (sL L1 1 b (L1 1 b + w)) (fun L2 => nm (sL L2 0 c (L2 0 c + y)) (fun L3 => sL L3 1 c (L3 1 c - w))))
theorem Rr.setv {I J : FI} (h : Rr I J) {f j : Nat} {v v' : Int32} (e : v' = v) : Rr (sI I f j v) (sI J f j v') := by subst e; exact h.set
theorem Rl.setv {L K : FL} (h : Rl L K) {f j : Nat} {v v' : Int64} (e : v' = v) : Rl (sL L f j v) (sL K f j v') := by subst e; exact h.set0
theorem Rr_A {I J : FI} (h : Rr I J) {o m : Nat} {w : Int32} : Rr (trA I o m w) (trA J o m w) := by
  have h1 : Rr (sI I 2 o (I 2 o - w)) (sI J 2 o (J 2 o - w)) := h.setv (by rw [h.at (by omega)])
  have h2 : Rr (sI (sI I 2 o (I 2 o - w)) 2 m (sI I 2 o (I 2 o - w) 2 m - w)) (sI (sI J 2 o (J 2 o - w)) 2 m (sI J 2 o (J 2 o - w) 2 m - w)) := h1.setv (by rw [h1.at (by omega)])
  unfold trA
  rw [h2.at (by omega)]
  split
  · exact h2.set
  · exact h2
theorem Rr_C {I J : FI} (h : Rr I J) {x b c p w : Int32} : Rr (trC I x b c p w) (trC J x b c p w) := ((((h.set).set).set).set).set
theorem Rr_B {I J : FI} (h : Rr I J) {x b c p w : Int32} : Rr (trB I x b c p w) (trB J x b c p w) := (Rr_C h).setv (by rw [(Rr_C h).at (by omega)])
theorem Rl_L {L K : FL} (h : Rl L K) {b c : Nat} {y w : Int64} : Rl (trL L b c y w) (trL K b c y w) := by
  have h1 : Rl (sL L 0 b (L 0 b - y)) (sL K 0 b (K 0 b - y)) := h.setv (by rw [h.1])
  unfold trL
  simp only [nm_eq]
  have h2 := h1.setv (f := 1) (j := b) (v := sL L 0 b (L 0 b - y) 1 b + w) (v' := sL K 0 b (K 0 b - y) 1 b + w) (by rw [h1.2])
  have h3 := h2.setv (f := 0) (j := c) (v := (sL (sL L 0 b (L 0 b - y)) 1 b (sL L 0 b (L 0 b - y) 1 b + w)) 0 c + y) (v' := (sL (sL K 0 b (K 0 b - y)) 1 b (sL K 0 b (K 0 b - y) 1 b + w)) 0 c + y) (by rw [h2.1])
  exact h3.setv (by rw [h3.2])
/-- the rows behind a trade -/
theorem trA_row {I : FI} {o m f : Nat} {w : Int32} (h2 : f ≠ 2) (h4 : f ≠ 4) : trA I o m w f = I f := by
  unfold trA
  split
  · rw [sI_row h4, sI_row h2, sI_row h2]
  · rw [sI_row h2, sI_row h2]
theorem trA_2 {I : FI} {o m k : Nat} {w : Int32} (hom : o ≠ m) : trA I o m w 2 k = if k = m then I 2 m - w else if k = o then I 2 o - w else I 2 k := by
  have e : ∀ k, sI (sI I 2 o (I 2 o - w)) 2 m (sI I 2 o (I 2 o - w) 2 m - w) 2 k = if k = m then I 2 m - w else if k = o then I 2 o - w else I 2 k := by
    intro k
    by_cases h1 : k = m
    · subst h1
      rw [sI_eq, if_pos rfl, sI_at (by omega)]
    · rw [sI_at (by omega), if_neg h1]
      by_cases h2 : k = o
      · subst h2; rw [sI_eq, if_pos rfl]
      · rw [sI_at (by omega), if_neg h2]
  unfold trA
  split
  · rw [sI_at (by omega)]; exact e k
  · exact e k
theorem trA_4 {I : FI} {o m k : Nat} {w : Int32} (hom : o ≠ m) : trA I o m w 4 k = if k = m then (if I 2 m - w = 0 then 2 else I 4 m) else I 4 k := by
  have e : sI (sI I 2 o (I 2 o - w)) 2 m (sI I 2 o (I 2 o - w) 2 m - w) 2 m = I 2 m - w := by rw [sI_eq, sI_at (by omega)]
  unfold trA
  rw [e]
  by_cases h1 : k = m
  · subst h1
    rw [if_pos rfl]
    split
    · rw [sI_eq]
    · rw [sI_at (by omega), sI_at (by omega)]
  · rw [if_neg h1]
    split
    · rw [sI_at (by omega), sI_at (by omega), sI_at (by omega)]
    · rw [sI_at (by omega), sI_at (by omega)]
theorem trB_row {I : FI} {f : Nat} {x b c p w : Int32} (h : f ≤ 6 ∨ 12 ≤ f) : trB I x b c p w f = I f := by
  unfold trB trC
  rw [sI_row (by omega), sI_row (by omega), sI_row (by omega), sI_row (by omega), sI_row (by omega), sI_row (by omega)]
theorem trC_11 {I : FI} {x b c p w : Int32} {j : Nat} (h : j ≠ 4) : trC I x b c p w 11 j = I 11 j := by
  unfold trC
  rw [sI_at (by omega), sI_at (by omega), sI_at (by omega), sI_at (by omega), sI_at (by omega)]
theorem trB_11 {I : FI} {x b c p w : Int32} {j : Nat} (h : j ≠ 2) (h4 : j ≠ 4) : trB I x b c p w 11 j = I 11 j := by
  unfold trB
  rw [sI_at (by omega), trC_11 h4]
theorem trB_112 {I : FI} {x b c p w : Int32} : trB I x b c p w 11 2 = I 11 2 + 1 := by
  unfold trB
  rw [sI_eq, trC_11 (by omega)]
theorem trL_0 {L : FL} {b c j : Nat} {y w : Int64} (h : b ≠ c) : trL L b c y w 0 j = if j = c then L 0 c + y else if j = b then L 0 b - y else L 0 j := by
  unfold trL
  simp only [nm_eq]
  rw [sL_at (by omega)]
  by_cases h1 : j = c
  · subst h1
    rw [sL_eq, if_pos rfl, sL_at (by omega), sL_at (by omega)]
  · rw [sL_at (by omega), sL_at (by omega), if_neg h1]
    by_cases h2 : j = b
    · subst h2; rw [sL_eq, if_pos rfl]
    · rw [sL_at (by omega), if_neg h2]
theorem trL_1 {L : FL} {b c j : Nat} {y w : Int64} (h : b ≠ c) : trL L b c y w 1 j = if j = c then L 1 c - w else if j = b then L 1 b + w else L 1 j := by
  unfold trL
  simp only [nm_eq]
  by_cases h1 : j = c
  · subst h1
    rw [sL_eq, if_pos rfl, sL_at (by omega), sL_at (by omega), sL_at (by omega)]
  · rw [sL_at (by omega), sL_at (by omega), if_neg h1]
    by_cases h2 : j = b
    · subst h2; rw [sL_eq, if_pos rfl, sL_at (by omega)]
    · rw [sL_at (by omega), sL_at (by omega), if_neg h2]
theorem trL_23 {L : FL} {b c f j : Nat} {y w : Int64} (h : 2 ≤ f) : trL L b c y w f j = L f j := by
  unfold trL
  simp only [nm_eq]
  rw [sL_at (by omega), sL_at (by omega), sL_at (by omega), sL_at (by omega)]
/-- the trade's place -/
def trX (I : FI) : Int32 := I 11 2 - I 11 2 / 200 * 200
theorem trX_in {I : FI} {τ : Nat} (h : I 11 2 = nI τ) (hτ : τ < 2 ^ 30) : inb (trX I) 200 = true := by
  unfold trX
  rw [h, show (200 : Int32) = nI 200 from rfl, pk_rem (by omega) (by decide) (by decide)]
  exact inb_nI (Nat.mod_lt _ (by decide)) (by decide)
/-- the class's settle -/
theorem c_settle_eq {I : FI} {L : FL} {o m : Fin 40} {w : Int32} {b c u : Nat} (hb : b < 8) (hc : c < 8) (hu : u < 8) (h0 : I 0 m.val = nI u)
    (hs : (I 1 o.val = 0 ∧ I 0 o.val = nI b ∧ I 0 m.val = nI c) ∨ (¬ I 1 o.val = 0 ∧ I 0 m.val = nI b ∧ I 0 o.val = nI c)) (hom : o.val ≠ m.val) (hx : inb (trX I) 200 = true) :
    fK2_settle o m w I L = some (trB (trA I o.val m.val w) (trX I) (nI b) (nI c) (I 3 m.val) w, if I 1 m.val = 1 then sL (trL L b c (w.toInt64 * (I 3 m.val).toInt64) w.toInt64) 3 u (trL L b c (w.toInt64 * (I 3 m.val).toInt64) w.toInt64 3 u + (-w).toInt64) else sL (trL L b c (w.toInt64 * (I 3 m.val).toInt64) w.toInt64) 2 u (trL L b c (w.toInt64 * (I 3 m.val).toInt64) w.toInt64 2 u + (-w).toInt64 * (I 3 m.val).toInt64)) := by
  have key : ∀ (Z : FI) (L2 : FL), Z 3 m.val = I 3 m.val → Z 11 2 = I 11 2 → fK2_settle_157 m w (nI b) (nI c) Z L2 = some (trB Z (trX I) (nI b) (nI c) (I 3 m.val) w, L2) := by
    intro Z L2 z3 z2
    have y3 : sI Z 11 4 (I 3 m.val) 3 m.val = I 3 m.val := by rw [sI_at (by omega)]; exact z3
    have y2 : sI Z 11 4 (I 3 m.val) 11 2 = I 11 2 := by rw [sI_at (by omega)]; exact z2
    simp only [fK2_settle_157, nm_eq, z3, fK6_add, y2, y3, bv_eq, trB, trC, show I 11 2 - I 11 2 / 200 * 200 = trX I from rfl, hx, ck_tt]
  have mid : fK2_settle_38 o m w (nI b) (nI c) I L = some (trB (trA I o.val m.val w) (trX I) (nI b) (nI c) (I 3 m.val) w, if I 1 m.val = 1 then sL (trL L b c (w.toInt64 * (I 3 m.val).toInt64) w.toInt64) 3 u (trL L b c (w.toInt64 * (I 3 m.val).toInt64) w.toInt64 3 u + (-w).toInt64) else sL (trL L b c (w.toInt64 * (I 3 m.val).toInt64) w.toInt64) 2 u (trL L b c (w.toInt64 * (I 3 m.val).toInt64) w.toInt64 2 u + (-w).toInt64 * (I 3 m.val).toInt64)) := by
    simp only [fK2_settle_38, nm_eq, g8_nI _ hb, g8_nI _ hc, c_hold h0 hu, bv_eq]
    have k3 : trA I o.val m.val w 3 m.val = I 3 m.val := by rw [trA_row (by omega) (by omega)]
    have k2 : trA I o.val m.val w 11 2 = I 11 2 := by rw [trA_row (by omega) (by omega)]
    have goal := fun L2 => key (trA I o.val m.val w) L2 k3 k2
    unfold trA at goal ⊢
    split
    · rename_i hz
      simp only [if_pos hz] at goal ⊢
      exact goal _
    · rename_i hz
      simp only [if_neg hz] at goal ⊢
      exact goal _
  rcases hs with ⟨h1, ha, hb'⟩ | ⟨h1, ha, hb'⟩
  · simp only [fK2_settle, fK2_settle_18, if_pos h1, ha, hb']; exact mid
  · simp only [fK2_settle, fK2_settle_18, if_neg h1, ha, hb']; exact mid
/-- the reference's trade -/
theorem r_settle_eq {J : FI} {K : FL} {o m : Nat} (k19 : Int32 → Int32 → Int32 → Int32 → Int32 → FI → FL → Option (FI × FL)) {a t s more w p : Int32} {b c : Nat} (ho : o < 40) (hm : m < 40) (hb : b < 8) (hc : c < 8) (hw : ¬ w = 0)
    (hs : (s = 0 ∧ t = nI b ∧ J 0 m = nI c) ∨ (¬ s = 0 ∧ J 0 m = nI b ∧ t = nI c)) (hx : inb (trX J) 200 = true) :
    fK8_meets_126 k19 (nI o) a t s more (nI m) w p J K = k19 (nI o) a t s (more - w) (trB (trA J o m w) (trX J) (nI b) (nI c) p w) (trL K b c (w.toInt64 * p.toInt64) w.toInt64) := by
  have e1 : inb (nI o) 40 = true := inb_nI ho (by decide)
  have e2 : (nI o).toNatClampNeg = o := nI_clamp (by omega)
  have e3 : inb (nI m) 40 = true := inb_nI hm (by decide)
  have e4 : (nI m).toNatClampNeg = m := nI_clamp (by omega)
  have e5 : inb (nI b) 8 = true := inb_nI hb (by decide)
  have e6 : (nI b).toNatClampNeg = b := nI_clamp (by omega)
  have e7 : inb (nI c) 8 = true := inb_nI hc (by decide)
  have e8 : (nI c).toNatClampNeg = c := nI_clamp (by omega)
  have key : ∀ (Z : FI) (K2 : FL) (mo : Int32), fK8_meets_288 k19 (nI o) a t s mo w p (nI b) (nI c) (trX J) Z K2 = k19 (nI o) a t s mo (trB Z (trX J) (nI b) (nI c) p w) K2 := by
    intro Z K2 mo
    simp only [fK8_meets_288, nm_eq, hx, ck_tt, trB, trC]
  have mid : fK8_meets_168 k19 (nI o) a t s more (nI m) w p (nI b) (nI c) J K = k19 (nI o) a t s (more - w) (trB (trA J o m w) (trX J) (nI b) (nI c) p w) (trL K b c (w.toInt64 * p.toInt64) w.toInt64) := by
    simp only [fK8_meets_168, show J 11 2 - J 11 2 / 200 * 200 = trX J from rfl, nm_eq, e1, e2, e3, e4, e5, e6, e7, e8, ck_tt, key]
    unfold trA
    split
    · rename_i hz
      rfl
    · rename_i hz
      rfl
  rcases hs with ⟨h1, ha, hb'⟩ | ⟨h1, ha, hb'⟩
  · subst h1
    simp only [fK8_meets_126, if_neg hw, if_true, fK8_meets_149, e3, e4, ck_tt, hb', ha] at mid ⊢
    exact mid
  · simp only [fK8_meets_126, if_neg hw, if_neg h1, fK8_meets_149, e3, e4, ck_tt, hb', ha] at mid ⊢
    exact mid
