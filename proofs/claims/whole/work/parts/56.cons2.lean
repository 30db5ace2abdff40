/-! constructors of Orders, Exchange and TradeFloor -/
theorem wM_snoc {a : Nat → Nat} {i q : Nat} {E : va_E} : wM a i (fun _ => E) ++ [(q, E)] = wM (fun t => if t = i then q else a t) (i + 1) (fun _ => E) := by
  unfold wM
  rw [List.range_succ, List.map_append]
  congr 1
  · apply List.map_congr_left
    intro k hk
    have : k ≠ i := by have := List.mem_range.mp hk; omega
    simp only [if_neg this]
  · simp
theorem arrV_congr {c : ClassId} {n : Nat} {f g : Nat → Value} (h : ∀ t, t < n → f t = g t) : arrV c n f = arrV c n g := by
  unfold arrV
  congr 1
  congr 1
  funext j
  exact h j.val j.isLt
theorem va_P.refs {D : va_G} {cl : List vw_C} {ws : va_W} {H : Heap} {k q n : Nat} {c : ClassId} {f g : Nat → Option Nat} (h : va_P D cl ws H) (hk : ws[k]? = some (q, .inl (c, n, .inr (.inr (.inr (.inr f)))))) (hfg : ∀ t, t < n → f t = g t) : va_P D cl (ws.set k (q, .inl (c, n, .inr (.inr (.inr (.inr g)))))) H := by
  intro j x hj
  rw [List.getElem?_set] at hj
  by_cases e : k = j
  · rw [if_pos e] at hj
    split at hj
    · cases hj
      have h1 : H[q]? = some (arrV c n (fun j => va_rf (f j))) := h k _ hk
      show H[q]? = some (arrV c n (fun j => va_rf (g j)))
      rw [h1, arrV_congr (fun t ht => by rw [hfg t ht])]
    · cases hj
  · rw [if_neg e] at hj
    exact h j x hj
set_option maxRecDepth 100000 in
theorem mklp4 {p : Program} {l : Launch} {e : Env} {R : Room} {s : State} {m : MethodId} {args : Array Value} {below : List Frame} {meth : Method} {c : Code} {D : va_G} {cA : Nat → ClassId} {A : Nat → Prop} {Q : State → Prop} (X : tf_XC D cA "TradeFloor$Orders" cK4_init 2 p s m args c) (hA : ∀ q, s.heap.size ≤ q → A q) (hRf : 2 ≤ R.frames) (hRl : 32 ≤ R.locals) {c0 s0 : Nat} (hRc : c0 + 40 ≤ R.cells) (hRs : s0 + 6 * 40 ≤ R.slots) {h0 r : Nat} {fs : List Value} {M : va_W}
    (fin : ∀ (H : Heap) (locs : List Loc) (a : Nat → Nat) (ls : Array Slot), tf_HC D A ((h0, .inr (4, .ref r :: fs)) :: (r, .inl (cA 2, 40, .inr (.inr (.inr (.inr (fun t => some (a t))))))) :: (M ++ wM a 40 (fun _ => .inr (3, [.int 0, .int 0, .int 0, .int 0, .int 0, .int 0])))) s.heap H locs → W p l e R s m args below meth c H locs (c0 + 40) (s0 + 6 * 40) Q (F0 m 40 ls [])) :
    ∀ (d i : Nat) (a : Nat → Nat) (f : Nat → Option Nat) (H : Heap) (locs : List Loc) (ls : Array Slot), i + d = 40 → (∀ t, t < i → f t = some (a t)) → tf_HC D A ((h0, .inr (4, .ref r :: fs)) :: (r, .inl (cA 2, 40, .inr (.inr (.inr (.inr f))))) :: (M ++ wM a i (fun _ => .inr (3, [.int 0, .int 0, .int 0, .int 0, .int 0, .int 0])))) s.heap H locs → lv_has ls 2 [(0, .ref h0), (1, .int (nI i))] → W p l e R s m args below meth c H locs (c0 + i) (s0 + 6 * i) Q (F0 m 15 ls []) := by
  have hx := X.1
  have hb := X.2.1
  intro d
  induction d with
  | zero =>
    intro i a f H locs ls hi hf h hl
    have hi : i = 40 := by omega
    subst hi
    refine lv_iload_n hx hb dK4_init_15 rfl (lv_at hl 1 rfl) ?_
    refine lv_bipush (v := 40) hx hb dK4_init_16 (by decide) ?_
    refine lv_icmp_ge (tgt := 40) hx hb dK4_init_18 (by decide) (fun c_2 => ?_) (fun c_2 => ?_)
    · refine fin H locs a ls ⟨?_, ?_, h.2.2⟩
      · exact h.1.refs (k := 1) rfl hf
      · exact h.2.1.set (p := 1) rfl
    · exact absurd (nI_le (a := 40) (Nat.le_refl _) (by decide)) c_2
  | succ d ih =>
    intro i a f H locs ls hi hf h hl
    refine lv_iload_n hx hb dK4_init_15 rfl (lv_at hl 1 rfl) ?_
    refine lv_bipush (v := 40) hx hb dK4_init_16 (by decide) ?_
    refine lv_icmp_ge (tgt := 40) hx hb dK4_init_18 (by decide) (fun c_2 => ?_) (fun c_2 => ?_)
    · exact absurd c_2 (nI_ge (b := 40) (show i < 40 by omega) (by decide))
    refine lv_aload_n hx hb dK4_init_21 rfl (lv_at hl 0 rfl) ?_
    refine va_get (v := .ref r) hx hb X.2.2.2.2.1 in4 X.2.2.2.1 X.2.2.2.2.2.1 h.1 0 rfl rfl 0 (by decide) (X.2.2.2.2.1 _ x_f4_11) (fun _ z => z) rfl dK4_init_22 ?_
    refine lv_iload_n hx hb dK4_init_25 rfl (lv_at hl 1 rfl) ?_
    refine tf_make (ci := 3) (nf := 6) X hA h rfl in3 ty3 tk3 (fun j hj => by rcases (show j = 0 ∨ j = 1 ∨ j = 2 ∨ j = 3 ∨ j = 4 ∨ j = 5 by omega) with rfl | rfl | rfl | rfl | rfl | rfl <;> rfl) x_k_4_9 x_n3 x_z3 x_c3 x_i3 rfl (by decide +kernel) (Or.inl ⟨_, X.2.2.2.2.2.2.2.2.1⟩) con3 ⟨hRf, hRl⟩ (by omega) (by omega) hl.1 (Nat.le_of_ble_eq_true rfl) dK4_init_26 dK4_init_29 dK4_init_30 (fun q _ H locs h => ?_)
    have hq : (((h0, .inr (4, .ref r :: fs)) :: (r, .inl (cA 2, 40, .inr (.inr (.inr (.inr f))))) :: (M ++ wM a i (fun _ => .inr (3, [.int 0, .int 0, .int 0, .int 0, .int 0, .int 0])))) ++ [(q, .inr (3, [.int 0, .int 0, .int 0, .int 0, .int 0, .int 0]))])[(((h0, .inr (4, .ref r :: fs)) :: (r, .inl (cA 2, 40, .inr (.inr (.inr (.inr f))))) :: (M ++ wM a i (fun _ => .inr (3, [.int 0, .int 0, .int 0, .int 0, .int 0, .int 0]))))).length]? = some (q, .inr (3, [.int 0, .int 0, .int 0, .int 0, .int 0, .int 0])) := by simp
    refine va_astq hx hb X.2.2.2.2.2.1 h.1 h.2.1 h.2.2 1 2 (((h0, .inr (4, .ref r :: fs)) :: (r, .inl (cA 2, 40, .inr (.inr (.inr (.inr f))))) :: (M ++ wM a i (fun _ => .inr (3, [.int 0, .int 0, .int 0, .int 0, .int 0, .int 0]))))).length 3 (i := nI i) rfl rfl hq rfl (vp_in_nI (show i < 40 by omega) (by decide)) dK4_init_33 (fun H locs hP hD hS => ?_)
    have h : tf_HC D A ((h0, .inr (4, .ref r :: fs)) :: (r, .inl (cA 2, 40, .inr (.inr (.inr (.inr (va_up f i (some q))))))) :: (M ++ wM (fun t => if t = i then q else a t) (i + 1) (fun _ => .inr (3, [.int 0, .int 0, .int 0, .int 0, .int 0, .int 0])))) s.heap H locs := by
      rw [← wM_snoc, ← List.append_assoc]
      rw [nI_clamp (show i < 2 ^ 31 by omega)] at hP hD
      exact ⟨hP, hD, hS⟩
    refine lv_iinc (v := nI (i + 1)) (lv' := [(1, .int (nI (i + 1))), (0, .ref h0)]) hx hb dK4_init_34 hl (k := 1) rfl (by rw [← nI_1]; rfl) (by decide) rfl (fun ls hl => ?_)
    refine lv_goto (tgt := 15) hx hb dK4_init_37 (by decide) ?_
    refine W.widen (k := c0 + (i + 1)) (n := s0 + 6 * (i + 1)) (by omega) (by omega) ?_
    refine ih (i + 1) _ _ H locs ls (by omega) (fun t ht => ?_) h (lv_sub hl [1, 0] rfl)
    by_cases e : t = i
    · subst e; simp [va_up]
    · simp only [va_up, if_neg e]; exact hf t (by omega)
set_option maxRecDepth 100000 in
theorem mklp2 {p : Program} {l : Launch} {e : Env} {R : Room} {s : State} {m : MethodId} {args : Array Value} {below : List Frame} {meth : Method} {c : Code} {D : va_G} {cA : Nat → ClassId} {A : Nat → Prop} {Q : State → Prop} (X : tf_XC D cA "TradeFloor$Exchange" cK2_init 2 p s m args c) (hA : ∀ q, s.heap.size ≤ q → A q) (hRf : 2 ≤ R.frames) (hRl : 32 ≤ R.locals) {c0 s0 : Nat} (hRc : c0 + 8 ≤ R.cells) (hRs : s0 + 4 * 8 ≤ R.slots) {h0 r : Nat} {fs : List Value} {M : va_W}
    (fin : ∀ (H : Heap) (locs : List Loc) (a : Nat → Nat) (ls : Array Slot), tf_HC D A ((h0, .inr (2, .ref r :: fs)) :: (r, .inl (cA 3, 8, .inr (.inr (.inr (.inr (fun t => some (a t))))))) :: (M ++ wM a 8 (fun _ => .inr (0, [.long 0, .long 0, .long 0, .long 0])))) s.heap H locs → W p l e R s m args below meth c H locs (c0 + 8) (s0 + 4 * 8) Q (F0 m 62 ls [])) :
    ∀ (d i : Nat) (a : Nat → Nat) (f : Nat → Option Nat) (H : Heap) (locs : List Loc) (ls : Array Slot), i + d = 8 → (∀ t, t < i → f t = some (a t)) → tf_HC D A ((h0, .inr (2, .ref r :: fs)) :: (r, .inl (cA 3, 8, .inr (.inr (.inr (.inr f))))) :: (M ++ wM a i (fun _ => .inr (0, [.long 0, .long 0, .long 0, .long 0])))) s.heap H locs → lv_has ls 2 [(0, .ref h0), (1, .int (nI i))] → W p l e R s m args below meth c H locs (c0 + i) (s0 + 4 * i) Q (F0 m 37 ls []) := by
  have hx := X.1
  have hb := X.2.1
  intro d
  induction d with
  | zero =>
    intro i a f H locs ls hi hf h hl
    have hi : i = 8 := by omega
    subst hi
    refine lv_iload_n hx hb dK2_init_37 rfl (lv_at hl 1 rfl) ?_
    refine lv_bipush (v := 8) hx hb dK2_init_38 (by decide) ?_
    refine lv_icmp_ge (tgt := 62) hx hb dK2_init_40 (by decide) (fun c_2 => ?_) (fun c_2 => ?_)
    · refine fin H locs a ls ⟨?_, ?_, h.2.2⟩
      · exact h.1.refs (k := 1) rfl hf
      · exact h.2.1.set (p := 1) rfl
    · exact absurd (nI_le (a := 8) (Nat.le_refl _) (by decide)) c_2
  | succ d ih =>
    intro i a f H locs ls hi hf h hl
    refine lv_iload_n hx hb dK2_init_37 rfl (lv_at hl 1 rfl) ?_
    refine lv_bipush (v := 8) hx hb dK2_init_38 (by decide) ?_
    refine lv_icmp_ge (tgt := 62) hx hb dK2_init_40 (by decide) (fun c_2 => ?_) (fun c_2 => ?_)
    · exact absurd c_2 (nI_ge (b := 8) (show i < 8 by omega) (by decide))
    refine lv_aload_n hx hb dK2_init_43 rfl (lv_at hl 0 rfl) ?_
    refine va_get (v := .ref r) hx hb X.2.2.2.2.1 in2 X.2.2.2.1 X.2.2.2.2.2.1 h.1 0 rfl rfl 0 (by decide) (X.2.2.2.2.1 _ x_f2_11) (fun _ z => z) rfl dK2_init_44 ?_
    refine lv_iload_n hx hb dK2_init_47 rfl (lv_at hl 1 rfl) ?_
    refine tf_make (ci := 0) (nf := 4) X hA h rfl in0 ty0 tk0 (fun j hj => by rcases (show j = 0 ∨ j = 1 ∨ j = 2 ∨ j = 3 by omega) with rfl | rfl | rfl | rfl <;> rfl) x_k_2_9 x_n0 x_z0 x_c0 x_i0 rfl (by decide +kernel) (Or.inl ⟨_, X.2.2.2.2.2.2.2.2.2.2.1⟩) con0 ⟨hRf, hRl⟩ (by omega) (by omega) hl.1 (Nat.le_of_ble_eq_true rfl) dK2_init_48 dK2_init_51 dK2_init_52 (fun q _ H locs h => ?_)
    have hq : (((h0, .inr (2, .ref r :: fs)) :: (r, .inl (cA 3, 8, .inr (.inr (.inr (.inr f))))) :: (M ++ wM a i (fun _ => .inr (0, [.long 0, .long 0, .long 0, .long 0])))) ++ [(q, .inr (0, [.long 0, .long 0, .long 0, .long 0]))])[(((h0, .inr (2, .ref r :: fs)) :: (r, .inl (cA 3, 8, .inr (.inr (.inr (.inr f))))) :: (M ++ wM a i (fun _ => .inr (0, [.long 0, .long 0, .long 0, .long 0]))))).length]? = some (q, .inr (0, [.long 0, .long 0, .long 0, .long 0])) := by simp
    refine va_astq hx hb X.2.2.2.2.2.1 h.1 h.2.1 h.2.2 1 3 (((h0, .inr (2, .ref r :: fs)) :: (r, .inl (cA 3, 8, .inr (.inr (.inr (.inr f))))) :: (M ++ wM a i (fun _ => .inr (0, [.long 0, .long 0, .long 0, .long 0]))))).length 0 (i := nI i) rfl rfl hq rfl (vp_in_nI (show i < 8 by omega) (by decide)) dK2_init_55 (fun H locs hP hD hS => ?_)
    have h : tf_HC D A ((h0, .inr (2, .ref r :: fs)) :: (r, .inl (cA 3, 8, .inr (.inr (.inr (.inr (va_up f i (some q))))))) :: (M ++ wM (fun t => if t = i then q else a t) (i + 1) (fun _ => .inr (0, [.long 0, .long 0, .long 0, .long 0])))) s.heap H locs := by
      rw [← wM_snoc, ← List.append_assoc]
      rw [nI_clamp (show i < 2 ^ 31 by omega)] at hP hD
      exact ⟨hP, hD, hS⟩
    refine lv_iinc (v := nI (i + 1)) (lv' := [(1, .int (nI (i + 1))), (0, .ref h0)]) hx hb dK2_init_56 hl (k := 1) rfl (by rw [← nI_1]; rfl) (by decide) rfl (fun ls hl => ?_)
    refine lv_goto (tgt := 37) hx hb dK2_init_59 (by decide) ?_
    refine W.widen (k := c0 + (i + 1)) (n := s0 + 4 * (i + 1)) (by omega) (by omega) ?_
    refine ih (i + 1) _ _ H locs ls (by omega) (fun t ht => ?_) h (lv_sub hl [1, 0] rfl)
    by_cases e : t = i
    · subst e; simp [va_up]
    · simp only [va_up, if_neg e]; exact hf t (by omega)
def wC4 (cA : Nat → ClassId) (h0 : Nat) (a : Nat × (Nat → Nat)) : va_W := (h0, .inr (4, [.ref a.1, .int 0])) :: (a.1, .inl (cA 2, 40, .inr (.inr (.inr (.inr (fun t => some (a.2 t))))))) :: ([] ++ wM a.2 40 (fun _ => .inr (3, [.int 0, .int 0, .int 0, .int 0, .int 0, .int 0])))
set_option maxRecDepth 100000 in
theorem con4 {l : Launch} {D : va_G} {cA : Nat → ClassId} : tf_Con l D cA yK4_init cK4_init 2 2 32 (.inr (4, [.null, .int 0])) 41 280 (wC4 cA) := by
  refine tf_con (by decide) (by decide) rfl ?_
  intro p e s m args below meth c ls A h0 Q X hin hA hl h fin
  refine lv_aload_n X.1 X.2.1 dK4_init_0 rfl (lv_at hl 0 rfl) ?_
  refine tf_obj X x_ol4 hl.1 (Nat.le_of_ble_eq_true rfl) (Nat.le_of_ble_eq_true rfl) dK4_init_1 ?_
  refine lv_aload_n X.1 X.2.1 dK4_init_4 rfl (lv_at hl 0 rfl) ?_
  refine lv_bipush (v := 40) X.1 X.2.1 dK4_init_5 (by decide) ?_
  refine tf_newq X hA h (n := 40) (N' := 40) (t0 := 2) rfl X.2.2.2.2.2.2.2.2.2.2.2.2 x_k_4_9 (by decide) rfl (by decide) (Nat.le_of_ble_eq_true rfl) (Nat.le_of_ble_eq_true rfl) dK4_init_7 (fun r H h => ?_)
  refine tf_fin X hin (ci := 4) (k := 0) (fs' := [.ref r, .int 0]) h rfl in4 ty4 tk4 nm4 (by decide) x_f4_11 rfl rfl rfl rfl (Nat.le_of_ble_eq_true rfl) rfl dK4_init_10 (fun H locs h => ?_)
  refine lv_iconst (v := 0) X.1 X.2.1 dK4_init_13 (by decide) ?_
  refine lv_istore_n (lv' := [(1, .int 0), (0, .ref h0)]) X.1 X.2.1 dK4_init_14 rfl hl (by decide) rfl (fun ls hl => ?_)
  exact mklp4 (c0 := 1) (s0 := 40) (fs := [.int 0]) (M := []) X hA (Nat.le_of_ble_eq_true rfl) (Nat.le_of_ble_eq_true rfl) (Nat.le_of_ble_eq_true rfl) (Nat.le_of_ble_eq_true rfl) (fun H locs a ls h => fin H locs (r, a) ls 40 h dK4_init_40) 40 0 (fun _ => 0) (fun _ => none) H locs ls rfl (fun t ht => absurd ht (Nat.not_lt_zero t)) h (lv_sub hl [1, 0] rfl)
abbrev S2 : Type := Nat × (Nat × (Nat × (Nat → Nat))) × (Nat × (Nat → Nat)) × (Nat → Nat)
def mC2 (cA : Nat → ClassId) (a : S2) : va_W := wC4 cA a.2.1.1 a.2.1.2 ++ wC6 cA a.2.2.1.1 a.2.2.1.2
def wC2 (cA : Nat → ClassId) (h0 : Nat) (a : S2) : va_W := (h0, .inr (2, [.ref a.1, .ref a.2.1.1, .ref a.2.2.1.1, .int 0, .int 0])) :: (a.1, .inl (cA 3, 8, .inr (.inr (.inr (.inr (fun t => some (a.2.2.2 t))))))) :: (mC2 cA a ++ wM a.2.2.2 8 (fun _ => .inr (0, [.long 0, .long 0, .long 0, .long 0])))
set_option maxRecDepth 100000 in
theorem con2 {l : Launch} {D : va_G} {cA : Nat → ClassId} : tf_Con l D cA yK2_init cK2_init 2 3 53 (.inr (2, [.null, .null, .null, .int 0, .int 0])) 56 1127 (wC2 cA) := by
  refine tf_con (by decide) (by decide) rfl ?_
  intro p e s m args below meth c ls A h0 Q X hin hA hl h fin
  refine lv_aload_n X.1 X.2.1 dK2_init_0 rfl (lv_at hl 0 rfl) ?_
  refine tf_obj X x_ol2 hl.1 (Nat.le_of_ble_eq_true rfl) (Nat.le_of_ble_eq_true rfl) dK2_init_1 ?_
  refine lv_aload_n X.1 X.2.1 dK2_init_4 rfl (lv_at hl 0 rfl) ?_
  refine lv_bipush (v := 8) X.1 X.2.1 dK2_init_5 (by decide) ?_
  refine tf_newq X hA h (n := 8) (N' := 8) (t0 := 3) rfl X.2.2.2.2.2.2.2.2.2.2.2.1 x_k_2_9 (by decide) rfl (by decide) (Nat.le_of_ble_eq_true rfl) (Nat.le_of_ble_eq_true rfl) dK2_init_7 (fun r H h => ?_)
  refine tf_fin X hin (ci := 2) (k := 0) (fs' := [.ref r, .null, .null, .int 0, .int 0]) h rfl in2 ty2 tk2 nm2 (by decide) x_f2_11 rfl rfl rfl rfl (Nat.le_of_ble_eq_true rfl) rfl dK2_init_10 (fun H locs h => ?_)
  refine lv_aload_n X.1 X.2.1 dK2_init_13 rfl (lv_at hl 0 rfl) ?_
  refine tf_make (ci := 4) (nf := 2) X hA h rfl in4 ty4 tk4 (fun j hj => by rcases (show j = 0 ∨ j = 1 by omega) with rfl | rfl <;> rfl) x_k_2_17 x_n4 x_z4 x_c4 x_i4 rfl (by decide +kernel) (Or.inr x_l_2_19) con4 ⟨Nat.le_of_ble_eq_true rfl, Nat.le_of_ble_eq_true rfl⟩ (Nat.le_of_ble_eq_true rfl) (Nat.le_of_ble_eq_true rfl) hl.1 (Nat.le_of_ble_eq_true rfl) dK2_init_14 dK2_init_17 dK2_init_18 (fun q4 a4 H locs h => ?_)
  refine tf_fin X hin (ci := 2) (k := 1) (fs' := [.ref r, .ref q4, .null, .int 0, .int 0]) h rfl in2 ty2 tk2 nm2 (by decide) x_f2_20 rfl rfl rfl rfl (Nat.le_of_ble_eq_true rfl) rfl dK2_init_21 (fun H locs h => ?_)
  refine lv_aload_n X.1 X.2.1 dK2_init_24 rfl (lv_at hl 0 rfl) ?_
  refine tf_make (ci := 6) (nf := 5) X hA h rfl in6 ty6 tk6 (fun j hj => by rcases (show j = 0 ∨ j = 1 ∨ j = 2 ∨ j = 3 ∨ j = 4 by omega) with rfl | rfl | rfl | rfl | rfl <;> rfl) x_k_2_24 x_n6 x_z6 x_c6 x_i6 rfl (by decide +kernel) (Or.inl ⟨_, X.2.2.2.2.2.2.2.2.2.1⟩) con6 ⟨Nat.le_of_ble_eq_true rfl, Nat.le_of_ble_eq_true rfl⟩ (Nat.le_of_ble_eq_true rfl) (Nat.le_of_ble_eq_true rfl) hl.1 (Nat.le_of_ble_eq_true rfl) dK2_init_25 dK2_init_28 dK2_init_29 (fun q6 a6 H locs h => ?_)
  refine tf_fin X hin (ci := 2) (k := 2) (fs' := [.ref r, .ref q4, .ref q6, .int 0, .int 0]) h rfl in2 ty2 tk2 nm2 (by decide) x_f2_27 rfl rfl rfl rfl (Nat.le_of_ble_eq_true rfl) rfl dK2_init_32 (fun H locs h => ?_)
  refine lv_iconst (v := 0) X.1 X.2.1 dK2_init_35 (by decide) ?_
  refine lv_istore_n (lv' := [(1, .int 0), (0, .ref h0)]) X.1 X.2.1 dK2_init_36 rfl hl (by decide) rfl (fun ls hl => ?_)
  refine mklp2 (c0 := 48) (s0 := 1095) (r := r) (fs := [.ref q4, .ref q6, .int 0, .int 0]) (M := wC4 cA q4 a4 ++ wC6 cA q6 a6) X hA (Nat.le_of_ble_eq_true rfl) (Nat.le_of_ble_eq_true rfl) (Nat.le_of_ble_eq_true rfl) (Nat.le_of_ble_eq_true rfl) (fun H locs a ls h => fin H locs (r, (q4, a4), (q6, a6), a) ls 62 h dK2_init_62) 8 0 (fun _ => 0) (fun _ => none) H locs ls rfl (fun t ht => absurd ht (Nat.not_lt_zero t)) ?_ (lv_sub hl [1, 0] rfl)
  have e : (wC4 cA q4 a4 ++ wC6 cA q6 a6) ++ wM (fun _ => 0) 0 (fun _ => .inr (0, [.long 0, .long 0, .long 0, .long 0])) = wC4 cA q4 a4 ++ wC6 cA q6 a6 := List.append_nil _
  rw [e]
  exact h
abbrev S7 : Type := (Nat × (Nat → Nat)) × Nat × (Nat × S2)
def wC7 (cA : Nat → ClassId) (h0 : Nat) (a : S7) : va_W := (h0, .inr (7, [.ref a.1.1, .ref a.2.1, .ref a.2.2.1, .int 0])) :: ((wC5 cA a.1.1 a.1.2 ++ [(a.2.1, .inr (1, [.int 0, .int 0, .int 0, .int 0, .int 0, .int 0, .int 0, .int 0, .int 0]))]) ++ wC2 cA a.2.2.1 a.2.2.2)
set_option maxRecDepth 100000 in
theorem con7 {l : Launch} {D : va_G} {cA : Nat → ClassId} : tf_Con l D cA yK7_init cK7_init 1 4 74 (.inr (7, [.null, .null, .null, .int 0])) 62 1200 (wC7 cA) := by
  refine tf_con (by decide) (by decide) rfl ?_
  intro p e s m args below meth c ls A h0 Q X hin hA hl h fin
  refine lv_aload_n X.1 X.2.1 dK7_init_0 rfl (lv_at hl 0 rfl) ?_
  refine tf_obj X x_ol7 hl.1 (Nat.le_of_ble_eq_true rfl) (Nat.le_of_ble_eq_true rfl) dK7_init_1 ?_
  refine lv_aload_n X.1 X.2.1 dK7_init_4 rfl (lv_at hl 0 rfl) ?_
  refine tf_make (ci := 5) (nf := 5) X hA h rfl in5 ty5 tk5 (fun j hj => by rcases (show j = 0 ∨ j = 1 ∨ j = 2 ∨ j = 3 ∨ j = 4 by omega) with rfl | rfl | rfl | rfl | rfl <;> rfl) x_k_7_7 x_n5 x_z5 x_c5 x_i5 rfl (by decide +kernel) (Or.inl ⟨_, X.2.2.2.2.2.2.1⟩) con5 ⟨Nat.le_of_ble_eq_true rfl, Nat.le_of_ble_eq_true rfl⟩ (Nat.le_of_ble_eq_true rfl) (Nat.le_of_ble_eq_true rfl) hl.1 (Nat.le_of_ble_eq_true rfl) dK7_init_5 dK7_init_8 dK7_init_9 (fun q5 a5 H locs h => ?_)
  refine tf_fin X hin (ci := 7) (k := 0) (fs' := [.ref q5, .null, .null, .int 0]) h rfl in7 ty7 tk7 nm7 (by decide) x_f7_10 rfl rfl rfl rfl (Nat.le_of_ble_eq_true rfl) rfl dK7_init_12 (fun H locs h => ?_)
  refine lv_aload_n X.1 X.2.1 dK7_init_15 rfl (lv_at hl 0 rfl) ?_
  refine tf_make (ci := 1) (nf := 9) X hA h rfl in1 ty1 tk1 (fun j hj => by rcases (show j = 0 ∨ j = 1 ∨ j = 2 ∨ j = 3 ∨ j = 4 ∨ j = 5 ∨ j = 6 ∨ j = 7 ∨ j = 8 by omega) with rfl | rfl | rfl | rfl | rfl | rfl | rfl | rfl | rfl <;> rfl) x_k_7_16 x_n1 x_z1 x_c1 x_i1 rfl (by decide +kernel) (Or.inl ⟨_, X.2.2.2.2.2.2.2.1⟩) con1 ⟨Nat.le_of_ble_eq_true rfl, Nat.le_of_ble_eq_true rfl⟩ (Nat.le_of_ble_eq_true rfl) (Nat.le_of_ble_eq_true rfl) hl.1 (Nat.le_of_ble_eq_true rfl) dK7_init_16 dK7_init_19 dK7_init_20 (fun q1 a1 H locs h => ?_)
  refine tf_fin X hin (ci := 7) (k := 1) (fs' := [.ref q5, .ref q1, .null, .int 0]) h rfl in7 ty7 tk7 nm7 (by decide) x_f7_19 rfl rfl rfl rfl (Nat.le_of_ble_eq_true rfl) rfl dK7_init_23 (fun H locs h => ?_)
  refine lv_aload_n X.1 X.2.1 dK7_init_26 rfl (lv_at hl 0 rfl) ?_
  refine tf_make (ci := 2) (nf := 5) X hA h rfl in2 ty2 tk2 (fun j hj => by rcases (show j = 0 ∨ j = 1 ∨ j = 2 ∨ j = 3 ∨ j = 4 by omega) with rfl | rfl | rfl | rfl | rfl <;> rfl) x_k_7_23 x_n2 x_z2 x_c2 x_i2 rfl (by decide +kernel) (Or.inr x_l_7_25) con2 ⟨Nat.le_of_ble_eq_true rfl, Nat.le_of_ble_eq_true rfl⟩ (Nat.le_of_ble_eq_true rfl) (Nat.le_of_ble_eq_true rfl) hl.1 (Nat.le_of_ble_eq_true rfl) dK7_init_27 dK7_init_30 dK7_init_31 (fun q2 a2 H locs h => ?_)
  refine tf_fin X hin (ci := 7) (k := 2) (fs' := [.ref q5, .ref q1, .ref q2, .int 0]) h rfl in7 ty7 tk7 nm7 (by decide) x_f7_26 rfl rfl rfl rfl (Nat.le_of_ble_eq_true rfl) rfl dK7_init_34 (fun H locs h => ?_)
  refine lv_aload_n X.1 X.2.1 dK7_init_37 rfl (lv_at hl 0 rfl) ?_
  refine lv_iconst (v := 0) X.1 X.2.1 dK7_init_38 (by decide) ?_
  refine tf_sput X (ci := 7) (k := 3) (fs' := [.ref q5, .ref q1, .ref q2, .int 0]) h rfl in7 ty7 tk7 nm7 (by decide) x_f7_30 rfl rfl rfl rfl (Nat.le_of_ble_eq_true rfl) rfl dK7_init_39 (fun H locs h => ?_)
  exact fin H locs ((q5, a5), q1, (q2, a2)) ls 42 h dK7_init_42
