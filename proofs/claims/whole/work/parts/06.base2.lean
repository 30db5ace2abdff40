/-! the words of the functions, and rows for them -/
def FU : Nat := 300
def nm {α β : Type} (x : α) (f : α → β) : β := f x
theorem nm_some {α β : Type} {x : α} {f : α → β} {r : β} (h : nm x f = r) : ∃ y, y = x ∧ f y = r := ⟨x, rfl, h⟩
theorem nm_at {α β : Type} {x y : α} {f : α → β} {r : β} (h : nm x f = r) (e : y = x) : f y = r := by subst e; exact h
def ck {α : Type} (b : Bool) (x : Option α) : Option α := bif b then x else none
theorem ck_some {α : Type} {b : Bool} {x : Option α} {r : α} (h : ck b x = some r) : b = true ∧ x = some r := by
  cases b
  · cases h
  · exact ⟨rfl, h⟩
theorem ck_t {α : Type} {b : Bool} {x : Option α} (h : b = true) : ck b x = x := by subst h; rfl
def inb (i : Int32) (n : Nat) : Bool := !(decide (i < 0)) && decide (i.toNatClampNeg < n)
theorem inb_in {i : Int32} {n : Nat} (h : inb i n = true) : vp_in i n := by
  simp only [inb, Bool.and_eq_true, Bool.not_eq_true', decide_eq_false_iff_not, decide_eq_true_eq] at h
  rintro (q | q)
  · exact h.1 q
  · omega
theorem inb_nI {k n : Nat} (h : k < n) (hn : n < 2 ^ 31) : inb (nI k) n = true := by
  simp only [inb, Bool.and_eq_true, Bool.not_eq_true', decide_eq_false_iff_not, decide_eq_true_eq]
  refine ⟨nI_pos (by omega), ?_⟩
  rw [nI_clamp (by omega)]; exact h
def g40 {α : Type} (i : Int32) (f : Fin 40 → Option α) : Option α := if h : i.toNatClampNeg < 40 then (bif decide (i < 0) then none else f ⟨i.toNatClampNeg, h⟩) else none
theorem g40_some {α : Type} {i : Int32} {f : Fin 40 → Option α} {r : α} (h : g40 i f = some r) : ∃ x : Fin 40, x.val = i.toNatClampNeg ∧ vp_in i 40 ∧ f x = some r := by
  unfold g40 at h
  by_cases h1 : i.toNatClampNeg < 40
  · rw [dif_pos h1] at h
    by_cases h2 : i < 0
    · simp [h2] at h
    · simp only [h2, decide_false, cond_false] at h
      exact ⟨⟨_, h1⟩, rfl, fun q => q.elim h2 (by omega), h⟩
  · rw [dif_neg h1] at h; cases h
theorem g40_nI {α : Type} {k : Nat} (f : Fin 40 → Option α) (h : k < 40) : g40 (nI k) f = f ⟨k, h⟩ := by
  unfold g40
  have e : (nI k).toNatClampNeg = k := nI_clamp (by omega)
  have n : ¬ nI k < 0 := nI_pos (by omega)
  simp only [e, h, n, decide_false, cond_false, dite_true]
def g8 {α : Type} (i : Int32) (f : Fin 8 → Option α) : Option α := if h : i.toNatClampNeg < 8 then (bif decide (i < 0) then none else f ⟨i.toNatClampNeg, h⟩) else none
theorem g8_some {α : Type} {i : Int32} {f : Fin 8 → Option α} {r : α} (h : g8 i f = some r) : ∃ x : Fin 8, x.val = i.toNatClampNeg ∧ vp_in i 8 ∧ f x = some r := by
  unfold g8 at h
  by_cases h1 : i.toNatClampNeg < 8
  · rw [dif_pos h1] at h
    by_cases h2 : i < 0
    · simp [h2] at h
    · simp only [h2, decide_false, cond_false] at h
      exact ⟨⟨_, h1⟩, rfl, fun q => q.elim h2 (by omega), h⟩
  · rw [dif_neg h1] at h; cases h
theorem g8_nI {α : Type} {k : Nat} (f : Fin 8 → Option α) (h : k < 8) : g8 (nI k) f = f ⟨k, h⟩ := by
  unfold g8
  have e : (nI k).toNatClampNeg = k := nI_clamp (by omega)
  have n : ¬ nI k < 0 := nI_pos (by omega)
  simp only [e, h, n, decide_false, cond_false, dite_true]
def bn {α β : Type} (x : Option α) (f : α → Option β) : Option β := match x with
  | none => none
  | some a => f a
theorem bn_some {α β : Type} {x : Option α} {f : α → Option β} {r : β} (h : bn x f = some r) : ∃ a, x = some a ∧ f a = some r := by
  cases x with
  | none => cases h
  | some a => exact ⟨a, rfl, h⟩
def bq {α β : Type} (x : Option (α × FI × FL)) (f : α → FI → FL → Option β) : Option β := match x with
  | none => none
  | some (a, I, L) => f a I L
theorem bq_some {α β : Type} {x : Option (α × FI × FL)} {f : α → FI → FL → Option β} {r : β} (h : bq x f = some r) : ∃ a I L, x = some (a, I, L) ∧ f a I L = some r := by
  cases x with
  | none => cases h
  | some a => obtain ⟨a, I, L⟩ := a; exact ⟨a, I, L, rfl, h⟩
def bv {β : Type} (x : Option (FI × FL)) (f : FI → FL → Option β) : Option β := match x with
  | none => none
  | some (I, L) => f I L
theorem bv_some {β : Type} {x : Option (FI × FL)} {f : FI → FL → Option β} {r : β} (h : bv x f = some r) : ∃ I L, x = some (I, L) ∧ f I L = some r := by
  cases x with
  | none => cases h
  | some a => obtain ⟨I, L⟩ := a; exact ⟨I, L, rfl, h⟩
def mo {β : Type} (r : Option (Fin 40)) (a : Option β) (f : Fin 40 → Option β) : Option β := match r with
  | none => a
  | some x => f x
theorem mo_n {β : Type} {a r : Option β} {f : Fin 40 → Option β} (h : mo none a f = r) : a = r := h
theorem mo_s {β : Type} {a r : Option β} {f : Fin 40 → Option β} {x : Fin 40} (h : mo (some x) a f = r) : f x = r := h
theorem if_t {α : Type} {c : Prop} [Decidable c] {a b r : α} (h : (if c then a else b) = r) (hc : c) : a = r := by rw [if_pos hc] at h; exact h
theorem if_f {α : Type} {c : Prop} [Decidable c] {a b r : α} (h : (if c then a else b) = r) (hc : ¬ c) : b = r := by rw [if_neg hc] at h; exact h
def b01 (x : Int32) : Bool := decide (x = 0) || decide (x = 1)
theorem b01_nar {x : Int32} (h : b01 x = true) : narrow .boolean (.int x) = .int x := by
  simp only [b01, Bool.or_eq_true, decide_eq_true_eq] at h
  rcases h with rfl | rfl <;> rfl
def rO (G : tf_G) (r : Option (Fin 40)) : Value := match r with
  | none => .null
  | some x => .ref (al G (x.val + 23))
theorem rO_or {G : tf_G} (r : Option (Fin 40)) : rO G r = .null ∨ ∃ a, rO G r = .ref a := by
  cases r with
  | none => exact Or.inl rfl
  | some x => exact Or.inr ⟨_, rfl⟩
theorem rO_cat {G : tf_G} (r : Option (Fin 40)) : (rO G r).category = 1 := by
  cases r <;> rfl
def chJS (i : Nat) (k : Int32) : Int32 := (bytJS.getD i []).getD k.toNatClampNeg 0 &&& 255
def tf_cv (y : MethodName) (b : ByteArray) (maxL : Nat) (rt : Option FieldType) (n : Nat) : Prop := Cond.code y b maxL rt ∈ gT ∧ Cond.instanceMethod y ∈ gT ∧ Cond.selects y.cls y y ∈ gT ∧ Cond.initialized y.cls ∈ gT ∧ y.cls ≠ "java/lang/invoke/MethodHandle" ∧ y.cls ≠ "java/lang/invoke/VarHandle" ∧ (parseMethodDescriptor y.desc).map (fun d => d.parameters.length) = some n
def tf_cs (y : MethodName) (b : ByteArray) (maxL : Nat) (rt : Option FieldType) (n : Nat) : Prop := Cond.code y b maxL rt ∈ gT ∧ Cond.static y ∈ gT ∧ Cond.initialized y.cls ∈ gT ∧ y.cls ≠ "java/lang/invoke/MethodHandle" ∧ y.cls ≠ "java/lang/invoke/VarHandle" ∧ (parseMethodDescriptor y.desc).map (fun d => d.parameters.length) = some n
section T2
variable {p : Program} {l : Launch} {e : Env} {R : Room} {s : State} {m : MethodId} {args : Array Value} {below : List Frame} {meth : Method} {c : Code} {H : Heap} {locs : List Loc} {cells slots : Nat} {Q : State → Prop}
variable {cc : ByteArray} {pc : Nat} {ls : Array Slot} {rest : List Value} {G : tf_G} {N nL : Nat} {E E' : Nat → va_E} {own : String} {ret : Option FieldType}
theorem lv_aload_nO (hexec : p.tables.exec = Jvm.exec) (hb : c.code = cc) {k : Fin 4} {i : Nat} {r : Option (Fin 40)} (hdg : decode cc pc = .ok (.aload_n k, 1)) (hi : (k : Nat) = i) (hl : ls[i]? = some (.val (rO G r)))
    (kk : W p l e R s m args below meth c H locs cells slots Q (F0 m (pc + 1) ls (rO G r :: rest))) : W p l e R s m args below meth c H locs cells slots Q (F0 m pc ls rest) := by
  cases r with
  | none => exact lv_aload_nN hexec hb hdg hi hl kk
  | some x => exact lv_aload_n hexec hb hdg hi hl kk
theorem lv_aloadO (hexec : p.tables.exec = Jvm.exec) (hb : c.code = cc) {i : Nat} {r : Option (Fin 40)} (hdg : decode cc pc = .ok (.aload i, 2)) (hl : ls[i]? = some (.val (rO G r)))
    (kk : W p l e R s m args below meth c H locs cells slots Q (F0 m (pc + 2) ls (rO G r :: rest))) : W p l e R s m args below meth c H locs cells slots Q (F0 m pc ls rest) := by
  cases r with
  | none => exact lv_aloadN hexec hb hdg hl kk
  | some x => exact lv_aload hexec hb hdg hl kk
theorem lv_astore_nO (hexec : p.tables.exec = Jvm.exec) (hb : c.code = cc) {k : Fin 4} {i nL : Nat} {r : Option (Fin 40)} {lv lv' : List (Nat × Value)} (hdg : decode cc pc = .ok (.astore_n k, 1)) (hi : (k : Nat) = i) (h : lv_has ls nL lv) (hn : i < nL) (hl : (i, rO G r) :: lv.filter (fun q => !(q.1 == i) && !(q.1 + 1 == i && q.2.category == 2)) = lv')
    (kk : ∀ ls' : Array Slot, lv_has ls' nL lv' → W p l e R s m args below meth c H locs cells slots Q (F0 m (pc + 1) ls' rest)) : W p l e R s m args below meth c H locs cells slots Q (F0 m pc ls (rO G r :: rest)) := by
  cases r with
  | none => exact lv_astore_nN hexec hb hdg hi h hn hl kk
  | some x => exact lv_astore_n hexec hb hdg hi h hn hl kk
theorem lv_astoreO (hexec : p.tables.exec = Jvm.exec) (hb : c.code = cc) {i nL : Nat} {r : Option (Fin 40)} {lv lv' : List (Nat × Value)} (hdg : decode cc pc = .ok (.astore i, 2)) (h : lv_has ls nL lv) (hn : i < nL) (hl : (i, rO G r) :: lv.filter (fun q => !(q.1 == i) && !(q.1 + 1 == i && q.2.category == 2)) = lv')
    (kk : ∀ ls' : Array Slot, lv_has ls' nL lv' → W p l e R s m args below meth c H locs cells slots Q (F0 m (pc + 2) ls' rest)) : W p l e R s m args below meth c H locs cells slots Q (F0 m pc ls (rO G r :: rest)) := by
  cases r with
  | none => exact lv_astoreN hexec hb hdg h hn hl kk
  | some x => exact lv_astore hexec hb hdg h hn hl kk
theorem tf_ldcS (X : tf_X G N own cc nL ret p s m args meth c) (i : Nat) (hi : i < nJS) {index : Nat} (ho : ownJS.getD i "" = own) (hix : idxJS.getD i 0 = index) (hdg : decode cc pc = .ok (.ldc index, 2))
    (kk : W p l e R s m args below meth c H locs cells slots Q (F0 m (pc + 2) ls (.ref (sK G i) :: rest))) : W p l e R s m args below meth c H locs cells slots Q (F0 m pc ls rest) := by
  obtain ⟨hx, hb, hr, -, hown, hlocks, hts, hK, hSb, hJ⟩ := X
  subst ho; subst hix
  exact va_ldcS hx hb hown (hSb.2.1 i hi) hdg kk
theorem tf_callVi {y : MethodName} {bytes : ByteArray} {maxL fr lo index : Nat} {rt : Option FieldType} {As st0 : List Value} {v : Int32} (X : tf_X G N own cc nL ret p s m args meth c) (h : tf_H G N E s.heap H locs) (q0 : Nat) (hq : q0 < N) {ci : Nat} {fs : List Value} {T : u_T} {nf : Nat} (he : E q0 = .inr (ci, fs)) (hc : vCl[ci]? = some (y.cls, T, nf))
    (hM : tf_Met l G N y bytes maxL rt fr lo (.ref (al G q0) :: As) E E' (some (.int v))) (bw : tf_cv y bytes maxL rt As.length) (hlink : Cond.methodLink own index y ∈ gT) (hR : fr + 1 ≤ R.frames ∧ 8 + (maxL + 11) + lo ≤ R.locals) (hsz : ls.size = nL) (hst : st0 = As.reverse ++ .ref (al G q0) :: rest) (hroom : (rest.map fun v => v.category).sum ≤ 8) (hcs : cells ≤ R.cells ∧ slots ≤ R.slots) (hdg : decode cc pc = .ok (.invokevirtual index, 3))
    (kk : ∀ (H1 : Heap) (locs1 : List Loc), tf_H G N E' s.heap H1 locs1 → W p l e R s m args below meth c H1 locs1 cells slots Q (F0 m (pc + 3) ls (.int v :: rest))) : W p l e R s m args below meth c H locs cells slots Q (F0 m pc ls st0) :=
  tf_callV X h q0 hq he hc hM bw.1 hlink bw.2.1 bw.2.2.1 bw.2.2.2.1 bw.2.2.2.2 hR rfl hsz hst hroom hcs hdg kk
theorem tf_callVl {y : MethodName} {bytes : ByteArray} {maxL fr lo index : Nat} {rt : Option FieldType} {As st0 : List Value} {v : Int64} (X : tf_X G N own cc nL ret p s m args meth c) (h : tf_H G N E s.heap H locs) (q0 : Nat) (hq : q0 < N) {ci : Nat} {fs : List Value} {T : u_T} {nf : Nat} (he : E q0 = .inr (ci, fs)) (hc : vCl[ci]? = some (y.cls, T, nf))
    (hM : tf_Met l G N y bytes maxL rt fr lo (.ref (al G q0) :: As) E E' (some (.long v))) (bw : tf_cv y bytes maxL rt As.length) (hlink : Cond.methodLink own index y ∈ gT) (hR : fr + 1 ≤ R.frames ∧ 8 + (maxL + 11) + lo ≤ R.locals) (hsz : ls.size = nL) (hst : st0 = As.reverse ++ .ref (al G q0) :: rest) (hroom : (rest.map fun v => v.category).sum ≤ 8) (hcs : cells ≤ R.cells ∧ slots ≤ R.slots) (hdg : decode cc pc = .ok (.invokevirtual index, 3))
    (kk : ∀ (H1 : Heap) (locs1 : List Loc), tf_H G N E' s.heap H1 locs1 → W p l e R s m args below meth c H1 locs1 cells slots Q (F0 m (pc + 3) ls (.long v :: rest))) : W p l e R s m args below meth c H locs cells slots Q (F0 m pc ls st0) :=
  tf_callV X h q0 hq he hc hM bw.1 hlink bw.2.1 bw.2.2.1 bw.2.2.2.1 bw.2.2.2.2 hR rfl hsz hst hroom hcs hdg kk
theorem tf_callVv {y : MethodName} {bytes : ByteArray} {maxL fr lo index : Nat} {rt : Option FieldType} {As st0 : List Value} (X : tf_X G N own cc nL ret p s m args meth c) (h : tf_H G N E s.heap H locs) (q0 : Nat) (hq : q0 < N) {ci : Nat} {fs : List Value} {T : u_T} {nf : Nat} (he : E q0 = .inr (ci, fs)) (hc : vCl[ci]? = some (y.cls, T, nf))
    (hM : tf_Met l G N y bytes maxL rt fr lo (.ref (al G q0) :: As) E E' none) (bw : tf_cv y bytes maxL rt As.length) (hlink : Cond.methodLink own index y ∈ gT) (hR : fr + 1 ≤ R.frames ∧ 8 + (maxL + 11) + lo ≤ R.locals) (hsz : ls.size = nL) (hst : st0 = As.reverse ++ .ref (al G q0) :: rest) (hroom : (rest.map fun v => v.category).sum ≤ 8) (hcs : cells ≤ R.cells ∧ slots ≤ R.slots) (hdg : decode cc pc = .ok (.invokevirtual index, 3))
    (kk : ∀ (H1 : Heap) (locs1 : List Loc), tf_H G N E' s.heap H1 locs1 → W p l e R s m args below meth c H1 locs1 cells slots Q (F0 m (pc + 3) ls rest)) : W p l e R s m args below meth c H locs cells slots Q (F0 m pc ls st0) :=
  tf_callV X h q0 hq he hc hM bw.1 hlink bw.2.1 bw.2.2.1 bw.2.2.2.1 bw.2.2.2.2 hR rfl hsz hst hroom hcs hdg kk
theorem tf_callVq {y : MethodName} {bytes : ByteArray} {maxL fr lo index : Nat} {rt : Option FieldType} {As st0 : List Value} {v : Option (Fin 40)} (X : tf_X G N own cc nL ret p s m args meth c) (h : tf_H G N E s.heap H locs) (q0 : Nat) (hq : q0 < N) {ci : Nat} {fs : List Value} {T : u_T} {nf : Nat} (he : E q0 = .inr (ci, fs)) (hc : vCl[ci]? = some (y.cls, T, nf))
    (hM : tf_Met l G N y bytes maxL rt fr lo (.ref (al G q0) :: As) E E' (some (rO G v))) (bw : tf_cv y bytes maxL rt As.length) (hlink : Cond.methodLink own index y ∈ gT) (hR : fr + 1 ≤ R.frames ∧ 8 + (maxL + 11) + lo ≤ R.locals) (hsz : ls.size = nL) (hst : st0 = As.reverse ++ .ref (al G q0) :: rest) (hroom : (rest.map fun v => v.category).sum ≤ 8) (hcs : cells ≤ R.cells ∧ slots ≤ R.slots) (hdg : decode cc pc = .ok (.invokevirtual index, 3))
    (kk : ∀ (H1 : Heap) (locs1 : List Loc), tf_H G N E' s.heap H1 locs1 → W p l e R s m args below meth c H1 locs1 cells slots Q (F0 m (pc + 3) ls (rO G v :: rest))) : W p l e R s m args below meth c H locs cells slots Q (F0 m pc ls st0) :=
  tf_callV X h q0 hq he hc hM bw.1 hlink bw.2.1 bw.2.2.1 bw.2.2.2.1 bw.2.2.2.2 hR rfl hsz hst hroom hcs hdg kk
theorem tf_callSi {y : MethodName} {bytes : ByteArray} {maxL fr lo index : Nat} {rt : Option FieldType} {As st0 : List Value} {v : Int32} (X : tf_X G N own cc nL ret p s m args meth c) (h : tf_H G N E s.heap H locs)
    (hM : tf_Met l G N y bytes maxL rt fr lo As E E' (some (.int v))) (bw : tf_cs y bytes maxL rt As.length) (hlink : Cond.methodLink own index y ∈ gT) (hR : fr + 1 ≤ R.frames ∧ 8 + (maxL + 11) + lo ≤ R.locals) (hsz : ls.size = nL) (hst : st0 = As.reverse ++ rest) (hroom : (rest.map fun v => v.category).sum ≤ 8) (hcs : cells ≤ R.cells ∧ slots ≤ R.slots) (hdg : decode cc pc = .ok (.invokestatic index, 3))
    (kk : ∀ (H1 : Heap) (locs1 : List Loc), tf_H G N E' s.heap H1 locs1 → W p l e R s m args below meth c H1 locs1 cells slots Q (F0 m (pc + 3) ls (.int v :: rest))) : W p l e R s m args below meth c H locs cells slots Q (F0 m pc ls st0) :=
  tf_callS X h hM bw.1 hlink bw.2.1 bw.2.2.1 bw.2.2.2 hR rfl hsz hst hroom hcs hdg kk
theorem tf_callSv {y : MethodName} {bytes : ByteArray} {maxL fr lo index : Nat} {rt : Option FieldType} {As st0 : List Value} (X : tf_X G N own cc nL ret p s m args meth c) (h : tf_H G N E s.heap H locs)
    (hM : tf_Met l G N y bytes maxL rt fr lo As E E' none) (bw : tf_cs y bytes maxL rt As.length) (hlink : Cond.methodLink own index y ∈ gT) (hR : fr + 1 ≤ R.frames ∧ 8 + (maxL + 11) + lo ≤ R.locals) (hsz : ls.size = nL) (hst : st0 = As.reverse ++ rest) (hroom : (rest.map fun v => v.category).sum ≤ 8) (hcs : cells ≤ R.cells ∧ slots ≤ R.slots) (hdg : decode cc pc = .ok (.invokestatic index, 3))
    (kk : ∀ (H1 : Heap) (locs1 : List Loc), tf_H G N E' s.heap H1 locs1 → W p l e R s m args below meth c H1 locs1 cells slots Q (F0 m (pc + 3) ls rest)) : W p l e R s m args below meth c H locs cells slots Q (F0 m pc ls st0) :=
  tf_callS X h hM bw.1 hlink bw.2.1 bw.2.2.1 bw.2.2.2 hR rfl hsz hst hroom hcs hdg kk
/-- a call on a text constant -/
theorem tf_callT {y : MethodName} {bytes : ByteArray} {maxL fr lo index : Nat} {rt : Option FieldType} {As st0 : List Value} {v : Int32} {i : Nat} (hi : i < nJS) (X : tf_X G N own cc nL ret p s m args meth c) (h : tf_H G N E s.heap H locs) (hC : y.cls = "java/lang/String")
    (hM : tf_Met l G N y bytes maxL rt fr lo (.ref (sK G i) :: As) E E (some (.int v))) (bw : tf_cv y bytes maxL rt As.length) (hlink : Cond.methodLink own index y ∈ gT) (hR : fr + 1 ≤ R.frames ∧ 8 + (maxL + 11) + lo ≤ R.locals) (hsz : ls.size = nL) (hst : st0 = As.reverse ++ .ref (sK G i) :: rest) (hroom : (rest.map fun v => v.category).sum ≤ 8) (hcs : cells ≤ R.cells ∧ slots ≤ R.slots) (hdg : decode cc pc = .ok (.invokevirtual index, 3))
    (kk : ∀ (H1 : Heap) (locs1 : List Loc), tf_H G N E s.heap H1 locs1 → W p l e R s m args below meth c H1 locs1 cells slots Q (F0 m (pc + 3) ls (.int v :: rest))) : W p l e R s m args below meth c H locs cells slots Q (F0 m pc ls st0) := by
  have X0 := X
  obtain ⟨hx, hb, hr, hml, hown, hlocks, hts, hK, hSb, hJ⟩ := X
  have cw : CallW R s args own y.cls index y bytes maxL rt (Cond.code y bytes maxL rt :: gT) (tf_rm fr lo) 0 0 As.length := ⟨callB_of As.length hts (gGood bw.1) rfl rfl rfl (hts _ bw.2.2.2.1) (hts _ hlink) bw.2.2.2.2 hR, hts _ bw.2.1, hts _ bw.2.2.1⟩
  have hrc : ∃ cell : Cell, H[sK G i]? = some cell ∧ cell.vm.isStatics = false ∧ s.vm.findClass y.cls = some cell.cls := by
    obtain ⟨cell, h1, h2, h3, -⟩ := (hSb.1 i hi).1.kept h.2.2.1
    exact ⟨cell, h1, h2, by rw [hC]; exact h3⟩
  exact tf_then (va_runV (As := As) (rest := rest) (nL := nL) (Ts := gT) ⟨hx, hb, hml, hown, hts⟩ hM cw ⟨tf_blind, hrc, tf_pre X0 h⟩ rfl rfl hsz hst (lv_room hroom) hdg hcs) h kk
/-- an end of a small type -/
theorem tf_nret {ty : FieldType} (X : tf_X G N own cc nL (some ty) p s m args meth c) (h : tf_H G N E s.heap H locs) {v : Int32} (hn : narrow ty (.int v) = .int v) (hdg : decode cc pc = .ok (.ireturn, 1)) :
    W p l e R s m args below meth c H locs 0 0 (MQ below (tf_Q G N E (some (.int v))) args s 0 0 (gA (al G) N)) (F0 m pc ls [.int v]) := by
  obtain ⟨hx, hb, hr, -, hown, hlocks, hts, hK, -⟩ := X
  exact W.zret hx hb hr hn (fun t ht hW => ⟨rfl, by unfold tf_B1; rw [ht]; exact h.1, h.2.F ht⟩) h.2.2.2 hdg hlocks
theorem lv_pop1 (hexec : p.tables.exec = Jvm.exec) (hb : c.code = cc) {x : Int32} (hdg : decode cc pc = .ok (.pop, 1)) (kk : W p l e R s m args below meth c H locs cells slots Q (F0 m (pc + 1) ls rest)) : W p l e R s m args below meth c H locs cells slots Q (F0 m pc ls (.int x :: rest)) := lv_pop hexec hb hdg rfl kk
end T2
