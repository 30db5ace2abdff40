/-! words, worlds of fixed form, rows over them -/
def gT : List Cond := lw_tbl.filter goodWord
theorem gmem {w : Cond} (i : Nat) (h : lw_tbl[i]? = some w) (hg : goodWord w = true) : w ∈ gT := List.mem_filter.mpr ⟨List.mem_of_getElem? h, hg⟩
theorem gGood {y : MethodName} {b : ByteArray} {n : Nat} {r : Option FieldType} (h : Cond.code y b n r ∈ gT) : GoodIn gT (Cond.code y b n r :: gT) := fun w hw => by
  have hm : w ∈ gT := by
    rcases List.mem_cons.mp hw with h2 | h2
    · rw [h2]; exact h
    · exact h2
  exact ⟨hm, good_of_word (List.mem_filter.mp hm).2⟩
abbrev FI : Type := Nat → Nat → Int32
abbrev FL : Type := Nat → Nat → Int64
def sI (I : FI) (f j : Nat) (v : Int32) : FI := fun a b => if a = f ∧ b = j then v else I a b
def sL (L : FL) (f j : Nat) (v : Int64) : FL := fun a b => if a = f ∧ b = j then v else L a b
theorem sI_row {I : FI} {f j : Nat} {v : Int32} {a : Nat} (h : a ≠ f) : sI I f j v a = I a := by funext b; simp [sI, h]
theorem sI_upd {I : FI} {f j : Nat} {v : Int32} : sI I f j v f = upd (I f) j v := by funext b; simp [sI, upd]
theorem sI_at {I : FI} {f j : Nat} {v : Int32} {a b : Nat} (h : ¬ (a = f ∧ b = j)) : sI I f j v a b = I a b := by simp only [sI, if_neg h]
theorem sI_eq {I : FI} {f j : Nat} {v : Int32} : sI I f j v f j = v := by simp [sI]
theorem sL_row {L : FL} {f j : Nat} {v : Int64} {a : Nat} (h : a ≠ f) : sL L f j v a = L a := by funext b; simp [sL, h]
theorem sL_upd {L : FL} {f j : Nat} {v : Int64} : sL L f j v f = vp_updL (L f) j v := by funext b; simp [sL, vp_updL]
theorem sL_at {L : FL} {f j : Nat} {v : Int64} {a b : Nat} (h : ¬ (a = f ∧ b = j)) : sL L f j v a b = L a b := by simp only [sL, if_neg h]
theorem sL_eq {L : FL} {f j : Nat} {v : Int64} : sL L f j v f j = v := by simp [sL]
abbrev tf_G : Type := va_G × (Nat → Nat) × (Nat → ClassId) × (Nat → Nat) × (Nat → Nat)
abbrev al (G : tf_G) : Nat → Nat := G.2.1
abbrev ca (G : tf_G) : Nat → ClassId := G.2.2.1
abbrev sK (G : tf_G) : Nat → Nat := G.2.2.2.1
abbrev sV (G : tf_G) : Nat → Nat := G.2.2.2.2
def wM (a : Nat → Nat) (N : Nat) (E : Nat → va_E) : va_W := (List.range N).map fun k => (a k, E k)
theorem wM_at {a : Nat → Nat} {N : Nat} {E : Nat → va_E} {k : Nat} (h : k < N) : (wM a N E)[k]? = some (a k, E k) := by simp [wM, h]
theorem wM_lt {a : Nat → Nat} {N : Nat} {E : Nat → va_E} {k : Nat} {q : Nat × va_E} (h : (wM a N E)[k]? = some q) : k < N ∧ q = (a k, E k) := by
  have hk : k < N := by
    have := (List.getElem?_eq_some_iff.mp h).1
    simpa [wM] using this
  rw [wM_at hk] at h
  exact ⟨hk, (Option.some.inj h).symm⟩
theorem wM_set {a : Nat → Nat} {N : Nat} {E E' : Nat → va_E} {k : Nat} (hne : ∀ j, j < N → j ≠ k → E' j = E j) : (wM a N E).set k (a k, E' k) = wM a N E' := by
  apply List.ext_getElem?
  intro j
  rw [List.getElem?_set]
  by_cases hj : j < N
  · by_cases hk : k = j
    · subst hk
      have : k < (wM a N E).length := by simpa [wM] using hj
      rw [if_pos rfl, if_pos this, wM_at hj]
    · rw [if_neg hk, wM_at hj, wM_at hj, hne j hj (fun h => hk h.symm)]
  · have h1 : (wM a N E)[j]? = none := by simp [wM, Nat.not_lt.mp hj]
    have h2 : (wM a N E')[j]? = none := by simp [wM, Nat.not_lt.mp hj]
    by_cases hk : k = j
    · subst hk
      have : ¬ k < (wM a N E).length := by simpa [wM] using hj
      rw [if_pos rfl, if_neg this, h2]
    · rw [if_neg hk, h1, h2]
def gA (a : Nat → Nat) (N : Nat) : Nat → Prop := fun q => ∃ k, k < N ∧ a k = q
def gJ (a : Nat → Nat) (N : Nat) : Prop := ∀ i j, i < N → j < N → a i = a j → i = j
theorem wM_D {a : Nat → Nat} {N : Nat} {E : Nat → va_E} (h : gJ a N) : va_D (gA a N) (wM a N E) := by
  refine ⟨fun i j p q hp hq e => ?_, fun k q hq => ?_⟩
  · obtain ⟨hi, rfl⟩ := wM_lt hp
    obtain ⟨hj, rfl⟩ := wM_lt hq
    exact h i j hi hj e
  · obtain ⟨hk, rfl⟩ := wM_lt hq
    exact ⟨k, hk, rfl⟩
def tyG (G : tf_G) : List (ClassId × FieldType) := [(ca G 0, .int), (ca G 1, .long), (ca G 2, .object "TradeFloor$Order"), (ca G 3, .object "TradeFloor$Account")]
/-- the text constants: thirty entries of two pools -/
def tf_Sb (G : tf_G) (A : Nat → Prop) (U : State) (H : Heap) : Prop :=
  (∀ i : Nat, i < nJS → va_O "java/lang/String" (sK G i) A U H ∧ va_OF "java/lang/String" "coder" "B" (.int 0) (sK G i) A U H ∧ va_OF "java/lang/String" "value" "[B" (.ref (sV G i)) (sK G i) A U H ∧ va_T .byte (sV G i) (lenJS.getD i 0) (fun j => .int ((bytJS.getD i []).getD j 0)) A U H) ∧
  (∀ i : Nat, i < nJS → vk_R (ownJS.getD i "") (idxJS.getD i 0) (txtJS.getD i "") (sK G i) U) ∧ va_Z "java/lang/String" "COMPACT_STRINGS" "Z" (.int 1) A U H ∧
  ∃ fv : Value, (fv = .null ∨ ∃ a, fv = .ref a) ∧ va_Z "jdk/internal/util/Preconditions" "SIOOBE_FORMATTER" "Ljava/util/function/BiFunction;" fv A U H
theorem tf_Sb.kept {G : tf_G} {A : Nat → Prop} {U : State} {H H1 : Heap} (h : tf_Sb G A U H) (hq : ∀ a : Nat, a < H.size → ¬ A a → H1[a]? = H[a]?) : tf_Sb G A U H1 :=
  ⟨fun i hi => ⟨(h.1 i hi).1.kept hq, (h.1 i hi).2.1.kept hq, (h.1 i hi).2.2.1.kept hq, (h.1 i hi).2.2.2.kept hq⟩, h.2.1, h.2.2.1.kept hq, h.2.2.2.choose, h.2.2.2.choose_spec.1, h.2.2.2.choose_spec.2.kept hq⟩
theorem tf_Sb.moved {G : tf_G} {A : Nat → Prop} {s U : State} {H : Heap} (hW : s.WarmedH U.vm) (h : tf_Sb G A s H) : tf_Sb G A U H :=
  ⟨fun i hi => ⟨va_O.moved hW.alike (h.1 i hi).1, va_OF.moved hW.alike (h.1 i hi).2.1, va_OF.moved hW.alike (h.1 i hi).2.2.1, va_T.moved hW.alike (h.1 i hi).2.2.2⟩, fun i hi => (h.2.1 i hi).warm hW, va_Z.moved hW.alike h.2.2.1, h.2.2.2.choose, h.2.2.2.choose_spec.1, va_Z.moved hW.alike h.2.2.2.choose_spec.2⟩
theorem tf_Sb.same {G : tf_G} {A : Nat → Prop} {u U : State} {H : Heap} (hv : U.vm = u.vm) (h : tf_Sb G A u H) : tf_Sb G A U H :=
  have ha : u.vm.Alike U.vm := by rw [hv]; exact Vm.Alike.refl _
  ⟨fun i hi => ⟨va_O.moved ha (h.1 i hi).1, va_OF.moved ha (h.1 i hi).2.1, va_OF.moved ha (h.1 i hi).2.2.1, va_T.moved ha (h.1 i hi).2.2.2⟩, fun i hi => (h.2.1 i hi).same hv, va_Z.moved ha h.2.2.1, h.2.2.2.choose, h.2.2.2.choose_spec.1, va_Z.moved ha h.2.2.2.choose_spec.2⟩
theorem tf_Sb.narrow {G : tf_G} {A B : Nat → Prop} {U : State} {H : Heap} (h : tf_Sb G A U H) (hAB : ∀ q, B q → A q) : tf_Sb G B U H :=
  ⟨fun i hi => ⟨(h.1 i hi).1.narrow hAB, (h.1 i hi).2.1.narrow hAB, (h.1 i hi).2.2.1.narrow hAB, (h.1 i hi).2.2.2.narrow hAB⟩, h.2.1, h.2.2.1.narrow hAB, h.2.2.2.choose, h.2.2.2.choose_spec.1, h.2.2.2.choose_spec.2.narrow hAB⟩
/-- a method's own surroundings -/
def tf_X (G : tf_G) (N : Nat) (own : String) (cc : ByteArray) (nL : Nat) (ret : Option FieldType) (p : Program) (s : State) (m : MethodId) (args : Array Value) (meth : Method) (c : Code) : Prop :=
  p.tables.exec = Jvm.exec ∧ c.code = cc ∧ meth.sig.returnType = ret ∧ c.maxLocals = nL ∧ s.vm.findClass own = some m.cls ∧ meth.locks = false ∧ (∀ w ∈ gT, w.before args s = true) ∧ va_K G.1 vCl (tyG G) s ∧ tf_Sb G (gA (al G) N) s s.heap ∧ gJ (al G) N
/-- the heap holds the picture E, and only its cells have changed since H0 -/
def tf_H (G : tf_G) (N : Nat) (E : Nat → va_E) (H0 H : Heap) (locs : List Loc) : Prop := va_P G.1 vCl (wM (al G) N E) H ∧ va_S (gA (al G) N) H0 H locs
/-- a contract's start and end -/
def tf_B0 (G : tf_G) (N : Nat) (E : Nat → va_E) (U : State) : Prop := va_P G.1 vCl (wM (al G) N E) U.heap ∧ va_K G.1 vCl (tyG G) U ∧ tf_Sb G (gA (al G) N) U U.heap
def tf_B1 (G : tf_G) (N : Nat) (E : Nat → va_E) (t : State) : Prop := va_P G.1 vCl (wM (al G) N E) t.heap
abbrev tf_Pc (G : tf_G) (N : Nat) (E : Nat → va_E) (as : List Value) : Array Value → State → Prop := va_Pc as (tf_B0 G N E)
/-- the answer is v (or nothing), the picture E -/
def tf_Q (G : tf_G) (N : Nat) (E : Nat → va_E) (v : Option Value) : Array Value → State → Outcome → State → Prop := fun _ st oc t => oc = .returned v ∧ tf_B1 G N E t ∧ va_F (gA (al G) N) st t
abbrev tf_rm (f n : Nat) : Room := { frames := f, cells := 0, slots := 0, locals := n }
abbrev tf_Met (l : Launch) (G : tf_G) (N : Nat) (y : MethodName) (b : ByteArray) (n : Nat) (r : Option FieldType) (fr lo : Nat) (as : List Value) (E E' : Nat → va_E) (v : Option Value) : Prop :=
  Met l y (Cond.code y b n r :: gT) (tf_rm fr lo) (tf_Pc G N E as) (tf_Q G N E' v) 0 0 (gA (al G) N)
theorem tf_blind {G : tf_G} {N : Nat} {E : Nat → va_E} {as : List Value} : FrameBlind (tf_Pc G N E as) := fun a U g mk q => ⟨q.1, q.2.1, va_K.moved (u := U) (U := U.calling g mk a) (Vm.Alike.refl U.vm) q.2.2.1, tf_Sb.same (u := U) (U := U.calling g mk a) rfl q.2.2.2⟩
section TF
variable {p : Program} {l : Launch} {e : Env} {R : Room} {s : State} {m : MethodId} {args : Array Value} {below : List Frame} {meth : Method} {c : Code} {H : Heap} {locs : List Loc} {cells slots : Nat} {Q : State → Prop}
variable {cc : ByteArray} {pc : Nat} {ls : Array Slot} {rest : List Value} {G : tf_G} {N nL : Nat} {E E' : Nat → va_E} {own : String} {ret : Option FieldType}
/-- from a method's entry -/
theorem tf_enter {y : MethodName} {b : ByteArray} {n : Nat} {r : Option FieldType} {fr lo : Nat} {as : List Value} {v : Option Value} (hy : plainName y.cls = true) (hJ : gJ (al G) N) (hn : (lg_sl as).length ≤ n)
    (body : ∀ p e s m args below meth c ls, tf_X G N y.cls b n r p s m args meth c → (y.name = "<init>" → meth.name = "<init>") → lv_has ls n (lv_args 0 as) → tf_H G N E s.heap s.heap [] →
      W p l e (tf_rm fr lo) s m args below meth c s.heap [] 0 0 (MQ below (tf_Q G N E' v) args s 0 0 (gA (al G) N)) (F0 m 0 ls [])) : tf_Met l G N y b n r fr lo as E E' v := by
  refine Met.ofW (cc := b) (maxL := n) (ret := r) hy rfl ?_
  intro p e s m args below meth c s₁ B hml hv
  obtain ⟨rfl, hP, hK, hS⟩ := hv
  have hts := atoms_spec (ws := Cond.code y b n r :: gT) B.pre
  have hown : s.vm.findClass y.cls = some m.cls := findClass_of_methodNamed B.named
  have hl := lv_entry as (n := n) hn
  rw [lg_entry_eq]
  generalize (lg_sl as ++ List.replicate (n - (lg_sl as).length) Slot.unset).toArray = ls at hl ⊢
  exact body p e s m _ below meth c ls ⟨B.exec, B.bytes, B.returns, hml, hown, B.notSynchronized, fun w hw => hts w (List.mem_cons_of_mem _ hw), hK, hS, hJ⟩ (fun h => ((name_of_methodNamed B.named B.method).1).trans h) hl ⟨hP, va_S.rf⟩
theorem tf_get (X : tf_X G N own cc nL ret p s m args meth c) (h : tf_H G N E s.heap H locs) (q0 : Nat) (hq : q0 < N) {ci : Nat} {fs : List Value} {C : String} {T : u_T} {nf : Nat} (he : E q0 = .inr (ci, fs)) (hc : vCl[ci]? = some (C, T, nf)) (hin : ∀ w ∈ u_ws C T nf, w ∈ gT) (k : Nat) (hk : k < nf) {index : Nat} (hl : Cond.fieldLink own index (T k).1 (T k).2.1 (T k).2.2.1 ∈ gT) {v : Value} (hv : fs[k]? = some v) (hdg : decode cc pc = .ok (.getfield index, 3))
    (kk : W p l e R s m args below meth c H locs cells slots Q (F0 m (pc + 3) ls (v :: rest))) : W p l e R s m args below meth c H locs cells slots Q (F0 m pc ls (.ref (al G q0) :: rest)) := by
  obtain ⟨hx, hb, -, -, hown, -, hts, hK, -⟩ := X
  exact va_get hx hb hts hin hown hK h.1 q0 (by rw [wM_at hq, he]) hc k hk (hts _ hl) (fun _ z => z) hv hdg kk
theorem tf_put (X : tf_X G N own cc nL ret p s m args meth c) (h : tf_H G N E s.heap H locs) (q0 : Nat) (hq : q0 < N) {ci : Nat} {fs : List Value} {C : String} {T : u_T} {nf : Nat} (he : E q0 = .inr (ci, fs)) (hc : vCl[ci]? = some (C, T, nf)) (hin : ∀ w ∈ u_ws C T nf, w ∈ gT) (ty0 : Nat → FieldType) (hty : ∀ k, k < nf → parseFieldDescriptor (T k).2.2.1 = some (ty0 k)) (hnm : ∀ a, a < nf → ∀ b, b < nf → a ≠ b → (T a).2.1 ≠ (T b).2.1) (k : Nat) (hk : k < nf) (hkl : k < fs.length) {index : Nat} (hl : Cond.fieldLink own index (T k).1 (T k).2.1 (T k).2.2.1 ∈ gT) (hfin : (T k).2.2.2 = false) {v : Value} (hn : narrow (ty0 k) v = v) (hfit : fits (ty0 k) v = true) (he' : E' q0 = .inr (ci, fs.set k v)) (hne : ∀ j, j < N → j ≠ q0 → E' j = E j) (hdg : decode cc pc = .ok (.putfield index, 3))
    (kk : ∀ (H1 : Heap) (locs1 : List Loc), tf_H G N E' s.heap H1 locs1 → W p l e R s m args below meth c H1 locs1 cells slots Q (F0 m (pc + 3) ls rest)) : W p l e R s m args below meth c H locs cells slots Q (F0 m pc ls (v :: .ref (al G q0) :: rest)) := by
  obtain ⟨hx, hb, -, -, hown, -, hts, hK, -, hJ⟩ := X
  refine va_put hx hb hts hin ty0 hty hnm hown hK h.1 (wM_D hJ) h.2 q0 (by rw [wM_at hq, he]) hc k hk (hts _ hl) (fun _ z => z) hfin (hty k hk) hn hfit hkl hdg (fun H1 locs1 hP1 _ hS1 => kk H1 locs1 ⟨?_, hS1⟩)
  rw [← he', wM_set hne] at hP1
  exact hP1
theorem tf_iald (X : tf_X G N own cc nL ret p s m args meth c) (h : tf_H G N E s.heap H locs) (q0 : Nat) (hq : q0 < N) {n : Nat} {f : Nat → Int32} (he : E q0 = .inl (ca G 0, n, .inl f)) {i : Int32} (hin : vp_in i n) (hdg : decode cc pc = .ok (.iaload, 1))
    (kk : W p l e R s m args below meth c H locs cells slots Q (F0 m (pc + 1) ls (.int (f i.toNatClampNeg) :: rest))) : W p l e R s m args below meth c H locs cells slots Q (F0 m pc ls (.int i :: .ref (al G q0) :: rest)) := by
  obtain ⟨hx, hb, -, -, hown, -, hts, hK, -⟩ := X
  exact va_iald hx hb hK h.1 q0 0 (by rw [wM_at hq, he]) rfl hin hdg kk
theorem tf_lald (X : tf_X G N own cc nL ret p s m args meth c) (h : tf_H G N E s.heap H locs) (q0 : Nat) (hq : q0 < N) {n : Nat} {f : Nat → Int64} (he : E q0 = .inl (ca G 1, n, .inr (.inl f))) {i : Int32} (hin : vp_in i n) (hdg : decode cc pc = .ok (.laload, 1))
    (kk : W p l e R s m args below meth c H locs cells slots Q (F0 m (pc + 1) ls (.long (f i.toNatClampNeg) :: rest))) : W p l e R s m args below meth c H locs cells slots Q (F0 m pc ls (.int i :: .ref (al G q0) :: rest)) := by
  obtain ⟨hx, hb, -, -, hown, -, hts, hK, -⟩ := X
  exact va_lald hx hb hK h.1 q0 1 (by rw [wM_at hq, he]) rfl hin hdg kk
theorem tf_aald (X : tf_X G N own cc nL ret p s m args meth c) (h : tf_H G N E s.heap H locs) (q0 : Nat) (hq : q0 < N) (t0 : Nat) {C : String} {cA : ClassId} {n : Nat} {f : Nat → Option Nat} (he : E q0 = .inl (cA, n, .inr (.inr (.inr (.inr f))))) (ht : (tyG G)[t0]? = some (cA, .object C)) {i : Int32} (hin : vp_in i n) {v : Value} (hv : va_rf (f i.toNatClampNeg) = v) (hdg : decode cc pc = .ok (.aaload, 1))
    (kk : W p l e R s m args below meth c H locs cells slots Q (F0 m (pc + 1) ls (v :: rest))) : W p l e R s m args below meth c H locs cells slots Q (F0 m pc ls (.int i :: .ref (al G q0) :: rest)) := by
  obtain ⟨hx, hb, -, -, hown, -, hts, hK, -⟩ := X
  exact va_aldq hx hb hK h.1 q0 t0 (by rw [wM_at hq, he]) ht hin hdg (by rw [hv]; exact kk)
theorem tf_iast (X : tf_X G N own cc nL ret p s m args meth c) (h : tf_H G N E s.heap H locs) (q0 : Nat) (hq : q0 < N) {n : Nat} {f : Nat → Int32} (he : E q0 = .inl (ca G 0, n, .inl f)) {i x : Int32} (hin : vp_in i n) (he' : E' q0 = .inl (ca G 0, n, .inl (upd f i.toNatClampNeg x))) (hne : ∀ j, j < N → j ≠ q0 → E' j = E j) (hdg : decode cc pc = .ok (.iastore, 1))
    (kk : ∀ (H1 : Heap) (locs1 : List Loc), tf_H G N E' s.heap H1 locs1 → W p l e R s m args below meth c H1 locs1 cells slots Q (F0 m (pc + 1) ls rest)) : W p l e R s m args below meth c H locs cells slots Q (F0 m pc ls (.int x :: .int i :: .ref (al G q0) :: rest)) := by
  obtain ⟨hx, hb, -, -, hown, -, hts, hK, -, hJ⟩ := X
  refine va_iast hx hb hK h.1 (wM_D hJ) h.2 q0 0 (by rw [wM_at hq, he]) rfl hin hdg (fun H1 locs1 hP1 _ hS1 => kk H1 locs1 ⟨?_, hS1⟩)
  rw [← he', wM_set hne] at hP1
  exact hP1
theorem tf_last (X : tf_X G N own cc nL ret p s m args meth c) (h : tf_H G N E s.heap H locs) (q0 : Nat) (hq : q0 < N) {n : Nat} {f : Nat → Int64} (he : E q0 = .inl (ca G 1, n, .inr (.inl f))) {i : Int32} {x : Int64} (hin : vp_in i n) (he' : E' q0 = .inl (ca G 1, n, .inr (.inl (vp_updL f i.toNatClampNeg x)))) (hne : ∀ j, j < N → j ≠ q0 → E' j = E j) (hdg : decode cc pc = .ok (.lastore, 1))
    (kk : ∀ (H1 : Heap) (locs1 : List Loc), tf_H G N E' s.heap H1 locs1 → W p l e R s m args below meth c H1 locs1 cells slots Q (F0 m (pc + 1) ls rest)) : W p l e R s m args below meth c H locs cells slots Q (F0 m pc ls (.long x :: .int i :: .ref (al G q0) :: rest)) := by
  obtain ⟨hx, hb, -, -, hown, -, hts, hK, -, hJ⟩ := X
  refine va_last hx hb hK h.1 (wM_D hJ) h.2 q0 1 (by rw [wM_at hq, he]) rfl hin hdg (fun H1 locs1 hP1 _ hS1 => kk H1 locs1 ⟨?_, hS1⟩)
  rw [← he', wM_set hne] at hP1
  exact hP1
/-- the ends -/
theorem tf_iret (X : tf_X G N own cc nL (some .int) p s m args meth c) (h : tf_H G N E s.heap H locs) {v : Int32} (hdg : decode cc pc = .ok (.ireturn, 1)) :
    W p l e R s m args below meth c H locs 0 0 (MQ below (tf_Q G N E (some (.int v))) args s 0 0 (gA (al G) N)) (F0 m pc ls [.int v]) := by
  obtain ⟨hx, hb, hr, -, hown, hlocks, hts, hK, -⟩ := X
  exact W.iret hx hb hr (fun t ht hW => ⟨rfl, by unfold tf_B1; rw [ht]; exact h.1, h.2.F ht⟩) h.2.2.2 hdg hlocks
theorem tf_zret (X : tf_X G N own cc nL (some .boolean) p s m args meth c) (h : tf_H G N E s.heap H locs) {v : Int32} (hn : narrow .boolean (.int v) = .int v) (hdg : decode cc pc = .ok (.ireturn, 1)) :
    W p l e R s m args below meth c H locs 0 0 (MQ below (tf_Q G N E (some (.int v))) args s 0 0 (gA (al G) N)) (F0 m pc ls [.int v]) := by
  obtain ⟨hx, hb, hr, -, hown, hlocks, hts, hK, -⟩ := X
  exact W.zret hx hb hr hn (fun t ht hW => ⟨rfl, by unfold tf_B1; rw [ht]; exact h.1, h.2.F ht⟩) h.2.2.2 hdg hlocks
theorem tf_lret (X : tf_X G N own cc nL (some .long) p s m args meth c) (h : tf_H G N E s.heap H locs) {v : Int64} (hdg : decode cc pc = .ok (.lreturn, 1)) :
    W p l e R s m args below meth c H locs 0 0 (MQ below (tf_Q G N E (some (.long v))) args s 0 0 (gA (al G) N)) (F0 m pc ls [.long v]) := by
  obtain ⟨hx, hb, hr, -, hown, hlocks, hts, hK, -⟩ := X
  exact W.lret hx hb hr (fun t ht hW => ⟨rfl, by unfold tf_B1; rw [ht]; exact h.1, h.2.F ht⟩) h.2.2.2 hdg hlocks
theorem tf_vret (X : tf_X G N own cc nL none p s m args meth c) (h : tf_H G N E s.heap H locs) (hdg : decode cc pc = .ok (.return_, 1)) :
    W p l e R s m args below meth c H locs 0 0 (MQ below (tf_Q G N E none) args s 0 0 (gA (al G) N)) (F0 m pc ls []) := by
  obtain ⟨hx, hb, hr, -, hown, hlocks, hts, hK, -⟩ := X
  exact W.vret hx hb hr (fun t ht hW => ⟨rfl, by unfold tf_B1; rw [ht]; exact h.1, h.2.F ht⟩) h.2.2.2 hdg hlocks
theorem tf_aret {C : String} (X : tf_X G N own cc nL (some (.object C)) p s m args meth c) (h : tf_H G N E s.heap H locs) {v : Value} (hv : v = .null ∨ ∃ a, v = .ref a) (hdg : decode cc pc = .ok (.areturn, 1)) :
    W p l e R s m args below meth c H locs 0 0 (MQ below (tf_Q G N E (some v)) args s 0 0 (gA (al G) N)) (F0 m pc ls [v]) := by
  obtain ⟨hx, hb, hr, -, hown, hlocks, hts, hK, -⟩ := X
  exact W.aret hx hb hr (Or.inl ⟨_, rfl⟩) hv (fun t ht hW => ⟨rfl, by unfold tf_B1; rw [ht]; exact h.1, h.2.F ht⟩) h.2.2.2 hdg hlocks
/-- a call that answers v and leaves the picture E' -/
theorem tf_then {v : Option Value} {a : Array Value} {st0 : List Value} (hr : va_Run p l e R s m args below meth c H locs cells slots 0 0 (F0 m pc ls st0) rest (tf_Q G N E' v a) (gA (al G) N)) (h : tf_H G N E s.heap H locs)
    (kk : ∀ (H1 : Heap) (locs1 : List Loc), tf_H G N E' s.heap H1 locs1 → W p l e R s m args below meth c H1 locs1 cells slots Q (F0 m (pc + 3) ls (v.toList ++ rest))) : W p l e R s m args below meth c H locs cells slots Q (F0 m pc ls st0) := by
  intro T hT X
  obtain ⟨v', st₀, t, T', L, h0, X', hL, e1, e2, ⟨hv, hb, hz, hk⟩, st⟩ := hr T hT X
  cases hv
  rw [h0] at hz hk
  have hS := h.2
  obtain ⟨t2, a1, b1⟩ := kk T'.heap (locs ++ L) ⟨by rw [e1]; exact hb, ⟨Nat.le_trans hS.1 (by rw [e1]; exact hz), fun q h1 h2 => by rw [e1, hk q (Nat.lt_of_lt_of_le h1 hS.1) h2]; exact hS.2.1 q h1 h2, fun q hq => by
      rcases List.mem_append.mp hq with h | h
      · exact hS.2.2 q h
      · exact hL q h⟩⟩ T' rfl X'
  exact ⟨t2, st t2 a1, b1⟩
theorem tf_pre (X : tf_X G N own cc nL ret p s m args meth c) (h : tf_H G N E s.heap H locs) {as : List Value} : ∀ U : State, U.heap = H → s.WarmedH U.vm → tf_Pc G N E as as.toArray U := by
  obtain ⟨hx, hb, hr, -, hown, hlocks, hts, hK, hSb, hJ⟩ := X
  intro U hU hW
  refine ⟨rfl, by rw [hU]; exact h.1, va_K.moved hW.alike hK, ?_⟩
  rw [hU]
  exact (hSb.kept h.2.2.1).moved hW
theorem tf_callV {y : MethodName} {bytes : ByteArray} {maxL fr lo n index : Nat} {rt : Option FieldType} {As st0 : List Value} {v : Option Value} (X : tf_X G N own cc nL ret p s m args meth c) (h : tf_H G N E s.heap H locs) (q0 : Nat) (hq : q0 < N) {ci : Nat} {fs : List Value} {T : u_T} {nf : Nat} (he : E q0 = .inr (ci, fs)) (hc : vCl[ci]? = some (y.cls, T, nf))
    (hM : tf_Met l G N y bytes maxL rt fr lo (.ref (al G q0) :: As) E E' v) (hcode : Cond.code y bytes maxL rt ∈ gT) (hlink : Cond.methodLink own index y ∈ gT) (hinst : Cond.instanceMethod y ∈ gT) (hsel : Cond.selects y.cls y y ∈ gT) (hini : Cond.initialized y.cls ∈ gT) (hd : y.cls ≠ "java/lang/invoke/MethodHandle" ∧ y.cls ≠ "java/lang/invoke/VarHandle" ∧ (parseMethodDescriptor y.desc).map (fun d => d.parameters.length) = some n)
    (hR : fr + 1 ≤ R.frames ∧ 8 + (maxL + 11) + lo ≤ R.locals) (hlen : As.length = n) (hsz : ls.size = nL) (hst : st0 = As.reverse ++ .ref (al G q0) :: rest) (hroom : (rest.map fun v => v.category).sum ≤ 8) (hcs : cells ≤ R.cells ∧ slots ≤ R.slots) (hdg : decode cc pc = .ok (.invokevirtual index, 3))
    (kk : ∀ (H1 : Heap) (locs1 : List Loc), tf_H G N E' s.heap H1 locs1 → W p l e R s m args below meth c H1 locs1 cells slots Q (F0 m (pc + 3) ls (v.toList ++ rest))) : W p l e R s m args below meth c H locs cells slots Q (F0 m pc ls st0) := by
  have X0 := X
  obtain ⟨hx, hb, hr, hml, hown, hlocks, hts, hK, hSb, hJ⟩ := X
  have cw : CallW R s args own y.cls index y bytes maxL rt (Cond.code y bytes maxL rt :: gT) (tf_rm fr lo) 0 0 n := ⟨callB_of n hts (gGood hcode) rfl rfl rfl (hts _ hini) (hts _ hlink) hd hR, hts _ hinst, hts _ hsel⟩
  exact tf_then (va_runV (As := As) (rest := rest) (nL := nL) (Ts := gT) ⟨hx, hb, hml, hown, hts⟩ hM cw ⟨tf_blind, va_recv hK h.1 (ci := ci) (q0 := q0) hc (by rw [wM_at hq, he]), tf_pre X0 h⟩ rfl hlen hsz hst (lv_room hroom) hdg hcs) h kk
theorem tf_callS {y : MethodName} {bytes : ByteArray} {maxL fr lo n index : Nat} {rt : Option FieldType} {As st0 : List Value} {v : Option Value} (X : tf_X G N own cc nL ret p s m args meth c) (h : tf_H G N E s.heap H locs)
    (hM : tf_Met l G N y bytes maxL rt fr lo As E E' v) (hcode : Cond.code y bytes maxL rt ∈ gT) (hlink : Cond.methodLink own index y ∈ gT) (hstat : Cond.static y ∈ gT) (hini : Cond.initialized y.cls ∈ gT) (hd : y.cls ≠ "java/lang/invoke/MethodHandle" ∧ y.cls ≠ "java/lang/invoke/VarHandle" ∧ (parseMethodDescriptor y.desc).map (fun d => d.parameters.length) = some n)
    (hR : fr + 1 ≤ R.frames ∧ 8 + (maxL + 11) + lo ≤ R.locals) (hlen : As.length = n) (hsz : ls.size = nL) (hst : st0 = As.reverse ++ rest) (hroom : (rest.map fun v => v.category).sum ≤ 8) (hcs : cells ≤ R.cells ∧ slots ≤ R.slots) (hdg : decode cc pc = .ok (.invokestatic index, 3))
    (kk : ∀ (H1 : Heap) (locs1 : List Loc), tf_H G N E' s.heap H1 locs1 → W p l e R s m args below meth c H1 locs1 cells slots Q (F0 m (pc + 3) ls (v.toList ++ rest))) : W p l e R s m args below meth c H locs cells slots Q (F0 m pc ls st0) := by
  have X0 := X
  obtain ⟨hx, hb, hr, hml, hown, hlocks, hts, hK, hSb, hJ⟩ := X
  have cw : CallB R s args own index y bytes maxL rt (Cond.code y bytes maxL rt :: gT) (tf_rm fr lo) 0 0 n ∧ (Cond.static y).before args s = true := ⟨callB_of n hts (gGood hcode) rfl rfl rfl (hts _ hini) (hts _ hlink) hd hR, hts _ hstat⟩
  exact tf_then (va_runS (As := As) (rest := rest) (nL := nL) (Ts := gT) ⟨hx, hb, hml, hown, hts⟩ hM cw ⟨tf_blind, tf_pre X0 h⟩ rfl hlen hsz hst (lv_room hroom) hdg hcs) h kk
end TF
