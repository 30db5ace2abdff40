/-! CONSTRUCTORS: their contracts' form, rows that make cells -/
def tyC (cA : Nat → ClassId) : List (ClassId × FieldType) := [(cA 0, .int), (cA 1, .long), (cA 2, .object "TradeFloor$Order"), (cA 3, .object "TradeFloor$Account")]
/-- the nest mates' links, the arrays of references -/
def tf_N (U : State) : Prop := va_Nw (.methodLinkNest "TradeFloor" 9 yK5_init "TradeFloor") U ∧ va_Nw (.methodLinkNest "TradeFloor" 18 yK1_init "TradeFloor") U ∧ va_Nw (.methodLinkNest "TradeFloor$Orders" 17 yK3_init "TradeFloor") U ∧ va_Nw (.methodLinkNest "TradeFloor$Exchange" 26 yK6_init "TradeFloor") U ∧ va_Nw (.methodLinkNest "TradeFloor$Exchange" 31 yK0_init "TradeFloor") U ∧ va_AO "TradeFloor$Account" U ∧ va_AO "TradeFloor$Order" U
theorem tf_N.moved {s U : State} (hW : s.WarmedH U.vm) (h : tf_N s) : tf_N U := ⟨va_Nw.warmM hW h.1, va_Nw.warmM hW h.2.1, va_Nw.warmM hW h.2.2.1, va_Nw.warmM hW h.2.2.2.1, va_Nw.warmM hW h.2.2.2.2.1, va_AO.moved hW.alike h.2.2.2.2.2.1, va_AO.moved hW.alike h.2.2.2.2.2.2⟩
theorem tf_N.same {u U : State} (hv : u.vm = U.vm) (h : tf_N u) : tf_N U :=
  have ha : u.vm.Alike U.vm := by rw [hv]; exact Vm.Alike.refl _
  ⟨va_Nw.same rfl hv h.1, va_Nw.same rfl hv h.2.1, va_Nw.same rfl hv h.2.2.1, va_Nw.same rfl hv h.2.2.2.1, va_Nw.same rfl hv h.2.2.2.2.1, va_AO.moved ha h.2.2.2.2.2.1, va_AO.moved ha h.2.2.2.2.2.2⟩
def tf_PI (D : va_G) (cA : Nat → ClassId) (h0 : Nat) (e0 : va_E) (sz : Nat) (U : State) : Prop := U.heap.size = sz ∧ va_P D vCl [(h0, e0)] U.heap ∧ va_K D vCl (tyC cA) U ∧ tf_N U
abbrev tf_rc (fr mc ms lo : Nat) : Room := { frames := fr, cells := mc, slots := ms, locals := lo }
def tf_QI {S : Type} (D : va_G) (A : Nat → Prop) (Wf : S → va_W) : Array Value → State → Outcome → State → Prop := va_Qv (fun _ : S => True) (fun a t => va_P D vCl (Wf a) t.heap ∧ va_D A (Wf a)) A
def tf_Con {S : Type} (l : Launch) (D : va_G) (cA : Nat → ClassId) (y : MethodName) (b : ByteArray) (n fr lo : Nat) (e0 : va_E) (mc ms : Nat) (Wf : Nat → S → va_W) : Prop :=
  ∀ h0 sz : Nat, Met l y (Cond.code y b n none :: gT) (tf_rc fr mc ms lo) (va_Pc [.ref h0] (tf_PI D cA h0 e0 sz)) (tf_QI D (va_A [(h0, e0)] sz) (Wf h0)) mc ms (va_A [(h0, e0)] sz)
/-- surroundings of a walk that makes cells -/
def tf_XC (D : va_G) (cA : Nat → ClassId) (own : String) (cc : ByteArray) (nL : Nat) (p : Program) (s : State) (m : MethodId) (args : Array Value) (c : Code) : Prop :=
  p.tables.exec = Jvm.exec ∧ c.code = cc ∧ c.maxLocals = nL ∧ s.vm.findClass own = some m.cls ∧ (∀ w ∈ gT, w.before args s = true) ∧ va_K D vCl (tyC cA) s ∧ tf_N s
def tf_HC (D : va_G) (A : Nat → Prop) (ws : va_W) (H0 H : Heap) (locs : List Loc) : Prop := va_P D vCl ws H ∧ va_D A ws ∧ va_S A H0 H locs
theorem va_D_one {A : Nat → Prop} {x : Nat × va_E} (h : A x.1) : va_D A [x] := by
  refine ⟨fun i j p q hi hj _ => ?_, fun k q hk => ?_⟩
  · have h1 : i < 1 := (List.getElem?_eq_some_iff.mp hi).1
    have h2 : j < 1 := (List.getElem?_eq_some_iff.mp hj).1
    omega
  · have h1 : k < 1 := (List.getElem?_eq_some_iff.mp hk).1
    rw [show k = 0 by omega] at hk
    cases hk
    exact h
theorem va_P.left {D : va_G} {cl : List vw_C} {w1 w2 : va_W} {H : Heap} (h : va_P D cl (w1 ++ w2) H) : va_P D cl w1 H := fun k q hk => h k q (by rw [List.getElem?_append_left (List.getElem?_eq_some_iff.mp hk).1]; exact hk)
theorem va_D.left {A : Nat → Prop} {w1 w2 : va_W} (h : va_D A (w1 ++ w2)) : va_D A w1 := by
  have f : ∀ (k : Nat) (q : Nat × va_E), w1[k]? = some q → (w1 ++ w2)[k]? = some q := fun k q hk => by rw [List.getElem?_append_left (List.getElem?_eq_some_iff.mp hk).1]; exact hk
  exact ⟨fun i j p q hi hj e => h.1 i j p q (f i p hi) (f j q hj) e, fun k q hk => h.2 k q (f k q hk)⟩
theorem va_D.last {A : Nat → Prop} {w1 : va_W} {x : Nat × va_E} (h : va_D A (w1 ++ [x])) (k : Nat) (q : Nat × va_E) (hk : w1[k]? = some q) : q.1 ≠ x.1 := by
  intro e
  have hl := (List.getElem?_eq_some_iff.mp hk).1
  have h1 : (w1 ++ [x])[k]? = some q := by rw [List.getElem?_append_left hl]; exact hk
  have h2 : (w1 ++ [x])[w1.length]? = some x := by simp
  have := h.1 k w1.length q x h1 h2 e
  omega
/-- behind a constructor's call -/
theorem tf_joinC {A : Nat → Prop} {D : va_G} {ws w1 : va_W} {q : Nat} {e0 : va_E} {H H1 : Heap} (hP : va_P D vCl (ws ++ [(q, e0)]) H) (hD : va_D A (ws ++ [(q, e0)]))
    (hk : ∀ x : Nat, x < H.size → ¬ va_A [(q, e0)] H.size x → H1[x]? = H[x]?) (hF : ∀ x, va_A [(q, e0)] H.size x → A x) (hP1 : va_P D vCl w1 H1) (hD1 : va_D (va_A [(q, e0)] H.size) w1) : va_P D vCl (ws ++ w1) H1 ∧ va_D A (ws ++ w1) := by
  have apart : ∀ (k : Nat) (x : Nat × va_E), ws[k]? = some x → x.1 < H.size ∧ ¬ va_A [(q, e0)] H.size x.1 := by
    intro k x hx
    have hl := (hP.left k x hx).lt
    refine ⟨hl, fun h => ?_⟩
    rcases h with ⟨k2, e, h⟩ | h
    · have h1 : k2 < 1 := (List.getElem?_eq_some_iff.mp h).1
      rw [show k2 = 0 by omega] at h
      have h3 := Option.some.inj h
      exact hD.last k x hx (congrArg Prod.fst h3).symm
    · omega
  refine ⟨va_P.app (fun k x hx => ?_) hP1, va_D.app hD.left (hD1.weaken (fun k x _ h => hF x.1 h)) (fun i j x y hx hy hxy => ?_)⟩
  · obtain ⟨g1, g2⟩ := apart k x hx
    exact (hP.left k x hx).kept (hk x.1 g1 g2)
  · exact (apart i x hx).2 (by rw [hxy]; exact hD1.2 j y hy)
theorem tf_blindI {D : va_G} {cA : Nat → ClassId} {h0 sz : Nat} {e0 : va_E} {as : List Value} : FrameBlind (va_Pc as (tf_PI D cA h0 e0 sz)) := fun a U g mk q => ⟨q.1, q.2.1, q.2.2.1, va_K.moved (u := U) (U := U.calling g mk a) (Vm.Alike.refl U.vm) q.2.2.2.1, tf_N.same (u := U) (U := U.calling g mk a) rfl q.2.2.2.2⟩
section TC
variable {p : Program} {l : Launch} {e : Env} {R : Room} {s : State} {m : MethodId} {args : Array Value} {below : List Frame} {meth : Method} {c : Code} {H : Heap} {locs : List Loc} {cells slots : Nat} {Q : State → Prop}
variable {cc : ByteArray} {pc : Nat} {ls : Array Slot} {rest : List Value} {D : va_G} {cA : Nat → ClassId} {nL : Nat} {own : String} {A : Nat → Prop} {ws : va_W}
theorem tf_con {y : MethodName} {b : ByteArray} {n fr lo mc ms : Nat} {e0 : va_E} {S : Type} {Wf : Nat → S → va_W} (hy : plainName y.cls = true) (hn : 1 ≤ n) (hi : y.name = "<init>")
    (body : ∀ p e s m args below meth c ls A h0 Q, tf_XC D cA y.cls b n p s m args c → meth.name = "<init>" → (∀ q, s.heap.size ≤ q → A q) → lv_has ls n [(0, .ref h0)] → tf_HC D A [(h0, e0)] s.heap s.heap [] →
      (∀ (H : Heap) (locs : List Loc) (a : S) (ls : Array Slot) (pc : Nat), tf_HC D A (Wf h0 a) s.heap H locs → decode b pc = .ok (.return_, 1) → W p l e (tf_rc fr mc ms lo) s m args below meth c H locs mc ms Q (F0 m pc ls [])) →
      W p l e (tf_rc fr mc ms lo) s m args below meth c s.heap [] 0 0 Q (F0 m 0 ls [])) : tf_Con l D cA y b n fr lo e0 mc ms Wf := by
  intro h0 sz
  refine Met.ofW (cc := b) (maxL := n) (ret := none) hy rfl ?_
  intro p e s m args below meth c s₁ B hml hv
  obtain ⟨rfl, hsz, hP, hK, hN⟩ := hv
  subst hsz
  have hts := atoms_spec (ws := Cond.code y b n none :: gT) B.pre
  have hown : s.vm.findClass y.cls = some m.cls := findClass_of_methodNamed B.named
  have hl := lv_entry [Value.ref h0] (n := n) (show (lg_sl [Value.ref h0]).length ≤ n from hn)
  rw [lg_entry_eq]
  generalize (lg_sl [Value.ref h0] ++ List.replicate (n - (lg_sl [Value.ref h0]).length) Slot.unset).toArray = ls at hl ⊢
  refine body p e s m _ below meth c ls (va_A [(h0, e0)] s.heap.size) h0 _ ⟨B.exec, B.bytes, hml, hown, fun w hw => hts w (List.mem_cons_of_mem _ hw), hK, hN⟩ ((name_of_methodNamed B.named B.method).1.trans hi) (fun q h => Or.inr h) hl ⟨hP, va_D_one (va_A.in (k := 0) rfl), va_S.rf⟩ ?_
  intro H locs a ls pc h hd
  exact W.vret B.exec B.bytes B.returns (fun t ht hW => ⟨⟨a, rfl, trivial, by rw [ht]; exact h.1, h.2.1⟩, h.2.2.F ht⟩) h.2.2.2.2 hd
theorem tf_obj (X : tf_XC D cA own cc nL p s m args c) {ix h0 : Nat} (hol : Cond.methodLink own ix objectInit ∈ gT) (hsz : ls.size = nL) (hf : 1 ≤ R.frames) (hlo : 12 ≤ R.locals) (hdg : decode cc pc = .ok (.invokespecial ix, 3))
    (kk : W p l e R s m args below meth c H locs cells slots Q (F0 m (pc + 3) ls [])) : W p l e R s m args below meth c H locs cells slots Q (F0 m pc ls [.ref h0]) := by
  obtain ⟨hx, hb, hml, hown, hts, hK, hN⟩ := X
  exact W.objInit hx hb hown (hts _ hol) (hts _ x_oi) (hts _ x_oc) rfl (by rw [hml]; exact hsz) rfl hdg hf hlo kk
theorem tf_fin (X : tf_XC D cA own cc nL p s m args c) (hin2 : meth.name = "<init>") {h0 ci k ix nf : Nat} {fs fs' : List Value} {T : u_T} {v : Value} (h : tf_HC D A ((h0, .inr (ci, fs)) :: ws) s.heap H locs) (hc : vCl[ci]? = some (own, T, nf)) (hin : ∀ w ∈ u_ws own T nf, w ∈ gT) (ty0 : Nat → FieldType) (hty : ∀ k, k < nf → parseFieldDescriptor (T k).2.2.1 = some (ty0 k)) (hnm : ∀ a, a < nf → ∀ b, b < nf → a ≠ b → (T a).2.1 ≠ (T b).2.1) (hk : k < nf) (hl : Cond.fieldLink own ix own (T k).2.1 (T k).2.2.1 ∈ gT) (hfin : (T k).2.2.2 = true) (hde : (T k).1 = own) (hn : narrow (ty0 k) v = v) (hfit : fits (ty0 k) v = true) (hkl : k < fs.length) (hfs : fs.set k v = fs') (hdg : decode cc pc = .ok (.putfield ix, 3))
    (kk : ∀ (H1 : Heap) (locs1 : List Loc), tf_HC D A ((h0, .inr (ci, fs')) :: ws) s.heap H1 locs1 → W p l e R s m args below meth c H1 locs1 cells slots Q (F0 m (pc + 3) ls rest)) : W p l e R s m args below meth c H locs cells slots Q (F0 m pc ls (v :: .ref h0 :: rest)) := by
  obtain ⟨hx, hb, hml, hown, hts, hK, hN⟩ := X
  subst hfs
  exact va_putF hx hb hts hin ty0 hty hnm hown hK h.1 h.2.1 h.2.2 0 rfl hc k hk (ref := own) (hts _ hl) (fun x z => by rw [hde] at z; exact z) hfin hin2 hde (hty k hk) hn hfit hkl hdg (fun H1 locs1 hP hD hS => kk H1 locs1 ⟨hP, hD, hS⟩)
theorem tf_sput (X : tf_XC D cA own cc nL p s m args c) {h0 ci k ix nf : Nat} {fs fs' : List Value} {T : u_T} {v : Value} (h : tf_HC D A ((h0, .inr (ci, fs)) :: ws) s.heap H locs) (hc : vCl[ci]? = some (own, T, nf)) (hin : ∀ w ∈ u_ws own T nf, w ∈ gT) (ty0 : Nat → FieldType) (hty : ∀ k, k < nf → parseFieldDescriptor (T k).2.2.1 = some (ty0 k)) (hnm : ∀ a, a < nf → ∀ b, b < nf → a ≠ b → (T a).2.1 ≠ (T b).2.1) (hk : k < nf) (hl : Cond.fieldLink own ix own (T k).2.1 (T k).2.2.1 ∈ gT) (hfin : (T k).2.2.2 = false) (hde : (T k).1 = own) (hn : narrow (ty0 k) v = v) (hfit : fits (ty0 k) v = true) (hkl : k < fs.length) (hfs : fs.set k v = fs') (hdg : decode cc pc = .ok (.putfield ix, 3))
    (kk : ∀ (H1 : Heap) (locs1 : List Loc), tf_HC D A ((h0, .inr (ci, fs')) :: ws) s.heap H1 locs1 → W p l e R s m args below meth c H1 locs1 cells slots Q (F0 m (pc + 3) ls rest)) : W p l e R s m args below meth c H locs cells slots Q (F0 m pc ls (v :: .ref h0 :: rest)) := by
  obtain ⟨hx, hb, hml, hown, hts, hK, hN⟩ := X
  subst hfs
  exact va_put hx hb hts hin ty0 hty hnm hown hK h.1 h.2.1 h.2.2 0 rfl hc k hk (ref := own) (hts _ hl) (fun x z => by rw [hde] at z; exact z) hfin (hty k hk) hn hfit hkl hdg (fun H1 locs1 hP hD hS => kk H1 locs1 ⟨hP, hD, hS⟩)
/-- an array's class is the one of its name -/
theorem tf_same {c0 c1 : ClassId} {ty : FieldType} {tys : List (ClassId × FieldType)} {k : Nat} (hK : va_K D vCl (tys ++ [(c1, ty)]) s) (hk : tys[k]? = some (c0, ty)) : c1 = c0 := by
  have hl := (List.getElem?_eq_some_iff.mp hk).1
  have h0 := (hK.2 k (c0, ty) (by rw [List.getElem?_append_left hl]; exact hk)).2
  have h1 := (hK.2 tys.length (c1, ty) (by simp)).2
  cases ty with
  | object C =>
    obtain ⟨_, _, _, _, _, e0⟩ := h0
    obtain ⟨_, _, _, _, _, e1⟩ := h1
    exact Option.some.inj (e1.symm.trans e0)
  | _ => exact Option.some.inj (h1.symm.trans h0)
theorem tf_newi (X : tf_XC D cA own cc nL p s m args c) (hA : ∀ q, s.heap.size ≤ q → A q) (h : tf_HC D A ws s.heap H locs) {n : Int32} {N' : Nat} (hn : ¬ n < 0) (hN : n.toNatClampNeg = N') (hby : N' ≤ 1000) (hcells : cells + 1 ≤ R.cells) (hslots : slots + N' ≤ R.slots) (hdg : decode cc pc = .ok (.newarray .int, 2))
    (kk : ∀ (q : Nat) (H1 : Heap), tf_HC D A (ws ++ [(q, .inl (cA 0, N', .inl (fun _ => 0)))]) s.heap H1 locs → W p l e R s m args below meth c H1 locs (cells + 1) (slots + N') Q (F0 m (pc + 2) ls (.ref q :: rest))) : W p l e R s m args below meth c H locs cells slots Q (F0 m pc ls (.int n :: rest)) := by
  obtain ⟨hx, hb, hml, hown, hts, hK, hN0⟩ := X
  refine va_newa hx hb (atype := .int) (ty := .int) (a0 := (N', .inl (fun _ => 0))) (hts _ x_aint) rfl hK h.1 h.2.1 h.2.2 hA (fun _ => rfl) hn hN (by show N' * 4 ≤ _; omega) hcells hslots hdg (fun q c1 H1 hK1 hP1 hD1 hS1 => ?_)
  have e := tf_same hK1 (k := 0) rfl
  subst e
  exact kk q H1 ⟨hP1, hD1, hS1⟩
theorem tf_newl (X : tf_XC D cA own cc nL p s m args c) (hA : ∀ q, s.heap.size ≤ q → A q) (h : tf_HC D A ws s.heap H locs) {n : Int32} {N' : Nat} (hn : ¬ n < 0) (hN : n.toNatClampNeg = N') (hby : N' ≤ 1000) (hcells : cells + 1 ≤ R.cells) (hslots : slots + N' ≤ R.slots) (hdg : decode cc pc = .ok (.newarray .long, 2))
    (kk : ∀ (q : Nat) (H1 : Heap), tf_HC D A (ws ++ [(q, .inl (cA 1, N', .inr (.inl (fun _ => 0))))]) s.heap H1 locs → W p l e R s m args below meth c H1 locs (cells + 1) (slots + N') Q (F0 m (pc + 2) ls (.ref q :: rest))) : W p l e R s m args below meth c H locs cells slots Q (F0 m pc ls (.int n :: rest)) := by
  obtain ⟨hx, hb, hml, hown, hts, hK, hN0⟩ := X
  refine va_newa hx hb (atype := .long) (ty := .long) (a0 := (N', .inr (.inl (fun _ => 0)))) (hts _ x_along) rfl hK h.1 h.2.1 h.2.2 hA (fun _ => rfl) hn hN (by show N' * 8 ≤ _; omega) hcells hslots hdg (fun q c1 H1 hK1 hP1 hD1 hS1 => ?_)
  have e := tf_same hK1 (k := 1) rfl
  subst e
  exact kk q H1 ⟨hP1, hD1, hS1⟩
theorem tf_newq (X : tf_XC D cA own cc nL p s m args c) (hA : ∀ q, s.heap.size ≤ q → A q) (h : tf_HC D A ws s.heap H locs) {n : Int32} {N' t0 ix : Nat} {C : String} (ht : (tyC cA)[t0]? = some (cA t0, .object C)) (ho : va_AO C s) (hcl : Cond.classLink own ix C ∈ gT) (hn : ¬ n < 0) (hN : n.toNatClampNeg = N') (hby : N' ≤ 1000) (hcells : cells + 1 ≤ R.cells) (hslots : slots + N' ≤ R.slots) (hdg : decode cc pc = .ok (.anewarray ix, 3))
    (kk : ∀ (q : Nat) (H1 : Heap), tf_HC D A (ws ++ [(q, .inl (cA t0, N', .inr (.inr (.inr (.inr (fun _ => none))))))]) s.heap H1 locs → W p l e R s m args below meth c H1 locs (cells + 1) (slots + N') Q (F0 m (pc + 3) ls (.ref q :: rest))) : W p l e R s m args below meth c H locs cells slots Q (F0 m pc ls (.int n :: rest)) := by
  obtain ⟨hx, hb, hml, hown, hts, hK, hN0⟩ := X
  refine va_newq hx hb hown (hts _ hcl) ho hK h.1 h.2.1 h.2.2 hA hn hN (by omega) hcells hslots hdg (fun q c1 H1 hK1 hP1 hD1 hS1 => ?_)
  have e := tf_same hK1 (k := t0) ht
  subst e
  exact kk q H1 ⟨hP1, hD1, hS1⟩
theorem tf_made {mc ms : Nat} {e0 : va_E} {S : Type} {Wf : Nat → S → va_W} {q : Nat} {st0 : List Value} (hA : ∀ q, s.heap.size ≤ q → A q) (h : tf_HC D A (ws ++ [(q, e0)]) s.heap H locs)
    (run : va_Run p l e R s m args below meth c H locs cells slots mc ms (F0 m pc ls st0) rest (tf_QI D (va_A [(q, e0)] H.size) (Wf q) [Value.ref q].toArray) (va_A [(q, e0)] H.size))
    (kk : ∀ (a : S) (H1 : Heap) (locs1 : List Loc), tf_HC D A (ws ++ Wf q a) s.heap H1 locs1 → W p l e R s m args below meth c H1 locs1 (cells + mc) (slots + ms) Q (F0 m (pc + 3) ls rest)) : W p l e R s m args below meth c H locs cells slots Q (F0 m pc ls st0) := by
  have hF : ∀ x, va_A [(q, e0)] H.size x → A x := by
    intro x hx
    rcases hx with ⟨k, e, hk⟩ | hx
    · have h1 : k < 1 := (List.getElem?_eq_some_iff.mp hk).1
      rw [show k = 0 by omega] at hk
      have h2 : q = x := congrArg Prod.fst (Option.some.inj hk)
      rw [← h2]
      exact h.2.1.2 ws.length (q, e0) (by simp)
    · exact hA x (Nat.le_trans h.2.2.1 hx)
  refine va_callv run h.2.2 (fun x _ z => hF x z) hF (fun a t H1 locs1 ht hvm _ hB hz hk hS => ?_)
  obtain ⟨hP1, hD1⟩ := hB
  rw [ht] at hP1
  obtain ⟨g1, g2⟩ := tf_joinC h.1 h.2.1 hk hF hP1 hD1
  exact kk a H1 locs1 ⟨g1, g2, hS⟩
theorem tf_preI (X : tf_XC D cA own cc nL p s m args c) {q : Nat} {e0 : va_E} (hP : va_P D vCl (ws ++ [(q, e0)]) H) : PreS s H (va_Pc [.ref q] (tf_PI D cA q e0 H.size)) [.ref q] := by
  obtain ⟨hx, hb, hml, hown, hts, hK, hN⟩ := X
  refine ⟨tf_blindI, fun U hU hW => ⟨rfl, by rw [hU], ?_, va_K.moved hW.alike hK, hN.moved hW⟩⟩
  rw [hU]
  intro k x hx
  have h1 : k < 1 := (List.getElem?_eq_some_iff.mp hx).1
  rw [show k = 0 by omega] at hx
  cases hx
  exact hP ws.length _ (by simp)
/-- new, dup, and a constructor's call -/
theorem tf_make {y : MethodName} {b : ByteArray} {n fr lo mc ms ci nf ix ik : Nat} {fs : List Value} {T : u_T} {S : Type} {Wf : Nat → S → va_W} (X : tf_XC D cA own cc nL p s m args c) (hA : ∀ q, s.heap.size ≤ q → A q) (h : tf_HC D A ws s.heap H locs)
    (hc : vCl[ci]? = some (y.cls, T, nf)) (hin : ∀ w ∈ u_ws y.cls T nf, w ∈ gT) (ty0 : Nat → FieldType) (hty : ∀ k, k < nf → parseFieldDescriptor (T k).2.2.1 = some (ty0 k)) (hfs : ∀ j, j < nf → defaultValue (ty0 j) = vp_V fs j)
    (hcl : Cond.classLink own ik y.cls ∈ gT) (hia : Cond.instantiable y.cls nf ∈ gT) (hiz : Cond.initialized y.cls ∈ gT) (hco : Cond.code y b n none ∈ gT) (him : Cond.instanceMethod y ∈ gT) (hyn : y.name = "<init>") (hd : y.cls ≠ "java/lang/invoke/MethodHandle" ∧ y.cls ≠ "java/lang/invoke/VarHandle" ∧ (parseMethodDescriptor y.desc).map (fun d => d.parameters.length) = some 0)
    (hlink : (∃ host, va_Nw (.methodLinkNest own ix y host) s) ∨ Cond.methodLink own ix y ∈ gT) (hM : tf_Con l D cA y b n fr lo (.inr (ci, fs)) mc ms Wf)
    (hR : fr + 1 ≤ R.frames ∧ 8 + (n + 11) + lo ≤ R.locals) (hcells : cells + 1 + mc ≤ R.cells) (hslots : slots + nf + ms ≤ R.slots) (hsz : ls.size = nL) (hroom : (rest.map fun v => v.category).sum ≤ 7)
    (d1 : decode cc pc = .ok (.new ik, 3)) (d2 : decode cc (pc + 3) = .ok (.dup, 1)) (d3 : decode cc (pc + 4) = .ok (.invokespecial ix, 3))
    (kk : ∀ (q : Nat) (a : S) (H1 : Heap) (locs1 : List Loc), tf_HC D A (ws ++ Wf q a) s.heap H1 locs1 → W p l e R s m args below meth c H1 locs1 (cells + 1 + mc) (slots + nf + ms) Q (F0 m (pc + 7) ls (.ref q :: rest))) : W p l e R s m args below meth c H locs cells slots Q (F0 m pc ls rest) := by
  obtain ⟨hx, hb, hml, hown, hts, hK, hN⟩ := id X
  refine va_new hx hb hts hin ty0 hty hown (hts _ hcl) (hts _ hia) (hts _ hiz) hK h.1 h.2.1 h.2.2 hA hc hfs (by omega) (by omega) d1 (fun q H1 hP hD hS => ?_)
  refine lv_dup hx hb d2 rfl ?_
  have hr : ((Value.ref q :: rest).map fun v => v.category).sum ≤ 8 := by
    simp only [List.map_cons, List.sum_cons]
    show 1 + _ ≤ 8
    omega
  have hr' : 2 * (F0 m (pc + 3 + 1) ls (.ref q :: .ref q :: rest)).monitorRoom + ((Value.ref q :: rest).map fun v => v.category).sum ≤ 8 := lv_room hr
  rcases hlink with ⟨host, hl⟩ | hl
  · have cw : va_CN R s args own ix y host b n none (Cond.code y b n none :: gT) (tf_rc fr mc ms lo) mc ms 0 := va_cnB 0 hts (gGood hco) rfl rfl rfl hl (hts _ hiz) hd hR
    exact tf_made (ws := ws) hA ⟨hP, hD, hS⟩ (va_runIN (As := []) (rest := .ref q :: rest) (nL := nL) (Ts := gT) ⟨hx, hb, hml, hown, hts⟩ (hM q H1.size) ⟨cw, hyn, hts _ him⟩ (tf_preI X hP) rfl rfl hsz rfl hr' d3 ⟨hcells, hslots⟩) (fun a H2 locs2 h2 => kk q a H2 locs2 h2)
  · have cw : CallB R s args own ix y b n none (Cond.code y b n none :: gT) (tf_rc fr mc ms lo) mc ms 0 := callB_of 0 hts (gGood hco) rfl rfl rfl (hts _ hiz) (hts _ hl) hd hR
    exact tf_made (ws := ws) hA ⟨hP, hD, hS⟩ (va_runI (As := []) (rest := .ref q :: rest) (nL := nL) (Ts := gT) ⟨hx, hb, hml, hown, hts⟩ (hM q H1.size) ⟨cw, hyn, hts _ him⟩ (tf_preI X hP) rfl rfl hsz rfl hr' d3 ⟨hcells, hslots⟩) (fun a H2 locs2 h2 => kk q a H2 locs2 h2)
end TC
