/-! the text constants at the law's start -/
def flJ : List Cond := flatC (Jvm.Cond.and given_1 narrow_1)
abbrev tmJ (i : Nat) : Term := .string (ownJS.getD i "") (idxJS.getD i 0)
abbrev vlJ (i : Nat) : Term := .field (tmJ i) "java/lang/String" "value" "[B"
def stJ (i : Nat) : List Cond := [.exactly (tmJ i) "java/lang/String", .eq (.field (tmJ i) "java/lang/String" "coder" "B") (.int 0), .arrayOf (vlJ i) .byte, .eq (.length (vlJ i)) (.int (Int32.ofNat (lenJS.getD i 0)))] ++ (List.range (lenJS.getD i 0)).map (fun j => .eq (.elem (vlJ i) (.int (Int32.ofNat j))) (.int ((bytJS.getD i []).getD j 0)))
def offJ : List Nat := [9, 16, 24, 31, 37, 46, 53, 60, 68, 76, 84, 93, 101, 111, 119, 127, 136, 146, 155, 163, 172, 180, 187, 195, 203, 212, 222, 231, 242, 251]
theorem st_ok : ∀ i, i < 30 → (flJ.drop (offJ.getD i 0)).take (stJ i).length = stJ i := by decide +kernel
theorem st_mem {i : Nat} (hi : i < 30) {c : Cond} (h : c ∈ stJ i) : c ∈ flJ := by
  rw [← st_ok i hi] at h
  exact List.mem_of_mem_drop (List.mem_of_mem_take h)
theorem len_ok : ∀ i, i < 30 → lenJS.getD i 0 < 2 ^ 31 := by decide +kernel
theorem sr_0 : Cond.stringRef "TradeFloor$Command" 21 "buy" ∈ lw_tbl := tmem2 24 (by rfl)
theorem sr_1 : Cond.stringRef "TradeFloor$Command" 27 "sell" ∈ lw_tbl := tmem2 77 (by rfl)
theorem sr_2 : Cond.stringRef "TradeFloor$Command" 80 "any" ∈ lw_tbl := tmem2 98 (by rfl)
theorem sr_3 : Cond.stringRef "TradeFloor$Command" 110 "at" ∈ lw_tbl := tmem2 103 (by rfl)
theorem sr_4 : Cond.stringRef "TradeFloor$Command" 115 "until" ∈ lw_tbl := tmem2 108 (by rfl)
theorem sr_5 : Cond.stringRef "TradeFloor$Command" 120 "now" ∈ lw_tbl := tmem2 113 (by rfl)
theorem sr_6 : Cond.stringRef "TradeFloor$Command" 122 "all" ∈ lw_tbl := tmem2 114 (by rfl)
theorem sr_7 : Cond.stringRef "TradeFloor$Command" 124 "post" ∈ lw_tbl := tmem2 115 (by rfl)
theorem sr_8 : Cond.stringRef "TradeFloor$Command" 33 "stop" ∈ lw_tbl := tmem2 116 (by rfl)
theorem sr_9 : Cond.stringRef "TradeFloor$Command" 38 "cash" ∈ lw_tbl := tmem2 121 (by rfl)
theorem sr_10 : Cond.stringRef "TradeFloor$Command" 44 "goods" ∈ lw_tbl := tmem2 127 (by rfl)
theorem sr_11 : Cond.stringRef "TradeFloor$Command" 46 "take" ∈ lw_tbl := tmem2 128 (by rfl)
theorem sr_12 : Cond.stringRef "TradeFloor$Command" 48 "cancel" ∈ lw_tbl := tmem2 129 (by rfl)
theorem sr_13 : Cond.stringRef "TradeFloor$Command" 53 "less" ∈ lw_tbl := tmem2 134 (by rfl)
theorem sr_14 : Cond.stringRef "TradeFloor$Command" 58 "tick" ∈ lw_tbl := tmem2 139 (by rfl)
theorem sr_15 : Cond.stringRef "TradeFloorModel" 111 "cash" ∈ lw_tbl := tmem3 175 (by rfl)
theorem sr_16 : Cond.stringRef "TradeFloorModel" 116 "goods" ∈ lw_tbl := tmem3 182 (by rfl)
theorem sr_17 : Cond.stringRef "TradeFloorModel" 117 "take" ∈ lw_tbl := tmem3 183 (by rfl)
theorem sr_18 : Cond.stringRef "TradeFloorModel" 129 "buy" ∈ lw_tbl := tmem3 205 (by rfl)
theorem sr_19 : Cond.stringRef "TradeFloorModel" 131 "sell" ∈ lw_tbl := tmem3 206 (by rfl)
theorem sr_20 : Cond.stringRef "TradeFloorModel" 159 "any" ∈ lw_tbl := tmem3 211 (by rfl)
theorem sr_21 : Cond.stringRef "TradeFloorModel" 138 "at" ∈ lw_tbl := tmem3 238 (by rfl)
theorem sr_22 : Cond.stringRef "TradeFloorModel" 160 "now" ∈ lw_tbl := tmem3 239 (by rfl)
theorem sr_23 : Cond.stringRef "TradeFloorModel" 161 "all" ∈ lw_tbl := tmem4 0 (by rfl)
theorem sr_24 : Cond.stringRef "TradeFloorModel" 163 "post" ∈ lw_tbl := tmem4 1 (by rfl)
theorem sr_25 : Cond.stringRef "TradeFloorModel" 165 "until" ∈ lw_tbl := tmem4 2 (by rfl)
theorem sr_26 : Cond.stringRef "TradeFloorModel" 136 "stop" ∈ lw_tbl := tmem4 7 (by rfl)
theorem sr_27 : Cond.stringRef "TradeFloorModel" 144 "cancel" ∈ lw_tbl := tmem4 8 (by rfl)
theorem sr_28 : Cond.stringRef "TradeFloorModel" 146 "less" ∈ lw_tbl := tmem4 9 (by rfl)
theorem sr_29 : Cond.stringRef "TradeFloorModel" 148 "tick" ∈ lw_tbl := tmem4 10 (by rfl)
theorem ly_cs : Cond.laysStatic "java/lang/String" "COMPACT_STRINGS" "Z" ∈ lw_tbl := tmem2 38 (by rfl)
theorem ly_sf : Cond.laysStatic "jdk/internal/util/Preconditions" "SIOOBE_FORMATTER" "Ljava/util/function/BiFunction;" ∈ lw_tbl := tmem2 54 (by rfl)
theorem zi_s : Cond.initialized "java/lang/String" ∈ lw_tbl := tmem1 10 (by rfl)
theorem zi_p : Cond.initialized "jdk/internal/util/Preconditions" ∈ lw_tbl := tmem1 12 (by rfl)
theorem nr_cs : Cond.eq (.static "java/lang/String" "COMPACT_STRINGS" "Z") (.int 1) ∈ flJ := List.mem_of_getElem? (i := 4) (by rfl)
theorem nr_sf : Cond.isRef (.static "jdk/internal/util/Preconditions" "SIOOBE_FORMATTER" "Ljava/util/function/BiFunction;") ∈ flJ := List.mem_of_getElem? (i := 5) (by rfl)
theorem sr_all {args : Array Value} {s : State} (hts : ∀ w ∈ lw_tbl, w.before args s = true) : ∀ i, i < 30 → (Cond.stringRef (ownJS.getD i "") (idxJS.getD i 0) (txtJS.getD i "")).before args s = true
  | 0, _ => hts _ sr_0
  | 1, _ => hts _ sr_1
  | 2, _ => hts _ sr_2
  | 3, _ => hts _ sr_3
  | 4, _ => hts _ sr_4
  | 5, _ => hts _ sr_5
  | 6, _ => hts _ sr_6
  | 7, _ => hts _ sr_7
  | 8, _ => hts _ sr_8
  | 9, _ => hts _ sr_9
  | 10, _ => hts _ sr_10
  | 11, _ => hts _ sr_11
  | 12, _ => hts _ sr_12
  | 13, _ => hts _ sr_13
  | 14, _ => hts _ sr_14
  | 15, _ => hts _ sr_15
  | 16, _ => hts _ sr_16
  | 17, _ => hts _ sr_17
  | 18, _ => hts _ sr_18
  | 19, _ => hts _ sr_19
  | 20, _ => hts _ sr_20
  | 21, _ => hts _ sr_21
  | 22, _ => hts _ sr_22
  | 23, _ => hts _ sr_23
  | 24, _ => hts _ sr_24
  | 25, _ => hts _ sr_25
  | 26, _ => hts _ sr_26
  | 27, _ => hts _ sr_27
  | 28, _ => hts _ sr_28
  | 29, _ => hts _ sr_29
  | i + 30, h => absurd h (by omega)
theorem tf_Sof {args : Array Value} {s : State} {A : Nat → Prop} (hts : ∀ w ∈ lw_tbl, w.before args s = true) (hgv : (Jvm.Cond.and given_1 narrow_1).before args s = true) (hA : ∀ a : Nat, a < s.heap.size → ¬ A a) :
    ∃ sK sV : Nat → Nat, ∀ (D : va_G) (a : Nat → Nat) (cA : Nat → ClassId), tf_Sb (D, a, cA, sK, sV) A s s.heap := by
  have hs : ∀ c ∈ flJ, c.before args s = true := flat_of_before _ hgv
  have h0 : ∀ i : Nat, ∃ q : Nat × Nat, i < nJS → (tmJ i).eval args s none [] s = some (.ref q.1) ∧ va_O "java/lang/String" q.1 A s s.heap ∧ va_OF "java/lang/String" "coder" "B" (.int 0) q.1 A s s.heap ∧ va_OF "java/lang/String" "value" "[B" (.ref q.2) q.1 A s s.heap ∧ va_T .byte q.2 (lenJS.getD i 0) (fun j => .int ((bytJS.getD i []).getD j 0)) A s s.heap := by
    intro i
    by_cases hi : i < nJS
    · have hex := hs _ (st_mem hi (c := .exactly (tmJ i) "java/lang/String") (List.mem_append_left _ (List.mem_of_getElem? (i := 0) rfl)))
      have hco := hs _ (st_mem hi (c := .eq (.field (tmJ i) "java/lang/String" "coder" "B") (.int 0)) (List.mem_append_left _ (List.mem_of_getElem? (i := 1) rfl)))
      have har := hs _ (st_mem hi (c := .arrayOf (vlJ i) .byte) (List.mem_append_left _ (List.mem_of_getElem? (i := 2) rfl)))
      have hle := hs _ (st_mem hi (c := .eq (.length (vlJ i)) (.int (Int32.ofNat (lenJS.getD i 0)))) (List.mem_append_left _ (List.mem_of_getElem? (i := 3) rfl)))
      have hel : ∀ j : Nat, j < lenJS.getD i 0 → (Cond.eq (.elem (vlJ i) (.int (Int32.ofNat j))) (.int ((bytJS.getD i []).getD j 0))).before args s = true := fun j hj => hs _ (st_mem hi (List.mem_append_right _ (List.mem_map.mpr ⟨j, List.mem_range.mpr hj, rfl⟩)))
      obtain ⟨a, c, cA, kA, q1, q2, q3, q4, q5, q6, -⟩ := Cond.exactly_spec (args := args) (first := s) (o := none) (s := s) (idx := []) (t := tmJ i) (cls := "java/lang/String") hex
      obtain ⟨t, ht, hT⟩ := va_Tof (f := fun j => .int ((bytJS.getD i []).getD j 0)) (A := A) (len_ok i hi) har (va_eqt hle) (fun j hj => va_eqt (hel j hj)) hA
      exact ⟨(a, t), fun _ => ⟨q1, ⟨cA, q3, q5, by rw [q6]; exact q2, hA a (Array.getElem?_eq_some_iff.mp q3).1⟩, vk_OFof q1 (va_eqt hco) hA, vk_OFof q1 ht hA, hT⟩⟩
    · exact ⟨(0, 0), fun h => absurd h hi⟩
  obtain ⟨ad, had⟩ := Classical.axiomOfChoice h0
  obtain ⟨fv, hv, hvr⟩ := Cond.isRef_spec (hs _ nr_sf)
  refine ⟨fun i => (ad i).1, fun i => (ad i).2, fun D a cA => ⟨fun i hi => (had i hi).2, fun i hi => ?_, va_Zof (hts _ ly_cs) (hts _ zi_s) (va_eqi (hs _ nr_cs)) hA, fv, ?_, va_Zof (hts _ ly_sf) (hts _ zi_p) hv hA⟩⟩
  · exact vk_R.of (A := args) (sr_all hts i hi) (had i hi).1
  · cases fv <;> simp_all [Value.isRef]
