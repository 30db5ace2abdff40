/-! the law's loop -/
def lw_I (I : FI) (L : FL) (J : FI) (K : FL) (n : Nat) : Prop := ∃ o z : Nat, Inv I L o (n * 1000000000000) (n * 2000) ∧ Rr I J ∧ Rl L K ∧ z ≤ 40 ∧ I 11 0 = nI z ∧ J 11 0 = nI z
theorem lg_self (x : Int64) : lg_cmp x x = 0 := by simp [lg_cmp]
theorem i_1 {i Ln : Nat} (h : i + 4 ≤ Ln) (hL : Ln ≤ 2048) : vp_in (nI i + 1) Ln := by rw [nI_1]; exact vp_in_nI (by omega) (by omega)
theorem i_2 {i Ln : Nat} (h : i + 4 ≤ Ln) (hL : Ln ≤ 2048) : vp_in (nI i + 2) Ln := by rw [nI_2]; exact vp_in_nI (by omega) (by omega)
theorem i_3 {i Ln : Nat} (h : i + 4 ≤ Ln) (hL : Ln ≤ 2048) : vp_in (nI i + 3) Ln := by
  rw [show nI i + 3 = nI (i + 3) from nI_add i 3]
  exact vp_in_nI (by omega) (by omega)
set_option maxRecDepth 100000 in
theorem lw_feed {p : Program} {l : Launch} {e : Env} {s : State} {m : MethodId} {args : Array Value} {below : List Frame} {meth : Method} {c : Code} {H : Heap} {locs : List Loc} {cells slots : Nat} {Q : State → Prop} {ls : Array Slot} {D : va_G} {cA : Nat → ClassId} {a7 a8 sK sV : Nat → Nat} {I J : FI} {L K : FL} {b Ln i n : Nat} {xs : Nat → Int32} (C : lw_C D cA a7 a8 sK sV p s m args c) (hX : va_X b Ln xs s s.heap) (hbl : b < s.heap.size) (hi : i + 4 ≤ Ln) (hLn : Ln ≤ 2048) (hn : n ≤ 511) (hcs : cells ≤ room_1.cells ∧ slots ≤ room_1.slots) (hv : lw_I I L J K n) (h : lw_W D cA a7 a8 sK sV I L J K s.heap H locs) (hl : lv_has ls 4 [(0, .ref b), (1, .ref (a7 0)), (2, .ref (a8 0)), (3, .int (nI i))])
    (nxt : ∀ (I : FI) (L : FL) (J : FI) (K : FL) (H : Heap) (locs : List Loc), lw_I I L J K (n + 1) → lw_W D cA a7 a8 sK sV I L J K s.heap H locs → W p l e room_1 s m args below meth c H locs cells slots Q (F0 m 278 ls [])) :
    W p l e room_1 s m args below meth c H locs cells slots Q (F0 m 76 ls []) := by
  obtain ⟨o, z, hI, hR, hL, hz, hIz, hJz⟩ := hv
  have hx := C.1
  have hb := C.2.1
  have hbA : ¬ (fun q : Nat => s.heap.size ≤ q) b := Nat.not_le.mpr hbl
  obtain ⟨r, I9, J9, z9, q1, q2, R9, In9, hz9, e1, e2⟩ := feed_rel (K := K) (xs (nI i + 1).toNatClampNeg) hI hR hL hz hIz hJz
  refine lv_aload_n hx hb dL_76 rfl (lv_at hl 1 rfl) ?_
  refine lv_aload_n hx hb dL_77 rfl (lv_at hl 0 rfl) ?_
  refine lv_iload_n hx hb dL_78 rfl (lv_at hl 3 rfl) ?_
  refine lv_iconst (v := 1) hx hb dL_79 (by decide) ?_
  refine lv_iadd hx hb dL_80 ?_
  refine va_sld hx hb hX hbl hbA h.2.2 (i_1 hi hLn) dL_81 ?_
  refine lw_callx C h (mK7_feed (G := (D, a7, cA, sK, sV)) C.2.2.2.2.2.2.2.1 q1) rfl bwK7_feed x_l_L_13 ⟨Nat.le_of_ble_eq_true rfl, Nat.le_of_ble_eq_true rfl⟩ hl.1 rfl (Nat.le_of_ble_eq_true rfl) hcs dL_82 (fun H locs h => ?_)
  refine lv_aload_n hx hb dL_85 rfl (lv_at hl 2 rfl) ?_
  refine lv_aload_n hx hb dL_86 rfl (lv_at hl 0 rfl) ?_
  refine lv_iload_n hx hb dL_87 rfl (lv_at hl 3 rfl) ?_
  refine lv_iconst (v := 1) hx hb dL_88 (by decide) ?_
  refine lv_iadd hx hb dL_89 ?_
  refine va_sld hx hb hX hbl hbA h.2.2 (i_1 hi hLn) dL_90 ?_
  refine lw_callm C h (mK8_feed (G := (D, a8, cA, sK, sV)) C.2.2.2.2.2.2.2.2.1 q2) rfl bwK8_feed x_l_L_17 ⟨Nat.le_of_ble_eq_true rfl, Nat.le_of_ble_eq_true rfl⟩ hl.1 rfl (Nat.le_of_ble_eq_true rfl) hcs dL_91 (fun H locs h => ?_)
  refine lv_icmp_eq (tgt := 278) hx hb dL_94 (by decide) (fun _ => ?_) (fun z => absurd rfl z)
  exact nxt _ _ _ _ H locs ⟨o, z9, In9.mono (by omega) (by omega), R9, hL, hz9, e1, e2⟩ h
set_option maxRecDepth 100000 in
theorem lw_line {p : Program} {l : Launch} {e : Env} {s : State} {m : MethodId} {args : Array Value} {below : List Frame} {meth : Method} {c : Code} {H : Heap} {locs : List Loc} {cells slots : Nat} {Q : State → Prop} {ls : Array Slot} {D : va_G} {cA : Nat → ClassId} {a7 a8 sK sV : Nat → Nat} {I J : FI} {L K : FL} {b Ln i n : Nat} {xs : Nat → Int32} (C : lw_C D cA a7 a8 sK sV p s m args c) (hX : va_X b Ln xs s s.heap) (hbl : b < s.heap.size) (hi : i + 4 ≤ Ln) (hLn : Ln ≤ 2048) (hn : n ≤ 511) (hcs : cells ≤ room_1.cells ∧ slots ≤ room_1.slots) (hv : lw_I I L J K n) (h : lw_W D cA a7 a8 sK sV I L J K s.heap H locs) (hl : lv_has ls 4 [(0, .ref b), (1, .ref (a7 0)), (2, .ref (a8 0)), (3, .int (nI i))])
    (nxt : ∀ (I : FI) (L : FL) (J : FI) (K : FL) (H : Heap) (locs : List Loc), lw_I I L J K (n + 1) → lw_W D cA a7 a8 sK sV I L J K s.heap H locs → W p l e room_1 s m args below meth c H locs cells slots Q (F0 m 278 ls [])) :
    W p l e room_1 s m args below meth c H locs cells slots Q (F0 m 99 ls []) := by
  obtain ⟨o, z, hI, hR, hL, hz, hIz, hJz⟩ := hv
  have hx := C.1
  have hb := C.2.1
  have hbA : ¬ (fun q : Nat => s.heap.size ≤ q) b := Nat.not_le.mpr hbl
  obtain ⟨r, I9, L9, J9, K9, q1, q2, R9, hL9, ⟨o9, In9⟩, e1, e2⟩ := line_rel hI hR hL hz hIz hJz (by omega) (by omega)
  refine lv_aload_n hx hb dL_99 rfl (lv_at hl 1 rfl) ?_
  refine lw_callx C h (mK7_line (G := (D, a7, cA, sK, sV)) C.2.2.2.2.2.2.2.1 q1) rfl bwK7_line x_l_L_18 ⟨Nat.le_of_ble_eq_true rfl, Nat.le_of_ble_eq_true rfl⟩ hl.1 rfl (Nat.le_of_ble_eq_true rfl) hcs dL_100 (fun H locs h => ?_)
  refine lv_aload_n hx hb dL_103 rfl (lv_at hl 2 rfl) ?_
  refine lw_callm C h (mK8_line (G := (D, a8, cA, sK, sV)) C.2.2.2.2.2.2.2.2.1 q2) rfl bwK8_line x_l_L_22 ⟨Nat.le_of_ble_eq_true rfl, Nat.le_of_ble_eq_true rfl⟩ hl.1 rfl (Nat.le_of_ble_eq_true rfl) hcs dL_104 (fun H locs h => ?_)
  refine lv_icmp_eq (tgt := 278) hx hb dL_107 (by decide) (fun _ => ?_) (fun z => absurd rfl z)
  exact nxt _ _ _ _ H locs ⟨o9, 0, In9.mono (by omega) (by omega), R9, hL9, by omega, e1, e2⟩ h
set_option maxRecDepth 100000 in
theorem lw_order {p : Program} {l : Launch} {e : Env} {s : State} {m : MethodId} {args : Array Value} {below : List Frame} {meth : Method} {c : Code} {H : Heap} {locs : List Loc} {cells slots : Nat} {Q : State → Prop} {ls : Array Slot} {D : va_G} {cA : Nat → ClassId} {a7 a8 sK sV : Nat → Nat} {I J : FI} {L K : FL} {b Ln i n : Nat} {xs : Nat → Int32} (C : lw_C D cA a7 a8 sK sV p s m args c) (hX : va_X b Ln xs s s.heap) (hbl : b < s.heap.size) (hi : i + 4 ≤ Ln) (hLn : Ln ≤ 2048) (hn : n ≤ 511) (hcs : cells ≤ room_1.cells ∧ slots ≤ room_1.slots) (hv : lw_I I L J K n) (h : lw_W D cA a7 a8 sK sV I L J K s.heap H locs) (hl : lv_has ls 4 [(0, .ref b), (1, .ref (a7 0)), (2, .ref (a8 0)), (3, .int (nI i))])
    (nxt : ∀ (I : FI) (L : FL) (J : FI) (K : FL) (H : Heap) (locs : List Loc), lw_I I L J K (n + 1) → lw_W D cA a7 a8 sK sV I L J K s.heap H locs → W p l e room_1 s m args below meth c H locs cells slots Q (F0 m 278 ls [])) :
    W p l e room_1 s m args below meth c H locs cells slots Q (F0 m 112 ls []) := by
  obtain ⟨o, z, hI, hR, hL, hz, hIz, hJz⟩ := hv
  have hx := C.1
  have hb := C.2.1
  have hbA : ¬ (fun q : Nat => s.heap.size ≤ q) b := Nat.not_le.mpr hbl
  obtain ⟨r, q1, q2⟩ := order_rel (K := K) (xs (nI i + 1).toNatClampNeg) (xs (nI i + 2).toNatClampNeg) hI hR
  refine lv_aload_n hx hb dL_112 rfl (lv_at hl 1 rfl) ?_
  refine lv_aload_n hx hb dL_113 rfl (lv_at hl 0 rfl) ?_
  refine lv_iload_n hx hb dL_114 rfl (lv_at hl 3 rfl) ?_
  refine lv_iconst (v := 1) hx hb dL_115 (by decide) ?_
  refine lv_iadd hx hb dL_116 ?_
  refine va_sld hx hb hX hbl hbA h.2.2 (i_1 hi hLn) dL_117 ?_
  refine lv_aload_n hx hb dL_118 rfl (lv_at hl 0 rfl) ?_
  refine lv_iload_n hx hb dL_119 rfl (lv_at hl 3 rfl) ?_
  refine lv_iconst (v := 2) hx hb dL_120 (by decide) ?_
  refine lv_iadd hx hb dL_121 ?_
  refine va_sld hx hb hX hbl hbA h.2.2 (i_2 hi hLn) dL_122 ?_
  refine lw_callx C h (mK7_order (G := (D, a7, cA, sK, sV)) C.2.2.2.2.2.2.2.1 q1) rfl bwK7_order x_l_L_23 ⟨Nat.le_of_ble_eq_true rfl, Nat.le_of_ble_eq_true rfl⟩ hl.1 rfl (Nat.le_of_ble_eq_true rfl) hcs dL_123 (fun H locs h => ?_)
  refine lv_aload_n hx hb dL_126 rfl (lv_at hl 2 rfl) ?_
  refine lv_aload_n hx hb dL_127 rfl (lv_at hl 0 rfl) ?_
  refine lv_iload_n hx hb dL_128 rfl (lv_at hl 3 rfl) ?_
  refine lv_iconst (v := 1) hx hb dL_129 (by decide) ?_
  refine lv_iadd hx hb dL_130 ?_
  refine va_sld hx hb hX hbl hbA h.2.2 (i_1 hi hLn) dL_131 ?_
  refine lv_aload_n hx hb dL_132 rfl (lv_at hl 0 rfl) ?_
  refine lv_iload_n hx hb dL_133 rfl (lv_at hl 3 rfl) ?_
  refine lv_iconst (v := 2) hx hb dL_134 (by decide) ?_
  refine lv_iadd hx hb dL_135 ?_
  refine va_sld hx hb hX hbl hbA h.2.2 (i_2 hi hLn) dL_136 ?_
  refine lw_callm C h (mK8_order (G := (D, a8, cA, sK, sV)) C.2.2.2.2.2.2.2.2.1 q2) rfl bwK8_order x_l_L_27 ⟨Nat.le_of_ble_eq_true rfl, Nat.le_of_ble_eq_true rfl⟩ hl.1 rfl (Nat.le_of_ble_eq_true rfl) hcs dL_137 (fun H locs h => ?_)
  refine lv_icmp_eq (tgt := 278) hx hb dL_140 (by decide) (fun _ => ?_) (fun z => absurd rfl z)
  exact nxt _ _ _ _ H locs ⟨o, z, hI.mono (by omega) (by omega), hR, hL, hz, hIz, hJz⟩ h
set_option maxRecDepth 100000 in
theorem lw_trader {p : Program} {l : Launch} {e : Env} {s : State} {m : MethodId} {args : Array Value} {below : List Frame} {meth : Method} {c : Code} {H : Heap} {locs : List Loc} {cells slots : Nat} {Q : State → Prop} {ls : Array Slot} {D : va_G} {cA : Nat → ClassId} {a7 a8 sK sV : Nat → Nat} {I J : FI} {L K : FL} {b Ln i n : Nat} {xs : Nat → Int32} (C : lw_C D cA a7 a8 sK sV p s m args c) (hX : va_X b Ln xs s s.heap) (hbl : b < s.heap.size) (hi : i + 4 ≤ Ln) (hLn : Ln ≤ 2048) (hn : n ≤ 511) (hcs : cells ≤ room_1.cells ∧ slots ≤ room_1.slots) (hv : lw_I I L J K n) (h : lw_W D cA a7 a8 sK sV I L J K s.heap H locs) (hl : lv_has ls 4 [(0, .ref b), (1, .ref (a7 0)), (2, .ref (a8 0)), (3, .int (nI i))])
    (nxt : ∀ (I : FI) (L : FL) (J : FI) (K : FL) (H : Heap) (locs : List Loc), lw_I I L J K (n + 1) → lw_W D cA a7 a8 sK sV I L J K s.heap H locs → W p l e room_1 s m args below meth c H locs cells slots Q (F0 m 278 ls [])) :
    W p l e room_1 s m args below meth c H locs cells slots Q (F0 m 145 ls []) := by
  obtain ⟨o, z, hI, hR, hL, hz, hIz, hJz⟩ := hv
  have hx := C.1
  have hb := C.2.1
  have hbA : ¬ (fun q : Nat => s.heap.size ≤ q) b := Nat.not_le.mpr hbl
  obtain ⟨r, q1, q2⟩ := trader_rel (xs (nI i + 1).toNatClampNeg) (xs (nI i + 2).toNatClampNeg) hI hR hL
  refine lv_aload_n hx hb dL_145 rfl (lv_at hl 1 rfl) ?_
  refine lv_aload_n hx hb dL_146 rfl (lv_at hl 0 rfl) ?_
  refine lv_iload_n hx hb dL_147 rfl (lv_at hl 3 rfl) ?_
  refine lv_iconst (v := 1) hx hb dL_148 (by decide) ?_
  refine lv_iadd hx hb dL_149 ?_
  refine va_sld hx hb hX hbl hbA h.2.2 (i_1 hi hLn) dL_150 ?_
  refine lv_aload_n hx hb dL_151 rfl (lv_at hl 0 rfl) ?_
  refine lv_iload_n hx hb dL_152 rfl (lv_at hl 3 rfl) ?_
  refine lv_iconst (v := 2) hx hb dL_153 (by decide) ?_
  refine lv_iadd hx hb dL_154 ?_
  refine va_sld hx hb hX hbl hbA h.2.2 (i_2 hi hLn) dL_155 ?_
  refine lw_callx C h (mK7_trader (G := (D, a7, cA, sK, sV)) C.2.2.2.2.2.2.2.1 q1) rfl bwK7_trader x_l_L_28 ⟨Nat.le_of_ble_eq_true rfl, Nat.le_of_ble_eq_true rfl⟩ hl.1 rfl (Nat.le_of_ble_eq_true rfl) hcs dL_156 (fun H locs h => ?_)
  refine lv_aload_n hx hb dL_159 rfl (lv_at hl 2 rfl) ?_
  refine lv_aload_n hx hb dL_160 rfl (lv_at hl 0 rfl) ?_
  refine lv_iload_n hx hb dL_161 rfl (lv_at hl 3 rfl) ?_
  refine lv_iconst (v := 1) hx hb dL_162 (by decide) ?_
  refine lv_iadd hx hb dL_163 ?_
  refine va_sld hx hb hX hbl hbA h.2.2 (i_1 hi hLn) dL_164 ?_
  refine lv_aload_n hx hb dL_165 rfl (lv_at hl 0 rfl) ?_
  refine lv_iload_n hx hb dL_166 rfl (lv_at hl 3 rfl) ?_
  refine lv_iconst (v := 2) hx hb dL_167 (by decide) ?_
  refine lv_iadd hx hb dL_168 ?_
  refine va_sld hx hb hX hbl hbA h.2.2 (i_2 hi hLn) dL_169 ?_
  refine lw_callm C h (mK8_trader (G := (D, a8, cA, sK, sV)) C.2.2.2.2.2.2.2.2.1 q2) rfl bwK8_trader x_l_L_32 ⟨Nat.le_of_ble_eq_true rfl, Nat.le_of_ble_eq_true rfl⟩ hl.1 rfl (Nat.le_of_ble_eq_true rfl) hcs dL_170 (fun H locs h => ?_)
  refine W.lcmp hx hb dL_173 ?_
  refine lv_if_eq (tgt := 278) hx hb dL_174 (by decide) (fun _ => ?_) (fun z => absurd (lg_self r) z)
  exact nxt _ _ _ _ H locs ⟨o, z, hI.mono (by omega) (by omega), hR, hL, hz, hIz, hJz⟩ h
set_option maxRecDepth 100000 in
theorem lw_level {p : Program} {l : Launch} {e : Env} {s : State} {m : MethodId} {args : Array Value} {below : List Frame} {meth : Method} {c : Code} {H : Heap} {locs : List Loc} {cells slots : Nat} {Q : State → Prop} {ls : Array Slot} {D : va_G} {cA : Nat → ClassId} {a7 a8 sK sV : Nat → Nat} {I J : FI} {L K : FL} {b Ln i n : Nat} {xs : Nat → Int32} (C : lw_C D cA a7 a8 sK sV p s m args c) (hX : va_X b Ln xs s s.heap) (hbl : b < s.heap.size) (hi : i + 4 ≤ Ln) (hLn : Ln ≤ 2048) (hn : n ≤ 511) (hcs : cells ≤ room_1.cells ∧ slots ≤ room_1.slots) (hv : lw_I I L J K n) (h : lw_W D cA a7 a8 sK sV I L J K s.heap H locs) (hl : lv_has ls 4 [(0, .ref b), (1, .ref (a7 0)), (2, .ref (a8 0)), (3, .int (nI i))])
    (nxt : ∀ (I : FI) (L : FL) (J : FI) (K : FL) (H : Heap) (locs : List Loc), lw_I I L J K (n + 1) → lw_W D cA a7 a8 sK sV I L J K s.heap H locs → W p l e room_1 s m args below meth c H locs cells slots Q (F0 m 278 ls [])) :
    W p l e room_1 s m args below meth c H locs cells slots Q (F0 m 179 ls []) := by
  obtain ⟨o, z, hI, hR, hL, hz, hIz, hJz⟩ := hv
  have hx := C.1
  have hb := C.2.1
  have hbA : ¬ (fun q : Nat => s.heap.size ≤ q) b := Nat.not_le.mpr hbl
  obtain ⟨r, q1, q2⟩ := level_rel (K := K) (xs (nI i + 1).toNatClampNeg) (xs (nI i + 2).toNatClampNeg) (xs (nI i + 3).toNatClampNeg) hI hR
  refine lv_aload_n hx hb dL_179 rfl (lv_at hl 1 rfl) ?_
  refine lv_aload_n hx hb dL_180 rfl (lv_at hl 0 rfl) ?_
  refine lv_iload_n hx hb dL_181 rfl (lv_at hl 3 rfl) ?_
  refine lv_iconst (v := 1) hx hb dL_182 (by decide) ?_
  refine lv_iadd hx hb dL_183 ?_
  refine va_sld hx hb hX hbl hbA h.2.2 (i_1 hi hLn) dL_184 ?_
  refine lv_aload_n hx hb dL_185 rfl (lv_at hl 0 rfl) ?_
  refine lv_iload_n hx hb dL_186 rfl (lv_at hl 3 rfl) ?_
  refine lv_iconst (v := 2) hx hb dL_187 (by decide) ?_
  refine lv_iadd hx hb dL_188 ?_
  refine va_sld hx hb hX hbl hbA h.2.2 (i_2 hi hLn) dL_189 ?_
  refine lv_aload_n hx hb dL_190 rfl (lv_at hl 0 rfl) ?_
  refine lv_iload_n hx hb dL_191 rfl (lv_at hl 3 rfl) ?_
  refine lv_iconst (v := 3) hx hb dL_192 (by decide) ?_
  refine lv_iadd hx hb dL_193 ?_
  refine va_sld hx hb hX hbl hbA h.2.2 (i_3 hi hLn) dL_194 ?_
  refine lw_callx C h (mK7_level (G := (D, a7, cA, sK, sV)) C.2.2.2.2.2.2.2.1 q1) rfl bwK7_level x_l_L_33 ⟨Nat.le_of_ble_eq_true rfl, Nat.le_of_ble_eq_true rfl⟩ hl.1 rfl (Nat.le_of_ble_eq_true rfl) hcs dL_195 (fun H locs h => ?_)
  refine lv_aload_n hx hb dL_198 rfl (lv_at hl 2 rfl) ?_
  refine lv_aload_n hx hb dL_199 rfl (lv_at hl 0 rfl) ?_
  refine lv_iload_n hx hb dL_200 rfl (lv_at hl 3 rfl) ?_
  refine lv_iconst (v := 1) hx hb dL_201 (by decide) ?_
  refine lv_iadd hx hb dL_202 ?_
  refine va_sld hx hb hX hbl hbA h.2.2 (i_1 hi hLn) dL_203 ?_
  refine lv_aload_n hx hb dL_204 rfl (lv_at hl 0 rfl) ?_
  refine lv_iload_n hx hb dL_205 rfl (lv_at hl 3 rfl) ?_
  refine lv_iconst (v := 2) hx hb dL_206 (by decide) ?_
  refine lv_iadd hx hb dL_207 ?_
  refine va_sld hx hb hX hbl hbA h.2.2 (i_2 hi hLn) dL_208 ?_
  refine lv_aload_n hx hb dL_209 rfl (lv_at hl 0 rfl) ?_
  refine lv_iload_n hx hb dL_210 rfl (lv_at hl 3 rfl) ?_
  refine lv_iconst (v := 3) hx hb dL_211 (by decide) ?_
  refine lv_iadd hx hb dL_212 ?_
  refine va_sld hx hb hX hbl hbA h.2.2 (i_3 hi hLn) dL_213 ?_
  refine lw_callm C h (mK8_level (G := (D, a8, cA, sK, sV)) C.2.2.2.2.2.2.2.2.1 q2) rfl bwK8_level x_l_L_37 ⟨Nat.le_of_ble_eq_true rfl, Nat.le_of_ble_eq_true rfl⟩ hl.1 rfl (Nat.le_of_ble_eq_true rfl) hcs dL_214 (fun H locs h => ?_)
  refine lv_icmp_eq (tgt := 278) hx hb dL_217 (by decide) (fun _ => ?_) (fun z => absurd rfl z)
  exact nxt _ _ _ _ H locs ⟨o, z, hI.mono (by omega) (by omega), hR, hL, hz, hIz, hJz⟩ h
set_option maxRecDepth 100000 in
theorem lw_trade {p : Program} {l : Launch} {e : Env} {s : State} {m : MethodId} {args : Array Value} {below : List Frame} {meth : Method} {c : Code} {H : Heap} {locs : List Loc} {cells slots : Nat} {Q : State → Prop} {ls : Array Slot} {D : va_G} {cA : Nat → ClassId} {a7 a8 sK sV : Nat → Nat} {I J : FI} {L K : FL} {b Ln i n : Nat} {xs : Nat → Int32} (C : lw_C D cA a7 a8 sK sV p s m args c) (hX : va_X b Ln xs s s.heap) (hbl : b < s.heap.size) (hi : i + 4 ≤ Ln) (hLn : Ln ≤ 2048) (hn : n ≤ 511) (hcs : cells ≤ room_1.cells ∧ slots ≤ room_1.slots) (hv : lw_I I L J K n) (h : lw_W D cA a7 a8 sK sV I L J K s.heap H locs) (hl : lv_has ls 4 [(0, .ref b), (1, .ref (a7 0)), (2, .ref (a8 0)), (3, .int (nI i))])
    (nxt : ∀ (I : FI) (L : FL) (J : FI) (K : FL) (H : Heap) (locs : List Loc), lw_I I L J K (n + 1) → lw_W D cA a7 a8 sK sV I L J K s.heap H locs → W p l e room_1 s m args below meth c H locs cells slots Q (F0 m 278 ls [])) :
    W p l e room_1 s m args below meth c H locs cells slots Q (F0 m 222 ls []) := by
  obtain ⟨o, z, hI, hR, hL, hz, hIz, hJz⟩ := hv
  have hx := C.1
  have hb := C.2.1
  have hbA : ¬ (fun q : Nat => s.heap.size ≤ q) b := Nat.not_le.mpr hbl
  obtain ⟨r, q1, q2⟩ := trade_rel (K := K) (xs (nI i + 1).toNatClampNeg) (xs (nI i + 2).toNatClampNeg) hI hR (by omega)
  refine lv_aload_n hx hb dL_222 rfl (lv_at hl 1 rfl) ?_
  refine lv_aload_n hx hb dL_223 rfl (lv_at hl 0 rfl) ?_
  refine lv_iload_n hx hb dL_224 rfl (lv_at hl 3 rfl) ?_
  refine lv_iconst (v := 1) hx hb dL_225 (by decide) ?_
  refine lv_iadd hx hb dL_226 ?_
  refine va_sld hx hb hX hbl hbA h.2.2 (i_1 hi hLn) dL_227 ?_
  refine lv_aload_n hx hb dL_228 rfl (lv_at hl 0 rfl) ?_
  refine lv_iload_n hx hb dL_229 rfl (lv_at hl 3 rfl) ?_
  refine lv_iconst (v := 2) hx hb dL_230 (by decide) ?_
  refine lv_iadd hx hb dL_231 ?_
  refine va_sld hx hb hX hbl hbA h.2.2 (i_2 hi hLn) dL_232 ?_
  refine lw_callx C h (mK7_trade (G := (D, a7, cA, sK, sV)) C.2.2.2.2.2.2.2.1 q1) rfl bwK7_trade x_l_L_38 ⟨Nat.le_of_ble_eq_true rfl, Nat.le_of_ble_eq_true rfl⟩ hl.1 rfl (Nat.le_of_ble_eq_true rfl) hcs dL_233 (fun H locs h => ?_)
  refine lv_aload_n hx hb dL_236 rfl (lv_at hl 2 rfl) ?_
  refine lv_aload_n hx hb dL_237 rfl (lv_at hl 0 rfl) ?_
  refine lv_iload_n hx hb dL_238 rfl (lv_at hl 3 rfl) ?_
  refine lv_iconst (v := 1) hx hb dL_239 (by decide) ?_
  refine lv_iadd hx hb dL_240 ?_
  refine va_sld hx hb hX hbl hbA h.2.2 (i_1 hi hLn) dL_241 ?_
  refine lv_aload_n hx hb dL_242 rfl (lv_at hl 0 rfl) ?_
  refine lv_iload_n hx hb dL_243 rfl (lv_at hl 3 rfl) ?_
  refine lv_iconst (v := 2) hx hb dL_244 (by decide) ?_
  refine lv_iadd hx hb dL_245 ?_
  refine va_sld hx hb hX hbl hbA h.2.2 (i_2 hi hLn) dL_246 ?_
  refine lw_callm C h (mK8_trade (G := (D, a8, cA, sK, sV)) C.2.2.2.2.2.2.2.2.1 q2) rfl bwK8_trade x_l_L_41 ⟨Nat.le_of_ble_eq_true rfl, Nat.le_of_ble_eq_true rfl⟩ hl.1 rfl (Nat.le_of_ble_eq_true rfl) hcs dL_247 (fun H locs h => ?_)
  refine lv_icmp_eq (tgt := 278) hx hb dL_250 (by decide) (fun _ => ?_) (fun z => absurd rfl z)
  exact nxt _ _ _ _ H locs ⟨o, z, hI.mono (by omega) (by omega), hR, hL, hz, hIz, hJz⟩ h
set_option maxRecDepth 100000 in
theorem lw_count {p : Program} {l : Launch} {e : Env} {s : State} {m : MethodId} {args : Array Value} {below : List Frame} {meth : Method} {c : Code} {H : Heap} {locs : List Loc} {cells slots : Nat} {Q : State → Prop} {ls : Array Slot} {D : va_G} {cA : Nat → ClassId} {a7 a8 sK sV : Nat → Nat} {I J : FI} {L K : FL} {b Ln i n : Nat} {xs : Nat → Int32} (C : lw_C D cA a7 a8 sK sV p s m args c) (hX : va_X b Ln xs s s.heap) (hbl : b < s.heap.size) (hi : i + 4 ≤ Ln) (hLn : Ln ≤ 2048) (hn : n ≤ 511) (hcs : cells ≤ room_1.cells ∧ slots ≤ room_1.slots) (hv : lw_I I L J K n) (h : lw_W D cA a7 a8 sK sV I L J K s.heap H locs) (hl : lv_has ls 4 [(0, .ref b), (1, .ref (a7 0)), (2, .ref (a8 0)), (3, .int (nI i))])
    (nxt : ∀ (I : FI) (L : FL) (J : FI) (K : FL) (H : Heap) (locs : List Loc), lw_I I L J K (n + 1) → lw_W D cA a7 a8 sK sV I L J K s.heap H locs → W p l e room_1 s m args below meth c H locs cells slots Q (F0 m 278 ls [])) :
    W p l e room_1 s m args below meth c H locs cells slots Q (F0 m 255 ls []) := by
  obtain ⟨o, z, hI, hR, hL, hz, hIz, hJz⟩ := hv
  have hx := C.1
  have hb := C.2.1
  have hbA : ¬ (fun q : Nat => s.heap.size ≤ q) b := Nat.not_le.mpr hbl
  obtain ⟨r, q1, q2⟩ := count_rel (K := K) (xs (nI i + 1).toNatClampNeg) hI hR hIz hJz
  refine lv_aload_n hx hb dL_255 rfl (lv_at hl 1 rfl) ?_
  refine lv_aload_n hx hb dL_256 rfl (lv_at hl 0 rfl) ?_
  refine lv_iload_n hx hb dL_257 rfl (lv_at hl 3 rfl) ?_
  refine lv_iconst (v := 1) hx hb dL_258 (by decide) ?_
  refine lv_iadd hx hb dL_259 ?_
  refine va_sld hx hb hX hbl hbA h.2.2 (i_1 hi hLn) dL_260 ?_
  refine lw_callx C h (mK7_count (G := (D, a7, cA, sK, sV)) C.2.2.2.2.2.2.2.1 q1) rfl bwK7_count x_l_L_42 ⟨Nat.le_of_ble_eq_true rfl, Nat.le_of_ble_eq_true rfl⟩ hl.1 rfl (Nat.le_of_ble_eq_true rfl) hcs dL_261 (fun H locs h => ?_)
  refine lv_aload_n hx hb dL_264 rfl (lv_at hl 2 rfl) ?_
  refine lv_aload_n hx hb dL_265 rfl (lv_at hl 0 rfl) ?_
  refine lv_iload_n hx hb dL_266 rfl (lv_at hl 3 rfl) ?_
  refine lv_iconst (v := 1) hx hb dL_267 (by decide) ?_
  refine lv_iadd hx hb dL_268 ?_
  refine va_sld hx hb hX hbl hbA h.2.2 (i_1 hi hLn) dL_269 ?_
  refine lw_callm C h (mK8_count (G := (D, a8, cA, sK, sV)) C.2.2.2.2.2.2.2.2.1 q2) rfl bwK8_count x_l_L_45 ⟨Nat.le_of_ble_eq_true rfl, Nat.le_of_ble_eq_true rfl⟩ hl.1 rfl (Nat.le_of_ble_eq_true rfl) hcs dL_270 (fun H locs h => ?_)
  refine lv_icmp_eq (tgt := 278) hx hb dL_273 (by decide) (fun _ => ?_) (fun z => absurd rfl z)
  exact nxt _ _ _ _ H locs ⟨o, z, hI.mono (by omega) (by omega), hR, hL, hz, hIz, hJz⟩ h
set_option maxRecDepth 100000 in
/-- one turn of the loop -/
theorem lw_turn {p : Program} {l : Launch} {e : Env} {s : State} {m : MethodId} {args : Array Value} {below : List Frame} {meth : Method} {c : Code} {H : Heap} {locs : List Loc} {cells slots : Nat} {Q : State → Prop} {ls : Array Slot} {D : va_G} {cA : Nat → ClassId} {a7 a8 sK sV : Nat → Nat} {I J : FI} {L K : FL} {b Ln n : Nat} {xs : Nat → Int32} (C : lw_C D cA a7 a8 sK sV p s m args c) (hX : va_X b Ln xs s s.heap) (hbl : b < s.heap.size) (hLn : Ln ≤ 2048) (hn : n ≤ 513) (hcs : cells ≤ room_1.cells ∧ slots ≤ room_1.slots) (hv : lw_I I L J K n) (h : lw_W D cA a7 a8 sK sV I L J K s.heap H locs) (hl : lv_has ls 4 [(0, .ref b), (1, .ref (a7 0)), (2, .ref (a8 0)), (3, .int (nI (4 * n)))])
    (fin : ∀ (H : Heap) (locs : List Loc) (ls : Array Slot), va_S (fun q => s.heap.size ≤ q) s.heap H locs → W p l e room_1 s m args below meth c H locs cells slots Q (F0 m 284 ls []))
    (nxt : 4 * n + 4 ≤ Ln → ∀ (I : FI) (L : FL) (J : FI) (K : FL) (H : Heap) (locs : List Loc) (ls : Array Slot), lw_I I L J K (n + 1) → lw_W D cA a7 a8 sK sV I L J K s.heap H locs → lv_has ls 4 [(0, .ref b), (1, .ref (a7 0)), (2, .ref (a8 0)), (3, .int (nI (4 * (n + 1))))] → W p l e room_1 s m args below meth c H locs cells slots Q (F0 m 18 ls [])) :
    W p l e room_1 s m args below meth c H locs cells slots Q (F0 m 18 ls []) := by
  have hx := C.1
  have hb := C.2.1
  have hbA : ¬ (fun q : Nat => s.heap.size ≤ q) b := Nat.not_le.mpr hbl
  refine lv_iload_n hx hb dL_18 rfl (lv_at hl 3 rfl) ?_
  refine lv_aload_n hx hb dL_19 rfl (lv_at hl 0 rfl) ?_
  refine va_slen hx hb hX hbl hbA h.2.2 dL_20 ?_
  refine lv_iconst (v := 4) hx hb dL_21 (by decide) ?_
  refine lv_isub hx hb dL_22 ?_
  refine lv_icmp_gt (tgt := 284) hx hb dL_23 (by decide) (fun cc => ?_) (fun cc => ?_)
  · exact fin H locs ls h.2.2
  have hi : 4 * n + 4 ≤ Ln := by
    rcases Nat.lt_or_ge Ln (4 * n + 4) with q | q
    · exact absurd ((lw_more (i := 4 * n) (by omega) hLn).mpr q) cc
    · exact q
  have hn1 : n ≤ 511 := by omega
  have go : ∀ (I : FI) (L : FL) (J : FI) (K : FL) (H : Heap) (locs : List Loc), lw_I I L J K (n + 1) → lw_W D cA a7 a8 sK sV I L J K s.heap H locs → W p l e room_1 s m args below meth c H locs cells slots Q (F0 m 278 ls []) := by
    intro I L J K H locs hv h
    refine lv_iinc (v := nI (4 * (n + 1))) (lv' := [(3, .int (nI (4 * (n + 1)))), (0, .ref b), (1, .ref (a7 0)), (2, .ref (a8 0))]) hx hb dL_278 hl (k := 3) rfl (by rw [show 4 * (n + 1) = 4 * n + 4 by omega, ← nI_add]; rfl) (by decide) rfl (fun ls hl => ?_)
    refine lv_goto (tgt := 18) hx hb dL_281 (by decide) ?_
    exact nxt hi I L J K H locs ls hv h (lv_sub hl [1, 2, 3, 0] rfl)
  refine lv_aload_n hx hb dL_26 rfl (lv_at hl 0 rfl) ?_
  refine lv_iload_n hx hb dL_27 rfl (lv_at hl 3 rfl) ?_
  refine va_sld hx hb hX hbl hbA h.2.2 (vp_in_nI (show 4 * n < Ln by omega) (by omega)) dL_28 ?_
  refine lv_bipush (v := 7) hx hb dL_29 (by decide) ?_
  refine lv_iand hx hb dL_31 ?_
  obtain ⟨j, hj, ej⟩ := low7 (xs (nI (4 * n)).toNatClampNeg)
  rw [ej]
  rcases (show j = 0 ∨ j = 1 ∨ j = 2 ∨ j = 3 ∨ j = 4 ∨ j = 5 ∨ j = 6 ∨ j = 7 by omega) with rfl | rfl | rfl | rfl | rfl | rfl | rfl | rfl
  · refine lv_tableIn (off := 44) (tgt := 76) hx hb dL_32 (by decide) (by decide) (by decide) (by decide) ?_
    exact lw_feed C hX hbl hi hLn hn1 hcs hv h hl go
  · refine lv_tableIn (off := 67) (tgt := 99) hx hb dL_32 (by decide) (by decide) (by decide) (by decide) ?_
    exact lw_line C hX hbl hi hLn hn1 hcs hv h hl go
  · refine lv_tableIn (off := 80) (tgt := 112) hx hb dL_32 (by decide) (by decide) (by decide) (by decide) ?_
    exact lw_order C hX hbl hi hLn hn1 hcs hv h hl go
  · refine lv_tableIn (off := 113) (tgt := 145) hx hb dL_32 (by decide) (by decide) (by decide) (by decide) ?_
    exact lw_trader C hX hbl hi hLn hn1 hcs hv h hl go
  · refine lv_tableIn (off := 147) (tgt := 179) hx hb dL_32 (by decide) (by decide) (by decide) (by decide) ?_
    exact lw_level C hX hbl hi hLn hn1 hcs hv h hl go
  · refine lv_tableIn (off := 190) (tgt := 222) hx hb dL_32 (by decide) (by decide) (by decide) (by decide) ?_
    exact lw_trade C hX hbl hi hLn hn1 hcs hv h hl go
  · refine lv_tableIn (off := 223) (tgt := 255) hx hb dL_32 (by decide) (by decide) (by decide) (by decide) ?_
    exact lw_count C hX hbl hi hLn hn1 hcs hv h hl go
  · refine lv_tableOut (tgt := 278) hx hb dL_32 (Or.inr (by decide)) (by decide) ?_
    obtain ⟨o, z, hI, hR, hL, hz, hIz, hJz⟩ := hv
    exact go _ _ _ _ H locs ⟨o, z, hI.mono (by omega) (by omega), hR, hL, hz, hIz, hJz⟩ h
theorem lw_loop {p : Program} {l : Launch} {e : Env} {s : State} {m : MethodId} {args : Array Value} {below : List Frame} {meth : Method} {c : Code} {cells slots : Nat} {Q : State → Prop} {D : va_G} {cA : Nat → ClassId} {a7 a8 sK sV : Nat → Nat} {b Ln : Nat} {xs : Nat → Int32} (C : lw_C D cA a7 a8 sK sV p s m args c) (hX : va_X b Ln xs s s.heap) (hbl : b < s.heap.size) (hLn : Ln ≤ 2048) (hcs : cells ≤ room_1.cells ∧ slots ≤ room_1.slots)
    (fin : ∀ (H : Heap) (locs : List Loc) (ls : Array Slot), va_S (fun q => s.heap.size ≤ q) s.heap H locs → W p l e room_1 s m args below meth c H locs cells slots Q (F0 m 284 ls [])) :
    ∀ (d n : Nat) (I : FI) (L : FL) (J : FI) (K : FL) (H : Heap) (locs : List Loc) (ls : Array Slot), n + d = 513 → lw_I I L J K n → lw_W D cA a7 a8 sK sV I L J K s.heap H locs → lv_has ls 4 [(0, .ref b), (1, .ref (a7 0)), (2, .ref (a8 0)), (3, .int (nI (4 * n)))] → W p l e room_1 s m args below meth c H locs cells slots Q (F0 m 18 ls []) := by
  intro d
  induction d with
  | zero => intro n I L J K H locs ls hd hv h hl; exact lw_turn C hX hbl hLn (by omega) hcs hv h hl fin (fun q => absurd q (by omega))
  | succ d ih => intro n I L J K H locs ls hd hv h hl; exact lw_turn C hX hbl hLn (by omega) hcs hv h hl fin (fun _ I L J K H locs ls hv h hl => ih (n + 1) I L J K H locs ls (by omega) hv h hl)
