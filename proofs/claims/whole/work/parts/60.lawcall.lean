/-! the law: decode rows, tables at the start, calls -/
theorem dL_0 : decode code 0 = .ok (.new 7, 3) := by decide +kernel
theorem dL_3 : decode code 3 = .ok (.dup, 1) := by decide +kernel
theorem dL_4 : decode code 4 = .ok (.invokespecial 9, 3) := by decide +kernel
theorem dL_7 : decode code 7 = .ok (.astore_n 1, 1) := by decide +kernel
theorem dL_8 : decode code 8 = .ok (.new 10, 3) := by decide +kernel
theorem dL_11 : decode code 11 = .ok (.dup, 1) := by decide +kernel
theorem dL_12 : decode code 12 = .ok (.invokespecial 12, 3) := by decide +kernel
theorem dL_15 : decode code 15 = .ok (.astore_n 2, 1) := by decide +kernel
theorem dL_16 : decode code 16 = .ok (.iconst 0, 1) := by decide +kernel
theorem dL_17 : decode code 17 = .ok (.istore_n 3, 1) := by decide +kernel
theorem dL_18 : decode code 18 = .ok (.iload_n 3, 1) := by decide +kernel
theorem dL_19 : decode code 19 = .ok (.aload_n 0, 1) := by decide +kernel
theorem dL_20 : decode code 20 = .ok (.arraylength, 1) := by decide +kernel
theorem dL_21 : decode code 21 = .ok (.iconst 4, 1) := by decide +kernel
theorem dL_22 : decode code 22 = .ok (.isub, 1) := by decide +kernel
theorem dL_23 : decode code 23 = .ok (.if_icmp .gt 261, 3) := by decide +kernel
theorem dL_26 : decode code 26 = .ok (.aload_n 0, 1) := by decide +kernel
theorem dL_27 : decode code 27 = .ok (.iload_n 3, 1) := by decide +kernel
theorem dL_28 : decode code 28 = .ok (.iaload, 1) := by decide +kernel
theorem dL_29 : decode code 29 = .ok (.bipush 7, 2) := by decide +kernel
theorem dL_31 : decode code 31 = .ok (.iand, 1) := by decide +kernel
theorem dL_32 : decode code 32 = .ok (.tableswitch 246 0 6 #[44, 67, 80, 113, 147, 190, 223], 44) := by decide +kernel
theorem dL_76 : decode code 76 = .ok (.aload_n 1, 1) := by decide +kernel
theorem dL_77 : decode code 77 = .ok (.aload_n 0, 1) := by decide +kernel
theorem dL_78 : decode code 78 = .ok (.iload_n 3, 1) := by decide +kernel
theorem dL_79 : decode code 79 = .ok (.iconst 1, 1) := by decide +kernel
theorem dL_80 : decode code 80 = .ok (.iadd, 1) := by decide +kernel
theorem dL_81 : decode code 81 = .ok (.iaload, 1) := by decide +kernel
theorem dL_82 : decode code 82 = .ok (.invokevirtual 13, 3) := by decide +kernel
theorem dL_85 : decode code 85 = .ok (.aload_n 2, 1) := by decide +kernel
theorem dL_86 : decode code 86 = .ok (.aload_n 0, 1) := by decide +kernel
theorem dL_87 : decode code 87 = .ok (.iload_n 3, 1) := by decide +kernel
theorem dL_88 : decode code 88 = .ok (.iconst 1, 1) := by decide +kernel
theorem dL_89 : decode code 89 = .ok (.iadd, 1) := by decide +kernel
theorem dL_90 : decode code 90 = .ok (.iaload, 1) := by decide +kernel
theorem dL_91 : decode code 91 = .ok (.invokevirtual 17, 3) := by decide +kernel
theorem dL_94 : decode code 94 = .ok (.if_icmp .eq 184, 3) := by decide +kernel
theorem dL_97 : decode code 97 = .ok (.iconst 0, 1) := by decide +kernel
theorem dL_98 : decode code 98 = .ok (.ireturn, 1) := by decide +kernel
theorem dL_99 : decode code 99 = .ok (.aload_n 1, 1) := by decide +kernel
theorem dL_100 : decode code 100 = .ok (.invokevirtual 18, 3) := by decide +kernel
theorem dL_103 : decode code 103 = .ok (.aload_n 2, 1) := by decide +kernel
theorem dL_104 : decode code 104 = .ok (.invokevirtual 22, 3) := by decide +kernel
theorem dL_107 : decode code 107 = .ok (.if_icmp .eq 171, 3) := by decide +kernel
theorem dL_110 : decode code 110 = .ok (.iconst 0, 1) := by decide +kernel
theorem dL_111 : decode code 111 = .ok (.ireturn, 1) := by decide +kernel
theorem dL_112 : decode code 112 = .ok (.aload_n 1, 1) := by decide +kernel
theorem dL_113 : decode code 113 = .ok (.aload_n 0, 1) := by decide +kernel
theorem dL_114 : decode code 114 = .ok (.iload_n 3, 1) := by decide +kernel
theorem dL_115 : decode code 115 = .ok (.iconst 1, 1) := by decide +kernel
theorem dL_116 : decode code 116 = .ok (.iadd, 1) := by decide +kernel
theorem dL_117 : decode code 117 = .ok (.iaload, 1) := by decide +kernel
theorem dL_118 : decode code 118 = .ok (.aload_n 0, 1) := by decide +kernel
theorem dL_119 : decode code 119 = .ok (.iload_n 3, 1) := by decide +kernel
theorem dL_120 : decode code 120 = .ok (.iconst 2, 1) := by decide +kernel
theorem dL_121 : decode code 121 = .ok (.iadd, 1) := by decide +kernel
theorem dL_122 : decode code 122 = .ok (.iaload, 1) := by decide +kernel
theorem dL_123 : decode code 123 = .ok (.invokevirtual 23, 3) := by decide +kernel
theorem dL_126 : decode code 126 = .ok (.aload_n 2, 1) := by decide +kernel
theorem dL_127 : decode code 127 = .ok (.aload_n 0, 1) := by decide +kernel
theorem dL_128 : decode code 128 = .ok (.iload_n 3, 1) := by decide +kernel
theorem dL_129 : decode code 129 = .ok (.iconst 1, 1) := by decide +kernel
theorem dL_130 : decode code 130 = .ok (.iadd, 1) := by decide +kernel
theorem dL_131 : decode code 131 = .ok (.iaload, 1) := by decide +kernel
theorem dL_132 : decode code 132 = .ok (.aload_n 0, 1) := by decide +kernel
theorem dL_133 : decode code 133 = .ok (.iload_n 3, 1) := by decide +kernel
theorem dL_134 : decode code 134 = .ok (.iconst 2, 1) := by decide +kernel
theorem dL_135 : decode code 135 = .ok (.iadd, 1) := by decide +kernel
theorem dL_136 : decode code 136 = .ok (.iaload, 1) := by decide +kernel
theorem dL_137 : decode code 137 = .ok (.invokevirtual 27, 3) := by decide +kernel
theorem dL_140 : decode code 140 = .ok (.if_icmp .eq 138, 3) := by decide +kernel
theorem dL_143 : decode code 143 = .ok (.iconst 0, 1) := by decide +kernel
theorem dL_144 : decode code 144 = .ok (.ireturn, 1) := by decide +kernel
theorem dL_145 : decode code 145 = .ok (.aload_n 1, 1) := by decide +kernel
theorem dL_146 : decode code 146 = .ok (.aload_n 0, 1) := by decide +kernel
theorem dL_147 : decode code 147 = .ok (.iload_n 3, 1) := by decide +kernel
theorem dL_148 : decode code 148 = .ok (.iconst 1, 1) := by decide +kernel
theorem dL_149 : decode code 149 = .ok (.iadd, 1) := by decide +kernel
theorem dL_150 : decode code 150 = .ok (.iaload, 1) := by decide +kernel
theorem dL_151 : decode code 151 = .ok (.aload_n 0, 1) := by decide +kernel
theorem dL_152 : decode code 152 = .ok (.iload_n 3, 1) := by decide +kernel
theorem dL_153 : decode code 153 = .ok (.iconst 2, 1) := by decide +kernel
theorem dL_154 : decode code 154 = .ok (.iadd, 1) := by decide +kernel
theorem dL_155 : decode code 155 = .ok (.iaload, 1) := by decide +kernel
theorem dL_156 : decode code 156 = .ok (.invokevirtual 28, 3) := by decide +kernel
theorem dL_159 : decode code 159 = .ok (.aload_n 2, 1) := by decide +kernel
theorem dL_160 : decode code 160 = .ok (.aload_n 0, 1) := by decide +kernel
theorem dL_161 : decode code 161 = .ok (.iload_n 3, 1) := by decide +kernel
theorem dL_162 : decode code 162 = .ok (.iconst 1, 1) := by decide +kernel
theorem dL_163 : decode code 163 = .ok (.iadd, 1) := by decide +kernel
theorem dL_164 : decode code 164 = .ok (.iaload, 1) := by decide +kernel
theorem dL_165 : decode code 165 = .ok (.aload_n 0, 1) := by decide +kernel
theorem dL_166 : decode code 166 = .ok (.iload_n 3, 1) := by decide +kernel
theorem dL_167 : decode code 167 = .ok (.iconst 2, 1) := by decide +kernel
theorem dL_168 : decode code 168 = .ok (.iadd, 1) := by decide +kernel
theorem dL_169 : decode code 169 = .ok (.iaload, 1) := by decide +kernel
theorem dL_170 : decode code 170 = .ok (.invokevirtual 32, 3) := by decide +kernel
theorem dL_173 : decode code 173 = .ok (.lcmp, 1) := by decide +kernel
theorem dL_174 : decode code 174 = .ok (.ifCond .eq 104, 3) := by decide +kernel
theorem dL_177 : decode code 177 = .ok (.iconst 0, 1) := by decide +kernel
theorem dL_178 : decode code 178 = .ok (.ireturn, 1) := by decide +kernel
theorem dL_179 : decode code 179 = .ok (.aload_n 1, 1) := by decide +kernel
theorem dL_180 : decode code 180 = .ok (.aload_n 0, 1) := by decide +kernel
theorem dL_181 : decode code 181 = .ok (.iload_n 3, 1) := by decide +kernel
theorem dL_182 : decode code 182 = .ok (.iconst 1, 1) := by decide +kernel
theorem dL_183 : decode code 183 = .ok (.iadd, 1) := by decide +kernel
theorem dL_184 : decode code 184 = .ok (.iaload, 1) := by decide +kernel
theorem dL_185 : decode code 185 = .ok (.aload_n 0, 1) := by decide +kernel
theorem dL_186 : decode code 186 = .ok (.iload_n 3, 1) := by decide +kernel
theorem dL_187 : decode code 187 = .ok (.iconst 2, 1) := by decide +kernel
theorem dL_188 : decode code 188 = .ok (.iadd, 1) := by decide +kernel
theorem dL_189 : decode code 189 = .ok (.iaload, 1) := by decide +kernel
theorem dL_190 : decode code 190 = .ok (.aload_n 0, 1) := by decide +kernel
theorem dL_191 : decode code 191 = .ok (.iload_n 3, 1) := by decide +kernel
theorem dL_192 : decode code 192 = .ok (.iconst 3, 1) := by decide +kernel
theorem dL_193 : decode code 193 = .ok (.iadd, 1) := by decide +kernel
theorem dL_194 : decode code 194 = .ok (.iaload, 1) := by decide +kernel
theorem dL_195 : decode code 195 = .ok (.invokevirtual 33, 3) := by decide +kernel
theorem dL_198 : decode code 198 = .ok (.aload_n 2, 1) := by decide +kernel
theorem dL_199 : decode code 199 = .ok (.aload_n 0, 1) := by decide +kernel
theorem dL_200 : decode code 200 = .ok (.iload_n 3, 1) := by decide +kernel
theorem dL_201 : decode code 201 = .ok (.iconst 1, 1) := by decide +kernel
theorem dL_202 : decode code 202 = .ok (.iadd, 1) := by decide +kernel
theorem dL_203 : decode code 203 = .ok (.iaload, 1) := by decide +kernel
theorem dL_204 : decode code 204 = .ok (.aload_n 0, 1) := by decide +kernel
theorem dL_205 : decode code 205 = .ok (.iload_n 3, 1) := by decide +kernel
theorem dL_206 : decode code 206 = .ok (.iconst 2, 1) := by decide +kernel
theorem dL_207 : decode code 207 = .ok (.iadd, 1) := by decide +kernel
theorem dL_208 : decode code 208 = .ok (.iaload, 1) := by decide +kernel
theorem dL_209 : decode code 209 = .ok (.aload_n 0, 1) := by decide +kernel
theorem dL_210 : decode code 210 = .ok (.iload_n 3, 1) := by decide +kernel
theorem dL_211 : decode code 211 = .ok (.iconst 3, 1) := by decide +kernel
theorem dL_212 : decode code 212 = .ok (.iadd, 1) := by decide +kernel
theorem dL_213 : decode code 213 = .ok (.iaload, 1) := by decide +kernel
theorem dL_214 : decode code 214 = .ok (.invokevirtual 37, 3) := by decide +kernel
theorem dL_217 : decode code 217 = .ok (.if_icmp .eq 61, 3) := by decide +kernel
theorem dL_220 : decode code 220 = .ok (.iconst 0, 1) := by decide +kernel
theorem dL_221 : decode code 221 = .ok (.ireturn, 1) := by decide +kernel
theorem dL_222 : decode code 222 = .ok (.aload_n 1, 1) := by decide +kernel
theorem dL_223 : decode code 223 = .ok (.aload_n 0, 1) := by decide +kernel
theorem dL_224 : decode code 224 = .ok (.iload_n 3, 1) := by decide +kernel
theorem dL_225 : decode code 225 = .ok (.iconst 1, 1) := by decide +kernel
theorem dL_226 : decode code 226 = .ok (.iadd, 1) := by decide +kernel
theorem dL_227 : decode code 227 = .ok (.iaload, 1) := by decide +kernel
theorem dL_228 : decode code 228 = .ok (.aload_n 0, 1) := by decide +kernel
theorem dL_229 : decode code 229 = .ok (.iload_n 3, 1) := by decide +kernel
theorem dL_230 : decode code 230 = .ok (.iconst 2, 1) := by decide +kernel
theorem dL_231 : decode code 231 = .ok (.iadd, 1) := by decide +kernel
theorem dL_232 : decode code 232 = .ok (.iaload, 1) := by decide +kernel
theorem dL_233 : decode code 233 = .ok (.invokevirtual 38, 3) := by decide +kernel
theorem dL_236 : decode code 236 = .ok (.aload_n 2, 1) := by decide +kernel
theorem dL_237 : decode code 237 = .ok (.aload_n 0, 1) := by decide +kernel
theorem dL_238 : decode code 238 = .ok (.iload_n 3, 1) := by decide +kernel
theorem dL_239 : decode code 239 = .ok (.iconst 1, 1) := by decide +kernel
theorem dL_240 : decode code 240 = .ok (.iadd, 1) := by decide +kernel
theorem dL_241 : decode code 241 = .ok (.iaload, 1) := by decide +kernel
theorem dL_242 : decode code 242 = .ok (.aload_n 0, 1) := by decide +kernel
theorem dL_243 : decode code 243 = .ok (.iload_n 3, 1) := by decide +kernel
theorem dL_244 : decode code 244 = .ok (.iconst 2, 1) := by decide +kernel
theorem dL_245 : decode code 245 = .ok (.iadd, 1) := by decide +kernel
theorem dL_246 : decode code 246 = .ok (.iaload, 1) := by decide +kernel
theorem dL_247 : decode code 247 = .ok (.invokevirtual 41, 3) := by decide +kernel
theorem dL_250 : decode code 250 = .ok (.if_icmp .eq 28, 3) := by decide +kernel
theorem dL_253 : decode code 253 = .ok (.iconst 0, 1) := by decide +kernel
theorem dL_254 : decode code 254 = .ok (.ireturn, 1) := by decide +kernel
theorem dL_255 : decode code 255 = .ok (.aload_n 1, 1) := by decide +kernel
theorem dL_256 : decode code 256 = .ok (.aload_n 0, 1) := by decide +kernel
theorem dL_257 : decode code 257 = .ok (.iload_n 3, 1) := by decide +kernel
theorem dL_258 : decode code 258 = .ok (.iconst 1, 1) := by decide +kernel
theorem dL_259 : decode code 259 = .ok (.iadd, 1) := by decide +kernel
theorem dL_260 : decode code 260 = .ok (.iaload, 1) := by decide +kernel
theorem dL_261 : decode code 261 = .ok (.invokevirtual 42, 3) := by decide +kernel
theorem dL_264 : decode code 264 = .ok (.aload_n 2, 1) := by decide +kernel
theorem dL_265 : decode code 265 = .ok (.aload_n 0, 1) := by decide +kernel
theorem dL_266 : decode code 266 = .ok (.iload_n 3, 1) := by decide +kernel
theorem dL_267 : decode code 267 = .ok (.iconst 1, 1) := by decide +kernel
theorem dL_268 : decode code 268 = .ok (.iadd, 1) := by decide +kernel
theorem dL_269 : decode code 269 = .ok (.iaload, 1) := by decide +kernel
theorem dL_270 : decode code 270 = .ok (.invokevirtual 45, 3) := by decide +kernel
theorem dL_273 : decode code 273 = .ok (.if_icmp .eq 5, 3) := by decide +kernel
theorem dL_276 : decode code 276 = .ok (.iconst 0, 1) := by decide +kernel
theorem dL_277 : decode code 277 = .ok (.ireturn, 1) := by decide +kernel
theorem dL_278 : decode code 278 = .ok (.iinc 3 4, 3) := by decide +kernel
theorem dL_281 : decode code 281 = .ok (.goto (-263), 3) := by decide +kernel
theorem dL_284 : decode code 284 = .ok (.iconst 1, 1) := by decide +kernel
theorem dL_285 : decode code 285 = .ok (.ireturn, 1) := by decide +kernel
theorem gT_sub {w : Cond} (h : w ∈ gT) : w ∈ lw_tbl := (List.mem_filter.mp h).1
theorem lw_ar {args : Array Value} {s : State} {ty : FieldType} (h : (Cond.arrayClass ty).before args s = true) : ∃ c : ClassId, ArrOfT s c ty ∧ s.vm.findClass ("[" ++ ty.toString) = some c := by
  obtain ⟨cA, kA, comp, h1, h2, h3⟩ := Cond.arrayClass_spec h
  exact ⟨cA, fun n z => ⟨fun k h => (by cases h), kA, h2, comp, h3⟩, h1⟩
theorem lw_aro {args : Array Value} {s : State} {C : String} (h : (Cond.arrayOver (.object C)).before args s = true) : ∃ c : ClassId, ArrOfT s c (.object C) ∧ va_RA s c (.object C) := by
  obtain ⟨comp, cA, kA, h1, -, h2, h3, h4⟩ := Cond.arrayOver_spec h
  exact ⟨cA, fun n z => ⟨fun k h => (by cases h), kA, h2, comp, h3⟩, kA, comp, h2, h3, h1, h4⟩
theorem lw_K {args : Array Value} {s : State} (hts : ∀ w ∈ lw_tbl, w.before args s = true) : ∃ (D : va_G) (cA : Nat → ClassId), va_K D vCl (tyC cA) s := by
  have htg : ∀ w ∈ gT, w.before args s = true := fun w hw => hts w (gT_sub hw)
  obtain ⟨c0, i0, k0⟩ := u_known (C := "TradeFloor$Account") (T := T0) (N := 4) (n := 4) htg in0 (htg _ x_n0)
  obtain ⟨c1, i1, k1⟩ := u_known (C := "TradeFloor$Command") (T := T1) (N := 9) (n := 9) htg in1 (htg _ x_n1)
  obtain ⟨c2, i2, k2⟩ := u_known (C := "TradeFloor$Exchange") (T := T2) (N := 5) (n := 5) htg in2 (htg _ x_n2)
  obtain ⟨c3, i3, k3⟩ := u_known (C := "TradeFloor$Order") (T := T3) (N := 6) (n := 6) htg in3 (htg _ x_n3)
  obtain ⟨c4, i4, k4⟩ := u_known (C := "TradeFloor$Orders") (T := T4) (N := 2) (n := 2) htg in4 (htg _ x_n4)
  obtain ⟨c5, i5, k5⟩ := u_known (C := "TradeFloor$Tape") (T := T5) (N := 5) (n := 5) htg in5 (htg _ x_n5)
  obtain ⟨c6, i6, k6⟩ := u_known (C := "TradeFloor$Trades") (T := T6) (N := 5) (n := 5) htg in6 (htg _ x_n6)
  obtain ⟨c7, i7, k7⟩ := u_known (C := "TradeFloor") (T := T7) (N := 4) (n := 4) htg in7 (htg _ x_n7)
  obtain ⟨c8, i8, k8⟩ := u_known (C := "TradeFloorModel") (T := T8) (N := 22) (n := 22) htg in8 (htg _ x_n8)
  obtain ⟨e0, f0, g0⟩ := lw_ar (htg _ x_aint)
  obtain ⟨e1, f1, g1⟩ := lw_ar (htg _ x_along)
  obtain ⟨e2, f2, g2⟩ := lw_aro (hts _ x_v3)
  obtain ⟨e3, f3, g3⟩ := lw_aro (hts _ x_v0)
  refine ⟨(fun k => match k with
    | 0 => c0
    | 1 => c1
    | 2 => c2
    | 3 => c3
    | 4 => c4
    | 5 => c5
    | 6 => c6
    | 7 => c7
    | _ => c8, fun k => match k with
    | 0 => i0
    | 1 => i1
    | 2 => i2
    | 3 => i3
    | 4 => i4
    | 5 => i5
    | 6 => i6
    | 7 => i7
    | _ => i8), fun k => match k with
    | 0 => e0
    | 1 => e1
    | 2 => e2
    | _ => e3, ?_, ?_⟩
  · intro k q hq
    match k, hq with
    | 0, hq => cases hq; exact k0
    | 1, hq => cases hq; exact k1
    | 2, hq => cases hq; exact k2
    | 3, hq => cases hq; exact k3
    | 4, hq => cases hq; exact k4
    | 5, hq => cases hq; exact k5
    | 6, hq => cases hq; exact k6
    | 7, hq => cases hq; exact k7
    | 8, hq => cases hq; exact k8
    | k + 9, hq => exact absurd (List.getElem?_eq_some_iff.mp hq).1 (by show ¬ k + 9 < 9; omega)
  · intro k q hq
    match k, hq with
    | 0, hq => cases hq; exact ⟨f0, g0⟩
    | 1, hq => cases hq; exact ⟨f1, g1⟩
    | 2, hq => cases hq; exact ⟨f2, g2⟩
    | 3, hq => cases hq; exact ⟨f3, g3⟩
    | k + 4, hq => exact absurd (List.getElem?_eq_some_iff.mp hq).1 (by show ¬ k + 4 < 4; omega)
theorem lw_N {args : Array Value} {s : State} (hts : ∀ w ∈ lw_tbl, w.before args s = true) : tf_N s :=
  ⟨va_Nw.of rfl (hts _ x_m_7_9), va_Nw.of rfl (hts _ x_m_7_18), va_Nw.of rfl (hts _ x_m_4_17), va_Nw.of rfl (hts _ x_m_2_26), va_Nw.of rfl (hts _ x_m_2_31), va_AO.of (hts _ x_v0), va_AO.of (hts _ x_v3)⟩
/-- what stays in the law -/
def lw_C (D : va_G) (cA : Nat → ClassId) (a7 a8 sK sV : Nat → Nat) (p : Program) (s : State) (m : MethodId) (args : Array Value) (c : Code) : Prop :=
  p.tables.exec = Jvm.exec ∧ c.code = code ∧ c.maxLocals = 4 ∧ s.vm.findClass "TradeFloorLaw" = some m.cls ∧ (∀ w ∈ gT, w.before args s = true) ∧ va_K D vCl (tyC cA) s ∧ tf_Sb (D, a7, cA, sK, sV) (fun q => s.heap.size ≤ q) s s.heap ∧ gJ a7 63 ∧ gJ a8 16 ∧ (∀ k, k < 63 → s.heap.size ≤ a7 k) ∧ (∀ k, k < 16 → s.heap.size ≤ a8 k) ∧ (∀ i j, i < 63 → j < 16 → a7 i ≠ a8 j)
/-- the two worlds -/
def lw_W (D : va_G) (cA : Nat → ClassId) (a7 a8 sK sV : Nat → Nat) (I : FI) (L : FL) (J : FI) (K : FL) (H0 H : Heap) (locs : List Loc) : Prop :=
  va_P D vCl (wM a7 63 (cE (D, a7, cA, sK, sV) I L)) H ∧ va_P D vCl (wM a8 16 (rE (D, a8, cA, sK, sV) J K)) H ∧ va_S (fun q => H0.size ≤ q) H0 H locs
section LC
variable {p : Program} {l : Launch} {e : Env} {R : Room} {s : State} {m : MethodId} {args : Array Value} {below : List Frame} {meth : Method} {c : Code} {H : Heap} {locs : List Loc} {cells slots : Nat} {Q : State → Prop}
variable {pc : Nat} {ls : Array Slot} {rest : List Value} {D : va_G} {cA : Nat → ClassId} {a7 a8 sK sV : Nat → Nat}
theorem lw_call {G : tf_G} {N : Nat} {E E' : Nat → va_E} {ws : va_W} {y : MethodName} {bytes : ByteArray} {maxL fr lo index : Nat} {rt : Option FieldType} {As st0 : List Value} {v : Option Value} {ci nf : Nat} {fs : List Value} {T : u_T}
    (hx : p.tables.exec = Jvm.exec) (hb : c.code = code) (hml : c.maxLocals = 4) (hown : s.vm.findClass "TradeFloorLaw" = some m.cls) (hts : ∀ w ∈ gT, w.before args s = true) (hK : va_K G.1 vCl (tyG G) s) (hSb : tf_Sb G (fun q => s.heap.size ≤ q) s s.heap) (hAB : ∀ k, k < N → s.heap.size ≤ al G k) (hN : 0 < N)
    (hP : va_P G.1 vCl (wM (al G) N E) H) (hO : va_P G.1 vCl ws H) (hap : ∀ (k : Nat) (q : Nat × va_E), ws[k]? = some q → ¬ gA (al G) N q.1) (hS : va_S (fun q => s.heap.size ≤ q) s.heap H locs) (he : E 0 = .inr (ci, fs)) (hc : vCl[ci]? = some (y.cls, T, nf))
    (hM : tf_Met l G N y bytes maxL rt fr lo (.ref (al G 0) :: As) E E' v) (bw : tf_cv y bytes maxL rt As.length) (hlink : Cond.methodLink "TradeFloorLaw" index y ∈ gT) (hR : fr + 1 ≤ R.frames ∧ 8 + (maxL + 11) + lo ≤ R.locals) (hsz : ls.size = 4) (hst : st0 = As.reverse ++ .ref (al G 0) :: rest) (hroom : (rest.map fun v => v.category).sum ≤ 8) (hcs : cells ≤ R.cells ∧ slots ≤ R.slots) (hdg : decode code pc = .ok (.invokevirtual index, 3))
    (kk : ∀ (H1 : Heap) (locs1 : List Loc), va_P G.1 vCl (wM (al G) N E') H1 → va_P G.1 vCl ws H1 → va_S (fun q => s.heap.size ≤ q) s.heap H1 locs1 → W p l e R s m args below meth c H1 locs1 cells slots Q (F0 m (pc + 3) ls (v.toList ++ rest))) : W p l e R s m args below meth c H locs cells slots Q (F0 m pc ls st0) := by
  have hgA : ∀ q, gA (al G) N q → s.heap.size ≤ q := fun q ⟨k, hk, e⟩ => by rw [← e]; exact hAB k hk
  have cw : CallW R s args "TradeFloorLaw" y.cls index y bytes maxL rt (Cond.code y bytes maxL rt :: gT) (tf_rm fr lo) 0 0 As.length := ⟨callB_of As.length hts (gGood bw.1) rfl rfl rfl (hts _ bw.2.2.2.1) (hts _ hlink) bw.2.2.2.2 hR, hts _ bw.2.1, hts _ bw.2.2.1⟩
  have pre : ∀ U : State, U.heap = H → s.WarmedH U.vm → tf_Pc G N E (.ref (al G 0) :: As) (Value.ref (al G 0) :: As).toArray U := by
    intro U hU hW
    refine ⟨rfl, by rw [hU]; exact hP, va_K.moved hW.alike hK, ?_⟩
    rw [hU]
    exact ((hSb.kept hS.2.1).narrow hgA).moved hW
  have hr := va_runV (e := e) (locs := locs) (cells := cells) (slots := slots) (below := below) (meth := meth) (As := As) (rest := rest) (nL := 4) (Ts := gT) (g := F0 m pc ls st0) ⟨hx, hb, hml, hown, hts⟩ hM cw ⟨tf_blind, va_recv hK hP (ci := ci) (q0 := 0) hc (by rw [wM_at hN, he]), pre⟩ rfl rfl hsz hst (lv_room hroom) hdg hcs
  intro T hT X
  obtain ⟨v', st₀, t, T', Lc, h0, X', hL, e1, e2, ⟨hv, hbb, hz, hk⟩, st⟩ := hr T hT X
  cases hv
  rw [h0] at hz hk
  have hO' : va_P G.1 vCl ws T'.heap := hO.kept (fun k q hq => by rw [e1]; exact hk q.1 (hO k q hq).lt (hap k q hq))
  obtain ⟨t2, a1, b1⟩ := kk T'.heap (locs ++ Lc) (by rw [e1]; exact hbb) hO' ⟨Nat.le_trans hS.1 (by rw [e1]; exact hz), fun q h1 h2 => by rw [e1, hk q (Nat.lt_of_lt_of_le h1 hS.1) (fun z => h2 (hgA q z))]; exact hS.2.1 q h1 h2, fun q hq => by
      rcases List.mem_append.mp hq with h | h
      · exact hS.2.2 q h
      · exact hgA _ (hL q h)⟩ T' rfl X'
  exact ⟨t2, st t2 a1, b1⟩
theorem lw_callx {I I' J : FI} {L L' K : FL} {y : MethodName} {bytes : ByteArray} {maxL fr lo index : Nat} {rt : Option FieldType} {As st0 : List Value} {v : Option Value} (X : lw_C D cA a7 a8 sK sV p s m args c) (h : lw_W D cA a7 a8 sK sV I L J K s.heap H locs)
    (hM : tf_Met l (D, a7, cA, sK, sV) 63 y bytes maxL rt fr lo (.ref (a7 0) :: As) (cE (D, a7, cA, sK, sV) I L) (cE (D, a7, cA, sK, sV) I' L') v) (hy : y.cls = "TradeFloor") (bw : tf_cv y bytes maxL rt As.length) (hlink : Cond.methodLink "TradeFloorLaw" index y ∈ gT) (hR : fr + 1 ≤ R.frames ∧ 8 + (maxL + 11) + lo ≤ R.locals) (hsz : ls.size = 4) (hst : st0 = As.reverse ++ .ref (a7 0) :: rest) (hroom : (rest.map fun v => v.category).sum ≤ 8) (hcs : cells ≤ R.cells ∧ slots ≤ R.slots) (hdg : decode code pc = .ok (.invokevirtual index, 3))
    (kk : ∀ (H1 : Heap) (locs1 : List Loc), lw_W D cA a7 a8 sK sV I' L' J K s.heap H1 locs1 → W p l e R s m args below meth c H1 locs1 cells slots Q (F0 m (pc + 3) ls (v.toList ++ rest))) : W p l e R s m args below meth c H locs cells slots Q (F0 m pc ls st0) := by
  obtain ⟨hx, hb, hml, hown, hts, hK, hSb, j7, j8, b7, b8, ap⟩ := X
  refine lw_call (G := (D, a7, cA, sK, sV)) (N := 63) (ws := wM a8 16 (rE (D, a8, cA, sK, sV) J K)) (ci := 7) (nf := 4) (T := T7) hx hb hml hown hts hK hSb b7 (by decide) h.1 h.2.1 (fun k q hk hq => ?_) h.2.2 rfl (by rw [hy]; rfl) hM bw hlink hR hsz hst hroom hcs hdg (fun H1 locs1 g1 g2 g3 => kk H1 locs1 ⟨g1, g2, g3⟩)
  obtain ⟨hk9, rfl⟩ := wM_lt hk
  obtain ⟨i, hi, ei⟩ := hq
  exact ap i k hi hk9 ei
theorem lw_callm {I J J' : FI} {L K K' : FL} {y : MethodName} {bytes : ByteArray} {maxL fr lo index : Nat} {rt : Option FieldType} {As st0 : List Value} {v : Option Value} (X : lw_C D cA a7 a8 sK sV p s m args c) (h : lw_W D cA a7 a8 sK sV I L J K s.heap H locs)
    (hM : tf_Met l (D, a8, cA, sK, sV) 16 y bytes maxL rt fr lo (.ref (a8 0) :: As) (rE (D, a8, cA, sK, sV) J K) (rE (D, a8, cA, sK, sV) J' K') v) (hy : y.cls = "TradeFloorModel") (bw : tf_cv y bytes maxL rt As.length) (hlink : Cond.methodLink "TradeFloorLaw" index y ∈ gT) (hR : fr + 1 ≤ R.frames ∧ 8 + (maxL + 11) + lo ≤ R.locals) (hsz : ls.size = 4) (hst : st0 = As.reverse ++ .ref (a8 0) :: rest) (hroom : (rest.map fun v => v.category).sum ≤ 8) (hcs : cells ≤ R.cells ∧ slots ≤ R.slots) (hdg : decode code pc = .ok (.invokevirtual index, 3))
    (kk : ∀ (H1 : Heap) (locs1 : List Loc), lw_W D cA a7 a8 sK sV I L J' K' s.heap H1 locs1 → W p l e R s m args below meth c H1 locs1 cells slots Q (F0 m (pc + 3) ls (v.toList ++ rest))) : W p l e R s m args below meth c H locs cells slots Q (F0 m pc ls st0) := by
  obtain ⟨hx, hb, hml, hown, hts, hK, hSb, j7, j8, b7, b8, ap⟩ := X
  have hSb8 : tf_Sb (D, a8, cA, sK, sV) (fun q => s.heap.size ≤ q) s s.heap := hSb
  refine lw_call (G := (D, a8, cA, sK, sV)) (N := 16) (ws := wM a7 63 (cE (D, a7, cA, sK, sV) I L)) (ci := 8) (nf := 22) (T := T8) hx hb hml hown hts hK hSb8 b8 (by decide) h.2.1 h.1 (fun k q hk hq => ?_) h.2.2 rfl (by rw [hy]; rfl) hM bw hlink hR hsz hst hroom hcs hdg (fun H1 locs1 g1 g2 g3 => kk H1 locs1 ⟨g2, g1, g3⟩)
  obtain ⟨hk9, rfl⟩ := wM_lt hk
  obtain ⟨i, hi, ei⟩ := hq
  exact ap k i hk9 hi ei.symm
end LC
theorem low7 (v : Int32) : ∃ j, j < 8 ∧ v &&& 7 = nI j := by
  refine ⟨(v &&& 7).toBitVec.toNat, ?_, ?_⟩
  · rw [Int32.toBitVec_and, BitVec.toNat_and]
    have h := Nat.and_le_right (n := v.toBitVec.toNat) (m := (7 : Int32).toBitVec.toNat)
    have e : (7 : Int32).toBitVec.toNat = 7 := rfl
    omega
  · apply Int32.toBitVec_inj.mp
    show _ = BitVec.ofNat 32 _
    simp
/-- the loop's test -/
theorem lw_more {i L : Nat} (hi : i ≤ 4096) (hL : L ≤ 2048) : (Int32.ofNat L - 4 < nI i) ↔ L < i + 4 := by
  by_cases h : 4 ≤ L
  · have e : Int32.ofNat L - 4 = nI (L - 4) := nI_subE (a := L) (b := 4) h
    rw [e, nI_ltI (by omega) (by omega)]
    omega
  · have neg : ∀ x : Int32, x < 0 → x < nI i := fun x hx => Int32.lt_of_lt_of_le hx (nI_pos' (by omega))
    refine ⟨fun _ => by omega, fun _ => neg _ ?_⟩
    rcases (show L = 0 ∨ L = 1 ∨ L = 2 ∨ L = 3 by omega) with rfl | rfl | rfl | rfl <;> decide
