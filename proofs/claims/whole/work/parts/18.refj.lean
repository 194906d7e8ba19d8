theorem dX7_chance_0 : decode cX7_chance 0 = .ok (.aload_n 0, 1) := by decide +kernel
theorem dX7_chance_1 : decode cX7_chance 1 = .ok (.iload_n 1, 1) := by decide +kernel
theorem dX7_chance_2 : decode cX7_chance 2 = .ok (.invokevirtual 219, 3) := by decide +kernel
theorem dX7_chance_5 : decode cX7_chance 5 = .ok (.ifCond .eq 31, 3) := by decide +kernel
theorem dX7_chance_8 : decode cX7_chance 8 = .ok (.aload_n 0, 1) := by decide +kernel
theorem dX7_chance_9 : decode cX7_chance 9 = .ok (.iload_n 2, 1) := by decide +kernel
theorem dX7_chance_10 : decode cX7_chance 10 = .ok (.invokevirtual 225, 3) := by decide +kernel
theorem dX7_chance_13 : decode cX7_chance 13 = .ok (.ifCond .eq 23, 3) := by decide +kernel
theorem dX7_chance_16 : decode cX7_chance 16 = .ok (.iload_n 3, 1) := by decide +kernel
theorem dX7_chance_17 : decode cX7_chance 17 = .ok (.iconst 0, 1) := by decide +kernel
theorem dX7_chance_18 : decode cX7_chance 18 = .ok (.bipush 10, 2) := by decide +kernel
theorem dX7_chance_20 : decode cX7_chance 20 = .ok (.invokestatic 123, 3) := by decide +kernel
theorem dX7_chance_23 : decode cX7_chance 23 = .ok (.ifCond .eq 13, 3) := by decide +kernel
theorem dX7_chance_26 : decode cX7_chance 26 = .ok (.iload 4, 2) := by decide +kernel
theorem dX7_chance_28 : decode cX7_chance 28 = .ok (.iconst 0, 1) := by decide +kernel
theorem dX7_chance_29 : decode cX7_chance 29 = .ok (.iconst 1, 1) := by decide +kernel
theorem dX7_chance_30 : decode cX7_chance 30 = .ok (.invokestatic 123, 3) := by decide +kernel
theorem dX7_chance_33 : decode cX7_chance 33 = .ok (.ifCond .ne 5, 3) := by decide +kernel
theorem dX7_chance_36 : decode cX7_chance 36 = .ok (.iconst (-1), 1) := by decide +kernel
theorem dX7_chance_37 : decode cX7_chance 37 = .ok (.ireturn, 1) := by decide +kernel
theorem dX7_chance_38 : decode cX7_chance 38 = .ok (.iconst 0, 1) := by decide +kernel
theorem dX7_chance_39 : decode cX7_chance 39 = .ok (.istore 5, 2) := by decide +kernel
theorem dX7_chance_41 : decode cX7_chance 41 = .ok (.lconst 1, 1) := by decide +kernel
theorem dX7_chance_42 : decode cX7_chance 42 = .ok (.lstore 6, 2) := by decide +kernel
theorem dX7_chance_44 : decode cX7_chance 44 = .ok (.iconst 0, 1) := by decide +kernel
theorem dX7_chance_45 : decode cX7_chance 45 = .ok (.istore 8, 2) := by decide +kernel
theorem dX7_chance_47 : decode cX7_chance 47 = .ok (.iload 8, 2) := by decide +kernel
theorem dX7_chance_49 : decode cX7_chance 49 = .ok (.aload_n 0, 1) := by decide +kernel
theorem dX7_chance_50 : decode cX7_chance 50 = .ok (.getfield 183, 3) := by decide +kernel
theorem dX7_chance_53 : decode cX7_chance 53 = .ok (.if_icmp .ge 39, 3) := by decide +kernel
theorem dX7_chance_56 : decode cX7_chance 56 = .ok (.aload_n 0, 1) := by decide +kernel
theorem dX7_chance_57 : decode cX7_chance 57 = .ok (.aload_n 0, 1) := by decide +kernel
theorem dX7_chance_58 : decode cX7_chance 58 = .ok (.getfield 52, 3) := by decide +kernel
theorem dX7_chance_61 : decode cX7_chance 61 = .ok (.iload 8, 2) := by decide +kernel
theorem dX7_chance_63 : decode cX7_chance 63 = .ok (.invokevirtual 236, 3) := by decide +kernel
theorem dX7_chance_66 : decode cX7_chance 66 = .ok (.ifCond .eq 20, 3) := by decide +kernel
theorem dX7_chance_69 : decode cX7_chance 69 = .ok (.iload 5, 2) := by decide +kernel
theorem dX7_chance_71 : decode cX7_chance 71 = .ok (.iconst 1, 1) := by decide +kernel
theorem dX7_chance_72 : decode cX7_chance 72 = .ok (.iload 8, 2) := by decide +kernel
theorem dX7_chance_74 : decode cX7_chance 74 = .ok (.ishl, 1) := by decide +kernel
theorem dX7_chance_75 : decode cX7_chance 75 = .ok (.ior, 1) := by decide +kernel
theorem dX7_chance_76 : decode cX7_chance 76 = .ok (.istore 5, 2) := by decide +kernel
theorem dX7_chance_78 : decode cX7_chance 78 = .ok (.lload 6, 2) := by decide +kernel
theorem dX7_chance_80 : decode cX7_chance 80 = .ok (.ldc2_w 293, 3) := by decide +kernel
theorem dX7_chance_83 : decode cX7_chance 83 = .ok (.lmul, 1) := by decide +kernel
theorem dX7_chance_84 : decode cX7_chance 84 = .ok (.lstore 6, 2) := by decide +kernel
theorem dX7_chance_86 : decode cX7_chance 86 = .ok (.iinc 8 1, 3) := by decide +kernel
theorem dX7_chance_89 : decode cX7_chance 89 = .ok (.goto (-42), 3) := by decide +kernel
theorem dX7_chance_92 : decode cX7_chance 92 = .ok (.lconst 0, 1) := by decide +kernel
theorem dX7_chance_93 : decode cX7_chance 93 = .ok (.lstore 8, 2) := by decide +kernel
theorem dX7_chance_95 : decode cX7_chance 95 = .ok (.iconst 0, 1) := by decide +kernel
theorem dX7_chance_96 : decode cX7_chance 96 = .ok (.istore 10, 2) := by decide +kernel
theorem dX7_chance_98 : decode cX7_chance 98 = .ok (.iload 10, 2) := by decide +kernel
theorem dX7_chance_100 : decode cX7_chance 100 = .ok (.iconst 1, 1) := by decide +kernel
theorem dX7_chance_101 : decode cX7_chance 101 = .ok (.aload_n 0, 1) := by decide +kernel
theorem dX7_chance_102 : decode cX7_chance 102 = .ok (.getfield 183, 3) := by decide +kernel
theorem dX7_chance_105 : decode cX7_chance 105 = .ok (.ishl, 1) := by decide +kernel
theorem dX7_chance_106 : decode cX7_chance 106 = .ok (.if_icmp .ge 119, 3) := by decide +kernel
theorem dX7_chance_109 : decode cX7_chance 109 = .ok (.iload 10, 2) := by decide +kernel
theorem dX7_chance_111 : decode cX7_chance 111 = .ok (.iload 5, 2) := by decide +kernel
theorem dX7_chance_113 : decode cX7_chance 113 = .ok (.iconst (-1), 1) := by decide +kernel
theorem dX7_chance_114 : decode cX7_chance 114 = .ok (.ixor, 1) := by decide +kernel
theorem dX7_chance_115 : decode cX7_chance 115 = .ok (.iand, 1) := by decide +kernel
theorem dX7_chance_116 : decode cX7_chance 116 = .ok (.ifCond .ne 103, 3) := by decide +kernel
theorem dX7_chance_119 : decode cX7_chance 119 = .ok (.lconst 1, 1) := by decide +kernel
theorem dX7_chance_120 : decode cX7_chance 120 = .ok (.lstore 11, 2) := by decide +kernel
theorem dX7_chance_122 : decode cX7_chance 122 = .ok (.iconst 0, 1) := by decide +kernel
theorem dX7_chance_123 : decode cX7_chance 123 = .ok (.istore 13, 2) := by decide +kernel
theorem dX7_chance_125 : decode cX7_chance 125 = .ok (.iload 13, 2) := by decide +kernel
theorem dX7_chance_127 : decode cX7_chance 127 = .ok (.aload_n 0, 1) := by decide +kernel
theorem dX7_chance_128 : decode cX7_chance 128 = .ok (.getfield 183, 3) := by decide +kernel
theorem dX7_chance_131 : decode cX7_chance 131 = .ok (.if_icmp .ge 48, 3) := by decide +kernel
theorem dX7_chance_134 : decode cX7_chance 134 = .ok (.lload 11, 2) := by decide +kernel
theorem dX7_chance_136 : decode cX7_chance 136 = .ok (.iload 5, 2) := by decide +kernel
theorem dX7_chance_138 : decode cX7_chance 138 = .ok (.iload 13, 2) := by decide +kernel
theorem dX7_chance_140 : decode cX7_chance 140 = .ok (.invokestatic 232, 3) := by decide +kernel
theorem dX7_chance_143 : decode cX7_chance 143 = .ok (.ifCond .ne 7, 3) := by decide +kernel
theorem dX7_chance_146 : decode cX7_chance 146 = .ok (.lconst 1, 1) := by decide +kernel
theorem dX7_chance_147 : decode cX7_chance 147 = .ok (.goto 23, 3) := by decide +kernel
theorem dX7_chance_150 : decode cX7_chance 150 = .ok (.iload 10, 2) := by decide +kernel
theorem dX7_chance_152 : decode cX7_chance 152 = .ok (.iload 13, 2) := by decide +kernel
theorem dX7_chance_154 : decode cX7_chance 154 = .ok (.invokestatic 232, 3) := by decide +kernel
theorem dX7_chance_157 : decode cX7_chance 157 = .ok (.ifCond .eq 8, 3) := by decide +kernel
theorem dX7_chance_160 : decode cX7_chance 160 = .ok (.iload_n 3, 1) := by decide +kernel
theorem dX7_chance_161 : decode cX7_chance 161 = .ok (.i2l, 1) := by decide +kernel
theorem dX7_chance_162 : decode cX7_chance 162 = .ok (.goto 8, 3) := by decide +kernel
theorem dX7_chance_165 : decode cX7_chance 165 = .ok (.bipush 10, 2) := by decide +kernel
theorem dX7_chance_167 : decode cX7_chance 167 = .ok (.iload_n 3, 1) := by decide +kernel
theorem dX7_chance_168 : decode cX7_chance 168 = .ok (.isub, 1) := by decide +kernel
theorem dX7_chance_169 : decode cX7_chance 169 = .ok (.i2l, 1) := by decide +kernel
theorem dX7_chance_170 : decode cX7_chance 170 = .ok (.lmul, 1) := by decide +kernel
theorem dX7_chance_171 : decode cX7_chance 171 = .ok (.lstore 11, 2) := by decide +kernel
theorem dX7_chance_173 : decode cX7_chance 173 = .ok (.iinc 13 1, 3) := by decide +kernel
theorem dX7_chance_176 : decode cX7_chance 176 = .ok (.goto (-51), 3) := by decide +kernel
theorem dX7_chance_179 : decode cX7_chance 179 = .ok (.aload_n 0, 1) := by decide +kernel
theorem dX7_chance_180 : decode cX7_chance 180 = .ok (.invokevirtual 266, 3) := by decide +kernel
theorem dX7_chance_183 : decode cX7_chance 183 = .ok (.aload_n 0, 1) := by decide +kernel
theorem dX7_chance_184 : decode cX7_chance 184 = .ok (.aload_n 0, 1) := by decide +kernel
theorem dX7_chance_185 : decode cX7_chance 185 = .ok (.getfield 55, 3) := by decide +kernel
theorem dX7_chance_188 : decode cX7_chance 188 = .ok (.iload 10, 2) := by decide +kernel
theorem dX7_chance_190 : decode cX7_chance 190 = .ok (.invokevirtual 260, 3) := by decide +kernel
theorem dX7_chance_193 : decode cX7_chance 193 = .ok (.pop, 1) := by decide +kernel
theorem dX7_chance_194 : decode cX7_chance 194 = .ok (.lload 8, 2) := by decide +kernel
theorem dX7_chance_196 : decode cX7_chance 196 = .ok (.aload_n 0, 1) := by decide +kernel
theorem dX7_chance_197 : decode cX7_chance 197 = .ok (.getfield 64, 3) := by decide +kernel
theorem dX7_chance_200 : decode cX7_chance 200 = .ok (.bipush 9, 2) := by decide +kernel
theorem dX7_chance_202 : decode cX7_chance 202 = .ok (.iload_n 1, 1) := by decide +kernel
theorem dX7_chance_203 : decode cX7_chance 203 = .ok (.imul, 1) := by decide +kernel
theorem dX7_chance_204 : decode cX7_chance 204 = .ok (.iload_n 2, 1) := by decide +kernel
theorem dX7_chance_205 : decode cX7_chance 205 = .ok (.iadd, 1) := by decide +kernel
theorem dX7_chance_206 : decode cX7_chance 206 = .ok (.baload, 1) := by decide +kernel
theorem dX7_chance_207 : decode cX7_chance 207 = .ok (.ifCond .eq 8, 3) := by decide +kernel
theorem dX7_chance_210 : decode cX7_chance 210 = .ok (.lload 11, 2) := by decide +kernel
theorem dX7_chance_212 : decode cX7_chance 212 = .ok (.goto 4, 3) := by decide +kernel
theorem dX7_chance_215 : decode cX7_chance 215 = .ok (.lconst 0, 1) := by decide +kernel
theorem dX7_chance_216 : decode cX7_chance 216 = .ok (.ladd, 1) := by decide +kernel
theorem dX7_chance_217 : decode cX7_chance 217 = .ok (.lstore 8, 2) := by decide +kernel
theorem dX7_chance_219 : decode cX7_chance 219 = .ok (.iinc 10 1, 3) := by decide +kernel
theorem dX7_chance_222 : decode cX7_chance 222 = .ok (.goto (-124), 3) := by decide +kernel
theorem dX7_chance_225 : decode cX7_chance 225 = .ok (.lload 8, 2) := by decide +kernel
theorem dX7_chance_227 : decode cX7_chance 227 = .ok (.lload 6, 2) := by decide +kernel
theorem dX7_chance_229 : decode cX7_chance 229 = .ok (.invokestatic 295, 3) := by decide +kernel
theorem dX7_chance_232 : decode cX7_chance 232 = .ok (.lstore 10, 2) := by decide +kernel
theorem dX7_chance_234 : decode cX7_chance 234 = .ok (.iload 4, 2) := by decide +kernel
theorem dX7_chance_236 : decode cX7_chance 236 = .ok (.ifCond .ne 11, 3) := by decide +kernel
theorem dX7_chance_239 : decode cX7_chance 239 = .ok (.lload 8, 2) := by decide +kernel
theorem dX7_chance_241 : decode cX7_chance 241 = .ok (.lload 10, 2) := by decide +kernel
theorem dX7_chance_243 : decode cX7_chance 243 = .ok (.ldiv, 1) := by decide +kernel
theorem dX7_chance_244 : decode cX7_chance 244 = .ok (.goto 8, 3) := by decide +kernel
theorem dX7_chance_247 : decode cX7_chance 247 = .ok (.lload 6, 2) := by decide +kernel
theorem dX7_chance_249 : decode cX7_chance 249 = .ok (.lload 10, 2) := by decide +kernel
theorem dX7_chance_251 : decode cX7_chance 251 = .ok (.ldiv, 1) := by decide +kernel
theorem dX7_chance_252 : decode cX7_chance 252 = .ok (.l2i, 1) := by decide +kernel
theorem dX7_chance_253 : decode cX7_chance 253 = .ok (.ireturn, 1) := by decide +kernel
noncomputable def f_X7_chance_b47 (l1 : Int32) (l2 : Int32) (l3 : Int32) (l4 : Int32) (mem : Mem) (q : Int32 × Int64 × Int32) : Option ((Int32 × Int64 × Int32) ⊕ (Int32 × Int64 × Int32)) :=
  if (mem 62 18) ≤ q.2.2 then (some (.inr (q.1, q.2.1, q.2.2))) else (ob (f_X7_isSending 77 q.2.2 mem) fun r63 => if r63 = 0 then (lt' (q.2.2 + 1) fun v86 => some (.inl (q.1, q.2.1, v86))) else (lt' (q.1 ||| (1 <<< (q.2.2 &&& 31))) fun v76 => lt' (q.2.1 * 10) fun v84 => lt' (q.2.2 + 1) fun v86 => some (.inl (v76, v84, v86))))
noncomputable def f_X7_chance_b125 (l1 : Int32) (l2 : Int32) (l3 : Int32) (l4 : Int32) (l5 : Int32) (l6 : Int64) (l8 : Int64) (l10 : Int32) (mem : Mem) (q : Int64 × Int32) : Option ((Int64 × Int32) ⊕ (Int64 × Int32)) :=
  if (mem 62 18) ≤ q.2 then (some (.inr (q.1, q.2))) else (ob (f_X7_has l5 q.2) fun r140 => if r140 = 0 then (lt' (q.1 * 1) fun v171 => lt' (q.2 + 1) fun v173 => some (.inl (v171, v173))) else (ob (f_X7_has l10 q.2) fun r154 => if r154 = 0 then (lt' (q.1 * ((10 - l3).toInt64)) fun v171 => lt' (q.2 + 1) fun v173 => some (.inl (v171, v173))) else (lt' (q.1 * (l3.toInt64)) fun v171 => lt' (q.2 + 1) fun v173 => some (.inl (v171, v173)))))
noncomputable def f_X7_chance_b98 (l1 : Int32) (l2 : Int32) (l3 : Int32) (l4 : Int32) (l5 : Int32) (l6 : Int64) (q : Int64 × Int32 × Mem) : Option ((Int64 × Int32 × Mem) ⊕ (Int64 × Int32 × Mem)) :=
  if (1 <<< ((q.2.2 62 18) &&& 31)) ≤ q.2.1 then (some (.inr (q.1, q.2.1, q.2.2))) else (if (q.2.1 &&& (l5 ^^^ (-1))) = 0 then (ob (lp (f_X7_chance_b125 l1 l2 l3 l4 l5 l6 q.1 q.2.1 q.2.2) FU (1, 0)) fun q125 => ob (f_X7_copyNow q.2.2) fun m180 => ob2 (f_X7_passes 78 q.2.1 m180) fun r190 m190 => rd (m190 81) 72 ((9 * l1) + l2) fun v206 => if v206 = 0 then (lt' (q.1 + 0) fun v217 => lt' (q.2.1 + 1) fun v219 => some (.inl (v217, v219, m190))) else (lt' (q.1 + q125.1) fun v217 => lt' (q.2.1 + 1) fun v219 => some (.inl (v217, v219, m190)))) else (lt' (q.2.1 + 1) fun v219 => some (.inl (q.1, v219, q.2.2))))
noncomputable def f_X7_chance (l1 : Int32) (l2 : Int32) (l3 : Int32) (l4 : Int32) (mem : Mem) : Option (Int32 × Mem) :=
  ob (f_X7_isPlace l1 mem) fun r2 => if r2 = 0 then (some ((-1), mem)) else (ob (f_X7_isWord l2 mem) fun r10 => if r10 = 0 then (some ((-1), mem)) else (ob (f_X7_in l3 0 10) fun r20 => if r20 = 0 then (some ((-1), mem)) else (ob (f_X7_in l4 0 1) fun r30 => if r30 = 0 then (some ((-1), mem)) else (ob (lp (f_X7_chance_b47 l1 l2 l3 l4 mem) FU (0, 1, 0)) fun q47 => ob (lp (f_X7_chance_b98 l1 l2 l3 l4 q47.1 q47.2.1) FU (0, 0, mem)) fun q98 => ob (f_X7_common q98.1 q47.2.1) fun r229 => if l4 = 0 then (dkL r229 (lt' ((q98.1 / r229).toInt32) fun v253 => some (v253, q98.2.2))) else (dkL r229 (lt' ((q47.2.1 / r229).toInt32) fun v253 => some (v253, q98.2.2)))))))
def P_X7_chance_47 (E : Ex) (κ : Kx) (ad : Nat → Nat) (lay : List Ent) (l1 : Int32) (l2 : Int32) (l3 : Int32) (l4 : Int32) (mem : Mem) : (Int32 × Int64 × Int32) ⊕ (Int32 × Int64 × Int32) → Prop
  | .inl q => Gw E κ 14 0 0 47 [some (.ref (ad 62)), some (.int l1), some (.int l2), some (.int l3), some (.int l4), some (.int q.1), some (.long q.2.1), none, some (.int q.2.2), none, none, none, none, none] [] ad lay mem
  | .inr q => Gw E κ 14 0 0 92 [some (.ref (ad 62)), some (.int l1), some (.int l2), some (.int l3), some (.int l4), some (.int q.1), some (.long q.2.1), none, none, none, none, none, none, none] [] ad lay mem
def P_X7_chance_125 (E : Ex) (κ : Kx) (ad : Nat → Nat) (lay : List Ent) (l1 : Int32) (l2 : Int32) (l3 : Int32) (l4 : Int32) (l5 : Int32) (l6 : Int64) (l8 : Int64) (l10 : Int32) (mem : Mem) : (Int64 × Int32) ⊕ (Int64 × Int32) → Prop
  | .inl q => Gw E κ 14 0 0 125 [some (.ref (ad 62)), some (.int l1), some (.int l2), some (.int l3), some (.int l4), some (.int l5), some (.long l6), none, some (.long l8), none, some (.int l10), some (.long q.1), none, some (.int q.2)] [] ad lay mem
  | .inr q => Gw E κ 14 0 0 179 [some (.ref (ad 62)), some (.int l1), some (.int l2), some (.int l3), some (.int l4), some (.int l5), some (.long l6), none, some (.long l8), none, some (.int l10), some (.long q.1), none, none] [] ad lay mem
def P_X7_chance_98 (E : Ex) (κ : Kx) (ad : Nat → Nat) (lay : List Ent) (l1 : Int32) (l2 : Int32) (l3 : Int32) (l4 : Int32) (l5 : Int32) (l6 : Int64) : (Int64 × Int32 × Mem) ⊕ (Int64 × Int32 × Mem) → Prop
  | .inl q => Gw E κ 14 0 0 98 [some (.ref (ad 62)), some (.int l1), some (.int l2), some (.int l3), some (.int l4), some (.int l5), some (.long l6), none, some (.long q.1), none, some (.int q.2.1), none, none, none] [] ad lay q.2.2
  | .inr q => Gw E κ 14 0 0 225 [none, none, none, none, some (.int l4), none, some (.long l6), none, some (.long q.1), none, none, none, none, none] [] ad lay q.2.2
set_option maxRecDepth 100000 in
set_option maxHeartbeats 4000000 in
theorem b_X7_chance_47 {E : Ex} {κ : Kx} {ad : Nat → Nat} {sh sp : Nat} {d : Nat} (C : Cx E κ cX7_chance RX7 14 (some .int) d) (hd : 6 ≤ d)  {l1 : Int32} {l2 : Int32} {l3 : Int32} {l4 : Int32} {mem : Mem} {q : Int32 × Int64 × Int32} {x : (Int32 × Int64 × Int32) ⊕ (Int32 × Int64 × Int32)} (h : f_X7_chance_b47 l1 l2 l3 l4 mem q = some x) (hP : (P_X7_chance_47 E κ ad (LC sh sp ++ LM) l1 l2 l3 l4 mem) x) : Gw E κ 14 0 0 47 [some (.ref (ad 62)), some (.int l1), some (.int l2), some (.int l3), some (.int l4), some (.int q.1), some (.long q.2.1), none, some (.int q.2.2), none, none, none, none, none] [] ad (LC sh sp ++ LM) mem := by
  unfold f_X7_chance_b47 at h
  refine g_iload (pc := 47) (i := 8) (x := q.2.2) C dX7_chance_47 rfl ?_
  refine g_aload_n (pc := 49) (i := 0) (x := ad 62) C dX7_chance_49 rfl rfl ?_
  refine g_get (pc := 50) (v := .int (mem 62 18)) C ok_X7 18 (by decide) wf_X7_183 dX7_chance_50 la_62 rfl ?_
  rcases ite_some' h with ⟨hc53, h⟩ | ⟨hc53, h⟩
  · refine g_icmp_ge_t (pc := 53) C 92 dX7_chance_53 (by decide) hc53 ?_
    refine g_mask (lv' := [some (.ref (ad 62)), some (.int l1), some (.int l2), some (.int l3), some (.int l4), some (.int q.1), some (.long q.2.1), none, none, none, none, none, none, none]) [true, true, true, true, true, true, true, false, false, false, false, false, false, false] rfl ?_
    cases h
    exact hP
  · refine g_icmp_ge_f (pc := 53) C 92 dX7_chance_53 (by decide) hc53 ?_
    refine g_aload_n (pc := 56) (i := 0) (x := ad 62) C dX7_chance_56 rfl rfl ?_
    refine g_aload_n (pc := 57) (i := 0) (x := ad 62) C dX7_chance_57 rfl rfl ?_
    refine g_get (pc := 58) (v := .ref (ad 77)) C ok_X7 26 (by decide) wf_X7_52 dX7_chance_58 la_62 rfl ?_
    refine g_iload (pc := 61) (i := 8) (x := q.2.2) C dX7_chance_61 rfl ?_
    obtain ⟨r63, hcall63, h⟩ := ob_some h
    refine g_callV (pc := 63) C ce0 mi_X7_isSending mv_X7_isSending wm_X7_236 dX7_chance_63 ok_X7 [.ref (ad 77), .int q.2.2] [] la_62 (by omega) rfl rfl (Nat.le_of_ble_eq_true rfl) (m_X7_isSending (d := d - 1) (by omega) o_77 hcall63) ?_
    show Gw E κ 14 0 0 66 [some (.ref (ad 62)), some (.int l1), some (.int l2), some (.int l3), some (.int l4), some (.int q.1), some (.long q.2.1), none, some (.int q.2.2), none, none, none, none, none] [.int r63] ad (LC sh sp ++ LM) mem
    rcases ite_some' h with ⟨hc66, h⟩ | ⟨hc66, h⟩
    · refine g_if_eq_t (pc := 66) C 86 dX7_chance_66 (by decide) hc66 ?_
      obtain ⟨v86, hv86, h⟩ := lt_some h
      refine g_iinc (pc := 86) (i := 8) (x := q.2.2) (v := v86) (lv' := [some (.ref (ad 62)), some (.int l1), some (.int l2), some (.int l3), some (.int l4), some (.int q.1), some (.long q.2.1), none, some (.int v86), none, none, none, none, none]) C dX7_chance_86 rfl hv86.symm (by decide) rfl rfl ?_
      refine g_goto (pc := 89) C 47 dX7_chance_89 (by decide) ?_
      cases h
      exact hP
    · refine g_if_eq_f (pc := 66) C 86 dX7_chance_66 (by decide) hc66 ?_
      refine g_iload (pc := 69) (i := 5) (x := q.1) C dX7_chance_69 rfl ?_
      refine g_iconst (pc := 71) (v := 1) C dX7_chance_71 rfl ?_
      refine g_iload (pc := 72) (i := 8) (x := q.2.2) C dX7_chance_72 rfl ?_
      refine g_ishl (pc := 74) C dX7_chance_74 ?_
      refine g_ior (pc := 75) C dX7_chance_75 ?_
      obtain ⟨v76, hv76, h⟩ := lt_some h
      refine g_topi hv76 ?_
      refine g_istore (pc := 76) (i := 5) (lv' := [some (.ref (ad 62)), some (.int l1), some (.int l2), some (.int l3), some (.int l4), some (.int v76), some (.long q.2.1), none, some (.int q.2.2), none, none, none, none, none]) C dX7_chance_76 (by decide) rfl rfl ?_
      refine g_lload (pc := 78) (i := 6) (x := q.2.1) C dX7_chance_78 rfl ?_
      refine g_ldc2 (pc := 80) C wl_X7_293 dX7_chance_80 ?_
      refine g_lmul (pc := 83) C dX7_chance_83 ?_
      obtain ⟨v84, hv84, h⟩ := lt_some h
      refine g_topl hv84 ?_
      refine g_lstore (pc := 84) (i := 6) (lv' := [some (.ref (ad 62)), some (.int l1), some (.int l2), some (.int l3), some (.int l4), some (.int v76), some (.long v84), none, some (.int q.2.2), none, none, none, none, none]) C dX7_chance_84 (by decide) rfl rfl ?_
      obtain ⟨v86, hv86, h⟩ := lt_some h
      refine g_iinc (pc := 86) (i := 8) (x := q.2.2) (v := v86) (lv' := [some (.ref (ad 62)), some (.int l1), some (.int l2), some (.int l3), some (.int l4), some (.int v76), some (.long v84), none, some (.int v86), none, none, none, none, none]) C dX7_chance_86 rfl hv86.symm (by decide) rfl rfl ?_
      refine g_goto (pc := 89) C 47 dX7_chance_89 (by decide) ?_
      cases h
      exact hP
set_option maxRecDepth 100000 in
set_option maxHeartbeats 4000000 in
theorem b_X7_chance_125 {E : Ex} {κ : Kx} {ad : Nat → Nat} {sh sp : Nat} {d : Nat} (C : Cx E κ cX7_chance RX7 14 (some .int) d) (hd : 6 ≤ d)  {l1 : Int32} {l2 : Int32} {l3 : Int32} {l4 : Int32} {l5 : Int32} {l6 : Int64} {l8 : Int64} {l10 : Int32} {mem : Mem} {q : Int64 × Int32} {x : (Int64 × Int32) ⊕ (Int64 × Int32)} (h : f_X7_chance_b125 l1 l2 l3 l4 l5 l6 l8 l10 mem q = some x) (hP : (P_X7_chance_125 E κ ad (LC sh sp ++ LM) l1 l2 l3 l4 l5 l6 l8 l10 mem) x) : Gw E κ 14 0 0 125 [some (.ref (ad 62)), some (.int l1), some (.int l2), some (.int l3), some (.int l4), some (.int l5), some (.long l6), none, some (.long l8), none, some (.int l10), some (.long q.1), none, some (.int q.2)] [] ad (LC sh sp ++ LM) mem := by
  unfold f_X7_chance_b125 at h
  refine g_iload (pc := 125) (i := 13) (x := q.2) C dX7_chance_125 rfl ?_
  refine g_aload_n (pc := 127) (i := 0) (x := ad 62) C dX7_chance_127 rfl rfl ?_
  refine g_get (pc := 128) (v := .int (mem 62 18)) C ok_X7 18 (by decide) wf_X7_183 dX7_chance_128 la_62 rfl ?_
  rcases ite_some' h with ⟨hc131, h⟩ | ⟨hc131, h⟩
  · refine g_icmp_ge_t (pc := 131) C 179 dX7_chance_131 (by decide) hc131 ?_
    refine g_mask (lv' := [some (.ref (ad 62)), some (.int l1), some (.int l2), some (.int l3), some (.int l4), some (.int l5), some (.long l6), none, some (.long l8), none, some (.int l10), some (.long q.1), none, none]) [true, true, true, true, true, true, true, false, true, false, true, true, false, false] rfl ?_
    cases h
    exact hP
  · refine g_icmp_ge_f (pc := 131) C 179 dX7_chance_131 (by decide) hc131 ?_
    refine g_lload (pc := 134) (i := 11) (x := q.1) C dX7_chance_134 rfl ?_
    refine g_iload (pc := 136) (i := 5) (x := l5) C dX7_chance_136 rfl ?_
    refine g_iload (pc := 138) (i := 13) (x := q.2) C dX7_chance_138 rfl ?_
    obtain ⟨r140, hcall140, h⟩ := ob_some h
    refine g_callS (pc := 140) C ce0 mi_X7_has ms_X7_has wm_X7_232 dX7_chance_140 [.int l5, .int q.2] [.long q.1] (by omega) rfl rfl (Nat.le_of_ble_eq_true rfl) (m_X7_has (d := d - 1) (by omega)  hcall140) ?_
    show Gw E κ 14 0 0 143 [some (.ref (ad 62)), some (.int l1), some (.int l2), some (.int l3), some (.int l4), some (.int l5), some (.long l6), none, some (.long l8), none, some (.int l10), some (.long q.1), none, some (.int q.2)] [.int r140, .long q.1] ad (LC sh sp ++ LM) mem
    rcases ite_some' h with ⟨hc143, h⟩ | ⟨hc143, h⟩
    · refine g_if_ne_f (pc := 143) C 150 dX7_chance_143 (by decide) hc143 ?_
      refine g_lconst (pc := 146) (v := 1) C dX7_chance_146 rfl ?_
      refine g_goto (pc := 147) C 170 dX7_chance_147 (by decide) ?_
      refine g_lmul (pc := 170) C dX7_chance_170 ?_
      obtain ⟨v171, hv171, h⟩ := lt_some h
      refine g_topl hv171 ?_
      refine g_lstore (pc := 171) (i := 11) (lv' := [some (.ref (ad 62)), some (.int l1), some (.int l2), some (.int l3), some (.int l4), some (.int l5), some (.long l6), none, some (.long l8), none, some (.int l10), some (.long v171), none, some (.int q.2)]) C dX7_chance_171 (by decide) rfl rfl ?_
      obtain ⟨v173, hv173, h⟩ := lt_some h
      refine g_iinc (pc := 173) (i := 13) (x := q.2) (v := v173) (lv' := [some (.ref (ad 62)), some (.int l1), some (.int l2), some (.int l3), some (.int l4), some (.int l5), some (.long l6), none, some (.long l8), none, some (.int l10), some (.long v171), none, some (.int v173)]) C dX7_chance_173 rfl hv173.symm (by decide) rfl rfl ?_
      refine g_goto (pc := 176) C 125 dX7_chance_176 (by decide) ?_
      cases h
      exact hP
    · refine g_if_ne_t (pc := 143) C 150 dX7_chance_143 (by decide) hc143 ?_
      refine g_iload (pc := 150) (i := 10) (x := l10) C dX7_chance_150 rfl ?_
      refine g_iload (pc := 152) (i := 13) (x := q.2) C dX7_chance_152 rfl ?_
      obtain ⟨r154, hcall154, h⟩ := ob_some h
      refine g_callS (pc := 154) C ce0 mi_X7_has ms_X7_has wm_X7_232 dX7_chance_154 [.int l10, .int q.2] [.long q.1] (by omega) rfl rfl (Nat.le_of_ble_eq_true rfl) (m_X7_has (d := d - 1) (by omega)  hcall154) ?_
      show Gw E κ 14 0 0 157 [some (.ref (ad 62)), some (.int l1), some (.int l2), some (.int l3), some (.int l4), some (.int l5), some (.long l6), none, some (.long l8), none, some (.int l10), some (.long q.1), none, some (.int q.2)] [.int r154, .long q.1] ad (LC sh sp ++ LM) mem
      rcases ite_some' h with ⟨hc157, h⟩ | ⟨hc157, h⟩
      · refine g_if_eq_t (pc := 157) C 165 dX7_chance_157 (by decide) hc157 ?_
        refine g_bipush (pc := 165) (v := 10) C dX7_chance_165 rfl ?_
        refine g_iload_n (pc := 167) (i := 3) (x := l3) C dX7_chance_167 rfl rfl ?_
        refine g_isub (pc := 168) C dX7_chance_168 ?_
        refine g_i2l (pc := 169) C dX7_chance_169 ?_
        refine g_lmul (pc := 170) C dX7_chance_170 ?_
        obtain ⟨v171, hv171, h⟩ := lt_some h
        refine g_topl hv171 ?_
        refine g_lstore (pc := 171) (i := 11) (lv' := [some (.ref (ad 62)), some (.int l1), some (.int l2), some (.int l3), some (.int l4), some (.int l5), some (.long l6), none, some (.long l8), none, some (.int l10), some (.long v171), none, some (.int q.2)]) C dX7_chance_171 (by decide) rfl rfl ?_
        obtain ⟨v173, hv173, h⟩ := lt_some h
        refine g_iinc (pc := 173) (i := 13) (x := q.2) (v := v173) (lv' := [some (.ref (ad 62)), some (.int l1), some (.int l2), some (.int l3), some (.int l4), some (.int l5), some (.long l6), none, some (.long l8), none, some (.int l10), some (.long v171), none, some (.int v173)]) C dX7_chance_173 rfl hv173.symm (by decide) rfl rfl ?_
        refine g_goto (pc := 176) C 125 dX7_chance_176 (by decide) ?_
        cases h
        exact hP
      · refine g_if_eq_f (pc := 157) C 165 dX7_chance_157 (by decide) hc157 ?_
        refine g_iload_n (pc := 160) (i := 3) (x := l3) C dX7_chance_160 rfl rfl ?_
        refine g_i2l (pc := 161) C dX7_chance_161 ?_
        refine g_goto (pc := 162) C 170 dX7_chance_162 (by decide) ?_
        refine g_lmul (pc := 170) C dX7_chance_170 ?_
        obtain ⟨v171, hv171, h⟩ := lt_some h
        refine g_topl hv171 ?_
        refine g_lstore (pc := 171) (i := 11) (lv' := [some (.ref (ad 62)), some (.int l1), some (.int l2), some (.int l3), some (.int l4), some (.int l5), some (.long l6), none, some (.long l8), none, some (.int l10), some (.long v171), none, some (.int q.2)]) C dX7_chance_171 (by decide) rfl rfl ?_
        obtain ⟨v173, hv173, h⟩ := lt_some h
        refine g_iinc (pc := 173) (i := 13) (x := q.2) (v := v173) (lv' := [some (.ref (ad 62)), some (.int l1), some (.int l2), some (.int l3), some (.int l4), some (.int l5), some (.long l6), none, some (.long l8), none, some (.int l10), some (.long v171), none, some (.int v173)]) C dX7_chance_173 rfl hv173.symm (by decide) rfl rfl ?_
        refine g_goto (pc := 176) C 125 dX7_chance_176 (by decide) ?_
        cases h
        exact hP
set_option maxRecDepth 100000 in
set_option maxHeartbeats 4000000 in
theorem b_X7_chance_98 {E : Ex} {κ : Kx} {ad : Nat → Nat} {sh sp : Nat} {d : Nat} (C : Cx E κ cX7_chance RX7 14 (some .int) d) (hd : 6 ≤ d)  {l1 : Int32} {l2 : Int32} {l3 : Int32} {l4 : Int32} {l5 : Int32} {l6 : Int64} {q : Int64 × Int32 × Mem} {x : (Int64 × Int32 × Mem) ⊕ (Int64 × Int32 × Mem)} (h : f_X7_chance_b98 l1 l2 l3 l4 l5 l6 q = some x) (hP : (P_X7_chance_98 E κ ad (LC sh sp ++ LM) l1 l2 l3 l4 l5 l6) x) : Gw E κ 14 0 0 98 [some (.ref (ad 62)), some (.int l1), some (.int l2), some (.int l3), some (.int l4), some (.int l5), some (.long l6), none, some (.long q.1), none, some (.int q.2.1), none, none, none] [] ad (LC sh sp ++ LM) q.2.2 := by
  unfold f_X7_chance_b98 at h
  refine g_iload (pc := 98) (i := 10) (x := q.2.1) C dX7_chance_98 rfl ?_
  refine g_iconst (pc := 100) (v := 1) C dX7_chance_100 rfl ?_
  refine g_aload_n (pc := 101) (i := 0) (x := ad 62) C dX7_chance_101 rfl rfl ?_
  refine g_get (pc := 102) (v := .int (q.2.2 62 18)) C ok_X7 18 (by decide) wf_X7_183 dX7_chance_102 la_62 rfl ?_
  refine g_ishl (pc := 105) C dX7_chance_105 ?_
  rcases ite_some' h with ⟨hc106, h⟩ | ⟨hc106, h⟩
  · refine g_icmp_ge_t (pc := 106) C 225 dX7_chance_106 (by decide) hc106 ?_
    refine g_mask (lv' := [none, none, none, none, some (.int l4), none, some (.long l6), none, some (.long q.1), none, none, none, none, none]) [false, false, false, false, true, false, true, false, true, false, false, false, false, false] rfl ?_
    cases h
    exact hP
  · refine g_icmp_ge_f (pc := 106) C 225 dX7_chance_106 (by decide) hc106 ?_
    refine g_iload (pc := 109) (i := 10) (x := q.2.1) C dX7_chance_109 rfl ?_
    refine g_iload (pc := 111) (i := 5) (x := l5) C dX7_chance_111 rfl ?_
    refine g_iconst (pc := 113) (v := (-1)) C dX7_chance_113 rfl ?_
    refine g_ixor (pc := 114) C dX7_chance_114 ?_
    refine g_iand (pc := 115) C dX7_chance_115 ?_
    rcases ite_some' h with ⟨hc116, h⟩ | ⟨hc116, h⟩
    · refine g_if_ne_f (pc := 116) C 219 dX7_chance_116 (by decide) hc116 ?_
      refine g_lconst (pc := 119) (v := 1) C dX7_chance_119 rfl ?_
      refine g_lstore (pc := 120) (i := 11) (lv' := [some (.ref (ad 62)), some (.int l1), some (.int l2), some (.int l3), some (.int l4), some (.int l5), some (.long l6), none, some (.long q.1), none, some (.int q.2.1), some (.long 1), none, none]) C dX7_chance_120 (by decide) rfl rfl ?_
      refine g_iconst (pc := 122) (v := 0) C dX7_chance_122 rfl ?_
      refine g_istore (pc := 123) (i := 13) (lv' := [some (.ref (ad 62)), some (.int l1), some (.int l2), some (.int l3), some (.int l4), some (.int l5), some (.long l6), none, some (.long q.1), none, some (.int q.2.1), some (.long 1), none, some (.int 0)]) C dX7_chance_123 (by decide) rfl rfl ?_
      obtain ⟨q125, hq, h⟩ := ob_some h
      refine lp_gw (P_X7_chance_125 E κ ad (LC sh sp ++ LM) l1 l2 l3 l4 l5 l6 q.1 q.2.1 q.2.2) (fun q x hb hp => b_X7_chance_125 C hd hb hp) _ (1, 0) _ hq ?_
      show Gw E κ 14 0 0 179 [some (.ref (ad 62)), some (.int l1), some (.int l2), some (.int l3), some (.int l4), some (.int l5), some (.long l6), none, some (.long q.1), none, some (.int q.2.1), some (.long q125.1), none, none] [] ad (LC sh sp ++ LM) q.2.2
      refine g_aload_n (pc := 179) (i := 0) (x := ad 62) C dX7_chance_179 rfl rfl ?_
      obtain ⟨m180, hcall180, h⟩ := ob_some h
      refine g_callV (pc := 180) C ce0 mi_X7_copyNow mv_X7_copyNow wm_X7_266 dX7_chance_180 ok_X7 [] [] la_62 (by omega) rfl rfl (Nat.le_of_ble_eq_true rfl) (m_X7_copyNow (d := d - 1) (by omega)  hcall180) ?_
      show Gw E κ 14 0 0 183 [some (.ref (ad 62)), some (.int l1), some (.int l2), some (.int l3), some (.int l4), some (.int l5), some (.long l6), none, some (.long q.1), none, some (.int q.2.1), some (.long q125.1), none, none] [] ad (LC sh sp ++ LM) m180
      refine g_aload_n (pc := 183) (i := 0) (x := ad 62) C dX7_chance_183 rfl rfl ?_
      refine g_aload_n (pc := 184) (i := 0) (x := ad 62) C dX7_chance_184 rfl rfl ?_
      refine g_get (pc := 185) (v := .ref (ad 78)) C ok_X7 27 (by decide) wf_X7_55 dX7_chance_185 la_62 rfl ?_
      refine g_iload (pc := 188) (i := 10) (x := q.2.1) C dX7_chance_188 rfl ?_
      obtain ⟨r190, m190, hcall190, h⟩ := ob2_some h
      refine g_callV (pc := 190) C ce0 mi_X7_passes mv_X7_passes wm_X7_260 dX7_chance_190 ok_X7 [.ref (ad 78), .int q.2.1] [] la_62 (by omega) rfl rfl (Nat.le_of_ble_eq_true rfl) (m_X7_passes (d := d - 1) (by omega) o_78 hcall190) ?_
      show Gw E κ 14 0 0 193 [some (.ref (ad 62)), some (.int l1), some (.int l2), some (.int l3), some (.int l4), some (.int l5), some (.long l6), none, some (.long q.1), none, some (.int q.2.1), some (.long q125.1), none, none] [.int r190] ad (LC sh sp ++ LM) m190
      refine g_pop (pc := 193) C dX7_chance_193 rfl ?_
      refine g_lload (pc := 194) (i := 8) (x := q.1) C dX7_chance_194 rfl ?_
      refine g_aload_n (pc := 196) (i := 0) (x := ad 62) C dX7_chance_196 rfl rfl ?_
      refine g_get (pc := 197) (v := .ref (ad 81)) C ok_X7 30 (by decide) wf_X7_64 dX7_chance_197 la_62 rfl ?_
      refine g_bipush (pc := 200) (v := 9) C dX7_chance_200 rfl ?_
      refine g_iload_n (pc := 202) (i := 1) (x := l1) C dX7_chance_202 rfl rfl ?_
      refine g_imul (pc := 203) C dX7_chance_203 ?_
      refine g_iload_n (pc := 204) (i := 2) (x := l2) C dX7_chance_204 rfl rfl ?_
      refine g_iadd (pc := 205) C dX7_chance_205 ?_
      obtain ⟨v206, hv206, hi206, h⟩ := rd_some h
      refine g_zald (pc := 206) C dX7_chance_206 la_81 hi206 ?_
      refine g_topi hv206 ?_
      rcases ite_some' h with ⟨hc207, h⟩ | ⟨hc207, h⟩
      · refine g_if_eq_t (pc := 207) C 215 dX7_chance_207 (by decide) hc207 ?_
        refine g_lconst (pc := 215) (v := 0) C dX7_chance_215 rfl ?_
        refine g_ladd (pc := 216) C dX7_chance_216 ?_
        obtain ⟨v217, hv217, h⟩ := lt_some h
        refine g_topl hv217 ?_
        refine g_lstore (pc := 217) (i := 8) (lv' := [some (.ref (ad 62)), some (.int l1), some (.int l2), some (.int l3), some (.int l4), some (.int l5), some (.long l6), none, some (.long v217), none, some (.int q.2.1), some (.long q125.1), none, none]) C dX7_chance_217 (by decide) rfl rfl ?_
        obtain ⟨v219, hv219, h⟩ := lt_some h
        refine g_iinc (pc := 219) (i := 10) (x := q.2.1) (v := v219) (lv' := [some (.ref (ad 62)), some (.int l1), some (.int l2), some (.int l3), some (.int l4), some (.int l5), some (.long l6), none, some (.long v217), none, some (.int v219), some (.long q125.1), none, none]) C dX7_chance_219 rfl hv219.symm (by decide) rfl rfl ?_
        refine g_goto (pc := 222) C 98 dX7_chance_222 (by decide) ?_
        refine g_mask (lv' := [some (.ref (ad 62)), some (.int l1), some (.int l2), some (.int l3), some (.int l4), some (.int l5), some (.long l6), none, some (.long v217), none, some (.int v219), none, none, none]) [true, true, true, true, true, true, true, false, true, false, true, false, false, false] rfl ?_
        cases h
        exact hP
      · refine g_if_eq_f (pc := 207) C 215 dX7_chance_207 (by decide) hc207 ?_
        refine g_lload (pc := 210) (i := 11) (x := q125.1) C dX7_chance_210 rfl ?_
        refine g_goto (pc := 212) C 216 dX7_chance_212 (by decide) ?_
        refine g_ladd (pc := 216) C dX7_chance_216 ?_
        obtain ⟨v217, hv217, h⟩ := lt_some h
        refine g_topl hv217 ?_
        refine g_lstore (pc := 217) (i := 8) (lv' := [some (.ref (ad 62)), some (.int l1), some (.int l2), some (.int l3), some (.int l4), some (.int l5), some (.long l6), none, some (.long v217), none, some (.int q.2.1), some (.long q125.1), none, none]) C dX7_chance_217 (by decide) rfl rfl ?_
        obtain ⟨v219, hv219, h⟩ := lt_some h
        refine g_iinc (pc := 219) (i := 10) (x := q.2.1) (v := v219) (lv' := [some (.ref (ad 62)), some (.int l1), some (.int l2), some (.int l3), some (.int l4), some (.int l5), some (.long l6), none, some (.long v217), none, some (.int v219), some (.long q125.1), none, none]) C dX7_chance_219 rfl hv219.symm (by decide) rfl rfl ?_
        refine g_goto (pc := 222) C 98 dX7_chance_222 (by decide) ?_
        refine g_mask (lv' := [some (.ref (ad 62)), some (.int l1), some (.int l2), some (.int l3), some (.int l4), some (.int l5), some (.long l6), none, some (.long v217), none, some (.int v219), none, none, none]) [true, true, true, true, true, true, true, false, true, false, true, false, false, false] rfl ?_
        cases h
        exact hP
    · refine g_if_ne_t (pc := 116) C 219 dX7_chance_116 (by decide) hc116 ?_
      obtain ⟨v219, hv219, h⟩ := lt_some h
      refine g_iinc (pc := 219) (i := 10) (x := q.2.1) (v := v219) (lv' := [some (.ref (ad 62)), some (.int l1), some (.int l2), some (.int l3), some (.int l4), some (.int l5), some (.long l6), none, some (.long q.1), none, some (.int v219), none, none, none]) C dX7_chance_219 rfl hv219.symm (by decide) rfl rfl ?_
      refine g_goto (pc := 222) C 98 dX7_chance_222 (by decide) ?_
      cases h
      exact hP
set_option maxRecDepth 100000 in
set_option maxHeartbeats 4000000 in
theorem m_X7_chance {E : Ex} {ad : Nat → Nat} {sh sp : Nat} {d : Nat} (hd : 6 ≤ d)  {l1 : Int32} {l2 : Int32} {l3 : Int32} {l4 : Int32} {mem : Mem} {r : Int32 × Mem} (h : f_X7_chance l1 l2 l3 l4 mem = some r) : Cl E yX7_chance cX7_chance 14 (some .int) d [.ref (ad 62), .int l1, .int l2, .int l3, .int l4] (some (.int r.1)) ad (LC sh sp ++ LM) mem (LC sh sp ++ LM) r.2 := by
  refine Cl.of [some (.ref (ad 62)), some (.int l1), some (.int l2), some (.int l3), some (.int l4), none, none, none, none, none, none, none, none, none] (by decide +kernel) rfl (Nat.le_of_ble_eq_true rfl) (fun κ C hP => ?_)
  have C : Cx E κ cX7_chance RX7 14 (some .int) d := C
  unfold f_X7_chance at h
  refine g_aload_n (pc := 0) (i := 0) (x := ad 62) C dX7_chance_0 rfl rfl ?_
  refine g_iload_n (pc := 1) (i := 1) (x := l1) C dX7_chance_1 rfl rfl ?_
  obtain ⟨r2, hcall2, h⟩ := ob_some h
  refine g_callV (pc := 2) C ce0 mi_X7_isPlace mv_X7_isPlace wm_X7_219 dX7_chance_2 ok_X7 [.int l1] [] la_62 (by omega) rfl rfl (Nat.le_of_ble_eq_true rfl) (m_X7_isPlace (d := d - 1) (by omega)  hcall2) ?_
  show Gw E κ 14 0 0 5 [some (.ref (ad 62)), some (.int l1), some (.int l2), some (.int l3), some (.int l4), none, none, none, none, none, none, none, none, none] [.int r2] ad (LC sh sp ++ LM) mem
  rcases ite_some' h with ⟨hc5, h⟩ | ⟨hc5, h⟩
  · refine g_if_eq_t (pc := 5) C 36 dX7_chance_5 (by decide) hc5 ?_
    refine g_iconst (pc := 36) (v := (-1)) C dX7_chance_36 rfl ?_
    cases h
    exact g_iret (pc := 37) C hP rfl rfl dX7_chance_37
  · refine g_if_eq_f (pc := 5) C 36 dX7_chance_5 (by decide) hc5 ?_
    refine g_aload_n (pc := 8) (i := 0) (x := ad 62) C dX7_chance_8 rfl rfl ?_
    refine g_iload_n (pc := 9) (i := 2) (x := l2) C dX7_chance_9 rfl rfl ?_
    obtain ⟨r10, hcall10, h⟩ := ob_some h
    refine g_callV (pc := 10) C ce0 mi_X7_isWord mv_X7_isWord wm_X7_225 dX7_chance_10 ok_X7 [.int l2] [] la_62 (by omega) rfl rfl (Nat.le_of_ble_eq_true rfl) (m_X7_isWord (d := d - 1) (by omega)  hcall10) ?_
    show Gw E κ 14 0 0 13 [some (.ref (ad 62)), some (.int l1), some (.int l2), some (.int l3), some (.int l4), none, none, none, none, none, none, none, none, none] [.int r10] ad (LC sh sp ++ LM) mem
    rcases ite_some' h with ⟨hc13, h⟩ | ⟨hc13, h⟩
    · refine g_if_eq_t (pc := 13) C 36 dX7_chance_13 (by decide) hc13 ?_
      refine g_iconst (pc := 36) (v := (-1)) C dX7_chance_36 rfl ?_
      cases h
      exact g_iret (pc := 37) C hP rfl rfl dX7_chance_37
    · refine g_if_eq_f (pc := 13) C 36 dX7_chance_13 (by decide) hc13 ?_
      refine g_iload_n (pc := 16) (i := 3) (x := l3) C dX7_chance_16 rfl rfl ?_
      refine g_iconst (pc := 17) (v := 0) C dX7_chance_17 rfl ?_
      refine g_bipush (pc := 18) (v := 10) C dX7_chance_18 rfl ?_
      obtain ⟨r20, hcall20, h⟩ := ob_some h
      refine g_callS (pc := 20) C ce0 mi_X7_in ms_X7_in wm_X7_123 dX7_chance_20 [.int l3, .int 0, .int 10] [] (by omega) rfl rfl (Nat.le_of_ble_eq_true rfl) (m_X7_in (d := d - 1) (by omega)  hcall20) ?_
      show Gw E κ 14 0 0 23 [some (.ref (ad 62)), some (.int l1), some (.int l2), some (.int l3), some (.int l4), none, none, none, none, none, none, none, none, none] [.int r20] ad (LC sh sp ++ LM) mem
      rcases ite_some' h with ⟨hc23, h⟩ | ⟨hc23, h⟩
      · refine g_if_eq_t (pc := 23) C 36 dX7_chance_23 (by decide) hc23 ?_
        refine g_iconst (pc := 36) (v := (-1)) C dX7_chance_36 rfl ?_
        cases h
        exact g_iret (pc := 37) C hP rfl rfl dX7_chance_37
      · refine g_if_eq_f (pc := 23) C 36 dX7_chance_23 (by decide) hc23 ?_
        refine g_iload (pc := 26) (i := 4) (x := l4) C dX7_chance_26 rfl ?_
        refine g_iconst (pc := 28) (v := 0) C dX7_chance_28 rfl ?_
        refine g_iconst (pc := 29) (v := 1) C dX7_chance_29 rfl ?_
        obtain ⟨r30, hcall30, h⟩ := ob_some h
        refine g_callS (pc := 30) C ce0 mi_X7_in ms_X7_in wm_X7_123 dX7_chance_30 [.int l4, .int 0, .int 1] [] (by omega) rfl rfl (Nat.le_of_ble_eq_true rfl) (m_X7_in (d := d - 1) (by omega)  hcall30) ?_
        show Gw E κ 14 0 0 33 [some (.ref (ad 62)), some (.int l1), some (.int l2), some (.int l3), some (.int l4), none, none, none, none, none, none, none, none, none] [.int r30] ad (LC sh sp ++ LM) mem
        rcases ite_some' h with ⟨hc33, h⟩ | ⟨hc33, h⟩
        · refine g_if_ne_f (pc := 33) C 38 dX7_chance_33 (by decide) hc33 ?_
          refine g_iconst (pc := 36) (v := (-1)) C dX7_chance_36 rfl ?_
          cases h
          exact g_iret (pc := 37) C hP rfl rfl dX7_chance_37
        · refine g_if_ne_t (pc := 33) C 38 dX7_chance_33 (by decide) hc33 ?_
          refine g_iconst (pc := 38) (v := 0) C dX7_chance_38 rfl ?_
          refine g_istore (pc := 39) (i := 5) (lv' := [some (.ref (ad 62)), some (.int l1), some (.int l2), some (.int l3), some (.int l4), some (.int 0), none, none, none, none, none, none, none, none]) C dX7_chance_39 (by decide) rfl rfl ?_
          refine g_lconst (pc := 41) (v := 1) C dX7_chance_41 rfl ?_
          refine g_lstore (pc := 42) (i := 6) (lv' := [some (.ref (ad 62)), some (.int l1), some (.int l2), some (.int l3), some (.int l4), some (.int 0), some (.long 1), none, none, none, none, none, none, none]) C dX7_chance_42 (by decide) rfl rfl ?_
          refine g_iconst (pc := 44) (v := 0) C dX7_chance_44 rfl ?_
          refine g_istore (pc := 45) (i := 8) (lv' := [some (.ref (ad 62)), some (.int l1), some (.int l2), some (.int l3), some (.int l4), some (.int 0), some (.long 1), none, some (.int 0), none, none, none, none, none]) C dX7_chance_45 (by decide) rfl rfl ?_
          obtain ⟨q47, hq, h⟩ := ob_some h
          refine lp_gw (P_X7_chance_47 E κ ad (LC sh sp ++ LM) l1 l2 l3 l4 mem) (fun q x hb hp => b_X7_chance_47 C hd hb hp) _ (0, 1, 0) _ hq ?_
          show Gw E κ 14 0 0 92 [some (.ref (ad 62)), some (.int l1), some (.int l2), some (.int l3), some (.int l4), some (.int q47.1), some (.long q47.2.1), none, none, none, none, none, none, none] [] ad (LC sh sp ++ LM) mem
          refine g_lconst (pc := 92) (v := 0) C dX7_chance_92 rfl ?_
          refine g_lstore (pc := 93) (i := 8) (lv' := [some (.ref (ad 62)), some (.int l1), some (.int l2), some (.int l3), some (.int l4), some (.int q47.1), some (.long q47.2.1), none, some (.long 0), none, none, none, none, none]) C dX7_chance_93 (by decide) rfl rfl ?_
          refine g_iconst (pc := 95) (v := 0) C dX7_chance_95 rfl ?_
          refine g_istore (pc := 96) (i := 10) (lv' := [some (.ref (ad 62)), some (.int l1), some (.int l2), some (.int l3), some (.int l4), some (.int q47.1), some (.long q47.2.1), none, some (.long 0), none, some (.int 0), none, none, none]) C dX7_chance_96 (by decide) rfl rfl ?_
          obtain ⟨q98, hq, h⟩ := ob_some h
          refine lp_gw (P_X7_chance_98 E κ ad (LC sh sp ++ LM) l1 l2 l3 l4 q47.1 q47.2.1) (fun q x hb hp => b_X7_chance_98 C hd hb hp) _ (0, 0, mem) _ hq ?_
          show Gw E κ 14 0 0 225 [none, none, none, none, some (.int l4), none, some (.long q47.2.1), none, some (.long q98.1), none, none, none, none, none] [] ad (LC sh sp ++ LM) q98.2.2
          refine g_lload (pc := 225) (i := 8) (x := q98.1) C dX7_chance_225 rfl ?_
          refine g_lload (pc := 227) (i := 6) (x := q47.2.1) C dX7_chance_227 rfl ?_
          obtain ⟨r229, hcall229, h⟩ := ob_some h
          refine g_callS (pc := 229) C ce0 mi_X7_common ms_X7_common wm_X7_295 dX7_chance_229 [.long q98.1, .long q47.2.1] [] (by omega) rfl rfl (Nat.le_of_ble_eq_true rfl) (m_X7_common (d := d - 1) (by omega)  hcall229) ?_
          show Gw E κ 14 0 0 232 [none, none, none, none, some (.int l4), none, some (.long q47.2.1), none, some (.long q98.1), none, none, none, none, none] [.long r229] ad (LC sh sp ++ LM) q98.2.2
          refine g_lstore (pc := 232) (i := 10) (lv' := [none, none, none, none, some (.int l4), none, some (.long q47.2.1), none, some (.long q98.1), none, some (.long r229), none, none, none]) C dX7_chance_232 (by decide) rfl rfl ?_
          refine g_iload (pc := 234) (i := 4) (x := l4) C dX7_chance_234 rfl ?_
          rcases ite_some' h with ⟨hc236, h⟩ | ⟨hc236, h⟩
          · refine g_if_ne_f (pc := 236) C 247 dX7_chance_236 (by decide) hc236 ?_
            refine g_lload (pc := 239) (i := 8) (x := q98.1) C dX7_chance_239 rfl ?_
            refine g_lload (pc := 241) (i := 10) (x := r229) C dX7_chance_241 rfl ?_
            obtain ⟨hz243, h⟩ := dkL_some h
            refine g_ldiv (pc := 243) C dX7_chance_243 hz243 ?_
            refine g_goto (pc := 244) C 252 dX7_chance_244 (by decide) ?_
            refine g_l2i (pc := 252) C dX7_chance_252 ?_
            obtain ⟨v253, hv253, h⟩ := lt_some h
            refine g_topi hv253 ?_
            cases h
            exact g_iret (pc := 253) C hP rfl rfl dX7_chance_253
          · refine g_if_ne_t (pc := 236) C 247 dX7_chance_236 (by decide) hc236 ?_
            refine g_lload (pc := 247) (i := 6) (x := q47.2.1) C dX7_chance_247 rfl ?_
            refine g_lload (pc := 249) (i := 10) (x := r229) C dX7_chance_249 rfl ?_
            obtain ⟨hz251, h⟩ := dkL_some h
            refine g_ldiv (pc := 251) C dX7_chance_251 hz251 ?_
            refine g_l2i (pc := 252) C dX7_chance_252 ?_
            obtain ⟨v253, hv253, h⟩ := lt_some h
            refine g_topi hv253 ?_
            cases h
            exact g_iret (pc := 253) C hP rfl rfl dX7_chance_253

theorem dX7_weeks_0 : decode cX7_weeks 0 = .ok (.iload_n 1, 1) := by decide +kernel
theorem dX7_weeks_1 : decode cX7_weeks 1 = .ok (.iconst 0, 1) := by decide +kernel
theorem dX7_weeks_2 : decode cX7_weeks 2 = .ok (.sipush 9999, 3) := by decide +kernel
theorem dX7_weeks_5 : decode cX7_weeks 5 = .ok (.invokestatic 123, 3) := by decide +kernel
theorem dX7_weeks_8 : decode cX7_weeks 8 = .ok (.ifCond .eq 22, 3) := by decide +kernel
theorem dX7_weeks_11 : decode cX7_weeks 11 = .ok (.iload_n 2, 1) := by decide +kernel
theorem dX7_weeks_12 : decode cX7_weeks 12 = .ok (.iconst 1, 1) := by decide +kernel
theorem dX7_weeks_13 : decode cX7_weeks 13 = .ok (.bipush 40, 2) := by decide +kernel
theorem dX7_weeks_15 : decode cX7_weeks 15 = .ok (.invokestatic 123, 3) := by decide +kernel
theorem dX7_weeks_18 : decode cX7_weeks 18 = .ok (.ifCond .eq 12, 3) := by decide +kernel
theorem dX7_weeks_21 : decode cX7_weeks 21 = .ok (.iload_n 3, 1) := by decide +kernel
theorem dX7_weeks_22 : decode cX7_weeks 22 = .ok (.iconst 0, 1) := by decide +kernel
theorem dX7_weeks_23 : decode cX7_weeks 23 = .ok (.iconst 1, 1) := by decide +kernel
theorem dX7_weeks_24 : decode cX7_weeks 24 = .ok (.invokestatic 123, 3) := by decide +kernel
theorem dX7_weeks_27 : decode cX7_weeks 27 = .ok (.ifCond .ne 5, 3) := by decide +kernel
theorem dX7_weeks_30 : decode cX7_weeks 30 = .ok (.iconst (-1), 1) := by decide +kernel
theorem dX7_weeks_31 : decode cX7_weeks 31 = .ok (.ireturn, 1) := by decide +kernel
theorem dX7_weeks_32 : decode cX7_weeks 32 = .ok (.aload_n 0, 1) := by decide +kernel
theorem dX7_weeks_33 : decode cX7_weeks 33 = .ok (.invokevirtual 266, 3) := by decide +kernel
theorem dX7_weeks_36 : decode cX7_weeks 36 = .ok (.iconst 0, 1) := by decide +kernel
theorem dX7_weeks_37 : decode cX7_weeks 37 = .ok (.istore 4, 2) := by decide +kernel
theorem dX7_weeks_39 : decode cX7_weeks 39 = .ok (.iconst 0, 1) := by decide +kernel
theorem dX7_weeks_40 : decode cX7_weeks 40 = .ok (.istore 5, 2) := by decide +kernel
theorem dX7_weeks_42 : decode cX7_weeks 42 = .ok (.iload 5, 2) := by decide +kernel
theorem dX7_weeks_44 : decode cX7_weeks 44 = .ok (.iload_n 2, 1) := by decide +kernel
theorem dX7_weeks_45 : decode cX7_weeks 45 = .ok (.if_icmp .ge 147, 3) := by decide +kernel
theorem dX7_weeks_48 : decode cX7_weeks 48 = .ok (.ldc2_w 299, 3) := by decide +kernel
theorem dX7_weeks_51 : decode cX7_weeks 51 = .ok (.iload_n 1, 1) := by decide +kernel
theorem dX7_weeks_52 : decode cX7_weeks 52 = .ok (.i2l, 1) := by decide +kernel
theorem dX7_weeks_53 : decode cX7_weeks 53 = .ok (.lmul, 1) := by decide +kernel
theorem dX7_weeks_54 : decode cX7_weeks 54 = .ok (.ldc2_w 301, 3) := by decide +kernel
theorem dX7_weeks_57 : decode cX7_weeks 57 = .ok (.iload 5, 2) := by decide +kernel
theorem dX7_weeks_59 : decode cX7_weeks 59 = .ok (.i2l, 1) := by decide +kernel
theorem dX7_weeks_60 : decode cX7_weeks 60 = .ok (.lmul, 1) := by decide +kernel
theorem dX7_weeks_61 : decode cX7_weeks 61 = .ok (.ladd, 1) := by decide +kernel
theorem dX7_weeks_62 : decode cX7_weeks 62 = .ok (.lconst 1, 1) := by decide +kernel
theorem dX7_weeks_63 : decode cX7_weeks 63 = .ok (.ladd, 1) := by decide +kernel
theorem dX7_weeks_64 : decode cX7_weeks 64 = .ok (.lstore 6, 2) := by decide +kernel
theorem dX7_weeks_66 : decode cX7_weeks 66 = .ok (.lload 6, 2) := by decide +kernel
theorem dX7_weeks_68 : decode cX7_weeks 68 = .ok (.lload 6, 2) := by decide +kernel
theorem dX7_weeks_70 : decode cX7_weeks 70 = .ok (.lmul, 1) := by decide +kernel
theorem dX7_weeks_71 : decode cX7_weeks 71 = .ok (.ldc2_w 303, 3) := by decide +kernel
theorem dX7_weeks_74 : decode cX7_weeks 74 = .ok (.lrem, 1) := by decide +kernel
theorem dX7_weeks_75 : decode cX7_weeks 75 = .ok (.l2i, 1) := by decide +kernel
theorem dX7_weeks_76 : decode cX7_weeks 76 = .ok (.istore 8, 2) := by decide +kernel
theorem dX7_weeks_78 : decode cX7_weeks 78 = .ok (.aload_n 0, 1) := by decide +kernel
theorem dX7_weeks_79 : decode cX7_weeks 79 = .ok (.getfield 183, 3) := by decide +kernel
theorem dX7_weeks_82 : decode cX7_weeks 82 = .ok (.ifCond .le 90, 3) := by decide +kernel
theorem dX7_weeks_85 : decode cX7_weeks 85 = .ok (.aload_n 0, 1) := by decide +kernel
theorem dX7_weeks_86 : decode cX7_weeks 86 = .ok (.getfield 177, 3) := by decide +kernel
theorem dX7_weeks_89 : decode cX7_weeks 89 = .ok (.ifCond .le 83, 3) := by decide +kernel
theorem dX7_weeks_92 : decode cX7_weeks 92 = .ok (.iload 8, 2) := by decide +kernel
theorem dX7_weeks_94 : decode cX7_weeks 94 = .ok (.aload_n 0, 1) := by decide +kernel
theorem dX7_weeks_95 : decode cX7_weeks 95 = .ok (.getfield 183, 3) := by decide +kernel
theorem dX7_weeks_98 : decode cX7_weeks 98 = .ok (.irem, 1) := by decide +kernel
theorem dX7_weeks_99 : decode cX7_weeks 99 = .ok (.istore 9, 2) := by decide +kernel
theorem dX7_weeks_101 : decode cX7_weeks 101 = .ok (.iload 8, 2) := by decide +kernel
theorem dX7_weeks_103 : decode cX7_weeks 103 = .ok (.bipush 64, 2) := by decide +kernel
theorem dX7_weeks_105 : decode cX7_weeks 105 = .ok (.idiv, 1) := by decide +kernel
theorem dX7_weeks_106 : decode cX7_weeks 106 = .ok (.aload_n 0, 1) := by decide +kernel
theorem dX7_weeks_107 : decode cX7_weeks 107 = .ok (.getfield 177, 3) := by decide +kernel
theorem dX7_weeks_110 : decode cX7_weeks 110 = .ok (.irem, 1) := by decide +kernel
theorem dX7_weeks_111 : decode cX7_weeks 111 = .ok (.istore 10, 2) := by decide +kernel
theorem dX7_weeks_113 : decode cX7_weeks 113 = .ok (.aload_n 0, 1) := by decide +kernel
theorem dX7_weeks_114 : decode cX7_weeks 114 = .ok (.getfield 55, 3) := by decide +kernel
theorem dX7_weeks_117 : decode cX7_weeks 117 = .ok (.bipush 16, 2) := by decide +kernel
theorem dX7_weeks_119 : decode cX7_weeks 119 = .ok (.iconst 2, 1) := by decide +kernel
theorem dX7_weeks_120 : decode cX7_weeks 120 = .ok (.iload 9, 2) := by decide +kernel
theorem dX7_weeks_122 : decode cX7_weeks 122 = .ok (.imul, 1) := by decide +kernel
theorem dX7_weeks_123 : decode cX7_weeks 123 = .ok (.iadd, 1) := by decide +kernel
theorem dX7_weeks_124 : decode cX7_weeks 124 = .ok (.iload 10, 2) := by decide +kernel
theorem dX7_weeks_126 : decode cX7_weeks 126 = .ok (.iastore, 1) := by decide +kernel
theorem dX7_weeks_127 : decode cX7_weeks 127 = .ok (.aload_n 0, 1) := by decide +kernel
theorem dX7_weeks_128 : decode cX7_weeks 128 = .ok (.getfield 55, 3) := by decide +kernel
theorem dX7_weeks_131 : decode cX7_weeks 131 = .ok (.bipush 16, 2) := by decide +kernel
theorem dX7_weeks_133 : decode cX7_weeks 133 = .ok (.iconst 2, 1) := by decide +kernel
theorem dX7_weeks_134 : decode cX7_weeks 134 = .ok (.iload 9, 2) := by decide +kernel
theorem dX7_weeks_136 : decode cX7_weeks 136 = .ok (.imul, 1) := by decide +kernel
theorem dX7_weeks_137 : decode cX7_weeks 137 = .ok (.iadd, 1) := by decide +kernel
theorem dX7_weeks_138 : decode cX7_weeks 138 = .ok (.iconst 1, 1) := by decide +kernel
theorem dX7_weeks_139 : decode cX7_weeks 139 = .ok (.iadd, 1) := by decide +kernel
theorem dX7_weeks_140 : decode cX7_weeks 140 = .ok (.iload 8, 2) := by decide +kernel
theorem dX7_weeks_142 : decode cX7_weeks 142 = .ok (.bipush 8, 2) := by decide +kernel
theorem dX7_weeks_144 : decode cX7_weeks 144 = .ok (.idiv, 1) := by decide +kernel
theorem dX7_weeks_145 : decode cX7_weeks 145 = .ok (.aload_n 0, 1) := by decide +kernel
theorem dX7_weeks_146 : decode cX7_weeks 146 = .ok (.getfield 180, 3) := by decide +kernel
theorem dX7_weeks_149 : decode cX7_weeks 149 = .ok (.irem, 1) := by decide +kernel
theorem dX7_weeks_150 : decode cX7_weeks 150 = .ok (.iastore, 1) := by decide +kernel
theorem dX7_weeks_151 : decode cX7_weeks 151 = .ok (.iload 8, 2) := by decide +kernel
theorem dX7_weeks_153 : decode cX7_weeks 153 = .ok (.sipush 1024, 3) := by decide +kernel
theorem dX7_weeks_156 : decode cX7_weeks 156 = .ok (.idiv, 1) := by decide +kernel
theorem dX7_weeks_157 : decode cX7_weeks 157 = .ok (.iconst 4, 1) := by decide +kernel
theorem dX7_weeks_158 : decode cX7_weeks 158 = .ok (.irem, 1) := by decide +kernel
theorem dX7_weeks_159 : decode cX7_weeks 159 = .ok (.ifCond .ne 13, 3) := by decide +kernel
theorem dX7_weeks_162 : decode cX7_weeks 162 = .ok (.aload_n 0, 1) := by decide +kernel
theorem dX7_weeks_163 : decode cX7_weeks 163 = .ok (.aload_n 0, 1) := by decide +kernel
theorem dX7_weeks_164 : decode cX7_weeks 164 = .ok (.getfield 55, 3) := by decide +kernel
theorem dX7_weeks_167 : decode cX7_weeks 167 = .ok (.iload 10, 2) := by decide +kernel
theorem dX7_weeks_169 : decode cX7_weeks 169 = .ok (.invokevirtual 263, 3) := by decide +kernel
theorem dX7_weeks_172 : decode cX7_weeks 172 = .ok (.iload 4, 2) := by decide +kernel
theorem dX7_weeks_174 : decode cX7_weeks 174 = .ok (.aload_n 0, 1) := by decide +kernel
theorem dX7_weeks_175 : decode cX7_weeks 175 = .ok (.aload_n 0, 1) := by decide +kernel
theorem dX7_weeks_176 : decode cX7_weeks 176 = .ok (.getfield 55, 3) := by decide +kernel
theorem dX7_weeks_179 : decode cX7_weeks 179 = .ok (.iconst (-1), 1) := by decide +kernel
theorem dX7_weeks_180 : decode cX7_weeks 180 = .ok (.invokevirtual 260, 3) := by decide +kernel
theorem dX7_weeks_183 : decode cX7_weeks 183 = .ok (.iadd, 1) := by decide +kernel
theorem dX7_weeks_184 : decode cX7_weeks 184 = .ok (.istore 4, 2) := by decide +kernel
theorem dX7_weeks_186 : decode cX7_weeks 186 = .ok (.iinc 5 1, 3) := by decide +kernel
theorem dX7_weeks_189 : decode cX7_weeks 189 = .ok (.goto (-147), 3) := by decide +kernel
theorem dX7_weeks_192 : decode cX7_weeks 192 = .ok (.iconst 0, 1) := by decide +kernel
theorem dX7_weeks_193 : decode cX7_weeks 193 = .ok (.istore 5, 2) := by decide +kernel
theorem dX7_weeks_195 : decode cX7_weeks 195 = .ok (.iconst 0, 1) := by decide +kernel
theorem dX7_weeks_196 : decode cX7_weeks 196 = .ok (.istore 6, 2) := by decide +kernel
theorem dX7_weeks_198 : decode cX7_weeks 198 = .ok (.iload 6, 2) := by decide +kernel
theorem dX7_weeks_200 : decode cX7_weeks 200 = .ok (.aload_n 0, 1) := by decide +kernel
theorem dX7_weeks_201 : decode cX7_weeks 201 = .ok (.getfield 177, 3) := by decide +kernel
theorem dX7_weeks_204 : decode cX7_weeks 204 = .ok (.if_icmp .ge 32, 3) := by decide +kernel
theorem dX7_weeks_207 : decode cX7_weeks 207 = .ok (.iload 5, 2) := by decide +kernel
theorem dX7_weeks_209 : decode cX7_weeks 209 = .ok (.aload_n 0, 1) := by decide +kernel
theorem dX7_weeks_210 : decode cX7_weeks 210 = .ok (.aload_n 0, 1) := by decide +kernel
theorem dX7_weeks_211 : decode cX7_weeks 211 = .ok (.getfield 55, 3) := by decide +kernel
theorem dX7_weeks_214 : decode cX7_weeks 214 = .ok (.iload 6, 2) := by decide +kernel
theorem dX7_weeks_216 : decode cX7_weeks 216 = .ok (.invokevirtual 212, 3) := by decide +kernel
theorem dX7_weeks_219 : decode cX7_weeks 219 = .ok (.ifCond .ne 7, 3) := by decide +kernel
theorem dX7_weeks_222 : decode cX7_weeks 222 = .ok (.iconst 1, 1) := by decide +kernel
theorem dX7_weeks_223 : decode cX7_weeks 223 = .ok (.goto 4, 3) := by decide +kernel
theorem dX7_weeks_226 : decode cX7_weeks 226 = .ok (.iconst 0, 1) := by decide +kernel
theorem dX7_weeks_227 : decode cX7_weeks 227 = .ok (.iadd, 1) := by decide +kernel
theorem dX7_weeks_228 : decode cX7_weeks 228 = .ok (.istore 5, 2) := by decide +kernel
theorem dX7_weeks_230 : decode cX7_weeks 230 = .ok (.iinc 6 1, 3) := by decide +kernel
theorem dX7_weeks_233 : decode cX7_weeks 233 = .ok (.goto (-35), 3) := by decide +kernel
theorem dX7_weeks_236 : decode cX7_weeks 236 = .ok (.iload_n 3, 1) := by decide +kernel
theorem dX7_weeks_237 : decode cX7_weeks 237 = .ok (.ifCond .ne 8, 3) := by decide +kernel
theorem dX7_weeks_240 : decode cX7_weeks 240 = .ok (.iload 5, 2) := by decide +kernel
theorem dX7_weeks_242 : decode cX7_weeks 242 = .ok (.goto 5, 3) := by decide +kernel
theorem dX7_weeks_245 : decode cX7_weeks 245 = .ok (.iload 4, 2) := by decide +kernel
theorem dX7_weeks_247 : decode cX7_weeks 247 = .ok (.ireturn, 1) := by decide +kernel
noncomputable def f_X7_weeks_j172 (l1 : Int32) (l2 : Int32) (l3 : Int32) (l4 : Int32) (l5 : Int32) (mem : Mem) : Option ((Int32 × Int32 × Mem) ⊕ (Int32 × Int32 × Mem)) :=
  ob2 (f_X7_passes 78 (-1) mem) fun r180 m180 => lt' (l4 + r180) fun v184 => lt' (l5 + 1) fun v186 => some (.inl (v184, v186, m180))
noncomputable def f_X7_weeks_b42 (l1 : Int32) (l2 : Int32) (l3 : Int32) (q : Int32 × Int32 × Mem) : Option ((Int32 × Int32 × Mem) ⊕ (Int32 × Int32 × Mem)) :=
  if l2 ≤ q.2.1 then (some (.inr (q.1, q.2.1, q.2.2))) else (lt' (((7919 * (l1.toInt64)) + (6151 * (q.2.1.toInt64))) + 1) fun v64 => lt' ((lrm (v64 * v64) 65521).toInt32) fun v76 => if (q.2.2 62 18) ≤ 0 then (f_X7_weeks_j172 l1 l2 l3 q.1 q.2.1 q.2.2) else (if (q.2.2 62 16) ≤ 0 then (f_X7_weeks_j172 l1 l2 l3 q.1 q.2.1 q.2.2) else (dk (q.2.2 62 18) (lt' (irm v76 (q.2.2 62 18)) fun v99 => dk (q.2.2 62 16) (lt' (irm (v76 / 64) (q.2.2 62 16)) fun v111 => wr q.2.2 78 28 (16 + (2 * v99)) v111 fun m126 => dk (m126 62 17) (wr m126 78 28 ((16 + (2 * v99)) + 1) (irm (v76 / 8) (m126 62 17)) fun m150 => if (irm (v76 / 1024) 4) = 0 then (ob (f_X7_strikes 78 v111 m150) fun m169 => f_X7_weeks_j172 l1 l2 l3 q.1 q.2.1 m169) else (f_X7_weeks_j172 l1 l2 l3 q.1 q.2.1 m150)))))))
noncomputable def f_X7_weeks_b198 (l3 : Int32) (l4 : Int32) (mem : Mem) (q : Int32 × Int32) : Option ((Int32 × Int32) ⊕ (Int32 × Int32)) :=
  if (mem 62 16) ≤ q.2 then (some (.inr (q.1, q.2))) else (ob (f_X7_empties 78 q.2 mem) fun r216 => if r216 = 0 then (lt' (q.1 + 1) fun v228 => lt' (q.2 + 1) fun v230 => some (.inl (v228, v230))) else (lt' (q.1 + 0) fun v228 => lt' (q.2 + 1) fun v230 => some (.inl (v228, v230))))
noncomputable def f_X7_weeks (l1 : Int32) (l2 : Int32) (l3 : Int32) (mem : Mem) : Option (Int32 × Mem) :=
  ob (f_X7_in l1 0 9999) fun r5 => if r5 = 0 then (some ((-1), mem)) else (ob (f_X7_in l2 1 40) fun r15 => if r15 = 0 then (some ((-1), mem)) else (ob (f_X7_in l3 0 1) fun r24 => if r24 = 0 then (some ((-1), mem)) else (ob (f_X7_copyNow mem) fun m33 => ob (lp (f_X7_weeks_b42 l1 l2 l3) FU (0, 0, m33)) fun q42 => ob (lp (f_X7_weeks_b198 l3 q42.1 q42.2.2) FU (0, 0)) fun q198 => if l3 = 0 then (some (q198.1, q42.2.2)) else (some (q42.1, q42.2.2)))))
def P_X7_weeks_42 (E : Ex) (κ : Kx) (ad : Nat → Nat) (lay : List Ent) (l1 : Int32) (l2 : Int32) (l3 : Int32) : (Int32 × Int32 × Mem) ⊕ (Int32 × Int32 × Mem) → Prop
  | .inl q => Gw E κ 11 0 0 42 [some (.ref (ad 62)), some (.int l1), some (.int l2), some (.int l3), some (.int q.1), some (.int q.2.1), none, none, none, none, none] [] ad lay q.2.2
  | .inr q => Gw E κ 11 0 0 192 [some (.ref (ad 62)), none, none, some (.int l3), some (.int q.1), none, none, none, none, none, none] [] ad lay q.2.2
def P_X7_weeks_198 (E : Ex) (κ : Kx) (ad : Nat → Nat) (lay : List Ent) (l3 : Int32) (l4 : Int32) (mem : Mem) : (Int32 × Int32) ⊕ (Int32 × Int32) → Prop
  | .inl q => Gw E κ 11 0 0 198 [some (.ref (ad 62)), none, none, some (.int l3), some (.int l4), some (.int q.1), some (.int q.2), none, none, none, none] [] ad lay mem
  | .inr q => Gw E κ 11 0 0 236 [none, none, none, some (.int l3), some (.int l4), some (.int q.1), none, none, none, none, none] [] ad lay mem
set_option maxRecDepth 100000 in
set_option maxHeartbeats 4000000 in
theorem j_X7_weeks_172 {E : Ex} {κ : Kx} {ad : Nat → Nat} {sh sp : Nat} {d : Nat} (C : Cx E κ cX7_weeks RX7 11 (some .int) d) (hd : 6 ≤ d)  {l1 : Int32} {l2 : Int32} {l3 : Int32} {l4 : Int32} {l5 : Int32} {mem : Mem} {x : (Int32 × Int32 × Mem) ⊕ (Int32 × Int32 × Mem)} (h : f_X7_weeks_j172 l1 l2 l3 l4 l5 mem = some x) (hP : (P_X7_weeks_42 E κ ad (LC sh sp ++ LM) l1 l2 l3) x) : Gw E κ 11 0 0 172 [some (.ref (ad 62)), some (.int l1), some (.int l2), some (.int l3), some (.int l4), some (.int l5), none, none, none, none, none] [] ad (LC sh sp ++ LM) mem := by
  unfold f_X7_weeks_j172 at h
  refine g_iload (pc := 172) (i := 4) (x := l4) C dX7_weeks_172 rfl ?_
  refine g_aload_n (pc := 174) (i := 0) (x := ad 62) C dX7_weeks_174 rfl rfl ?_
  refine g_aload_n (pc := 175) (i := 0) (x := ad 62) C dX7_weeks_175 rfl rfl ?_
  refine g_get (pc := 176) (v := .ref (ad 78)) C ok_X7 27 (by decide) wf_X7_55 dX7_weeks_176 la_62 rfl ?_
  refine g_iconst (pc := 179) (v := (-1)) C dX7_weeks_179 rfl ?_
  obtain ⟨r180, m180, hcall180, h⟩ := ob2_some h
  refine g_callV (pc := 180) C ce0 mi_X7_passes mv_X7_passes wm_X7_260 dX7_weeks_180 ok_X7 [.ref (ad 78), .int (-1)] [.int l4] la_62 (by omega) rfl rfl (Nat.le_of_ble_eq_true rfl) (m_X7_passes (d := d - 1) (by omega) o_78 hcall180) ?_
  show Gw E κ 11 0 0 183 [some (.ref (ad 62)), some (.int l1), some (.int l2), some (.int l3), some (.int l4), some (.int l5), none, none, none, none, none] [.int r180, .int l4] ad (LC sh sp ++ LM) m180
  refine g_iadd (pc := 183) C dX7_weeks_183 ?_
  obtain ⟨v184, hv184, h⟩ := lt_some h
  refine g_topi hv184 ?_
  refine g_istore (pc := 184) (i := 4) (lv' := [some (.ref (ad 62)), some (.int l1), some (.int l2), some (.int l3), some (.int v184), some (.int l5), none, none, none, none, none]) C dX7_weeks_184 (by decide) rfl rfl ?_
  obtain ⟨v186, hv186, h⟩ := lt_some h
  refine g_iinc (pc := 186) (i := 5) (x := l5) (v := v186) (lv' := [some (.ref (ad 62)), some (.int l1), some (.int l2), some (.int l3), some (.int v184), some (.int v186), none, none, none, none, none]) C dX7_weeks_186 rfl hv186.symm (by decide) rfl rfl ?_
  refine g_goto (pc := 189) C 42 dX7_weeks_189 (by decide) ?_
  cases h
  exact hP
set_option maxRecDepth 100000 in
set_option maxHeartbeats 4000000 in
theorem b_X7_weeks_42 {E : Ex} {κ : Kx} {ad : Nat → Nat} {sh sp : Nat} {d : Nat} (C : Cx E κ cX7_weeks RX7 11 (some .int) d) (hd : 6 ≤ d)  {l1 : Int32} {l2 : Int32} {l3 : Int32} {q : Int32 × Int32 × Mem} {x : (Int32 × Int32 × Mem) ⊕ (Int32 × Int32 × Mem)} (h : f_X7_weeks_b42 l1 l2 l3 q = some x) (hP : (P_X7_weeks_42 E κ ad (LC sh sp ++ LM) l1 l2 l3) x) : Gw E κ 11 0 0 42 [some (.ref (ad 62)), some (.int l1), some (.int l2), some (.int l3), some (.int q.1), some (.int q.2.1), none, none, none, none, none] [] ad (LC sh sp ++ LM) q.2.2 := by
  unfold f_X7_weeks_b42 at h
  refine g_iload (pc := 42) (i := 5) (x := q.2.1) C dX7_weeks_42 rfl ?_
  refine g_iload_n (pc := 44) (i := 2) (x := l2) C dX7_weeks_44 rfl rfl ?_
  rcases ite_some' h with ⟨hc45, h⟩ | ⟨hc45, h⟩
  · refine g_icmp_ge_t (pc := 45) C 192 dX7_weeks_45 (by decide) hc45 ?_
    refine g_mask (lv' := [some (.ref (ad 62)), none, none, some (.int l3), some (.int q.1), none, none, none, none, none, none]) [true, false, false, true, true, false, false, false, false, false, false] rfl ?_
    cases h
    exact hP
  · refine g_icmp_ge_f (pc := 45) C 192 dX7_weeks_45 (by decide) hc45 ?_
    refine g_ldc2 (pc := 48) C wl_X7_299 dX7_weeks_48 ?_
    refine g_iload_n (pc := 51) (i := 1) (x := l1) C dX7_weeks_51 rfl rfl ?_
    refine g_i2l (pc := 52) C dX7_weeks_52 ?_
    refine g_lmul (pc := 53) C dX7_weeks_53 ?_
    refine g_ldc2 (pc := 54) C wl_X7_301 dX7_weeks_54 ?_
    refine g_iload (pc := 57) (i := 5) (x := q.2.1) C dX7_weeks_57 rfl ?_
    refine g_i2l (pc := 59) C dX7_weeks_59 ?_
    refine g_lmul (pc := 60) C dX7_weeks_60 ?_
    refine g_ladd (pc := 61) C dX7_weeks_61 ?_
    refine g_lconst (pc := 62) (v := 1) C dX7_weeks_62 rfl ?_
    refine g_ladd (pc := 63) C dX7_weeks_63 ?_
    obtain ⟨v64, hv64, h⟩ := lt_some h
    refine g_topl hv64 ?_
    refine g_lstore (pc := 64) (i := 6) (lv' := [some (.ref (ad 62)), some (.int l1), some (.int l2), some (.int l3), some (.int q.1), some (.int q.2.1), some (.long v64), none, none, none, none]) C dX7_weeks_64 (by decide) rfl rfl ?_
    refine g_lload (pc := 66) (i := 6) (x := v64) C dX7_weeks_66 rfl ?_
    refine g_lload (pc := 68) (i := 6) (x := v64) C dX7_weeks_68 rfl ?_
    refine g_lmul (pc := 70) C dX7_weeks_70 ?_
    refine g_ldc2 (pc := 71) C wl_X7_303 dX7_weeks_71 ?_
    refine g_lrem' (pc := 74) C dX7_weeks_74 (by decide) ?_
    refine g_l2i (pc := 75) C dX7_weeks_75 ?_
    obtain ⟨v76, hv76, h⟩ := lt_some h
    refine g_topi hv76 ?_
    refine g_istore (pc := 76) (i := 8) (lv' := [some (.ref (ad 62)), some (.int l1), some (.int l2), some (.int l3), some (.int q.1), some (.int q.2.1), some (.long v64), none, some (.int v76), none, none]) C dX7_weeks_76 (by decide) rfl rfl ?_
    refine g_aload_n (pc := 78) (i := 0) (x := ad 62) C dX7_weeks_78 rfl rfl ?_
    refine g_get (pc := 79) (v := .int (q.2.2 62 18)) C ok_X7 18 (by decide) wf_X7_183 dX7_weeks_79 la_62 rfl ?_
    rcases ite_some' h with ⟨hc82, h⟩ | ⟨hc82, h⟩
    · refine g_if_le_t (pc := 82) C 172 dX7_weeks_82 (by decide) hc82 ?_
      refine g_mask (lv' := [some (.ref (ad 62)), some (.int l1), some (.int l2), some (.int l3), some (.int q.1), some (.int q.2.1), none, none, none, none, none]) [true, true, true, true, true, true, false, false, false, false, false] rfl ?_
      exact j_X7_weeks_172 C hd h hP
    · refine g_if_le_f (pc := 82) C 172 dX7_weeks_82 (by decide) hc82 ?_
      refine g_aload_n (pc := 85) (i := 0) (x := ad 62) C dX7_weeks_85 rfl rfl ?_
      refine g_get (pc := 86) (v := .int (q.2.2 62 16)) C ok_X7 16 (by decide) wf_X7_177 dX7_weeks_86 la_62 rfl ?_
      rcases ite_some' h with ⟨hc89, h⟩ | ⟨hc89, h⟩
      · refine g_if_le_t (pc := 89) C 172 dX7_weeks_89 (by decide) hc89 ?_
        refine g_mask (lv' := [some (.ref (ad 62)), some (.int l1), some (.int l2), some (.int l3), some (.int q.1), some (.int q.2.1), none, none, none, none, none]) [true, true, true, true, true, true, false, false, false, false, false] rfl ?_
        exact j_X7_weeks_172 C hd h hP
      · refine g_if_le_f (pc := 89) C 172 dX7_weeks_89 (by decide) hc89 ?_
        refine g_iload (pc := 92) (i := 8) (x := v76) C dX7_weeks_92 rfl ?_
        refine g_aload_n (pc := 94) (i := 0) (x := ad 62) C dX7_weeks_94 rfl rfl ?_
        refine g_get (pc := 95) (v := .int (q.2.2 62 18)) C ok_X7 18 (by decide) wf_X7_183 dX7_weeks_95 la_62 rfl ?_
        obtain ⟨hz98, h⟩ := dk_some h
        refine g_irem' (pc := 98) C dX7_weeks_98 hz98 ?_
        obtain ⟨v99, hv99, h⟩ := lt_some h
        refine g_topi hv99 ?_
        refine g_istore (pc := 99) (i := 9) (lv' := [some (.ref (ad 62)), some (.int l1), some (.int l2), some (.int l3), some (.int q.1), some (.int q.2.1), some (.long v64), none, some (.int v76), some (.int v99), none]) C dX7_weeks_99 (by decide) rfl rfl ?_
        refine g_iload (pc := 101) (i := 8) (x := v76) C dX7_weeks_101 rfl ?_
        refine g_bipush (pc := 103) (v := 64) C dX7_weeks_103 rfl ?_
        refine g_idiv (pc := 105) C dX7_weeks_105 (by decide) ?_
        refine g_aload_n (pc := 106) (i := 0) (x := ad 62) C dX7_weeks_106 rfl rfl ?_
        refine g_get (pc := 107) (v := .int (q.2.2 62 16)) C ok_X7 16 (by decide) wf_X7_177 dX7_weeks_107 la_62 rfl ?_
        obtain ⟨hz110, h⟩ := dk_some h
        refine g_irem' (pc := 110) C dX7_weeks_110 hz110 ?_
        obtain ⟨v111, hv111, h⟩ := lt_some h
        refine g_topi hv111 ?_
        refine g_istore (pc := 111) (i := 10) (lv' := [some (.ref (ad 62)), some (.int l1), some (.int l2), some (.int l3), some (.int q.1), some (.int q.2.1), some (.long v64), none, some (.int v76), some (.int v99), some (.int v111)]) C dX7_weeks_111 (by decide) rfl rfl ?_
        refine g_aload_n (pc := 113) (i := 0) (x := ad 62) C dX7_weeks_113 rfl rfl ?_
        refine g_get (pc := 114) (v := .ref (ad 78)) C ok_X7 27 (by decide) wf_X7_55 dX7_weeks_114 la_62 rfl ?_
        refine g_bipush (pc := 117) (v := 16) C dX7_weeks_117 rfl ?_
        refine g_iconst (pc := 119) (v := 2) C dX7_weeks_119 rfl ?_
        refine g_iload (pc := 120) (i := 9) (x := v99) C dX7_weeks_120 rfl ?_
        refine g_imul (pc := 122) C dX7_weeks_122 ?_
        refine g_iadd (pc := 123) C dX7_weeks_123 ?_
        refine g_iload (pc := 124) (i := 10) (x := v111) C dX7_weeks_124 rfl ?_
        obtain ⟨m126, hm126, hi126, h⟩ := wr_some h
        refine g_iast (pc := 126) C dX7_weeks_126 la_78 hi126 ?_
        refine g_mem hm126 ?_
        refine g_aload_n (pc := 127) (i := 0) (x := ad 62) C dX7_weeks_127 rfl rfl ?_
        refine g_get (pc := 128) (v := .ref (ad 78)) C ok_X7 27 (by decide) wf_X7_55 dX7_weeks_128 la_62 rfl ?_
        refine g_bipush (pc := 131) (v := 16) C dX7_weeks_131 rfl ?_
        refine g_iconst (pc := 133) (v := 2) C dX7_weeks_133 rfl ?_
        refine g_iload (pc := 134) (i := 9) (x := v99) C dX7_weeks_134 rfl ?_
        refine g_imul (pc := 136) C dX7_weeks_136 ?_
        refine g_iadd (pc := 137) C dX7_weeks_137 ?_
        refine g_iconst (pc := 138) (v := 1) C dX7_weeks_138 rfl ?_
        refine g_iadd (pc := 139) C dX7_weeks_139 ?_
        refine g_iload (pc := 140) (i := 8) (x := v76) C dX7_weeks_140 rfl ?_
        refine g_bipush (pc := 142) (v := 8) C dX7_weeks_142 rfl ?_
        refine g_idiv (pc := 144) C dX7_weeks_144 (by decide) ?_
        refine g_aload_n (pc := 145) (i := 0) (x := ad 62) C dX7_weeks_145 rfl rfl ?_
        refine g_get (pc := 146) (v := .int (m126 62 17)) C ok_X7 17 (by decide) wf_X7_180 dX7_weeks_146 la_62 rfl ?_
        obtain ⟨hz149, h⟩ := dk_some h
        refine g_irem' (pc := 149) C dX7_weeks_149 hz149 ?_
        obtain ⟨m150, hm150, hi150, h⟩ := wr_some h
        refine g_iast (pc := 150) C dX7_weeks_150 la_78 hi150 ?_
        refine g_mem hm150 ?_
        refine g_iload (pc := 151) (i := 8) (x := v76) C dX7_weeks_151 rfl ?_
        refine g_sipush (pc := 153) (v := 1024) C dX7_weeks_153 rfl ?_
        refine g_idiv (pc := 156) C dX7_weeks_156 (by decide) ?_
        refine g_iconst (pc := 157) (v := 4) C dX7_weeks_157 rfl ?_
        refine g_irem' (pc := 158) C dX7_weeks_158 (by decide) ?_
        rcases ite_some' h with ⟨hc159, h⟩ | ⟨hc159, h⟩
        · refine g_if_ne_f (pc := 159) C 172 dX7_weeks_159 (by decide) hc159 ?_
          refine g_aload_n (pc := 162) (i := 0) (x := ad 62) C dX7_weeks_162 rfl rfl ?_
          refine g_aload_n (pc := 163) (i := 0) (x := ad 62) C dX7_weeks_163 rfl rfl ?_
          refine g_get (pc := 164) (v := .ref (ad 78)) C ok_X7 27 (by decide) wf_X7_55 dX7_weeks_164 la_62 rfl ?_
          refine g_iload (pc := 167) (i := 10) (x := v111) C dX7_weeks_167 rfl ?_
          obtain ⟨m169, hcall169, h⟩ := ob_some h
          refine g_callV (pc := 169) C ce0 mi_X7_strikes mv_X7_strikes wm_X7_263 dX7_weeks_169 ok_X7 [.ref (ad 78), .int v111] [] la_62 (by omega) rfl rfl (Nat.le_of_ble_eq_true rfl) (m_X7_strikes (d := d - 1) (by omega) o_78 hcall169) ?_
          show Gw E κ 11 0 0 172 [some (.ref (ad 62)), some (.int l1), some (.int l2), some (.int l3), some (.int q.1), some (.int q.2.1), some (.long v64), none, some (.int v76), some (.int v99), some (.int v111)] [] ad (LC sh sp ++ LM) m169
          refine g_mask (lv' := [some (.ref (ad 62)), some (.int l1), some (.int l2), some (.int l3), some (.int q.1), some (.int q.2.1), none, none, none, none, none]) [true, true, true, true, true, true, false, false, false, false, false] rfl ?_
          exact j_X7_weeks_172 C hd h hP
        · refine g_if_ne_t (pc := 159) C 172 dX7_weeks_159 (by decide) hc159 ?_
          refine g_mask (lv' := [some (.ref (ad 62)), some (.int l1), some (.int l2), some (.int l3), some (.int q.1), some (.int q.2.1), none, none, none, none, none]) [true, true, true, true, true, true, false, false, false, false, false] rfl ?_
          exact j_X7_weeks_172 C hd h hP
set_option maxRecDepth 100000 in
set_option maxHeartbeats 4000000 in
theorem b_X7_weeks_198 {E : Ex} {κ : Kx} {ad : Nat → Nat} {sh sp : Nat} {d : Nat} (C : Cx E κ cX7_weeks RX7 11 (some .int) d) (hd : 6 ≤ d)  {l3 : Int32} {l4 : Int32} {mem : Mem} {q : Int32 × Int32} {x : (Int32 × Int32) ⊕ (Int32 × Int32)} (h : f_X7_weeks_b198 l3 l4 mem q = some x) (hP : (P_X7_weeks_198 E κ ad (LC sh sp ++ LM) l3 l4 mem) x) : Gw E κ 11 0 0 198 [some (.ref (ad 62)), none, none, some (.int l3), some (.int l4), some (.int q.1), some (.int q.2), none, none, none, none] [] ad (LC sh sp ++ LM) mem := by
  unfold f_X7_weeks_b198 at h
  refine g_iload (pc := 198) (i := 6) (x := q.2) C dX7_weeks_198 rfl ?_
  refine g_aload_n (pc := 200) (i := 0) (x := ad 62) C dX7_weeks_200 rfl rfl ?_
  refine g_get (pc := 201) (v := .int (mem 62 16)) C ok_X7 16 (by decide) wf_X7_177 dX7_weeks_201 la_62 rfl ?_
  rcases ite_some' h with ⟨hc204, h⟩ | ⟨hc204, h⟩
  · refine g_icmp_ge_t (pc := 204) C 236 dX7_weeks_204 (by decide) hc204 ?_
    refine g_mask (lv' := [none, none, none, some (.int l3), some (.int l4), some (.int q.1), none, none, none, none, none]) [false, false, false, true, true, true, false, false, false, false, false] rfl ?_
    cases h
    exact hP
  · refine g_icmp_ge_f (pc := 204) C 236 dX7_weeks_204 (by decide) hc204 ?_
    refine g_iload (pc := 207) (i := 5) (x := q.1) C dX7_weeks_207 rfl ?_
    refine g_aload_n (pc := 209) (i := 0) (x := ad 62) C dX7_weeks_209 rfl rfl ?_
    refine g_aload_n (pc := 210) (i := 0) (x := ad 62) C dX7_weeks_210 rfl rfl ?_
    refine g_get (pc := 211) (v := .ref (ad 78)) C ok_X7 27 (by decide) wf_X7_55 dX7_weeks_211 la_62 rfl ?_
    refine g_iload (pc := 214) (i := 6) (x := q.2) C dX7_weeks_214 rfl ?_
    obtain ⟨r216, hcall216, h⟩ := ob_some h
    refine g_callV (pc := 216) C ce0 mi_X7_empties mv_X7_empties wm_X7_212 dX7_weeks_216 ok_X7 [.ref (ad 78), .int q.2] [.int q.1] la_62 (by omega) rfl rfl (Nat.le_of_ble_eq_true rfl) (m_X7_empties (d := d - 1) (by omega) o_78 hcall216) ?_
    show Gw E κ 11 0 0 219 [some (.ref (ad 62)), none, none, some (.int l3), some (.int l4), some (.int q.1), some (.int q.2), none, none, none, none] [.int r216, .int q.1] ad (LC sh sp ++ LM) mem
    rcases ite_some' h with ⟨hc219, h⟩ | ⟨hc219, h⟩
    · refine g_if_ne_f (pc := 219) C 226 dX7_weeks_219 (by decide) hc219 ?_
      refine g_iconst (pc := 222) (v := 1) C dX7_weeks_222 rfl ?_
      refine g_goto (pc := 223) C 227 dX7_weeks_223 (by decide) ?_
      refine g_iadd (pc := 227) C dX7_weeks_227 ?_
      obtain ⟨v228, hv228, h⟩ := lt_some h
      refine g_topi hv228 ?_
      refine g_istore (pc := 228) (i := 5) (lv' := [some (.ref (ad 62)), none, none, some (.int l3), some (.int l4), some (.int v228), some (.int q.2), none, none, none, none]) C dX7_weeks_228 (by decide) rfl rfl ?_
      obtain ⟨v230, hv230, h⟩ := lt_some h
      refine g_iinc (pc := 230) (i := 6) (x := q.2) (v := v230) (lv' := [some (.ref (ad 62)), none, none, some (.int l3), some (.int l4), some (.int v228), some (.int v230), none, none, none, none]) C dX7_weeks_230 rfl hv230.symm (by decide) rfl rfl ?_
      refine g_goto (pc := 233) C 198 dX7_weeks_233 (by decide) ?_
      cases h
      exact hP
    · refine g_if_ne_t (pc := 219) C 226 dX7_weeks_219 (by decide) hc219 ?_
      refine g_iconst (pc := 226) (v := 0) C dX7_weeks_226 rfl ?_
      refine g_iadd (pc := 227) C dX7_weeks_227 ?_
      obtain ⟨v228, hv228, h⟩ := lt_some h
      refine g_topi hv228 ?_
      refine g_istore (pc := 228) (i := 5) (lv' := [some (.ref (ad 62)), none, none, some (.int l3), some (.int l4), some (.int v228), some (.int q.2), none, none, none, none]) C dX7_weeks_228 (by decide) rfl rfl ?_
      obtain ⟨v230, hv230, h⟩ := lt_some h
      refine g_iinc (pc := 230) (i := 6) (x := q.2) (v := v230) (lv' := [some (.ref (ad 62)), none, none, some (.int l3), some (.int l4), some (.int v228), some (.int v230), none, none, none, none]) C dX7_weeks_230 rfl hv230.symm (by decide) rfl rfl ?_
      refine g_goto (pc := 233) C 198 dX7_weeks_233 (by decide) ?_
      cases h
      exact hP
set_option maxRecDepth 100000 in
set_option maxHeartbeats 4000000 in
theorem m_X7_weeks {E : Ex} {ad : Nat → Nat} {sh sp : Nat} {d : Nat} (hd : 6 ≤ d)  {l1 : Int32} {l2 : Int32} {l3 : Int32} {mem : Mem} {r : Int32 × Mem} (h : f_X7_weeks l1 l2 l3 mem = some r) : Cl E yX7_weeks cX7_weeks 11 (some .int) d [.ref (ad 62), .int l1, .int l2, .int l3] (some (.int r.1)) ad (LC sh sp ++ LM) mem (LC sh sp ++ LM) r.2 := by
  refine Cl.of [some (.ref (ad 62)), some (.int l1), some (.int l2), some (.int l3), none, none, none, none, none, none, none] (by decide +kernel) rfl (Nat.le_of_ble_eq_true rfl) (fun κ C hP => ?_)
  have C : Cx E κ cX7_weeks RX7 11 (some .int) d := C
  unfold f_X7_weeks at h
  refine g_iload_n (pc := 0) (i := 1) (x := l1) C dX7_weeks_0 rfl rfl ?_
  refine g_iconst (pc := 1) (v := 0) C dX7_weeks_1 rfl ?_
  refine g_sipush (pc := 2) (v := 9999) C dX7_weeks_2 rfl ?_
  obtain ⟨r5, hcall5, h⟩ := ob_some h
  refine g_callS (pc := 5) C ce0 mi_X7_in ms_X7_in wm_X7_123 dX7_weeks_5 [.int l1, .int 0, .int 9999] [] (by omega) rfl rfl (Nat.le_of_ble_eq_true rfl) (m_X7_in (d := d - 1) (by omega)  hcall5) ?_
  show Gw E κ 11 0 0 8 [some (.ref (ad 62)), some (.int l1), some (.int l2), some (.int l3), none, none, none, none, none, none, none] [.int r5] ad (LC sh sp ++ LM) mem
  rcases ite_some' h with ⟨hc8, h⟩ | ⟨hc8, h⟩
  · refine g_if_eq_t (pc := 8) C 30 dX7_weeks_8 (by decide) hc8 ?_
    refine g_iconst (pc := 30) (v := (-1)) C dX7_weeks_30 rfl ?_
    cases h
    exact g_iret (pc := 31) C hP rfl rfl dX7_weeks_31
  · refine g_if_eq_f (pc := 8) C 30 dX7_weeks_8 (by decide) hc8 ?_
    refine g_iload_n (pc := 11) (i := 2) (x := l2) C dX7_weeks_11 rfl rfl ?_
    refine g_iconst (pc := 12) (v := 1) C dX7_weeks_12 rfl ?_
    refine g_bipush (pc := 13) (v := 40) C dX7_weeks_13 rfl ?_
    obtain ⟨r15, hcall15, h⟩ := ob_some h
    refine g_callS (pc := 15) C ce0 mi_X7_in ms_X7_in wm_X7_123 dX7_weeks_15 [.int l2, .int 1, .int 40] [] (by omega) rfl rfl (Nat.le_of_ble_eq_true rfl) (m_X7_in (d := d - 1) (by omega)  hcall15) ?_
    show Gw E κ 11 0 0 18 [some (.ref (ad 62)), some (.int l1), some (.int l2), some (.int l3), none, none, none, none, none, none, none] [.int r15] ad (LC sh sp ++ LM) mem
    rcases ite_some' h with ⟨hc18, h⟩ | ⟨hc18, h⟩
    · refine g_if_eq_t (pc := 18) C 30 dX7_weeks_18 (by decide) hc18 ?_
      refine g_iconst (pc := 30) (v := (-1)) C dX7_weeks_30 rfl ?_
      cases h
      exact g_iret (pc := 31) C hP rfl rfl dX7_weeks_31
    · refine g_if_eq_f (pc := 18) C 30 dX7_weeks_18 (by decide) hc18 ?_
      refine g_iload_n (pc := 21) (i := 3) (x := l3) C dX7_weeks_21 rfl rfl ?_
      refine g_iconst (pc := 22) (v := 0) C dX7_weeks_22 rfl ?_
      refine g_iconst (pc := 23) (v := 1) C dX7_weeks_23 rfl ?_
      obtain ⟨r24, hcall24, h⟩ := ob_some h
      refine g_callS (pc := 24) C ce0 mi_X7_in ms_X7_in wm_X7_123 dX7_weeks_24 [.int l3, .int 0, .int 1] [] (by omega) rfl rfl (Nat.le_of_ble_eq_true rfl) (m_X7_in (d := d - 1) (by omega)  hcall24) ?_
      show Gw E κ 11 0 0 27 [some (.ref (ad 62)), some (.int l1), some (.int l2), some (.int l3), none, none, none, none, none, none, none] [.int r24] ad (LC sh sp ++ LM) mem
      rcases ite_some' h with ⟨hc27, h⟩ | ⟨hc27, h⟩
      · refine g_if_ne_f (pc := 27) C 32 dX7_weeks_27 (by decide) hc27 ?_
        refine g_iconst (pc := 30) (v := (-1)) C dX7_weeks_30 rfl ?_
        cases h
        exact g_iret (pc := 31) C hP rfl rfl dX7_weeks_31
      · refine g_if_ne_t (pc := 27) C 32 dX7_weeks_27 (by decide) hc27 ?_
        refine g_aload_n (pc := 32) (i := 0) (x := ad 62) C dX7_weeks_32 rfl rfl ?_
        obtain ⟨m33, hcall33, h⟩ := ob_some h
        refine g_callV (pc := 33) C ce0 mi_X7_copyNow mv_X7_copyNow wm_X7_266 dX7_weeks_33 ok_X7 [] [] la_62 (by omega) rfl rfl (Nat.le_of_ble_eq_true rfl) (m_X7_copyNow (d := d - 1) (by omega)  hcall33) ?_
        show Gw E κ 11 0 0 36 [some (.ref (ad 62)), some (.int l1), some (.int l2), some (.int l3), none, none, none, none, none, none, none] [] ad (LC sh sp ++ LM) m33
        refine g_iconst (pc := 36) (v := 0) C dX7_weeks_36 rfl ?_
        refine g_istore (pc := 37) (i := 4) (lv' := [some (.ref (ad 62)), some (.int l1), some (.int l2), some (.int l3), some (.int 0), none, none, none, none, none, none]) C dX7_weeks_37 (by decide) rfl rfl ?_
        refine g_iconst (pc := 39) (v := 0) C dX7_weeks_39 rfl ?_
        refine g_istore (pc := 40) (i := 5) (lv' := [some (.ref (ad 62)), some (.int l1), some (.int l2), some (.int l3), some (.int 0), some (.int 0), none, none, none, none, none]) C dX7_weeks_40 (by decide) rfl rfl ?_
        obtain ⟨q42, hq, h⟩ := ob_some h
        refine lp_gw (P_X7_weeks_42 E κ ad (LC sh sp ++ LM) l1 l2 l3) (fun q x hb hp => b_X7_weeks_42 C hd hb hp) _ (0, 0, m33) _ hq ?_
        show Gw E κ 11 0 0 192 [some (.ref (ad 62)), none, none, some (.int l3), some (.int q42.1), none, none, none, none, none, none] [] ad (LC sh sp ++ LM) q42.2.2
        refine g_iconst (pc := 192) (v := 0) C dX7_weeks_192 rfl ?_
        refine g_istore (pc := 193) (i := 5) (lv' := [some (.ref (ad 62)), none, none, some (.int l3), some (.int q42.1), some (.int 0), none, none, none, none, none]) C dX7_weeks_193 (by decide) rfl rfl ?_
        refine g_iconst (pc := 195) (v := 0) C dX7_weeks_195 rfl ?_
        refine g_istore (pc := 196) (i := 6) (lv' := [some (.ref (ad 62)), none, none, some (.int l3), some (.int q42.1), some (.int 0), some (.int 0), none, none, none, none]) C dX7_weeks_196 (by decide) rfl rfl ?_
        obtain ⟨q198, hq, h⟩ := ob_some h
        refine lp_gw (P_X7_weeks_198 E κ ad (LC sh sp ++ LM) l3 q42.1 q42.2.2) (fun q x hb hp => b_X7_weeks_198 C hd hb hp) _ (0, 0) _ hq ?_
        show Gw E κ 11 0 0 236 [none, none, none, some (.int l3), some (.int q42.1), some (.int q198.1), none, none, none, none, none] [] ad (LC sh sp ++ LM) q42.2.2
        refine g_iload_n (pc := 236) (i := 3) (x := l3) C dX7_weeks_236 rfl rfl ?_
        rcases ite_some' h with ⟨hc237, h⟩ | ⟨hc237, h⟩
        · refine g_if_ne_f (pc := 237) C 245 dX7_weeks_237 (by decide) hc237 ?_
          refine g_iload (pc := 240) (i := 5) (x := q198.1) C dX7_weeks_240 rfl ?_
          refine g_goto (pc := 242) C 247 dX7_weeks_242 (by decide) ?_
          cases h
          exact g_iret (pc := 247) C hP rfl rfl dX7_weeks_247
        · refine g_if_ne_t (pc := 237) C 245 dX7_weeks_237 (by decide) hc237 ?_
          refine g_iload (pc := 245) (i := 4) (x := q42.1) C dX7_weeks_245 rfl ?_
          cases h
          exact g_iret (pc := 247) C hP rfl rfl dX7_weeks_247

theorem dX7_keep_0 : decode cX7_keep 0 = .ok (.aload_n 0, 1) := by decide +kernel
theorem dX7_keep_1 : decode cX7_keep 1 = .ok (.getfield 192, 3) := by decide +kernel
theorem dX7_keep_4 : decode cX7_keep 4 = .ok (.iconst 2, 1) := by decide +kernel
theorem dX7_keep_5 : decode cX7_keep 5 = .ok (.if_icmp .ne 6, 3) := by decide +kernel
theorem dX7_keep_8 : decode cX7_keep 8 = .ok (.bipush (-3), 2) := by decide +kernel
theorem dX7_keep_10 : decode cX7_keep 10 = .ok (.ireturn, 1) := by decide +kernel
theorem dX7_keep_11 : decode cX7_keep 11 = .ok (.iconst 0, 1) := by decide +kernel
theorem dX7_keep_12 : decode cX7_keep 12 = .ok (.istore_n 1, 1) := by decide +kernel
theorem dX7_keep_13 : decode cX7_keep 13 = .ok (.iload_n 1, 1) := by decide +kernel
theorem dX7_keep_14 : decode cX7_keep 14 = .ok (.bipush 28, 2) := by decide +kernel
theorem dX7_keep_16 : decode cX7_keep 16 = .ok (.if_icmp .ge 29, 3) := by decide +kernel
theorem dX7_keep_19 : decode cX7_keep 19 = .ok (.aload_n 0, 1) := by decide +kernel
theorem dX7_keep_20 : decode cX7_keep 20 = .ok (.getfield 89, 3) := by decide +kernel
theorem dX7_keep_23 : decode cX7_keep 23 = .ok (.bipush 28, 2) := by decide +kernel
theorem dX7_keep_25 : decode cX7_keep 25 = .ok (.aload_n 0, 1) := by decide +kernel
theorem dX7_keep_26 : decode cX7_keep 26 = .ok (.getfield 192, 3) := by decide +kernel
theorem dX7_keep_29 : decode cX7_keep 29 = .ok (.imul, 1) := by decide +kernel
theorem dX7_keep_30 : decode cX7_keep 30 = .ok (.iload_n 1, 1) := by decide +kernel
theorem dX7_keep_31 : decode cX7_keep 31 = .ok (.iadd, 1) := by decide +kernel
theorem dX7_keep_32 : decode cX7_keep 32 = .ok (.aload_n 0, 1) := by decide +kernel
theorem dX7_keep_33 : decode cX7_keep 33 = .ok (.getfield 52, 3) := by decide +kernel
theorem dX7_keep_36 : decode cX7_keep 36 = .ok (.iload_n 1, 1) := by decide +kernel
theorem dX7_keep_37 : decode cX7_keep 37 = .ok (.iaload, 1) := by decide +kernel
theorem dX7_keep_38 : decode cX7_keep 38 = .ok (.iastore, 1) := by decide +kernel
theorem dX7_keep_39 : decode cX7_keep 39 = .ok (.iinc 1 1, 3) := by decide +kernel
theorem dX7_keep_42 : decode cX7_keep 42 = .ok (.goto (-29), 3) := by decide +kernel
theorem dX7_keep_45 : decode cX7_keep 45 = .ok (.aload_n 0, 1) := by decide +kernel
theorem dX7_keep_46 : decode cX7_keep 46 = .ok (.dup, 1) := by decide +kernel
theorem dX7_keep_47 : decode cX7_keep 47 = .ok (.getfield 192, 3) := by decide +kernel
theorem dX7_keep_50 : decode cX7_keep 50 = .ok (.iconst 1, 1) := by decide +kernel
theorem dX7_keep_51 : decode cX7_keep 51 = .ok (.iadd, 1) := by decide +kernel
theorem dX7_keep_52 : decode cX7_keep 52 = .ok (.putfield 192, 3) := by decide +kernel
theorem dX7_keep_55 : decode cX7_keep 55 = .ok (.aload_n 0, 1) := by decide +kernel
theorem dX7_keep_56 : decode cX7_keep 56 = .ok (.getfield 192, 3) := by decide +kernel
theorem dX7_keep_59 : decode cX7_keep 59 = .ok (.ireturn, 1) := by decide +kernel
noncomputable def f_X7_keep_b13 (q : Int32 × Mem) : Option ((Int32 × Mem) ⊕ (Int32 × Mem)) :=
  if 28 ≤ q.1 then (some (.inr (q.1, q.2))) else (rd (q.2 77) 28 q.1 fun v37 => wr q.2 89 56 ((28 * (q.2 62 43)) + q.1) v37 fun m38 => lt' (q.1 + 1) fun v39 => some (.inl (v39, m38)))
noncomputable def f_X7_keep  (mem : Mem) : Option (Int32 × Mem) :=
  if (mem 62 43) = 2 then (some ((-3), mem)) else (ob (lp f_X7_keep_b13 FU (0, mem)) fun q13 => lt' (mset q13.2 62 43 ((q13.2 62 43) + 1)) fun m52 => lt' (m52 62 43) fun v59 => some (v59, m52))
def P_X7_keep_13 (E : Ex) (κ : Kx) (ad : Nat → Nat) (lay : List Ent) : (Int32 × Mem) ⊕ (Int32 × Mem) → Prop
  | .inl q => Gw E κ 2 0 0 13 [some (.ref (ad 62)), some (.int q.1)] [] ad lay q.2
  | .inr q => Gw E κ 2 0 0 45 [some (.ref (ad 62)), none] [] ad lay q.2
set_option maxRecDepth 100000 in
set_option maxHeartbeats 4000000 in
theorem b_X7_keep_13 {E : Ex} {κ : Kx} {ad : Nat → Nat} {sh sp : Nat} {d : Nat} (C : Cx E κ cX7_keep RX7 2 (some .int) d) (hd : 0 ≤ d)  {q : Int32 × Mem} {x : (Int32 × Mem) ⊕ (Int32 × Mem)} (h : f_X7_keep_b13  q = some x) (hP : (P_X7_keep_13 E κ ad (LC sh sp ++ LM) ) x) : Gw E κ 2 0 0 13 [some (.ref (ad 62)), some (.int q.1)] [] ad (LC sh sp ++ LM) q.2 := by
  unfold f_X7_keep_b13 at h
  refine g_iload_n (pc := 13) (i := 1) (x := q.1) C dX7_keep_13 rfl rfl ?_
  refine g_bipush (pc := 14) (v := 28) C dX7_keep_14 rfl ?_
  rcases ite_some' h with ⟨hc16, h⟩ | ⟨hc16, h⟩
  · refine g_icmp_ge_t (pc := 16) C 45 dX7_keep_16 (by decide) hc16 ?_
    refine g_mask (lv' := [some (.ref (ad 62)), none]) [true, false] rfl ?_
    cases h
    exact hP
  · refine g_icmp_ge_f (pc := 16) C 45 dX7_keep_16 (by decide) hc16 ?_
    refine g_aload_n (pc := 19) (i := 0) (x := ad 62) C dX7_keep_19 rfl rfl ?_
    refine g_get (pc := 20) (v := .ref (ad 89)) C ok_X7 44 (by decide) wf_X7_89 dX7_keep_20 la_62 rfl ?_
    refine g_bipush (pc := 23) (v := 28) C dX7_keep_23 rfl ?_
    refine g_aload_n (pc := 25) (i := 0) (x := ad 62) C dX7_keep_25 rfl rfl ?_
    refine g_get (pc := 26) (v := .int (q.2 62 43)) C ok_X7 43 (by decide) wf_X7_192 dX7_keep_26 la_62 rfl ?_
    refine g_imul (pc := 29) C dX7_keep_29 ?_
    refine g_iload_n (pc := 30) (i := 1) (x := q.1) C dX7_keep_30 rfl rfl ?_
    refine g_iadd (pc := 31) C dX7_keep_31 ?_
    refine g_aload_n (pc := 32) (i := 0) (x := ad 62) C dX7_keep_32 rfl rfl ?_
    refine g_get (pc := 33) (v := .ref (ad 77)) C ok_X7 26 (by decide) wf_X7_52 dX7_keep_33 la_62 rfl ?_
    refine g_iload_n (pc := 36) (i := 1) (x := q.1) C dX7_keep_36 rfl rfl ?_
    obtain ⟨v37, hv37, hi37, h⟩ := rd_some h
    refine g_iald (pc := 37) C dX7_keep_37 la_77 hi37 ?_
    refine g_topi hv37 ?_
    obtain ⟨m38, hm38, hi38, h⟩ := wr_some h
    refine g_iast (pc := 38) C dX7_keep_38 la_89 hi38 ?_
    refine g_mem hm38 ?_
    obtain ⟨v39, hv39, h⟩ := lt_some h
    refine g_iinc (pc := 39) (i := 1) (x := q.1) (v := v39) (lv' := [some (.ref (ad 62)), some (.int v39)]) C dX7_keep_39 rfl hv39.symm (by decide) rfl rfl ?_
    refine g_goto (pc := 42) C 13 dX7_keep_42 (by decide) ?_
    cases h
    exact hP
set_option maxRecDepth 100000 in
set_option maxHeartbeats 4000000 in
theorem m_X7_keep {E : Ex} {ad : Nat → Nat} {sh sp : Nat} {d : Nat} (hd : 0 ≤ d)   {mem : Mem} {r : Int32 × Mem} (h : f_X7_keep mem = some r) : Cl E yX7_keep cX7_keep 2 (some .int) d [.ref (ad 62)] (some (.int r.1)) ad (LC sh sp ++ LM) mem (LC sh sp ++ LM) r.2 := by
  refine Cl.of [some (.ref (ad 62)), none] (by decide +kernel) rfl (Nat.le_of_ble_eq_true rfl) (fun κ C hP => ?_)
  have C : Cx E κ cX7_keep RX7 2 (some .int) d := C
  unfold f_X7_keep at h
  refine g_aload_n (pc := 0) (i := 0) (x := ad 62) C dX7_keep_0 rfl rfl ?_
  refine g_get (pc := 1) (v := .int (mem 62 43)) C ok_X7 43 (by decide) wf_X7_192 dX7_keep_1 la_62 rfl ?_
  refine g_iconst (pc := 4) (v := 2) C dX7_keep_4 rfl ?_
  rcases ite_some' h with ⟨hc5, h⟩ | ⟨hc5, h⟩
  · refine g_icmp_ne_f (pc := 5) C 11 dX7_keep_5 (by decide) hc5 ?_
    refine g_bipush (pc := 8) (v := (-3)) C dX7_keep_8 rfl ?_
    cases h
    exact g_iret (pc := 10) C hP rfl rfl dX7_keep_10
  · refine g_icmp_ne_t (pc := 5) C 11 dX7_keep_5 (by decide) hc5 ?_
    refine g_iconst (pc := 11) (v := 0) C dX7_keep_11 rfl ?_
    refine g_istore_n (pc := 12) (i := 1) (lv' := [some (.ref (ad 62)), some (.int 0)]) C dX7_keep_12 rfl (by decide) rfl rfl ?_
    obtain ⟨q13, hq, h⟩ := ob_some h
    refine lp_gw (P_X7_keep_13 E κ ad (LC sh sp ++ LM) ) (fun q x hb hp => b_X7_keep_13 C hd hb hp) _ (0, mem) _ hq ?_
    show Gw E κ 2 0 0 45 [some (.ref (ad 62)), none] [] ad (LC sh sp ++ LM) q13.2
    refine g_aload_n (pc := 45) (i := 0) (x := ad 62) C dX7_keep_45 rfl rfl ?_
    refine g_dup (pc := 46) C dX7_keep_46 rfl ?_
    refine g_get (pc := 47) (v := .int (q13.2 62 43)) C ok_X7 43 (by decide) wf_X7_192 dX7_keep_47 la_62 rfl ?_
    refine g_iconst (pc := 50) (v := 1) C dX7_keep_50 rfl ?_
    refine g_iadd (pc := 51) C dX7_keep_51 ?_
    obtain ⟨m52, hm52, h⟩ := lt_some h
    refine g_put (pc := 52) C ok_X7 43 (by decide) wf_X7_192 dX7_keep_52 rfl rfl la_62 ?_
    refine g_mem hm52 ?_
    refine g_aload_n (pc := 55) (i := 0) (x := ad 62) C dX7_keep_55 rfl rfl ?_
    refine g_get (pc := 56) (v := .int (m52 62 43)) C ok_X7 43 (by decide) wf_X7_192 dX7_keep_56 la_62 rfl ?_
    obtain ⟨v59, hv59, h⟩ := lt_some h
    refine g_topi hv59 ?_
    cases h
    exact g_iret (pc := 59) C hP rfl rfl dX7_keep_59
