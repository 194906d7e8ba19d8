theorem dX7_passes_0 : decode cX7_passes 0 = .ok (.aload_n 0, 1) := by decide +kernel
theorem dX7_passes_1 : decode cX7_passes 1 = .ok (.aload_n 1, 1) := by decide +kernel
theorem dX7_passes_2 : decode cX7_passes 2 = .ok (.iload_n 2, 1) := by decide +kernel
theorem dX7_passes_3 : decode cX7_passes 3 = .ok (.invokevirtual 246, 3) := by decide +kernel
theorem dX7_passes_6 : decode cX7_passes 6 = .ok (.iconst 0, 1) := by decide +kernel
theorem dX7_passes_7 : decode cX7_passes 7 = .ok (.istore_n 3, 1) := by decide +kernel
theorem dX7_passes_8 : decode cX7_passes 8 = .ok (.iload_n 3, 1) := by decide +kernel
theorem dX7_passes_9 : decode cX7_passes 9 = .ok (.bipush 72, 2) := by decide +kernel
theorem dX7_passes_11 : decode cX7_passes 11 = .ok (.if_icmp .ge 23, 3) := by decide +kernel
theorem dX7_passes_14 : decode cX7_passes 14 = .ok (.aload_n 0, 1) := by decide +kernel
theorem dX7_passes_15 : decode cX7_passes 15 = .ok (.getfield 61, 3) := by decide +kernel
theorem dX7_passes_18 : decode cX7_passes 18 = .ok (.iload_n 3, 1) := by decide +kernel
theorem dX7_passes_19 : decode cX7_passes 19 = .ok (.iconst 0, 1) := by decide +kernel
theorem dX7_passes_20 : decode cX7_passes 20 = .ok (.iastore, 1) := by decide +kernel
theorem dX7_passes_21 : decode cX7_passes 21 = .ok (.aload_n 0, 1) := by decide +kernel
theorem dX7_passes_22 : decode cX7_passes 22 = .ok (.getfield 64, 3) := by decide +kernel
theorem dX7_passes_25 : decode cX7_passes 25 = .ok (.iload_n 3, 1) := by decide +kernel
theorem dX7_passes_26 : decode cX7_passes 26 = .ok (.iconst 0, 1) := by decide +kernel
theorem dX7_passes_27 : decode cX7_passes 27 = .ok (.bastore, 1) := by decide +kernel
theorem dX7_passes_28 : decode cX7_passes 28 = .ok (.iinc 3 1, 3) := by decide +kernel
theorem dX7_passes_31 : decode cX7_passes 31 = .ok (.goto (-23), 3) := by decide +kernel
theorem dX7_passes_34 : decode cX7_passes 34 = .ok (.iconst 0, 1) := by decide +kernel
theorem dX7_passes_35 : decode cX7_passes 35 = .ok (.istore_n 3, 1) := by decide +kernel
theorem dX7_passes_36 : decode cX7_passes 36 = .ok (.iconst 0, 1) := by decide +kernel
theorem dX7_passes_37 : decode cX7_passes 37 = .ok (.istore 4, 2) := by decide +kernel
theorem dX7_passes_39 : decode cX7_passes 39 = .ok (.iload 4, 2) := by decide +kernel
theorem dX7_passes_41 : decode cX7_passes 41 = .ok (.aload_n 0, 1) := by decide +kernel
theorem dX7_passes_42 : decode cX7_passes 42 = .ok (.getfield 183, 3) := by decide +kernel
theorem dX7_passes_45 : decode cX7_passes 45 = .ok (.if_icmp .ge 85, 3) := by decide +kernel
theorem dX7_passes_48 : decode cX7_passes 48 = .ok (.aload_n 0, 1) := by decide +kernel
theorem dX7_passes_49 : decode cX7_passes 49 = .ok (.getfield 58, 3) := by decide +kernel
theorem dX7_passes_52 : decode cX7_passes 52 = .ok (.iload 4, 2) := by decide +kernel
theorem dX7_passes_54 : decode cX7_passes 54 = .ok (.iaload, 1) := by decide +kernel
theorem dX7_passes_55 : decode cX7_passes 55 = .ok (.ifCond .le 69, 3) := by decide +kernel
theorem dX7_passes_58 : decode cX7_passes 58 = .ok (.bipush 9, 2) := by decide +kernel
theorem dX7_passes_60 : decode cX7_passes 60 = .ok (.aload_n 1, 1) := by decide +kernel
theorem dX7_passes_61 : decode cX7_passes 61 = .ok (.bipush 16, 2) := by decide +kernel
theorem dX7_passes_63 : decode cX7_passes 63 = .ok (.iconst 2, 1) := by decide +kernel
theorem dX7_passes_64 : decode cX7_passes 64 = .ok (.iload 4, 2) := by decide +kernel
theorem dX7_passes_66 : decode cX7_passes 66 = .ok (.imul, 1) := by decide +kernel
theorem dX7_passes_67 : decode cX7_passes 67 = .ok (.iadd, 1) := by decide +kernel
theorem dX7_passes_68 : decode cX7_passes 68 = .ok (.iaload, 1) := by decide +kernel
theorem dX7_passes_69 : decode cX7_passes 69 = .ok (.imul, 1) := by decide +kernel
theorem dX7_passes_70 : decode cX7_passes 70 = .ok (.aload_n 1, 1) := by decide +kernel
theorem dX7_passes_71 : decode cX7_passes 71 = .ok (.bipush 16, 2) := by decide +kernel
theorem dX7_passes_73 : decode cX7_passes 73 = .ok (.iconst 2, 1) := by decide +kernel
theorem dX7_passes_74 : decode cX7_passes 74 = .ok (.iload 4, 2) := by decide +kernel
theorem dX7_passes_76 : decode cX7_passes 76 = .ok (.imul, 1) := by decide +kernel
theorem dX7_passes_77 : decode cX7_passes 77 = .ok (.iadd, 1) := by decide +kernel
theorem dX7_passes_78 : decode cX7_passes 78 = .ok (.iconst 1, 1) := by decide +kernel
theorem dX7_passes_79 : decode cX7_passes 79 = .ok (.iadd, 1) := by decide +kernel
theorem dX7_passes_80 : decode cX7_passes 80 = .ok (.iaload, 1) := by decide +kernel
theorem dX7_passes_81 : decode cX7_passes 81 = .ok (.iadd, 1) := by decide +kernel
theorem dX7_passes_82 : decode cX7_passes 82 = .ok (.istore 5, 2) := by decide +kernel
theorem dX7_passes_84 : decode cX7_passes 84 = .ok (.aload_n 0, 1) := by decide +kernel
theorem dX7_passes_85 : decode cX7_passes 85 = .ok (.getfield 61, 3) := by decide +kernel
theorem dX7_passes_88 : decode cX7_passes 88 = .ok (.iload 5, 2) := by decide +kernel
theorem dX7_passes_90 : decode cX7_passes 90 = .ok (.dup2, 1) := by decide +kernel
theorem dX7_passes_91 : decode cX7_passes 91 = .ok (.iaload, 1) := by decide +kernel
theorem dX7_passes_92 : decode cX7_passes 92 = .ok (.aload_n 0, 1) := by decide +kernel
theorem dX7_passes_93 : decode cX7_passes 93 = .ok (.getfield 58, 3) := by decide +kernel
theorem dX7_passes_96 : decode cX7_passes 96 = .ok (.iload 4, 2) := by decide +kernel
theorem dX7_passes_98 : decode cX7_passes 98 = .ok (.iaload, 1) := by decide +kernel
theorem dX7_passes_99 : decode cX7_passes 99 = .ok (.iadd, 1) := by decide +kernel
theorem dX7_passes_100 : decode cX7_passes 100 = .ok (.iastore, 1) := by decide +kernel
theorem dX7_passes_101 : decode cX7_passes 101 = .ok (.aload_n 0, 1) := by decide +kernel
theorem dX7_passes_102 : decode cX7_passes 102 = .ok (.getfield 61, 3) := by decide +kernel
theorem dX7_passes_105 : decode cX7_passes 105 = .ok (.iload 5, 2) := by decide +kernel
theorem dX7_passes_107 : decode cX7_passes 107 = .ok (.iaload, 1) := by decide +kernel
theorem dX7_passes_108 : decode cX7_passes 108 = .ok (.iload_n 3, 1) := by decide +kernel
theorem dX7_passes_109 : decode cX7_passes 109 = .ok (.if_icmp .le 13, 3) := by decide +kernel
theorem dX7_passes_112 : decode cX7_passes 112 = .ok (.aload_n 0, 1) := by decide +kernel
theorem dX7_passes_113 : decode cX7_passes 113 = .ok (.getfield 61, 3) := by decide +kernel
theorem dX7_passes_116 : decode cX7_passes 116 = .ok (.iload 5, 2) := by decide +kernel
theorem dX7_passes_118 : decode cX7_passes 118 = .ok (.iaload, 1) := by decide +kernel
theorem dX7_passes_119 : decode cX7_passes 119 = .ok (.goto 4, 3) := by decide +kernel
theorem dX7_passes_122 : decode cX7_passes 122 = .ok (.iload_n 3, 1) := by decide +kernel
theorem dX7_passes_123 : decode cX7_passes 123 = .ok (.istore_n 3, 1) := by decide +kernel
theorem dX7_passes_124 : decode cX7_passes 124 = .ok (.iinc 4 1, 3) := by decide +kernel
theorem dX7_passes_127 : decode cX7_passes 127 = .ok (.goto (-88), 3) := by decide +kernel
theorem dX7_passes_130 : decode cX7_passes 130 = .ok (.iconst 0, 1) := by decide +kernel
theorem dX7_passes_131 : decode cX7_passes 131 = .ok (.istore 4, 2) := by decide +kernel
theorem dX7_passes_133 : decode cX7_passes 133 = .ok (.iload_n 3, 1) := by decide +kernel
theorem dX7_passes_134 : decode cX7_passes 134 = .ok (.istore 5, 2) := by decide +kernel
theorem dX7_passes_136 : decode cX7_passes 136 = .ok (.iload 5, 2) := by decide +kernel
theorem dX7_passes_138 : decode cX7_passes 138 = .ok (.ifCond .le 86, 3) := by decide +kernel
theorem dX7_passes_141 : decode cX7_passes 141 = .ok (.iconst 0, 1) := by decide +kernel
theorem dX7_passes_142 : decode cX7_passes 142 = .ok (.istore 6, 2) := by decide +kernel
theorem dX7_passes_144 : decode cX7_passes 144 = .ok (.iload 6, 2) := by decide +kernel
theorem dX7_passes_146 : decode cX7_passes 146 = .ok (.bipush 9, 2) := by decide +kernel
theorem dX7_passes_148 : decode cX7_passes 148 = .ok (.aload_n 0, 1) := by decide +kernel
theorem dX7_passes_149 : decode cX7_passes 149 = .ok (.getfield 177, 3) := by decide +kernel
theorem dX7_passes_152 : decode cX7_passes 152 = .ok (.imul, 1) := by decide +kernel
theorem dX7_passes_153 : decode cX7_passes 153 = .ok (.if_icmp .ge 65, 3) := by decide +kernel
theorem dX7_passes_156 : decode cX7_passes 156 = .ok (.aload_n 0, 1) := by decide +kernel
theorem dX7_passes_157 : decode cX7_passes 157 = .ok (.getfield 61, 3) := by decide +kernel
theorem dX7_passes_160 : decode cX7_passes 160 = .ok (.iload 6, 2) := by decide +kernel
theorem dX7_passes_162 : decode cX7_passes 162 = .ok (.iaload, 1) := by decide +kernel
theorem dX7_passes_163 : decode cX7_passes 163 = .ok (.iload 5, 2) := by decide +kernel
theorem dX7_passes_165 : decode cX7_passes 165 = .ok (.if_icmp .ne 47, 3) := by decide +kernel
theorem dX7_passes_168 : decode cX7_passes 168 = .ok (.aload_n 0, 1) := by decide +kernel
theorem dX7_passes_169 : decode cX7_passes 169 = .ok (.aload_n 1, 1) := by decide +kernel
theorem dX7_passes_170 : decode cX7_passes 170 = .ok (.iload 6, 2) := by decide +kernel
theorem dX7_passes_172 : decode cX7_passes 172 = .ok (.bipush 9, 2) := by decide +kernel
theorem dX7_passes_174 : decode cX7_passes 174 = .ok (.idiv, 1) := by decide +kernel
theorem dX7_passes_175 : decode cX7_passes 175 = .ok (.iload 6, 2) := by decide +kernel
theorem dX7_passes_177 : decode cX7_passes 177 = .ok (.bipush 9, 2) := by decide +kernel
theorem dX7_passes_179 : decode cX7_passes 179 = .ok (.irem, 1) := by decide +kernel
theorem dX7_passes_180 : decode cX7_passes 180 = .ok (.invokevirtual 216, 3) := by decide +kernel
theorem dX7_passes_183 : decode cX7_passes 183 = .ok (.ifCond .eq 29, 3) := by decide +kernel
theorem dX7_passes_186 : decode cX7_passes 186 = .ok (.aload_n 0, 1) := by decide +kernel
theorem dX7_passes_187 : decode cX7_passes 187 = .ok (.aload_n 1, 1) := by decide +kernel
theorem dX7_passes_188 : decode cX7_passes 188 = .ok (.iload 6, 2) := by decide +kernel
theorem dX7_passes_190 : decode cX7_passes 190 = .ok (.bipush 9, 2) := by decide +kernel
theorem dX7_passes_192 : decode cX7_passes 192 = .ok (.idiv, 1) := by decide +kernel
theorem dX7_passes_193 : decode cX7_passes 193 = .ok (.iload 6, 2) := by decide +kernel
theorem dX7_passes_195 : decode cX7_passes 195 = .ok (.bipush 9, 2) := by decide +kernel
theorem dX7_passes_197 : decode cX7_passes 197 = .ok (.irem, 1) := by decide +kernel
theorem dX7_passes_198 : decode cX7_passes 198 = .ok (.invokevirtual 250, 3) := by decide +kernel
theorem dX7_passes_201 : decode cX7_passes 201 = .ok (.aload_n 0, 1) := by decide +kernel
theorem dX7_passes_202 : decode cX7_passes 202 = .ok (.getfield 64, 3) := by decide +kernel
theorem dX7_passes_205 : decode cX7_passes 205 = .ok (.iload 6, 2) := by decide +kernel
theorem dX7_passes_207 : decode cX7_passes 207 = .ok (.iconst 1, 1) := by decide +kernel
theorem dX7_passes_208 : decode cX7_passes 208 = .ok (.bastore, 1) := by decide +kernel
theorem dX7_passes_209 : decode cX7_passes 209 = .ok (.iinc 4 1, 3) := by decide +kernel
theorem dX7_passes_212 : decode cX7_passes 212 = .ok (.iinc 6 1, 3) := by decide +kernel
theorem dX7_passes_215 : decode cX7_passes 215 = .ok (.goto (-71), 3) := by decide +kernel
theorem dX7_passes_218 : decode cX7_passes 218 = .ok (.iinc 5 (-1), 3) := by decide +kernel
theorem dX7_passes_221 : decode cX7_passes 221 = .ok (.goto (-85), 3) := by decide +kernel
theorem dX7_passes_224 : decode cX7_passes 224 = .ok (.iload 4, 2) := by decide +kernel
theorem dX7_passes_226 : decode cX7_passes 226 = .ok (.ireturn, 1) := by decide +kernel
noncomputable def f_X7_passes_b8 (o : Nat) (q : Int32 × Mem) : Option ((Int32 × Mem) ⊕ (Int32 × Mem)) :=
  if 72 ≤ q.1 then (some (.inr (q.1, q.2))) else (wr q.2 80 72 q.1 0 fun m20 => wr m20 81 72 q.1 (vp_nar .boolean 0) fun m27 => lt' (q.1 + 1) fun v28 => some (.inl (v28, m27)))
noncomputable def f_X7_passes_b39 (o : Nat) (q : Int32 × Int32 × Mem) : Option ((Int32 × Int32 × Mem) ⊕ (Int32 × Int32 × Mem)) :=
  if (q.2.2 62 18) ≤ q.2.1 then (some (.inr (q.1, q.2.1, q.2.2))) else (rd (q.2.2 79) 6 q.2.1 fun v54 => if v54 ≤ 0 then (lt' (q.2.1 + 1) fun v124 => some (.inl (q.1, v124, q.2.2))) else (rd (q.2.2 o) 28 (16 + (2 * q.2.1)) fun v68 => rd (q.2.2 o) 28 ((16 + (2 * q.2.1)) + 1) fun v80 => lt' ((9 * v68) + v80) fun v82 => rd (q.2.2 80) 72 v82 fun v91 => rd (q.2.2 79) 6 q.2.1 fun v98 => wr q.2.2 80 72 v82 (v91 + v98) fun m100 => rd (m100 80) 72 v82 fun v107 => if v107 ≤ q.1 then (lt' (q.2.1 + 1) fun v124 => some (.inl (q.1, v124, m100))) else (rd (m100 80) 72 v82 fun v118 => lt' (q.2.1 + 1) fun v124 => some (.inl (v118, v124, m100)))))
noncomputable def f_X7_passes_b144 (o : Nat) (l5 : Int32) (q : Int32 × Int32 × Mem) : Option ((Int32 × Int32 × Mem) ⊕ (Int32 × Int32 × Mem)) :=
  if (9 * (q.2.2 62 16)) ≤ q.2.1 then (some (.inr (q.1, q.2.1, q.2.2))) else (rd (q.2.2 80) 72 q.2.1 fun v162 => if v162 = l5 then (ob (f_X7_isFit o (q.2.1 / 9) (irm q.2.1 9) q.2.2) fun r180 => if r180 = 0 then (lt' (q.2.1 + 1) fun v212 => some (.inl (q.1, v212, q.2.2))) else (ob (f_X7_prints o (q.2.1 / 9) (irm q.2.1 9) q.2.2) fun m198 => wr m198 81 72 q.2.1 (vp_nar .boolean 1) fun m208 => lt' (q.1 + 1) fun v209 => lt' (q.2.1 + 1) fun v212 => some (.inl (v209, v212, m208)))) else (lt' (q.2.1 + 1) fun v212 => some (.inl (q.1, v212, q.2.2))))
noncomputable def f_X7_passes_b136 (o : Nat) (q : Int32 × Int32 × Mem) : Option ((Int32 × Int32 × Mem) ⊕ (Int32 × Int32 × Mem)) :=
  if q.2.1 ≤ 0 then (some (.inr (q.1, q.2.1, q.2.2))) else (ob (lp (f_X7_passes_b144 o q.2.1) FU (q.1, 0, q.2.2)) fun q144 => lt' (q.2.1 + (-1)) fun v218 => some (.inl (q144.1, v218, q144.2.2)))
noncomputable def f_X7_passes (o : Nat) (l2 : Int32) (mem : Mem) : Option (Int32 × Mem) :=
  ob (f_X7_layCounted o l2 mem) fun m3 => ob (lp (f_X7_passes_b8 o) FU (0, m3)) fun q8 => ob (lp (f_X7_passes_b39 o) FU (0, 0, q8.2)) fun q39 => ob (lp (f_X7_passes_b136 o) FU (0, q39.1, q39.2.2)) fun q136 => some (q136.1, q136.2.2)
def P_X7_passes_8 (E : Ex) (κ : Kx) (ad : Nat → Nat) (lay : List Ent) (o : Nat) : (Int32 × Mem) ⊕ (Int32 × Mem) → Prop
  | .inl q => Gw E κ 7 0 0 8 [some (.ref (ad 62)), some (.ref (ad o)), none, some (.int q.1), none, none, none] [] ad lay q.2
  | .inr q => Gw E κ 7 0 0 34 [some (.ref (ad 62)), some (.ref (ad o)), none, none, none, none, none] [] ad lay q.2
def P_X7_passes_39 (E : Ex) (κ : Kx) (ad : Nat → Nat) (lay : List Ent) (o : Nat) : (Int32 × Int32 × Mem) ⊕ (Int32 × Int32 × Mem) → Prop
  | .inl q => Gw E κ 7 0 0 39 [some (.ref (ad 62)), some (.ref (ad o)), none, some (.int q.1), some (.int q.2.1), none, none] [] ad lay q.2.2
  | .inr q => Gw E κ 7 0 0 130 [some (.ref (ad 62)), some (.ref (ad o)), none, some (.int q.1), none, none, none] [] ad lay q.2.2
def P_X7_passes_144 (E : Ex) (κ : Kx) (ad : Nat → Nat) (lay : List Ent) (o : Nat) (l5 : Int32) : (Int32 × Int32 × Mem) ⊕ (Int32 × Int32 × Mem) → Prop
  | .inl q => Gw E κ 7 0 0 144 [some (.ref (ad 62)), some (.ref (ad o)), none, none, some (.int q.1), some (.int l5), some (.int q.2.1)] [] ad lay q.2.2
  | .inr q => Gw E κ 7 0 0 218 [some (.ref (ad 62)), some (.ref (ad o)), none, none, some (.int q.1), some (.int l5), none] [] ad lay q.2.2
def P_X7_passes_136 (E : Ex) (κ : Kx) (ad : Nat → Nat) (lay : List Ent) (o : Nat) : (Int32 × Int32 × Mem) ⊕ (Int32 × Int32 × Mem) → Prop
  | .inl q => Gw E κ 7 0 0 136 [some (.ref (ad 62)), some (.ref (ad o)), none, none, some (.int q.1), some (.int q.2.1), none] [] ad lay q.2.2
  | .inr q => Gw E κ 7 0 0 224 [none, none, none, none, some (.int q.1), none, none] [] ad lay q.2.2
set_option maxRecDepth 100000 in
set_option maxHeartbeats 4000000 in
theorem b_X7_passes_8 {E : Ex} {κ : Kx} {ad : Nat → Nat} {sh sp : Nat} {d : Nat} {o : Nat} (C : Cx E κ cX7_passes RX7 7 (some .int) d) (hd : 5 ≤ d) (ho : isO o) {q : Int32 × Mem} {x : (Int32 × Mem) ⊕ (Int32 × Mem)} (h : f_X7_passes_b8 o q = some x) (hP : (P_X7_passes_8 E κ ad (LC sh sp ++ LM) o) x) : Gw E κ 7 0 0 8 [some (.ref (ad 62)), some (.ref (ad o)), none, some (.int q.1), none, none, none] [] ad (LC sh sp ++ LM) q.2 := by
  unfold f_X7_passes_b8 at h
  refine g_iload_n (pc := 8) (i := 3) (x := q.1) C dX7_passes_8 rfl rfl ?_
  refine g_bipush (pc := 9) (v := 72) C dX7_passes_9 rfl ?_
  rcases ite_some' h with ⟨hc11, h⟩ | ⟨hc11, h⟩
  · refine g_icmp_ge_t (pc := 11) C 34 dX7_passes_11 (by decide) hc11 ?_
    refine g_mask (lv' := [some (.ref (ad 62)), some (.ref (ad o)), none, none, none, none, none]) [true, true, false, false, false, false, false] rfl ?_
    cases h
    exact hP
  · refine g_icmp_ge_f (pc := 11) C 34 dX7_passes_11 (by decide) hc11 ?_
    refine g_aload_n (pc := 14) (i := 0) (x := ad 62) C dX7_passes_14 rfl rfl ?_
    refine g_get (pc := 15) (v := .ref (ad 80)) C ok_X7 29 (by decide) wf_X7_61 dX7_passes_15 la_62 rfl ?_
    refine g_iload_n (pc := 18) (i := 3) (x := q.1) C dX7_passes_18 rfl rfl ?_
    refine g_iconst (pc := 19) (v := 0) C dX7_passes_19 rfl ?_
    obtain ⟨m20, hm20, hi20, h⟩ := wr_some h
    refine g_iast (pc := 20) C dX7_passes_20 la_80 hi20 ?_
    refine g_mem hm20 ?_
    refine g_aload_n (pc := 21) (i := 0) (x := ad 62) C dX7_passes_21 rfl rfl ?_
    refine g_get (pc := 22) (v := .ref (ad 81)) C ok_X7 30 (by decide) wf_X7_64 dX7_passes_22 la_62 rfl ?_
    refine g_iload_n (pc := 25) (i := 3) (x := q.1) C dX7_passes_25 rfl rfl ?_
    refine g_iconst (pc := 26) (v := 0) C dX7_passes_26 rfl ?_
    obtain ⟨m27, hm27, hi27, h⟩ := wr_some h
    refine g_zast (pc := 27) C dX7_passes_27 la_81 hi27 ?_
    refine g_mem hm27 ?_
    obtain ⟨v28, hv28, h⟩ := lt_some h
    refine g_iinc (pc := 28) (i := 3) (x := q.1) (v := v28) (lv' := [some (.ref (ad 62)), some (.ref (ad o)), none, some (.int v28), none, none, none]) C dX7_passes_28 rfl hv28.symm (by decide) rfl rfl ?_
    refine g_goto (pc := 31) C 8 dX7_passes_31 (by decide) ?_
    cases h
    exact hP
set_option maxRecDepth 100000 in
set_option maxHeartbeats 4000000 in
theorem b_X7_passes_39 {E : Ex} {κ : Kx} {ad : Nat → Nat} {sh sp : Nat} {d : Nat} {o : Nat} (C : Cx E κ cX7_passes RX7 7 (some .int) d) (hd : 5 ≤ d) (ho : isO o) {q : Int32 × Int32 × Mem} {x : (Int32 × Int32 × Mem) ⊕ (Int32 × Int32 × Mem)} (h : f_X7_passes_b39 o q = some x) (hP : (P_X7_passes_39 E κ ad (LC sh sp ++ LM) o) x) : Gw E κ 7 0 0 39 [some (.ref (ad 62)), some (.ref (ad o)), none, some (.int q.1), some (.int q.2.1), none, none] [] ad (LC sh sp ++ LM) q.2.2 := by
  unfold f_X7_passes_b39 at h
  refine g_iload (pc := 39) (i := 4) (x := q.2.1) C dX7_passes_39 rfl ?_
  refine g_aload_n (pc := 41) (i := 0) (x := ad 62) C dX7_passes_41 rfl rfl ?_
  refine g_get (pc := 42) (v := .int (q.2.2 62 18)) C ok_X7 18 (by decide) wf_X7_183 dX7_passes_42 la_62 rfl ?_
  rcases ite_some' h with ⟨hc45, h⟩ | ⟨hc45, h⟩
  · refine g_icmp_ge_t (pc := 45) C 130 dX7_passes_45 (by decide) hc45 ?_
    refine g_mask (lv' := [some (.ref (ad 62)), some (.ref (ad o)), none, some (.int q.1), none, none, none]) [true, true, false, true, false, false, false] rfl ?_
    cases h
    exact hP
  · refine g_icmp_ge_f (pc := 45) C 130 dX7_passes_45 (by decide) hc45 ?_
    refine g_aload_n (pc := 48) (i := 0) (x := ad 62) C dX7_passes_48 rfl rfl ?_
    refine g_get (pc := 49) (v := .ref (ad 79)) C ok_X7 28 (by decide) wf_X7_58 dX7_passes_49 la_62 rfl ?_
    refine g_iload (pc := 52) (i := 4) (x := q.2.1) C dX7_passes_52 rfl ?_
    obtain ⟨v54, hv54, hi54, h⟩ := rd_some h
    refine g_iald (pc := 54) C dX7_passes_54 la_79 hi54 ?_
    refine g_topi hv54 ?_
    rcases ite_some' h with ⟨hc55, h⟩ | ⟨hc55, h⟩
    · refine g_if_le_t (pc := 55) C 124 dX7_passes_55 (by decide) hc55 ?_
      obtain ⟨v124, hv124, h⟩ := lt_some h
      refine g_iinc (pc := 124) (i := 4) (x := q.2.1) (v := v124) (lv' := [some (.ref (ad 62)), some (.ref (ad o)), none, some (.int q.1), some (.int v124), none, none]) C dX7_passes_124 rfl hv124.symm (by decide) rfl rfl ?_
      refine g_goto (pc := 127) C 39 dX7_passes_127 (by decide) ?_
      cases h
      exact hP
    · refine g_if_le_f (pc := 55) C 124 dX7_passes_55 (by decide) hc55 ?_
      refine g_bipush (pc := 58) (v := 9) C dX7_passes_58 rfl ?_
      refine g_aload_n (pc := 60) (i := 1) (x := ad o) C dX7_passes_60 rfl rfl ?_
      refine g_bipush (pc := 61) (v := 16) C dX7_passes_61 rfl ?_
      refine g_iconst (pc := 63) (v := 2) C dX7_passes_63 rfl ?_
      refine g_iload (pc := 64) (i := 4) (x := q.2.1) C dX7_passes_64 rfl ?_
      refine g_imul (pc := 66) C dX7_passes_66 ?_
      refine g_iadd (pc := 67) C dX7_passes_67 ?_
      obtain ⟨v68, hv68, hi68, h⟩ := rd_some h
      refine g_iald (pc := 68) C dX7_passes_68 (lq_0 ho) hi68 ?_
      refine g_topi hv68 ?_
      refine g_imul (pc := 69) C dX7_passes_69 ?_
      refine g_aload_n (pc := 70) (i := 1) (x := ad o) C dX7_passes_70 rfl rfl ?_
      refine g_bipush (pc := 71) (v := 16) C dX7_passes_71 rfl ?_
      refine g_iconst (pc := 73) (v := 2) C dX7_passes_73 rfl ?_
      refine g_iload (pc := 74) (i := 4) (x := q.2.1) C dX7_passes_74 rfl ?_
      refine g_imul (pc := 76) C dX7_passes_76 ?_
      refine g_iadd (pc := 77) C dX7_passes_77 ?_
      refine g_iconst (pc := 78) (v := 1) C dX7_passes_78 rfl ?_
      refine g_iadd (pc := 79) C dX7_passes_79 ?_
      obtain ⟨v80, hv80, hi80, h⟩ := rd_some h
      refine g_iald (pc := 80) C dX7_passes_80 (lq_0 ho) hi80 ?_
      refine g_topi hv80 ?_
      refine g_iadd (pc := 81) C dX7_passes_81 ?_
      obtain ⟨v82, hv82, h⟩ := lt_some h
      refine g_topi hv82 ?_
      refine g_istore (pc := 82) (i := 5) (lv' := [some (.ref (ad 62)), some (.ref (ad o)), none, some (.int q.1), some (.int q.2.1), some (.int v82), none]) C dX7_passes_82 (by decide) rfl rfl ?_
      refine g_aload_n (pc := 84) (i := 0) (x := ad 62) C dX7_passes_84 rfl rfl ?_
      refine g_get (pc := 85) (v := .ref (ad 80)) C ok_X7 29 (by decide) wf_X7_61 dX7_passes_85 la_62 rfl ?_
      refine g_iload (pc := 88) (i := 5) (x := v82) C dX7_passes_88 rfl ?_
      refine g_dup2 (pc := 90) C dX7_passes_90 rfl rfl ?_
      obtain ⟨v91, hv91, hi91, h⟩ := rd_some h
      refine g_iald (pc := 91) C dX7_passes_91 la_80 hi91 ?_
      refine g_topi hv91 ?_
      refine g_aload_n (pc := 92) (i := 0) (x := ad 62) C dX7_passes_92 rfl rfl ?_
      refine g_get (pc := 93) (v := .ref (ad 79)) C ok_X7 28 (by decide) wf_X7_58 dX7_passes_93 la_62 rfl ?_
      refine g_iload (pc := 96) (i := 4) (x := q.2.1) C dX7_passes_96 rfl ?_
      obtain ⟨v98, hv98, hi98, h⟩ := rd_some h
      refine g_iald (pc := 98) C dX7_passes_98 la_79 hi98 ?_
      refine g_topi hv98 ?_
      refine g_iadd (pc := 99) C dX7_passes_99 ?_
      obtain ⟨m100, hm100, hi100, h⟩ := wr_some h
      refine g_iast (pc := 100) C dX7_passes_100 la_80 hi100 ?_
      refine g_mem hm100 ?_
      refine g_aload_n (pc := 101) (i := 0) (x := ad 62) C dX7_passes_101 rfl rfl ?_
      refine g_get (pc := 102) (v := .ref (ad 80)) C ok_X7 29 (by decide) wf_X7_61 dX7_passes_102 la_62 rfl ?_
      refine g_iload (pc := 105) (i := 5) (x := v82) C dX7_passes_105 rfl ?_
      obtain ⟨v107, hv107, hi107, h⟩ := rd_some h
      refine g_iald (pc := 107) C dX7_passes_107 la_80 hi107 ?_
      refine g_topi hv107 ?_
      refine g_iload_n (pc := 108) (i := 3) (x := q.1) C dX7_passes_108 rfl rfl ?_
      rcases ite_some' h with ⟨hc109, h⟩ | ⟨hc109, h⟩
      · refine g_icmp_le_t (pc := 109) C 122 dX7_passes_109 (by decide) hc109 ?_
        refine g_iload_n (pc := 122) (i := 3) (x := q.1) C dX7_passes_122 rfl rfl ?_
        refine g_istore_n (pc := 123) (i := 3) (lv' := [some (.ref (ad 62)), some (.ref (ad o)), none, some (.int q.1), some (.int q.2.1), some (.int v82), none]) C dX7_passes_123 rfl (by decide) rfl rfl ?_
        obtain ⟨v124, hv124, h⟩ := lt_some h
        refine g_iinc (pc := 124) (i := 4) (x := q.2.1) (v := v124) (lv' := [some (.ref (ad 62)), some (.ref (ad o)), none, some (.int q.1), some (.int v124), some (.int v82), none]) C dX7_passes_124 rfl hv124.symm (by decide) rfl rfl ?_
        refine g_goto (pc := 127) C 39 dX7_passes_127 (by decide) ?_
        refine g_mask (lv' := [some (.ref (ad 62)), some (.ref (ad o)), none, some (.int q.1), some (.int v124), none, none]) [true, true, false, true, true, false, false] rfl ?_
        cases h
        exact hP
      · refine g_icmp_le_f (pc := 109) C 122 dX7_passes_109 (by decide) hc109 ?_
        refine g_aload_n (pc := 112) (i := 0) (x := ad 62) C dX7_passes_112 rfl rfl ?_
        refine g_get (pc := 113) (v := .ref (ad 80)) C ok_X7 29 (by decide) wf_X7_61 dX7_passes_113 la_62 rfl ?_
        refine g_iload (pc := 116) (i := 5) (x := v82) C dX7_passes_116 rfl ?_
        obtain ⟨v118, hv118, hi118, h⟩ := rd_some h
        refine g_iald (pc := 118) C dX7_passes_118 la_80 hi118 ?_
        refine g_topi hv118 ?_
        refine g_goto (pc := 119) C 123 dX7_passes_119 (by decide) ?_
        refine g_istore_n (pc := 123) (i := 3) (lv' := [some (.ref (ad 62)), some (.ref (ad o)), none, some (.int v118), some (.int q.2.1), some (.int v82), none]) C dX7_passes_123 rfl (by decide) rfl rfl ?_
        obtain ⟨v124, hv124, h⟩ := lt_some h
        refine g_iinc (pc := 124) (i := 4) (x := q.2.1) (v := v124) (lv' := [some (.ref (ad 62)), some (.ref (ad o)), none, some (.int v118), some (.int v124), some (.int v82), none]) C dX7_passes_124 rfl hv124.symm (by decide) rfl rfl ?_
        refine g_goto (pc := 127) C 39 dX7_passes_127 (by decide) ?_
        refine g_mask (lv' := [some (.ref (ad 62)), some (.ref (ad o)), none, some (.int v118), some (.int v124), none, none]) [true, true, false, true, true, false, false] rfl ?_
        cases h
        exact hP
set_option maxRecDepth 100000 in
set_option maxHeartbeats 4000000 in
theorem b_X7_passes_144 {E : Ex} {κ : Kx} {ad : Nat → Nat} {sh sp : Nat} {d : Nat} {o : Nat} (C : Cx E κ cX7_passes RX7 7 (some .int) d) (hd : 5 ≤ d) (ho : isO o) {l5 : Int32} {q : Int32 × Int32 × Mem} {x : (Int32 × Int32 × Mem) ⊕ (Int32 × Int32 × Mem)} (h : f_X7_passes_b144 o l5 q = some x) (hP : (P_X7_passes_144 E κ ad (LC sh sp ++ LM) o l5) x) : Gw E κ 7 0 0 144 [some (.ref (ad 62)), some (.ref (ad o)), none, none, some (.int q.1), some (.int l5), some (.int q.2.1)] [] ad (LC sh sp ++ LM) q.2.2 := by
  unfold f_X7_passes_b144 at h
  refine g_iload (pc := 144) (i := 6) (x := q.2.1) C dX7_passes_144 rfl ?_
  refine g_bipush (pc := 146) (v := 9) C dX7_passes_146 rfl ?_
  refine g_aload_n (pc := 148) (i := 0) (x := ad 62) C dX7_passes_148 rfl rfl ?_
  refine g_get (pc := 149) (v := .int (q.2.2 62 16)) C ok_X7 16 (by decide) wf_X7_177 dX7_passes_149 la_62 rfl ?_
  refine g_imul (pc := 152) C dX7_passes_152 ?_
  rcases ite_some' h with ⟨hc153, h⟩ | ⟨hc153, h⟩
  · refine g_icmp_ge_t (pc := 153) C 218 dX7_passes_153 (by decide) hc153 ?_
    refine g_mask (lv' := [some (.ref (ad 62)), some (.ref (ad o)), none, none, some (.int q.1), some (.int l5), none]) [true, true, false, false, true, true, false] rfl ?_
    cases h
    exact hP
  · refine g_icmp_ge_f (pc := 153) C 218 dX7_passes_153 (by decide) hc153 ?_
    refine g_aload_n (pc := 156) (i := 0) (x := ad 62) C dX7_passes_156 rfl rfl ?_
    refine g_get (pc := 157) (v := .ref (ad 80)) C ok_X7 29 (by decide) wf_X7_61 dX7_passes_157 la_62 rfl ?_
    refine g_iload (pc := 160) (i := 6) (x := q.2.1) C dX7_passes_160 rfl ?_
    obtain ⟨v162, hv162, hi162, h⟩ := rd_some h
    refine g_iald (pc := 162) C dX7_passes_162 la_80 hi162 ?_
    refine g_topi hv162 ?_
    refine g_iload (pc := 163) (i := 5) (x := l5) C dX7_passes_163 rfl ?_
    rcases ite_some' h with ⟨hc165, h⟩ | ⟨hc165, h⟩
    · refine g_icmp_ne_f (pc := 165) C 212 dX7_passes_165 (by decide) hc165 ?_
      refine g_aload_n (pc := 168) (i := 0) (x := ad 62) C dX7_passes_168 rfl rfl ?_
      refine g_aload_n (pc := 169) (i := 1) (x := ad o) C dX7_passes_169 rfl rfl ?_
      refine g_iload (pc := 170) (i := 6) (x := q.2.1) C dX7_passes_170 rfl ?_
      refine g_bipush (pc := 172) (v := 9) C dX7_passes_172 rfl ?_
      refine g_idiv (pc := 174) C dX7_passes_174 (by decide) ?_
      refine g_iload (pc := 175) (i := 6) (x := q.2.1) C dX7_passes_175 rfl ?_
      refine g_bipush (pc := 177) (v := 9) C dX7_passes_177 rfl ?_
      refine g_irem' (pc := 179) C dX7_passes_179 (by decide) ?_
      obtain ⟨r180, hcall180, h⟩ := ob_some h
      refine g_callV (pc := 180) C ce0 mi_X7_isFit mv_X7_isFit wm_X7_216 dX7_passes_180 ok_X7 [.ref (ad o), .int (q.2.1 / 9), .int (irm q.2.1 9)] [] la_62 (by omega) rfl rfl (Nat.le_of_ble_eq_true rfl) (m_X7_isFit (d := d - 1) (by omega) ho hcall180) ?_
      show Gw E κ 7 0 0 183 [some (.ref (ad 62)), some (.ref (ad o)), none, none, some (.int q.1), some (.int l5), some (.int q.2.1)] [.int r180] ad (LC sh sp ++ LM) q.2.2
      rcases ite_some' h with ⟨hc183, h⟩ | ⟨hc183, h⟩
      · refine g_if_eq_t (pc := 183) C 212 dX7_passes_183 (by decide) hc183 ?_
        obtain ⟨v212, hv212, h⟩ := lt_some h
        refine g_iinc (pc := 212) (i := 6) (x := q.2.1) (v := v212) (lv' := [some (.ref (ad 62)), some (.ref (ad o)), none, none, some (.int q.1), some (.int l5), some (.int v212)]) C dX7_passes_212 rfl hv212.symm (by decide) rfl rfl ?_
        refine g_goto (pc := 215) C 144 dX7_passes_215 (by decide) ?_
        cases h
        exact hP
      · refine g_if_eq_f (pc := 183) C 212 dX7_passes_183 (by decide) hc183 ?_
        refine g_aload_n (pc := 186) (i := 0) (x := ad 62) C dX7_passes_186 rfl rfl ?_
        refine g_aload_n (pc := 187) (i := 1) (x := ad o) C dX7_passes_187 rfl rfl ?_
        refine g_iload (pc := 188) (i := 6) (x := q.2.1) C dX7_passes_188 rfl ?_
        refine g_bipush (pc := 190) (v := 9) C dX7_passes_190 rfl ?_
        refine g_idiv (pc := 192) C dX7_passes_192 (by decide) ?_
        refine g_iload (pc := 193) (i := 6) (x := q.2.1) C dX7_passes_193 rfl ?_
        refine g_bipush (pc := 195) (v := 9) C dX7_passes_195 rfl ?_
        refine g_irem' (pc := 197) C dX7_passes_197 (by decide) ?_
        obtain ⟨m198, hcall198, h⟩ := ob_some h
        refine g_callV (pc := 198) C ce0 mi_X7_prints mv_X7_prints wm_X7_250 dX7_passes_198 ok_X7 [.ref (ad o), .int (q.2.1 / 9), .int (irm q.2.1 9)] [] la_62 (by omega) rfl rfl (Nat.le_of_ble_eq_true rfl) (m_X7_prints (d := d - 1) (by omega) ho hcall198) ?_
        show Gw E κ 7 0 0 201 [some (.ref (ad 62)), some (.ref (ad o)), none, none, some (.int q.1), some (.int l5), some (.int q.2.1)] [] ad (LC sh sp ++ LM) m198
        refine g_aload_n (pc := 201) (i := 0) (x := ad 62) C dX7_passes_201 rfl rfl ?_
        refine g_get (pc := 202) (v := .ref (ad 81)) C ok_X7 30 (by decide) wf_X7_64 dX7_passes_202 la_62 rfl ?_
        refine g_iload (pc := 205) (i := 6) (x := q.2.1) C dX7_passes_205 rfl ?_
        refine g_iconst (pc := 207) (v := 1) C dX7_passes_207 rfl ?_
        obtain ⟨m208, hm208, hi208, h⟩ := wr_some h
        refine g_zast (pc := 208) C dX7_passes_208 la_81 hi208 ?_
        refine g_mem hm208 ?_
        obtain ⟨v209, hv209, h⟩ := lt_some h
        refine g_iinc (pc := 209) (i := 4) (x := q.1) (v := v209) (lv' := [some (.ref (ad 62)), some (.ref (ad o)), none, none, some (.int v209), some (.int l5), some (.int q.2.1)]) C dX7_passes_209 rfl hv209.symm (by decide) rfl rfl ?_
        obtain ⟨v212, hv212, h⟩ := lt_some h
        refine g_iinc (pc := 212) (i := 6) (x := q.2.1) (v := v212) (lv' := [some (.ref (ad 62)), some (.ref (ad o)), none, none, some (.int v209), some (.int l5), some (.int v212)]) C dX7_passes_212 rfl hv212.symm (by decide) rfl rfl ?_
        refine g_goto (pc := 215) C 144 dX7_passes_215 (by decide) ?_
        cases h
        exact hP
    · refine g_icmp_ne_t (pc := 165) C 212 dX7_passes_165 (by decide) hc165 ?_
      obtain ⟨v212, hv212, h⟩ := lt_some h
      refine g_iinc (pc := 212) (i := 6) (x := q.2.1) (v := v212) (lv' := [some (.ref (ad 62)), some (.ref (ad o)), none, none, some (.int q.1), some (.int l5), some (.int v212)]) C dX7_passes_212 rfl hv212.symm (by decide) rfl rfl ?_
      refine g_goto (pc := 215) C 144 dX7_passes_215 (by decide) ?_
      cases h
      exact hP
set_option maxRecDepth 100000 in
set_option maxHeartbeats 4000000 in
theorem b_X7_passes_136 {E : Ex} {κ : Kx} {ad : Nat → Nat} {sh sp : Nat} {d : Nat} {o : Nat} (C : Cx E κ cX7_passes RX7 7 (some .int) d) (hd : 5 ≤ d) (ho : isO o) {q : Int32 × Int32 × Mem} {x : (Int32 × Int32 × Mem) ⊕ (Int32 × Int32 × Mem)} (h : f_X7_passes_b136 o q = some x) (hP : (P_X7_passes_136 E κ ad (LC sh sp ++ LM) o) x) : Gw E κ 7 0 0 136 [some (.ref (ad 62)), some (.ref (ad o)), none, none, some (.int q.1), some (.int q.2.1), none] [] ad (LC sh sp ++ LM) q.2.2 := by
  unfold f_X7_passes_b136 at h
  refine g_iload (pc := 136) (i := 5) (x := q.2.1) C dX7_passes_136 rfl ?_
  rcases ite_some' h with ⟨hc138, h⟩ | ⟨hc138, h⟩
  · refine g_if_le_t (pc := 138) C 224 dX7_passes_138 (by decide) hc138 ?_
    refine g_mask (lv' := [none, none, none, none, some (.int q.1), none, none]) [false, false, false, false, true, false, false] rfl ?_
    cases h
    exact hP
  · refine g_if_le_f (pc := 138) C 224 dX7_passes_138 (by decide) hc138 ?_
    refine g_iconst (pc := 141) (v := 0) C dX7_passes_141 rfl ?_
    refine g_istore (pc := 142) (i := 6) (lv' := [some (.ref (ad 62)), some (.ref (ad o)), none, none, some (.int q.1), some (.int q.2.1), some (.int 0)]) C dX7_passes_142 (by decide) rfl rfl ?_
    obtain ⟨q144, hq, h⟩ := ob_some h
    refine lp_gw (P_X7_passes_144 E κ ad (LC sh sp ++ LM) o q.2.1) (fun q x hb hp => b_X7_passes_144 C hd ho hb hp) _ (q.1, 0, q.2.2) _ hq ?_
    show Gw E κ 7 0 0 218 [some (.ref (ad 62)), some (.ref (ad o)), none, none, some (.int q144.1), some (.int q.2.1), none] [] ad (LC sh sp ++ LM) q144.2.2
    obtain ⟨v218, hv218, h⟩ := lt_some h
    refine g_iinc (pc := 218) (i := 5) (x := q.2.1) (v := v218) (lv' := [some (.ref (ad 62)), some (.ref (ad o)), none, none, some (.int q144.1), some (.int v218), none]) C dX7_passes_218 rfl hv218.symm (by decide) rfl rfl ?_
    refine g_goto (pc := 221) C 136 dX7_passes_221 (by decide) ?_
    cases h
    exact hP
set_option maxRecDepth 100000 in
set_option maxHeartbeats 4000000 in
theorem m_X7_passes {E : Ex} {ad : Nat → Nat} {sh sp : Nat} {d : Nat} (hd : 5 ≤ d) {o : Nat} (ho : isO o) {l2 : Int32} {mem : Mem} {r : Int32 × Mem} (h : f_X7_passes o l2 mem = some r) : Cl E yX7_passes cX7_passes 7 (some .int) d [.ref (ad 62), .ref (ad o), .int l2] (some (.int r.1)) ad (LC sh sp ++ LM) mem (LC sh sp ++ LM) r.2 := by
  refine Cl.of [some (.ref (ad 62)), some (.ref (ad o)), some (.int l2), none, none, none, none] (by decide +kernel) rfl (Nat.le_of_ble_eq_true rfl) (fun κ C hP => ?_)
  have C : Cx E κ cX7_passes RX7 7 (some .int) d := C
  unfold f_X7_passes at h
  refine g_aload_n (pc := 0) (i := 0) (x := ad 62) C dX7_passes_0 rfl rfl ?_
  refine g_aload_n (pc := 1) (i := 1) (x := ad o) C dX7_passes_1 rfl rfl ?_
  refine g_iload_n (pc := 2) (i := 2) (x := l2) C dX7_passes_2 rfl rfl ?_
  obtain ⟨m3, hcall3, h⟩ := ob_some h
  refine g_callV (pc := 3) C ce0 mi_X7_layCounted mv_X7_layCounted wm_X7_246 dX7_passes_3 ok_X7 [.ref (ad o), .int l2] [] la_62 (by omega) rfl rfl (Nat.le_of_ble_eq_true rfl) (m_X7_layCounted (d := d - 1) (by omega) ho hcall3) ?_
  show Gw E κ 7 0 0 6 [some (.ref (ad 62)), some (.ref (ad o)), some (.int l2), none, none, none, none] [] ad (LC sh sp ++ LM) m3
  refine g_iconst (pc := 6) (v := 0) C dX7_passes_6 rfl ?_
  refine g_istore_n (pc := 7) (i := 3) (lv' := [some (.ref (ad 62)), some (.ref (ad o)), some (.int l2), some (.int 0), none, none, none]) C dX7_passes_7 rfl (by decide) rfl rfl ?_
  refine g_mask (lv' := [some (.ref (ad 62)), some (.ref (ad o)), none, some (.int 0), none, none, none]) [true, true, false, true, false, false, false] rfl ?_
  obtain ⟨q8, hq, h⟩ := ob_some h
  refine lp_gw (P_X7_passes_8 E κ ad (LC sh sp ++ LM) o) (fun q x hb hp => b_X7_passes_8 C hd ho hb hp) _ (0, m3) _ hq ?_
  show Gw E κ 7 0 0 34 [some (.ref (ad 62)), some (.ref (ad o)), none, none, none, none, none] [] ad (LC sh sp ++ LM) q8.2
  refine g_iconst (pc := 34) (v := 0) C dX7_passes_34 rfl ?_
  refine g_istore_n (pc := 35) (i := 3) (lv' := [some (.ref (ad 62)), some (.ref (ad o)), none, some (.int 0), none, none, none]) C dX7_passes_35 rfl (by decide) rfl rfl ?_
  refine g_iconst (pc := 36) (v := 0) C dX7_passes_36 rfl ?_
  refine g_istore (pc := 37) (i := 4) (lv' := [some (.ref (ad 62)), some (.ref (ad o)), none, some (.int 0), some (.int 0), none, none]) C dX7_passes_37 (by decide) rfl rfl ?_
  obtain ⟨q39, hq, h⟩ := ob_some h
  refine lp_gw (P_X7_passes_39 E κ ad (LC sh sp ++ LM) o) (fun q x hb hp => b_X7_passes_39 C hd ho hb hp) _ (0, 0, q8.2) _ hq ?_
  show Gw E κ 7 0 0 130 [some (.ref (ad 62)), some (.ref (ad o)), none, some (.int q39.1), none, none, none] [] ad (LC sh sp ++ LM) q39.2.2
  refine g_iconst (pc := 130) (v := 0) C dX7_passes_130 rfl ?_
  refine g_istore (pc := 131) (i := 4) (lv' := [some (.ref (ad 62)), some (.ref (ad o)), none, some (.int q39.1), some (.int 0), none, none]) C dX7_passes_131 (by decide) rfl rfl ?_
  refine g_iload_n (pc := 133) (i := 3) (x := q39.1) C dX7_passes_133 rfl rfl ?_
  refine g_istore (pc := 134) (i := 5) (lv' := [some (.ref (ad 62)), some (.ref (ad o)), none, some (.int q39.1), some (.int 0), some (.int q39.1), none]) C dX7_passes_134 (by decide) rfl rfl ?_
  refine g_mask (lv' := [some (.ref (ad 62)), some (.ref (ad o)), none, none, some (.int 0), some (.int q39.1), none]) [true, true, false, false, true, true, false] rfl ?_
  obtain ⟨q136, hq, h⟩ := ob_some h
  refine lp_gw (P_X7_passes_136 E κ ad (LC sh sp ++ LM) o) (fun q x hb hp => b_X7_passes_136 C hd ho hb hp) _ (0, q39.1, q39.2.2) _ hq ?_
  show Gw E κ 7 0 0 224 [none, none, none, none, some (.int q136.1), none, none] [] ad (LC sh sp ++ LM) q136.2.2
  refine g_iload (pc := 224) (i := 4) (x := q136.1) C dX7_passes_224 rfl ?_
  cases h
  exact g_iret (pc := 226) C hP rfl rfl dX7_passes_226

theorem dX7_copyNow_0 : decode cX7_copyNow 0 = .ok (.iconst 0, 1) := by decide +kernel
theorem dX7_copyNow_1 : decode cX7_copyNow 1 = .ok (.istore_n 1, 1) := by decide +kernel
theorem dX7_copyNow_2 : decode cX7_copyNow 2 = .ok (.iload_n 1, 1) := by decide +kernel
theorem dX7_copyNow_3 : decode cX7_copyNow 3 = .ok (.bipush 28, 2) := by decide +kernel
theorem dX7_copyNow_5 : decode cX7_copyNow 5 = .ok (.if_icmp .ge 21, 3) := by decide +kernel
theorem dX7_copyNow_8 : decode cX7_copyNow 8 = .ok (.aload_n 0, 1) := by decide +kernel
theorem dX7_copyNow_9 : decode cX7_copyNow 9 = .ok (.getfield 55, 3) := by decide +kernel
theorem dX7_copyNow_12 : decode cX7_copyNow 12 = .ok (.iload_n 1, 1) := by decide +kernel
theorem dX7_copyNow_13 : decode cX7_copyNow 13 = .ok (.aload_n 0, 1) := by decide +kernel
theorem dX7_copyNow_14 : decode cX7_copyNow 14 = .ok (.getfield 52, 3) := by decide +kernel
theorem dX7_copyNow_17 : decode cX7_copyNow 17 = .ok (.iload_n 1, 1) := by decide +kernel
theorem dX7_copyNow_18 : decode cX7_copyNow 18 = .ok (.iaload, 1) := by decide +kernel
theorem dX7_copyNow_19 : decode cX7_copyNow 19 = .ok (.iastore, 1) := by decide +kernel
theorem dX7_copyNow_20 : decode cX7_copyNow 20 = .ok (.iinc 1 1, 3) := by decide +kernel
theorem dX7_copyNow_23 : decode cX7_copyNow 23 = .ok (.goto (-21), 3) := by decide +kernel
theorem dX7_copyNow_26 : decode cX7_copyNow 26 = .ok (.return_, 1) := by decide +kernel
noncomputable def f_X7_copyNow_b2 (q : Int32 × Mem) : Option ((Int32 × Mem) ⊕ (Int32 × Mem)) :=
  if 28 ≤ q.1 then (some (.inr (q.1, q.2))) else (rd (q.2 77) 28 q.1 fun v18 => wr q.2 78 28 q.1 v18 fun m19 => lt' (q.1 + 1) fun v20 => some (.inl (v20, m19)))
noncomputable def f_X7_copyNow  (mem : Mem) : Option (Mem) :=
  ob (lp f_X7_copyNow_b2 FU (0, mem)) fun q2 => some q2.2
def P_X7_copyNow_2 (E : Ex) (κ : Kx) (ad : Nat → Nat) (lay : List Ent) : (Int32 × Mem) ⊕ (Int32 × Mem) → Prop
  | .inl q => Gw E κ 2 0 0 2 [some (.ref (ad 62)), some (.int q.1)] [] ad lay q.2
  | .inr q => Gw E κ 2 0 0 26 [none, none] [] ad lay q.2
set_option maxRecDepth 100000 in
set_option maxHeartbeats 4000000 in
theorem b_X7_copyNow_2 {E : Ex} {κ : Kx} {ad : Nat → Nat} {sh sp : Nat} {d : Nat} (C : Cx E κ cX7_copyNow RX7 2 none d) (hd : 0 ≤ d)  {q : Int32 × Mem} {x : (Int32 × Mem) ⊕ (Int32 × Mem)} (h : f_X7_copyNow_b2  q = some x) (hP : (P_X7_copyNow_2 E κ ad (LC sh sp ++ LM) ) x) : Gw E κ 2 0 0 2 [some (.ref (ad 62)), some (.int q.1)] [] ad (LC sh sp ++ LM) q.2 := by
  unfold f_X7_copyNow_b2 at h
  refine g_iload_n (pc := 2) (i := 1) (x := q.1) C dX7_copyNow_2 rfl rfl ?_
  refine g_bipush (pc := 3) (v := 28) C dX7_copyNow_3 rfl ?_
  rcases ite_some' h with ⟨hc5, h⟩ | ⟨hc5, h⟩
  · refine g_icmp_ge_t (pc := 5) C 26 dX7_copyNow_5 (by decide) hc5 ?_
    refine g_mask (lv' := [none, none]) [false, false] rfl ?_
    cases h
    exact hP
  · refine g_icmp_ge_f (pc := 5) C 26 dX7_copyNow_5 (by decide) hc5 ?_
    refine g_aload_n (pc := 8) (i := 0) (x := ad 62) C dX7_copyNow_8 rfl rfl ?_
    refine g_get (pc := 9) (v := .ref (ad 78)) C ok_X7 27 (by decide) wf_X7_55 dX7_copyNow_9 la_62 rfl ?_
    refine g_iload_n (pc := 12) (i := 1) (x := q.1) C dX7_copyNow_12 rfl rfl ?_
    refine g_aload_n (pc := 13) (i := 0) (x := ad 62) C dX7_copyNow_13 rfl rfl ?_
    refine g_get (pc := 14) (v := .ref (ad 77)) C ok_X7 26 (by decide) wf_X7_52 dX7_copyNow_14 la_62 rfl ?_
    refine g_iload_n (pc := 17) (i := 1) (x := q.1) C dX7_copyNow_17 rfl rfl ?_
    obtain ⟨v18, hv18, hi18, h⟩ := rd_some h
    refine g_iald (pc := 18) C dX7_copyNow_18 la_77 hi18 ?_
    refine g_topi hv18 ?_
    obtain ⟨m19, hm19, hi19, h⟩ := wr_some h
    refine g_iast (pc := 19) C dX7_copyNow_19 la_78 hi19 ?_
    refine g_mem hm19 ?_
    obtain ⟨v20, hv20, h⟩ := lt_some h
    refine g_iinc (pc := 20) (i := 1) (x := q.1) (v := v20) (lv' := [some (.ref (ad 62)), some (.int v20)]) C dX7_copyNow_20 rfl hv20.symm (by decide) rfl rfl ?_
    refine g_goto (pc := 23) C 2 dX7_copyNow_23 (by decide) ?_
    cases h
    exact hP
set_option maxRecDepth 100000 in
set_option maxHeartbeats 4000000 in
theorem m_X7_copyNow {E : Ex} {ad : Nat → Nat} {sh sp : Nat} {d : Nat} (hd : 0 ≤ d)   {mem : Mem} {r : Mem} (h : f_X7_copyNow mem = some r) : Cl E yX7_copyNow cX7_copyNow 2 none d [.ref (ad 62)] none ad (LC sh sp ++ LM) mem (LC sh sp ++ LM) r := by
  refine Cl.of [some (.ref (ad 62)), none] (by decide +kernel) rfl (Nat.le_of_ble_eq_true rfl) (fun κ C hP => ?_)
  have C : Cx E κ cX7_copyNow RX7 2 none d := C
  unfold f_X7_copyNow at h
  refine g_iconst (pc := 0) (v := 0) C dX7_copyNow_0 rfl ?_
  refine g_istore_n (pc := 1) (i := 1) (lv' := [some (.ref (ad 62)), some (.int 0)]) C dX7_copyNow_1 rfl (by decide) rfl rfl ?_
  obtain ⟨q2, hq, h⟩ := ob_some h
  refine lp_gw (P_X7_copyNow_2 E κ ad (LC sh sp ++ LM) ) (fun q x hb hp => b_X7_copyNow_2 C hd hb hp) _ (0, mem) _ hq ?_
  show Gw E κ 2 0 0 26 [none, none] [] ad (LC sh sp ++ LM) q2.2
  cases h
  exact g_vret (pc := 26) C hP rfl dX7_copyNow_26

theorem dX7_remember_0 : decode cX7_remember 0 = .ok (.iconst 0, 1) := by decide +kernel
theorem dX7_remember_1 : decode cX7_remember 1 = .ok (.istore_n 1, 1) := by decide +kernel
theorem dX7_remember_2 : decode cX7_remember 2 = .ok (.iload_n 1, 1) := by decide +kernel
theorem dX7_remember_3 : decode cX7_remember 3 = .ok (.bipush 28, 2) := by decide +kernel
theorem dX7_remember_5 : decode cX7_remember 5 = .ok (.if_icmp .ge 29, 3) := by decide +kernel
theorem dX7_remember_8 : decode cX7_remember 8 = .ok (.aload_n 0, 1) := by decide +kernel
theorem dX7_remember_9 : decode cX7_remember 9 = .ok (.getfield 68, 3) := by decide +kernel
theorem dX7_remember_12 : decode cX7_remember 12 = .ok (.bipush 28, 2) := by decide +kernel
theorem dX7_remember_14 : decode cX7_remember 14 = .ok (.aload_n 0, 1) := by decide +kernel
theorem dX7_remember_15 : decode cX7_remember 15 = .ok (.getfield 254, 3) := by decide +kernel
theorem dX7_remember_18 : decode cX7_remember 18 = .ok (.imul, 1) := by decide +kernel
theorem dX7_remember_19 : decode cX7_remember 19 = .ok (.iload_n 1, 1) := by decide +kernel
theorem dX7_remember_20 : decode cX7_remember 20 = .ok (.iadd, 1) := by decide +kernel
theorem dX7_remember_21 : decode cX7_remember 21 = .ok (.aload_n 0, 1) := by decide +kernel
theorem dX7_remember_22 : decode cX7_remember 22 = .ok (.getfield 52, 3) := by decide +kernel
theorem dX7_remember_25 : decode cX7_remember 25 = .ok (.iload_n 1, 1) := by decide +kernel
theorem dX7_remember_26 : decode cX7_remember 26 = .ok (.iaload, 1) := by decide +kernel
theorem dX7_remember_27 : decode cX7_remember 27 = .ok (.iastore, 1) := by decide +kernel
theorem dX7_remember_28 : decode cX7_remember 28 = .ok (.iinc 1 1, 3) := by decide +kernel
theorem dX7_remember_31 : decode cX7_remember 31 = .ok (.goto (-29), 3) := by decide +kernel
theorem dX7_remember_34 : decode cX7_remember 34 = .ok (.aload_n 0, 1) := by decide +kernel
theorem dX7_remember_35 : decode cX7_remember 35 = .ok (.aload_n 0, 1) := by decide +kernel
theorem dX7_remember_36 : decode cX7_remember 36 = .ok (.getfield 254, 3) := by decide +kernel
theorem dX7_remember_39 : decode cX7_remember 39 = .ok (.iconst 1, 1) := by decide +kernel
theorem dX7_remember_40 : decode cX7_remember 40 = .ok (.iadd, 1) := by decide +kernel
theorem dX7_remember_41 : decode cX7_remember 41 = .ok (.bipush 8, 2) := by decide +kernel
theorem dX7_remember_43 : decode cX7_remember 43 = .ok (.irem, 1) := by decide +kernel
theorem dX7_remember_44 : decode cX7_remember 44 = .ok (.putfield 254, 3) := by decide +kernel
theorem dX7_remember_47 : decode cX7_remember 47 = .ok (.aload_n 0, 1) := by decide +kernel
theorem dX7_remember_48 : decode cX7_remember 48 = .ok (.dup, 1) := by decide +kernel
theorem dX7_remember_49 : decode cX7_remember 49 = .ok (.getfield 189, 3) := by decide +kernel
theorem dX7_remember_52 : decode cX7_remember 52 = .ok (.aload_n 0, 1) := by decide +kernel
theorem dX7_remember_53 : decode cX7_remember 53 = .ok (.getfield 189, 3) := by decide +kernel
theorem dX7_remember_56 : decode cX7_remember 56 = .ok (.bipush 8, 2) := by decide +kernel
theorem dX7_remember_58 : decode cX7_remember 58 = .ok (.if_icmp .ge 7, 3) := by decide +kernel
theorem dX7_remember_61 : decode cX7_remember 61 = .ok (.iconst 1, 1) := by decide +kernel
theorem dX7_remember_62 : decode cX7_remember 62 = .ok (.goto 4, 3) := by decide +kernel
theorem dX7_remember_65 : decode cX7_remember 65 = .ok (.iconst 0, 1) := by decide +kernel
theorem dX7_remember_66 : decode cX7_remember 66 = .ok (.iadd, 1) := by decide +kernel
theorem dX7_remember_67 : decode cX7_remember 67 = .ok (.putfield 189, 3) := by decide +kernel
theorem dX7_remember_70 : decode cX7_remember 70 = .ok (.return_, 1) := by decide +kernel
noncomputable def f_X7_remember_b2 (q : Int32 × Mem) : Option ((Int32 × Mem) ⊕ (Int32 × Mem)) :=
  if 28 ≤ q.1 then (some (.inr (q.1, q.2))) else (rd (q.2 77) 28 q.1 fun v26 => wr q.2 82 224 ((28 * (q.2 62 32)) + q.1) v26 fun m27 => lt' (q.1 + 1) fun v28 => some (.inl (v28, m27)))
noncomputable def f_X7_remember  (mem : Mem) : Option (Mem) :=
  ob (lp f_X7_remember_b2 FU (0, mem)) fun q2 => lt' (mset q2.2 62 32 (irm ((q2.2 62 32) + 1) 8)) fun m44 => if 8 ≤ (m44 62 31) then (lt' (mset m44 62 31 ((m44 62 31) + 0)) fun m67 => some m67) else (lt' (mset m44 62 31 ((m44 62 31) + 1)) fun m67 => some m67)
def P_X7_remember_2 (E : Ex) (κ : Kx) (ad : Nat → Nat) (lay : List Ent) : (Int32 × Mem) ⊕ (Int32 × Mem) → Prop
  | .inl q => Gw E κ 2 0 0 2 [some (.ref (ad 62)), some (.int q.1)] [] ad lay q.2
  | .inr q => Gw E κ 2 0 0 34 [some (.ref (ad 62)), none] [] ad lay q.2
set_option maxRecDepth 100000 in
set_option maxHeartbeats 4000000 in
theorem b_X7_remember_2 {E : Ex} {κ : Kx} {ad : Nat → Nat} {sh sp : Nat} {d : Nat} (C : Cx E κ cX7_remember RX7 2 none d) (hd : 0 ≤ d)  {q : Int32 × Mem} {x : (Int32 × Mem) ⊕ (Int32 × Mem)} (h : f_X7_remember_b2  q = some x) (hP : (P_X7_remember_2 E κ ad (LC sh sp ++ LM) ) x) : Gw E κ 2 0 0 2 [some (.ref (ad 62)), some (.int q.1)] [] ad (LC sh sp ++ LM) q.2 := by
  unfold f_X7_remember_b2 at h
  refine g_iload_n (pc := 2) (i := 1) (x := q.1) C dX7_remember_2 rfl rfl ?_
  refine g_bipush (pc := 3) (v := 28) C dX7_remember_3 rfl ?_
  rcases ite_some' h with ⟨hc5, h⟩ | ⟨hc5, h⟩
  · refine g_icmp_ge_t (pc := 5) C 34 dX7_remember_5 (by decide) hc5 ?_
    refine g_mask (lv' := [some (.ref (ad 62)), none]) [true, false] rfl ?_
    cases h
    exact hP
  · refine g_icmp_ge_f (pc := 5) C 34 dX7_remember_5 (by decide) hc5 ?_
    refine g_aload_n (pc := 8) (i := 0) (x := ad 62) C dX7_remember_8 rfl rfl ?_
    refine g_get (pc := 9) (v := .ref (ad 82)) C ok_X7 33 (by decide) wf_X7_68 dX7_remember_9 la_62 rfl ?_
    refine g_bipush (pc := 12) (v := 28) C dX7_remember_12 rfl ?_
    refine g_aload_n (pc := 14) (i := 0) (x := ad 62) C dX7_remember_14 rfl rfl ?_
    refine g_get (pc := 15) (v := .int (q.2 62 32)) C ok_X7 32 (by decide) wf_X7_254 dX7_remember_15 la_62 rfl ?_
    refine g_imul (pc := 18) C dX7_remember_18 ?_
    refine g_iload_n (pc := 19) (i := 1) (x := q.1) C dX7_remember_19 rfl rfl ?_
    refine g_iadd (pc := 20) C dX7_remember_20 ?_
    refine g_aload_n (pc := 21) (i := 0) (x := ad 62) C dX7_remember_21 rfl rfl ?_
    refine g_get (pc := 22) (v := .ref (ad 77)) C ok_X7 26 (by decide) wf_X7_52 dX7_remember_22 la_62 rfl ?_
    refine g_iload_n (pc := 25) (i := 1) (x := q.1) C dX7_remember_25 rfl rfl ?_
    obtain ⟨v26, hv26, hi26, h⟩ := rd_some h
    refine g_iald (pc := 26) C dX7_remember_26 la_77 hi26 ?_
    refine g_topi hv26 ?_
    obtain ⟨m27, hm27, hi27, h⟩ := wr_some h
    refine g_iast (pc := 27) C dX7_remember_27 la_82 hi27 ?_
    refine g_mem hm27 ?_
    obtain ⟨v28, hv28, h⟩ := lt_some h
    refine g_iinc (pc := 28) (i := 1) (x := q.1) (v := v28) (lv' := [some (.ref (ad 62)), some (.int v28)]) C dX7_remember_28 rfl hv28.symm (by decide) rfl rfl ?_
    refine g_goto (pc := 31) C 2 dX7_remember_31 (by decide) ?_
    cases h
    exact hP
set_option maxRecDepth 100000 in
set_option maxHeartbeats 4000000 in
theorem m_X7_remember {E : Ex} {ad : Nat → Nat} {sh sp : Nat} {d : Nat} (hd : 0 ≤ d)   {mem : Mem} {r : Mem} (h : f_X7_remember mem = some r) : Cl E yX7_remember cX7_remember 2 none d [.ref (ad 62)] none ad (LC sh sp ++ LM) mem (LC sh sp ++ LM) r := by
  refine Cl.of [some (.ref (ad 62)), none] (by decide +kernel) rfl (Nat.le_of_ble_eq_true rfl) (fun κ C hP => ?_)
  have C : Cx E κ cX7_remember RX7 2 none d := C
  unfold f_X7_remember at h
  refine g_iconst (pc := 0) (v := 0) C dX7_remember_0 rfl ?_
  refine g_istore_n (pc := 1) (i := 1) (lv' := [some (.ref (ad 62)), some (.int 0)]) C dX7_remember_1 rfl (by decide) rfl rfl ?_
  obtain ⟨q2, hq, h⟩ := ob_some h
  refine lp_gw (P_X7_remember_2 E κ ad (LC sh sp ++ LM) ) (fun q x hb hp => b_X7_remember_2 C hd hb hp) _ (0, mem) _ hq ?_
  show Gw E κ 2 0 0 34 [some (.ref (ad 62)), none] [] ad (LC sh sp ++ LM) q2.2
  refine g_aload_n (pc := 34) (i := 0) (x := ad 62) C dX7_remember_34 rfl rfl ?_
  refine g_aload_n (pc := 35) (i := 0) (x := ad 62) C dX7_remember_35 rfl rfl ?_
  refine g_get (pc := 36) (v := .int (q2.2 62 32)) C ok_X7 32 (by decide) wf_X7_254 dX7_remember_36 la_62 rfl ?_
  refine g_iconst (pc := 39) (v := 1) C dX7_remember_39 rfl ?_
  refine g_iadd (pc := 40) C dX7_remember_40 ?_
  refine g_bipush (pc := 41) (v := 8) C dX7_remember_41 rfl ?_
  refine g_irem' (pc := 43) C dX7_remember_43 (by decide) ?_
  obtain ⟨m44, hm44, h⟩ := lt_some h
  refine g_put (pc := 44) C ok_X7 32 (by decide) wf_X7_254 dX7_remember_44 rfl rfl la_62 ?_
  refine g_mem hm44 ?_
  refine g_aload_n (pc := 47) (i := 0) (x := ad 62) C dX7_remember_47 rfl rfl ?_
  refine g_dup (pc := 48) C dX7_remember_48 rfl ?_
  refine g_get (pc := 49) (v := .int (m44 62 31)) C ok_X7 31 (by decide) wf_X7_189 dX7_remember_49 la_62 rfl ?_
  refine g_aload_n (pc := 52) (i := 0) (x := ad 62) C dX7_remember_52 rfl rfl ?_
  refine g_get (pc := 53) (v := .int (m44 62 31)) C ok_X7 31 (by decide) wf_X7_189 dX7_remember_53 la_62 rfl ?_
  refine g_bipush (pc := 56) (v := 8) C dX7_remember_56 rfl ?_
  rcases ite_some' h with ⟨hc58, h⟩ | ⟨hc58, h⟩
  · refine g_icmp_ge_t (pc := 58) C 65 dX7_remember_58 (by decide) hc58 ?_
    refine g_iconst (pc := 65) (v := 0) C dX7_remember_65 rfl ?_
    refine g_iadd (pc := 66) C dX7_remember_66 ?_
    obtain ⟨m67, hm67, h⟩ := lt_some h
    refine g_put (pc := 67) C ok_X7 31 (by decide) wf_X7_189 dX7_remember_67 rfl rfl la_62 ?_
    refine g_mem hm67 ?_
    cases h
    exact g_vret (pc := 70) C hP rfl dX7_remember_70
  · refine g_icmp_ge_f (pc := 58) C 65 dX7_remember_58 (by decide) hc58 ?_
    refine g_iconst (pc := 61) (v := 1) C dX7_remember_61 rfl ?_
    refine g_goto (pc := 62) C 66 dX7_remember_62 (by decide) ?_
    refine g_iadd (pc := 66) C dX7_remember_66 ?_
    obtain ⟨m67, hm67, h⟩ := lt_some h
    refine g_put (pc := 67) C ok_X7 31 (by decide) wf_X7_189 dX7_remember_67 rfl rfl la_62 ?_
    refine g_mem hm67 ?_
    cases h
    exact g_vret (pc := 70) C hP rfl dX7_remember_70

theorem dX7_evening_0 : decode cX7_evening 0 = .ok (.aload_n 0, 1) := by decide +kernel
theorem dX7_evening_1 : decode cX7_evening 1 = .ok (.invokevirtual 257, 3) := by decide +kernel
theorem dX7_evening_4 : decode cX7_evening 4 = .ok (.aload_n 0, 1) := by decide +kernel
theorem dX7_evening_5 : decode cX7_evening 5 = .ok (.aload_n 0, 1) := by decide +kernel
theorem dX7_evening_6 : decode cX7_evening 6 = .ok (.getfield 52, 3) := by decide +kernel
theorem dX7_evening_9 : decode cX7_evening 9 = .ok (.iconst (-1), 1) := by decide +kernel
theorem dX7_evening_10 : decode cX7_evening 10 = .ok (.invokevirtual 260, 3) := by decide +kernel
theorem dX7_evening_13 : decode cX7_evening 13 = .ok (.ireturn, 1) := by decide +kernel
noncomputable def f_X7_evening  (mem : Mem) : Option (Int32 × Mem) :=
  ob (f_X7_remember mem) fun m1 => ob2 (f_X7_passes 77 (-1) m1) fun r10 m10 => some (r10, m10)
set_option maxRecDepth 100000 in
set_option maxHeartbeats 4000000 in
theorem m_X7_evening {E : Ex} {ad : Nat → Nat} {sh sp : Nat} {d : Nat} (hd : 6 ≤ d)   {mem : Mem} {r : Int32 × Mem} (h : f_X7_evening mem = some r) : Cl E yX7_evening cX7_evening 1 (some .int) d [.ref (ad 62)] (some (.int r.1)) ad (LC sh sp ++ LM) mem (LC sh sp ++ LM) r.2 := by
  refine Cl.of [some (.ref (ad 62))] (by decide +kernel) rfl (Nat.le_of_ble_eq_true rfl) (fun κ C hP => ?_)
  have C : Cx E κ cX7_evening RX7 1 (some .int) d := C
  unfold f_X7_evening at h
  refine g_aload_n (pc := 0) (i := 0) (x := ad 62) C dX7_evening_0 rfl rfl ?_
  obtain ⟨m1, hcall1, h⟩ := ob_some h
  refine g_callV (pc := 1) C ce0 mi_X7_remember mv_X7_remember wm_X7_257 dX7_evening_1 ok_X7 [] [] la_62 (by omega) rfl rfl (Nat.le_of_ble_eq_true rfl) (m_X7_remember (d := d - 1) (by omega)  hcall1) ?_
  show Gw E κ 1 0 0 4 [some (.ref (ad 62))] [] ad (LC sh sp ++ LM) m1
  refine g_aload_n (pc := 4) (i := 0) (x := ad 62) C dX7_evening_4 rfl rfl ?_
  refine g_aload_n (pc := 5) (i := 0) (x := ad 62) C dX7_evening_5 rfl rfl ?_
  refine g_get (pc := 6) (v := .ref (ad 77)) C ok_X7 26 (by decide) wf_X7_52 dX7_evening_6 la_62 rfl ?_
  refine g_iconst (pc := 9) (v := (-1)) C dX7_evening_9 rfl ?_
  obtain ⟨r10, m10, hcall10, h⟩ := ob2_some h
  refine g_callV (pc := 10) C ce0 mi_X7_passes mv_X7_passes wm_X7_260 dX7_evening_10 ok_X7 [.ref (ad 77), .int (-1)] [] la_62 (by omega) rfl rfl (Nat.le_of_ble_eq_true rfl) (m_X7_passes (d := d - 1) (by omega) o_77 hcall10) ?_
  show Gw E κ 1 0 0 13 [some (.ref (ad 62))] [.int r10] ad (LC sh sp ++ LM) m10
  cases h
  exact g_iret (pc := 13) C hP rfl rfl dX7_evening_13

theorem dX7_set_0 : decode cX7_set 0 = .ok (.aload_n 0, 1) := by decide +kernel
theorem dX7_set_1 : decode cX7_set 1 = .ok (.iload_n 1, 1) := by decide +kernel
theorem dX7_set_2 : decode cX7_set 2 = .ok (.invokevirtual 219, 3) := by decide +kernel
theorem dX7_set_5 : decode cX7_set 5 = .ok (.ifCond .eq 11, 3) := by decide +kernel
theorem dX7_set_8 : decode cX7_set 8 = .ok (.aload_n 0, 1) := by decide +kernel
theorem dX7_set_9 : decode cX7_set 9 = .ok (.iload_n 2, 1) := by decide +kernel
theorem dX7_set_10 : decode cX7_set 10 = .ok (.invokevirtual 225, 3) := by decide +kernel
theorem dX7_set_13 : decode cX7_set 13 = .ok (.ifCond .ne 5, 3) := by decide +kernel
theorem dX7_set_16 : decode cX7_set 16 = .ok (.iconst (-1), 1) := by decide +kernel
theorem dX7_set_17 : decode cX7_set 17 = .ok (.ireturn, 1) := by decide +kernel
theorem dX7_set_18 : decode cX7_set 18 = .ok (.aload_n 0, 1) := by decide +kernel
theorem dX7_set_19 : decode cX7_set 19 = .ok (.aload_n 0, 1) := by decide +kernel
theorem dX7_set_20 : decode cX7_set 20 = .ok (.getfield 52, 3) := by decide +kernel
theorem dX7_set_23 : decode cX7_set 23 = .ok (.iload_n 1, 1) := by decide +kernel
theorem dX7_set_24 : decode cX7_set 24 = .ok (.iload_n 2, 1) := by decide +kernel
theorem dX7_set_25 : decode cX7_set 25 = .ok (.invokevirtual 216, 3) := by decide +kernel
theorem dX7_set_28 : decode cX7_set 28 = .ok (.ifCond .ne 6, 3) := by decide +kernel
theorem dX7_set_31 : decode cX7_set 31 = .ok (.bipush (-2), 2) := by decide +kernel
theorem dX7_set_33 : decode cX7_set 33 = .ok (.ireturn, 1) := by decide +kernel
theorem dX7_set_34 : decode cX7_set 34 = .ok (.aload_n 0, 1) := by decide +kernel
theorem dX7_set_35 : decode cX7_set 35 = .ok (.invokevirtual 257, 3) := by decide +kernel
theorem dX7_set_38 : decode cX7_set 38 = .ok (.aload_n 0, 1) := by decide +kernel
theorem dX7_set_39 : decode cX7_set 39 = .ok (.aload_n 0, 1) := by decide +kernel
theorem dX7_set_40 : decode cX7_set 40 = .ok (.getfield 52, 3) := by decide +kernel
theorem dX7_set_43 : decode cX7_set 43 = .ok (.iload_n 1, 1) := by decide +kernel
theorem dX7_set_44 : decode cX7_set 44 = .ok (.invokevirtual 212, 3) := by decide +kernel
theorem dX7_set_47 : decode cX7_set 47 = .ok (.istore_n 3, 1) := by decide +kernel
theorem dX7_set_48 : decode cX7_set 48 = .ok (.aload_n 0, 1) := by decide +kernel
theorem dX7_set_49 : decode cX7_set 49 = .ok (.aload_n 0, 1) := by decide +kernel
theorem dX7_set_50 : decode cX7_set 50 = .ok (.getfield 52, 3) := by decide +kernel
theorem dX7_set_53 : decode cX7_set 53 = .ok (.iload_n 1, 1) := by decide +kernel
theorem dX7_set_54 : decode cX7_set 54 = .ok (.iload_n 2, 1) := by decide +kernel
theorem dX7_set_55 : decode cX7_set 55 = .ok (.invokevirtual 250, 3) := by decide +kernel
theorem dX7_set_58 : decode cX7_set 58 = .ok (.iload_n 3, 1) := by decide +kernel
theorem dX7_set_59 : decode cX7_set 59 = .ok (.ireturn, 1) := by decide +kernel
noncomputable def f_X7_set (l1 : Int32) (l2 : Int32) (mem : Mem) : Option (Int32 × Mem) :=
  ob (f_X7_isPlace l1 mem) fun r2 => if r2 = 0 then (some ((-1), mem)) else (ob (f_X7_isWord l2 mem) fun r10 => if r10 = 0 then (some ((-1), mem)) else (ob (f_X7_isFit 77 l1 l2 mem) fun r25 => if r25 = 0 then (some ((-2), mem)) else (ob (f_X7_remember mem) fun m35 => ob (f_X7_empties 77 l1 m35) fun r44 => ob (f_X7_prints 77 l1 l2 m35) fun m55 => some (r44, m55))))
set_option maxRecDepth 100000 in
set_option maxHeartbeats 4000000 in
theorem m_X7_set {E : Ex} {ad : Nat → Nat} {sh sp : Nat} {d : Nat} (hd : 3 ≤ d)  {l1 : Int32} {l2 : Int32} {mem : Mem} {r : Int32 × Mem} (h : f_X7_set l1 l2 mem = some r) : Cl E yX7_set cX7_set 4 (some .int) d [.ref (ad 62), .int l1, .int l2] (some (.int r.1)) ad (LC sh sp ++ LM) mem (LC sh sp ++ LM) r.2 := by
  refine Cl.of [some (.ref (ad 62)), some (.int l1), some (.int l2), none] (by decide +kernel) rfl (Nat.le_of_ble_eq_true rfl) (fun κ C hP => ?_)
  have C : Cx E κ cX7_set RX7 4 (some .int) d := C
  unfold f_X7_set at h
  refine g_aload_n (pc := 0) (i := 0) (x := ad 62) C dX7_set_0 rfl rfl ?_
  refine g_iload_n (pc := 1) (i := 1) (x := l1) C dX7_set_1 rfl rfl ?_
  obtain ⟨r2, hcall2, h⟩ := ob_some h
  refine g_callV (pc := 2) C ce0 mi_X7_isPlace mv_X7_isPlace wm_X7_219 dX7_set_2 ok_X7 [.int l1] [] la_62 (by omega) rfl rfl (Nat.le_of_ble_eq_true rfl) (m_X7_isPlace (d := d - 1) (by omega)  hcall2) ?_
  show Gw E κ 4 0 0 5 [some (.ref (ad 62)), some (.int l1), some (.int l2), none] [.int r2] ad (LC sh sp ++ LM) mem
  rcases ite_some' h with ⟨hc5, h⟩ | ⟨hc5, h⟩
  · refine g_if_eq_t (pc := 5) C 16 dX7_set_5 (by decide) hc5 ?_
    refine g_iconst (pc := 16) (v := (-1)) C dX7_set_16 rfl ?_
    cases h
    exact g_iret (pc := 17) C hP rfl rfl dX7_set_17
  · refine g_if_eq_f (pc := 5) C 16 dX7_set_5 (by decide) hc5 ?_
    refine g_aload_n (pc := 8) (i := 0) (x := ad 62) C dX7_set_8 rfl rfl ?_
    refine g_iload_n (pc := 9) (i := 2) (x := l2) C dX7_set_9 rfl rfl ?_
    obtain ⟨r10, hcall10, h⟩ := ob_some h
    refine g_callV (pc := 10) C ce0 mi_X7_isWord mv_X7_isWord wm_X7_225 dX7_set_10 ok_X7 [.int l2] [] la_62 (by omega) rfl rfl (Nat.le_of_ble_eq_true rfl) (m_X7_isWord (d := d - 1) (by omega)  hcall10) ?_
    show Gw E κ 4 0 0 13 [some (.ref (ad 62)), some (.int l1), some (.int l2), none] [.int r10] ad (LC sh sp ++ LM) mem
    rcases ite_some' h with ⟨hc13, h⟩ | ⟨hc13, h⟩
    · refine g_if_ne_f (pc := 13) C 18 dX7_set_13 (by decide) hc13 ?_
      refine g_iconst (pc := 16) (v := (-1)) C dX7_set_16 rfl ?_
      cases h
      exact g_iret (pc := 17) C hP rfl rfl dX7_set_17
    · refine g_if_ne_t (pc := 13) C 18 dX7_set_13 (by decide) hc13 ?_
      refine g_aload_n (pc := 18) (i := 0) (x := ad 62) C dX7_set_18 rfl rfl ?_
      refine g_aload_n (pc := 19) (i := 0) (x := ad 62) C dX7_set_19 rfl rfl ?_
      refine g_get (pc := 20) (v := .ref (ad 77)) C ok_X7 26 (by decide) wf_X7_52 dX7_set_20 la_62 rfl ?_
      refine g_iload_n (pc := 23) (i := 1) (x := l1) C dX7_set_23 rfl rfl ?_
      refine g_iload_n (pc := 24) (i := 2) (x := l2) C dX7_set_24 rfl rfl ?_
      obtain ⟨r25, hcall25, h⟩ := ob_some h
      refine g_callV (pc := 25) C ce0 mi_X7_isFit mv_X7_isFit wm_X7_216 dX7_set_25 ok_X7 [.ref (ad 77), .int l1, .int l2] [] la_62 (by omega) rfl rfl (Nat.le_of_ble_eq_true rfl) (m_X7_isFit (d := d - 1) (by omega) o_77 hcall25) ?_
      show Gw E κ 4 0 0 28 [some (.ref (ad 62)), some (.int l1), some (.int l2), none] [.int r25] ad (LC sh sp ++ LM) mem
      rcases ite_some' h with ⟨hc28, h⟩ | ⟨hc28, h⟩
      · refine g_if_ne_f (pc := 28) C 34 dX7_set_28 (by decide) hc28 ?_
        refine g_bipush (pc := 31) (v := (-2)) C dX7_set_31 rfl ?_
        cases h
        exact g_iret (pc := 33) C hP rfl rfl dX7_set_33
      · refine g_if_ne_t (pc := 28) C 34 dX7_set_28 (by decide) hc28 ?_
        refine g_aload_n (pc := 34) (i := 0) (x := ad 62) C dX7_set_34 rfl rfl ?_
        obtain ⟨m35, hcall35, h⟩ := ob_some h
        refine g_callV (pc := 35) C ce0 mi_X7_remember mv_X7_remember wm_X7_257 dX7_set_35 ok_X7 [] [] la_62 (by omega) rfl rfl (Nat.le_of_ble_eq_true rfl) (m_X7_remember (d := d - 1) (by omega)  hcall35) ?_
        show Gw E κ 4 0 0 38 [some (.ref (ad 62)), some (.int l1), some (.int l2), none] [] ad (LC sh sp ++ LM) m35
        refine g_aload_n (pc := 38) (i := 0) (x := ad 62) C dX7_set_38 rfl rfl ?_
        refine g_aload_n (pc := 39) (i := 0) (x := ad 62) C dX7_set_39 rfl rfl ?_
        refine g_get (pc := 40) (v := .ref (ad 77)) C ok_X7 26 (by decide) wf_X7_52 dX7_set_40 la_62 rfl ?_
        refine g_iload_n (pc := 43) (i := 1) (x := l1) C dX7_set_43 rfl rfl ?_
        obtain ⟨r44, hcall44, h⟩ := ob_some h
        refine g_callV (pc := 44) C ce0 mi_X7_empties mv_X7_empties wm_X7_212 dX7_set_44 ok_X7 [.ref (ad 77), .int l1] [] la_62 (by omega) rfl rfl (Nat.le_of_ble_eq_true rfl) (m_X7_empties (d := d - 1) (by omega) o_77 hcall44) ?_
        show Gw E κ 4 0 0 47 [some (.ref (ad 62)), some (.int l1), some (.int l2), none] [.int r44] ad (LC sh sp ++ LM) m35
        refine g_istore_n (pc := 47) (i := 3) (lv' := [some (.ref (ad 62)), some (.int l1), some (.int l2), some (.int r44)]) C dX7_set_47 rfl (by decide) rfl rfl ?_
        refine g_aload_n (pc := 48) (i := 0) (x := ad 62) C dX7_set_48 rfl rfl ?_
        refine g_aload_n (pc := 49) (i := 0) (x := ad 62) C dX7_set_49 rfl rfl ?_
        refine g_get (pc := 50) (v := .ref (ad 77)) C ok_X7 26 (by decide) wf_X7_52 dX7_set_50 la_62 rfl ?_
        refine g_iload_n (pc := 53) (i := 1) (x := l1) C dX7_set_53 rfl rfl ?_
        refine g_iload_n (pc := 54) (i := 2) (x := l2) C dX7_set_54 rfl rfl ?_
        obtain ⟨m55, hcall55, h⟩ := ob_some h
        refine g_callV (pc := 55) C ce0 mi_X7_prints mv_X7_prints wm_X7_250 dX7_set_55 ok_X7 [.ref (ad 77), .int l1, .int l2] [] la_62 (by omega) rfl rfl (Nat.le_of_ble_eq_true rfl) (m_X7_prints (d := d - 1) (by omega) o_77 hcall55) ?_
        show Gw E κ 4 0 0 58 [some (.ref (ad 62)), some (.int l1), some (.int l2), some (.int r44)] [] ad (LC sh sp ++ LM) m55
        refine g_iload_n (pc := 58) (i := 3) (x := r44) C dX7_set_58 rfl rfl ?_
        cases h
        exact g_iret (pc := 59) C hP rfl rfl dX7_set_59

theorem dX7_strikes_0 : decode cX7_strikes 0 = .ok (.iconst 0, 1) := by decide +kernel
theorem dX7_strikes_1 : decode cX7_strikes 1 = .ok (.istore_n 3, 1) := by decide +kernel
theorem dX7_strikes_2 : decode cX7_strikes 2 = .ok (.iload_n 3, 1) := by decide +kernel
theorem dX7_strikes_3 : decode cX7_strikes 3 = .ok (.aload_n 0, 1) := by decide +kernel
theorem dX7_strikes_4 : decode cX7_strikes 4 = .ok (.getfield 46, 3) := by decide +kernel
theorem dX7_strikes_7 : decode cX7_strikes 7 = .ok (.iload_n 2, 1) := by decide +kernel
theorem dX7_strikes_8 : decode cX7_strikes 8 = .ok (.iaload, 1) := by decide +kernel
theorem dX7_strikes_9 : decode cX7_strikes 9 = .ok (.if_icmp .ge 18, 3) := by decide +kernel
theorem dX7_strikes_12 : decode cX7_strikes 12 = .ok (.aload_n 1, 1) := by decide +kernel
theorem dX7_strikes_13 : decode cX7_strikes 13 = .ok (.aload_n 0, 1) := by decide +kernel
theorem dX7_strikes_14 : decode cX7_strikes 14 = .ok (.iload_n 2, 1) := by decide +kernel
theorem dX7_strikes_15 : decode cX7_strikes 15 = .ok (.iload_n 3, 1) := by decide +kernel
theorem dX7_strikes_16 : decode cX7_strikes 16 = .ok (.invokevirtual 204, 3) := by decide +kernel
theorem dX7_strikes_19 : decode cX7_strikes 19 = .ok (.iconst 0, 1) := by decide +kernel
theorem dX7_strikes_20 : decode cX7_strikes 20 = .ok (.iastore, 1) := by decide +kernel
theorem dX7_strikes_21 : decode cX7_strikes 21 = .ok (.iinc 3 1, 3) := by decide +kernel
theorem dX7_strikes_24 : decode cX7_strikes 24 = .ok (.goto (-22), 3) := by decide +kernel
theorem dX7_strikes_27 : decode cX7_strikes 27 = .ok (.return_, 1) := by decide +kernel
noncomputable def f_X7_strikes_b2 (o : Nat) (l2 : Int32) (q : Int32 × Mem) : Option ((Int32 × Mem) ⊕ (Int32 × Mem)) :=
  rd (q.2 75) 8 l2 fun v8 => if v8 ≤ q.1 then (some (.inr (q.1, q.2))) else (ob (f_X7_squareOf l2 q.1 q.2) fun r16 => wr q.2 o 28 r16 0 fun m20 => lt' (q.1 + 1) fun v21 => some (.inl (v21, m20)))
noncomputable def f_X7_strikes (o : Nat) (l2 : Int32) (mem : Mem) : Option (Mem) :=
  ob (lp (f_X7_strikes_b2 o l2) FU (0, mem)) fun q2 => some q2.2
def P_X7_strikes_2 (E : Ex) (κ : Kx) (ad : Nat → Nat) (lay : List Ent) (o : Nat) (l2 : Int32) : (Int32 × Mem) ⊕ (Int32 × Mem) → Prop
  | .inl q => Gw E κ 4 0 0 2 [some (.ref (ad 62)), some (.ref (ad o)), some (.int l2), some (.int q.1)] [] ad lay q.2
  | .inr q => Gw E κ 4 0 0 27 [none, none, none, none] [] ad lay q.2
set_option maxRecDepth 100000 in
set_option maxHeartbeats 4000000 in
theorem b_X7_strikes_2 {E : Ex} {κ : Kx} {ad : Nat → Nat} {sh sp : Nat} {d : Nat} {o : Nat} (C : Cx E κ cX7_strikes RX7 4 none d) (hd : 1 ≤ d) (ho : isO o) {l2 : Int32} {q : Int32 × Mem} {x : (Int32 × Mem) ⊕ (Int32 × Mem)} (h : f_X7_strikes_b2 o l2 q = some x) (hP : (P_X7_strikes_2 E κ ad (LC sh sp ++ LM) o l2) x) : Gw E κ 4 0 0 2 [some (.ref (ad 62)), some (.ref (ad o)), some (.int l2), some (.int q.1)] [] ad (LC sh sp ++ LM) q.2 := by
  unfold f_X7_strikes_b2 at h
  refine g_iload_n (pc := 2) (i := 3) (x := q.1) C dX7_strikes_2 rfl rfl ?_
  refine g_aload_n (pc := 3) (i := 0) (x := ad 62) C dX7_strikes_3 rfl rfl ?_
  refine g_get (pc := 4) (v := .ref (ad 75)) C ok_X7 24 (by decide) wf_X7_46 dX7_strikes_4 la_62 rfl ?_
  refine g_iload_n (pc := 7) (i := 2) (x := l2) C dX7_strikes_7 rfl rfl ?_
  obtain ⟨v8, hv8, hi8, h⟩ := rd_some h
  refine g_iald (pc := 8) C dX7_strikes_8 la_75 hi8 ?_
  refine g_topi hv8 ?_
  rcases ite_some' h with ⟨hc9, h⟩ | ⟨hc9, h⟩
  · refine g_icmp_ge_t (pc := 9) C 27 dX7_strikes_9 (by decide) hc9 ?_
    refine g_mask (lv' := [none, none, none, none]) [false, false, false, false] rfl ?_
    cases h
    exact hP
  · refine g_icmp_ge_f (pc := 9) C 27 dX7_strikes_9 (by decide) hc9 ?_
    refine g_aload_n (pc := 12) (i := 1) (x := ad o) C dX7_strikes_12 rfl rfl ?_
    refine g_aload_n (pc := 13) (i := 0) (x := ad 62) C dX7_strikes_13 rfl rfl ?_
    refine g_iload_n (pc := 14) (i := 2) (x := l2) C dX7_strikes_14 rfl rfl ?_
    refine g_iload_n (pc := 15) (i := 3) (x := q.1) C dX7_strikes_15 rfl rfl ?_
    obtain ⟨r16, hcall16, h⟩ := ob_some h
    refine g_callV (pc := 16) C ce0 mi_X7_squareOf mv_X7_squareOf wm_X7_204 dX7_strikes_16 ok_X7 [.int l2, .int q.1] [.ref (ad o)] la_62 (by omega) rfl rfl (Nat.le_of_ble_eq_true rfl) (m_X7_squareOf (d := d - 1) (by omega)  hcall16) ?_
    show Gw E κ 4 0 0 19 [some (.ref (ad 62)), some (.ref (ad o)), some (.int l2), some (.int q.1)] [.int r16, .ref (ad o)] ad (LC sh sp ++ LM) q.2
    refine g_iconst (pc := 19) (v := 0) C dX7_strikes_19 rfl ?_
    obtain ⟨m20, hm20, hi20, h⟩ := wr_some h
    refine g_iast (pc := 20) C dX7_strikes_20 (lq_0 ho) hi20 ?_
    refine g_mem hm20 ?_
    obtain ⟨v21, hv21, h⟩ := lt_some h
    refine g_iinc (pc := 21) (i := 3) (x := q.1) (v := v21) (lv' := [some (.ref (ad 62)), some (.ref (ad o)), some (.int l2), some (.int v21)]) C dX7_strikes_21 rfl hv21.symm (by decide) rfl rfl ?_
    refine g_goto (pc := 24) C 2 dX7_strikes_24 (by decide) ?_
    cases h
    exact hP
set_option maxRecDepth 100000 in
set_option maxHeartbeats 4000000 in
theorem m_X7_strikes {E : Ex} {ad : Nat → Nat} {sh sp : Nat} {d : Nat} (hd : 1 ≤ d) {o : Nat} (ho : isO o) {l2 : Int32} {mem : Mem} {r : Mem} (h : f_X7_strikes o l2 mem = some r) : Cl E yX7_strikes cX7_strikes 4 none d [.ref (ad 62), .ref (ad o), .int l2] none ad (LC sh sp ++ LM) mem (LC sh sp ++ LM) r := by
  refine Cl.of [some (.ref (ad 62)), some (.ref (ad o)), some (.int l2), none] (by decide +kernel) rfl (Nat.le_of_ble_eq_true rfl) (fun κ C hP => ?_)
  have C : Cx E κ cX7_strikes RX7 4 none d := C
  unfold f_X7_strikes at h
  refine g_iconst (pc := 0) (v := 0) C dX7_strikes_0 rfl ?_
  refine g_istore_n (pc := 1) (i := 3) (lv' := [some (.ref (ad 62)), some (.ref (ad o)), some (.int l2), some (.int 0)]) C dX7_strikes_1 rfl (by decide) rfl rfl ?_
  obtain ⟨q2, hq, h⟩ := ob_some h
  refine lp_gw (P_X7_strikes_2 E κ ad (LC sh sp ++ LM) o l2) (fun q x hb hp => b_X7_strikes_2 C hd ho hb hp) _ (0, mem) _ hq ?_
  show Gw E κ 4 0 0 27 [none, none, none, none] [] ad (LC sh sp ++ LM) q2.2
  cases h
  exact g_vret (pc := 27) C hP rfl dX7_strikes_27

theorem dX7_strike_0 : decode cX7_strike 0 = .ok (.aload_n 0, 1) := by decide +kernel
theorem dX7_strike_1 : decode cX7_strike 1 = .ok (.iload_n 1, 1) := by decide +kernel
theorem dX7_strike_2 : decode cX7_strike 2 = .ok (.invokevirtual 219, 3) := by decide +kernel
theorem dX7_strike_5 : decode cX7_strike 5 = .ok (.ifCond .ne 5, 3) := by decide +kernel
theorem dX7_strike_8 : decode cX7_strike 8 = .ok (.iconst (-1), 1) := by decide +kernel
theorem dX7_strike_9 : decode cX7_strike 9 = .ok (.ireturn, 1) := by decide +kernel
theorem dX7_strike_10 : decode cX7_strike 10 = .ok (.aload_n 0, 1) := by decide +kernel
theorem dX7_strike_11 : decode cX7_strike 11 = .ok (.getfield 46, 3) := by decide +kernel
theorem dX7_strike_14 : decode cX7_strike 14 = .ok (.iload_n 1, 1) := by decide +kernel
theorem dX7_strike_15 : decode cX7_strike 15 = .ok (.iaload, 1) := by decide +kernel
theorem dX7_strike_16 : decode cX7_strike 16 = .ok (.aload_n 0, 1) := by decide +kernel
theorem dX7_strike_17 : decode cX7_strike 17 = .ok (.aload_n 0, 1) := by decide +kernel
theorem dX7_strike_18 : decode cX7_strike 18 = .ok (.getfield 52, 3) := by decide +kernel
theorem dX7_strike_21 : decode cX7_strike 21 = .ok (.iload_n 1, 1) := by decide +kernel
theorem dX7_strike_22 : decode cX7_strike 22 = .ok (.invokevirtual 212, 3) := by decide +kernel
theorem dX7_strike_25 : decode cX7_strike 25 = .ok (.isub, 1) := by decide +kernel
theorem dX7_strike_26 : decode cX7_strike 26 = .ok (.istore_n 2, 1) := by decide +kernel
theorem dX7_strike_27 : decode cX7_strike 27 = .ok (.iload_n 2, 1) := by decide +kernel
theorem dX7_strike_28 : decode cX7_strike 28 = .ok (.ifCond .ne 6, 3) := by decide +kernel
theorem dX7_strike_31 : decode cX7_strike 31 = .ok (.bipush (-2), 2) := by decide +kernel
theorem dX7_strike_33 : decode cX7_strike 33 = .ok (.ireturn, 1) := by decide +kernel
theorem dX7_strike_34 : decode cX7_strike 34 = .ok (.aload_n 0, 1) := by decide +kernel
theorem dX7_strike_35 : decode cX7_strike 35 = .ok (.invokevirtual 257, 3) := by decide +kernel
theorem dX7_strike_38 : decode cX7_strike 38 = .ok (.aload_n 0, 1) := by decide +kernel
theorem dX7_strike_39 : decode cX7_strike 39 = .ok (.aload_n 0, 1) := by decide +kernel
theorem dX7_strike_40 : decode cX7_strike 40 = .ok (.getfield 52, 3) := by decide +kernel
theorem dX7_strike_43 : decode cX7_strike 43 = .ok (.iload_n 1, 1) := by decide +kernel
theorem dX7_strike_44 : decode cX7_strike 44 = .ok (.invokevirtual 263, 3) := by decide +kernel
theorem dX7_strike_47 : decode cX7_strike 47 = .ok (.iload_n 2, 1) := by decide +kernel
theorem dX7_strike_48 : decode cX7_strike 48 = .ok (.ireturn, 1) := by decide +kernel
noncomputable def f_X7_strike (l1 : Int32) (mem : Mem) : Option (Int32 × Mem) :=
  ob (f_X7_isPlace l1 mem) fun r2 => if r2 = 0 then (some ((-1), mem)) else (rd (mem 75) 8 l1 fun v15 => ob (f_X7_empties 77 l1 mem) fun r22 => lt' (v15 - r22) fun v26 => if v26 = 0 then (some ((-2), mem)) else (ob (f_X7_remember mem) fun m35 => ob (f_X7_strikes 77 l1 m35) fun m44 => some (v26, m44)))
set_option maxRecDepth 100000 in
set_option maxHeartbeats 4000000 in
theorem m_X7_strike {E : Ex} {ad : Nat → Nat} {sh sp : Nat} {d : Nat} (hd : 2 ≤ d)  {l1 : Int32} {mem : Mem} {r : Int32 × Mem} (h : f_X7_strike l1 mem = some r) : Cl E yX7_strike cX7_strike 3 (some .int) d [.ref (ad 62), .int l1] (some (.int r.1)) ad (LC sh sp ++ LM) mem (LC sh sp ++ LM) r.2 := by
  refine Cl.of [some (.ref (ad 62)), some (.int l1), none] (by decide +kernel) rfl (Nat.le_of_ble_eq_true rfl) (fun κ C hP => ?_)
  have C : Cx E κ cX7_strike RX7 3 (some .int) d := C
  unfold f_X7_strike at h
  refine g_aload_n (pc := 0) (i := 0) (x := ad 62) C dX7_strike_0 rfl rfl ?_
  refine g_iload_n (pc := 1) (i := 1) (x := l1) C dX7_strike_1 rfl rfl ?_
  obtain ⟨r2, hcall2, h⟩ := ob_some h
  refine g_callV (pc := 2) C ce0 mi_X7_isPlace mv_X7_isPlace wm_X7_219 dX7_strike_2 ok_X7 [.int l1] [] la_62 (by omega) rfl rfl (Nat.le_of_ble_eq_true rfl) (m_X7_isPlace (d := d - 1) (by omega)  hcall2) ?_
  show Gw E κ 3 0 0 5 [some (.ref (ad 62)), some (.int l1), none] [.int r2] ad (LC sh sp ++ LM) mem
  rcases ite_some' h with ⟨hc5, h⟩ | ⟨hc5, h⟩
  · refine g_if_ne_f (pc := 5) C 10 dX7_strike_5 (by decide) hc5 ?_
    refine g_iconst (pc := 8) (v := (-1)) C dX7_strike_8 rfl ?_
    cases h
    exact g_iret (pc := 9) C hP rfl rfl dX7_strike_9
  · refine g_if_ne_t (pc := 5) C 10 dX7_strike_5 (by decide) hc5 ?_
    refine g_aload_n (pc := 10) (i := 0) (x := ad 62) C dX7_strike_10 rfl rfl ?_
    refine g_get (pc := 11) (v := .ref (ad 75)) C ok_X7 24 (by decide) wf_X7_46 dX7_strike_11 la_62 rfl ?_
    refine g_iload_n (pc := 14) (i := 1) (x := l1) C dX7_strike_14 rfl rfl ?_
    obtain ⟨v15, hv15, hi15, h⟩ := rd_some h
    refine g_iald (pc := 15) C dX7_strike_15 la_75 hi15 ?_
    refine g_topi hv15 ?_
    refine g_aload_n (pc := 16) (i := 0) (x := ad 62) C dX7_strike_16 rfl rfl ?_
    refine g_aload_n (pc := 17) (i := 0) (x := ad 62) C dX7_strike_17 rfl rfl ?_
    refine g_get (pc := 18) (v := .ref (ad 77)) C ok_X7 26 (by decide) wf_X7_52 dX7_strike_18 la_62 rfl ?_
    refine g_iload_n (pc := 21) (i := 1) (x := l1) C dX7_strike_21 rfl rfl ?_
    obtain ⟨r22, hcall22, h⟩ := ob_some h
    refine g_callV (pc := 22) C ce0 mi_X7_empties mv_X7_empties wm_X7_212 dX7_strike_22 ok_X7 [.ref (ad 77), .int l1] [.int v15] la_62 (by omega) rfl rfl (Nat.le_of_ble_eq_true rfl) (m_X7_empties (d := d - 1) (by omega) o_77 hcall22) ?_
    show Gw E κ 3 0 0 25 [some (.ref (ad 62)), some (.int l1), none] [.int r22, .int v15] ad (LC sh sp ++ LM) mem
    refine g_isub (pc := 25) C dX7_strike_25 ?_
    obtain ⟨v26, hv26, h⟩ := lt_some h
    refine g_topi hv26 ?_
    refine g_istore_n (pc := 26) (i := 2) (lv' := [some (.ref (ad 62)), some (.int l1), some (.int v26)]) C dX7_strike_26 rfl (by decide) rfl rfl ?_
    refine g_iload_n (pc := 27) (i := 2) (x := v26) C dX7_strike_27 rfl rfl ?_
    rcases ite_some' h with ⟨hc28, h⟩ | ⟨hc28, h⟩
    · refine g_if_ne_f (pc := 28) C 34 dX7_strike_28 (by decide) hc28 ?_
      refine g_bipush (pc := 31) (v := (-2)) C dX7_strike_31 rfl ?_
      cases h
      exact g_iret (pc := 33) C hP rfl rfl dX7_strike_33
    · refine g_if_ne_t (pc := 28) C 34 dX7_strike_28 (by decide) hc28 ?_
      refine g_aload_n (pc := 34) (i := 0) (x := ad 62) C dX7_strike_34 rfl rfl ?_
      obtain ⟨m35, hcall35, h⟩ := ob_some h
      refine g_callV (pc := 35) C ce0 mi_X7_remember mv_X7_remember wm_X7_257 dX7_strike_35 ok_X7 [] [] la_62 (by omega) rfl rfl (Nat.le_of_ble_eq_true rfl) (m_X7_remember (d := d - 1) (by omega)  hcall35) ?_
      show Gw E κ 3 0 0 38 [some (.ref (ad 62)), some (.int l1), some (.int v26)] [] ad (LC sh sp ++ LM) m35
      refine g_aload_n (pc := 38) (i := 0) (x := ad 62) C dX7_strike_38 rfl rfl ?_
      refine g_aload_n (pc := 39) (i := 0) (x := ad 62) C dX7_strike_39 rfl rfl ?_
      refine g_get (pc := 40) (v := .ref (ad 77)) C ok_X7 26 (by decide) wf_X7_52 dX7_strike_40 la_62 rfl ?_
      refine g_iload_n (pc := 43) (i := 1) (x := l1) C dX7_strike_43 rfl rfl ?_
      obtain ⟨m44, hcall44, h⟩ := ob_some h
      refine g_callV (pc := 44) C ce0 mi_X7_strikes mv_X7_strikes wm_X7_263 dX7_strike_44 ok_X7 [.ref (ad 77), .int l1] [] la_62 (by omega) rfl rfl (Nat.le_of_ble_eq_true rfl) (m_X7_strikes (d := d - 1) (by omega) o_77 hcall44) ?_
      show Gw E κ 3 0 0 47 [some (.ref (ad 62)), some (.int l1), some (.int v26)] [] ad (LC sh sp ++ LM) m44
      refine g_iload_n (pc := 47) (i := 2) (x := v26) C dX7_strike_47 rfl rfl ?_
      cases h
      exact g_iret (pc := 48) C hP rfl rfl dX7_strike_48

theorem dX7_want_0 : decode cX7_want 0 = .ok (.aload_n 0, 1) := by decide +kernel
theorem dX7_want_1 : decode cX7_want 1 = .ok (.iload_n 1, 1) := by decide +kernel
theorem dX7_want_2 : decode cX7_want 2 = .ok (.invokevirtual 243, 3) := by decide +kernel
theorem dX7_want_5 : decode cX7_want 5 = .ok (.ifCond .eq 21, 3) := by decide +kernel
theorem dX7_want_8 : decode cX7_want 8 = .ok (.iload_n 2, 1) := by decide +kernel
theorem dX7_want_9 : decode cX7_want 9 = .ok (.iconst 0, 1) := by decide +kernel
theorem dX7_want_10 : decode cX7_want 10 = .ok (.bipush 7, 2) := by decide +kernel
theorem dX7_want_12 : decode cX7_want 12 = .ok (.invokestatic 123, 3) := by decide +kernel
theorem dX7_want_15 : decode cX7_want 15 = .ok (.ifCond .eq 11, 3) := by decide +kernel
theorem dX7_want_18 : decode cX7_want 18 = .ok (.aload_n 0, 1) := by decide +kernel
theorem dX7_want_19 : decode cX7_want 19 = .ok (.iload_n 3, 1) := by decide +kernel
theorem dX7_want_20 : decode cX7_want 20 = .ok (.invokevirtual 225, 3) := by decide +kernel
theorem dX7_want_23 : decode cX7_want 23 = .ok (.ifCond .ne 5, 3) := by decide +kernel
theorem dX7_want_26 : decode cX7_want 26 = .ok (.iconst (-1), 1) := by decide +kernel
theorem dX7_want_27 : decode cX7_want 27 = .ok (.ireturn, 1) := by decide +kernel
theorem dX7_want_28 : decode cX7_want 28 = .ok (.aload_n 0, 1) := by decide +kernel
theorem dX7_want_29 : decode cX7_want 29 = .ok (.invokevirtual 257, 3) := by decide +kernel
theorem dX7_want_32 : decode cX7_want 32 = .ok (.aload_n 0, 1) := by decide +kernel
theorem dX7_want_33 : decode cX7_want 33 = .ok (.getfield 52, 3) := by decide +kernel
theorem dX7_want_36 : decode cX7_want 36 = .ok (.bipush 16, 2) := by decide +kernel
theorem dX7_want_38 : decode cX7_want 38 = .ok (.iconst 2, 1) := by decide +kernel
theorem dX7_want_39 : decode cX7_want 39 = .ok (.iload_n 1, 1) := by decide +kernel
theorem dX7_want_40 : decode cX7_want 40 = .ok (.imul, 1) := by decide +kernel
theorem dX7_want_41 : decode cX7_want 41 = .ok (.iadd, 1) := by decide +kernel
theorem dX7_want_42 : decode cX7_want 42 = .ok (.iconst 1, 1) := by decide +kernel
theorem dX7_want_43 : decode cX7_want 43 = .ok (.iadd, 1) := by decide +kernel
theorem dX7_want_44 : decode cX7_want 44 = .ok (.iaload, 1) := by decide +kernel
theorem dX7_want_45 : decode cX7_want 45 = .ok (.istore 4, 2) := by decide +kernel
theorem dX7_want_47 : decode cX7_want 47 = .ok (.aload_n 0, 1) := by decide +kernel
theorem dX7_want_48 : decode cX7_want 48 = .ok (.getfield 52, 3) := by decide +kernel
theorem dX7_want_51 : decode cX7_want 51 = .ok (.bipush 16, 2) := by decide +kernel
theorem dX7_want_53 : decode cX7_want 53 = .ok (.iconst 2, 1) := by decide +kernel
theorem dX7_want_54 : decode cX7_want 54 = .ok (.iload_n 1, 1) := by decide +kernel
theorem dX7_want_55 : decode cX7_want 55 = .ok (.imul, 1) := by decide +kernel
theorem dX7_want_56 : decode cX7_want 56 = .ok (.iadd, 1) := by decide +kernel
theorem dX7_want_57 : decode cX7_want 57 = .ok (.iload_n 2, 1) := by decide +kernel
theorem dX7_want_58 : decode cX7_want 58 = .ok (.iastore, 1) := by decide +kernel
theorem dX7_want_59 : decode cX7_want 59 = .ok (.aload_n 0, 1) := by decide +kernel
theorem dX7_want_60 : decode cX7_want 60 = .ok (.getfield 52, 3) := by decide +kernel
theorem dX7_want_63 : decode cX7_want 63 = .ok (.bipush 16, 2) := by decide +kernel
theorem dX7_want_65 : decode cX7_want 65 = .ok (.iconst 2, 1) := by decide +kernel
theorem dX7_want_66 : decode cX7_want 66 = .ok (.iload_n 1, 1) := by decide +kernel
theorem dX7_want_67 : decode cX7_want 67 = .ok (.imul, 1) := by decide +kernel
theorem dX7_want_68 : decode cX7_want 68 = .ok (.iadd, 1) := by decide +kernel
theorem dX7_want_69 : decode cX7_want 69 = .ok (.iconst 1, 1) := by decide +kernel
theorem dX7_want_70 : decode cX7_want 70 = .ok (.iadd, 1) := by decide +kernel
theorem dX7_want_71 : decode cX7_want 71 = .ok (.iload_n 3, 1) := by decide +kernel
theorem dX7_want_72 : decode cX7_want 72 = .ok (.iastore, 1) := by decide +kernel
theorem dX7_want_73 : decode cX7_want 73 = .ok (.iload 4, 2) := by decide +kernel
theorem dX7_want_75 : decode cX7_want 75 = .ok (.ireturn, 1) := by decide +kernel
noncomputable def f_X7_want (l1 : Int32) (l2 : Int32) (l3 : Int32) (mem : Mem) : Option (Int32 × Mem) :=
  ob (f_X7_isSolver l1 mem) fun r2 => if r2 = 0 then (some ((-1), mem)) else (ob (f_X7_in l2 0 7) fun r12 => if r12 = 0 then (some ((-1), mem)) else (ob (f_X7_isWord l3 mem) fun r20 => if r20 = 0 then (some ((-1), mem)) else (ob (f_X7_remember mem) fun m29 => rd (m29 77) 28 ((16 + (2 * l1)) + 1) fun v44 => wr m29 77 28 (16 + (2 * l1)) l2 fun m58 => wr m58 77 28 ((16 + (2 * l1)) + 1) l3 fun m72 => some (v44, m72))))
set_option maxRecDepth 100000 in
set_option maxHeartbeats 4000000 in
theorem m_X7_want {E : Ex} {ad : Nat → Nat} {sh sp : Nat} {d : Nat} (hd : 2 ≤ d)  {l1 : Int32} {l2 : Int32} {l3 : Int32} {mem : Mem} {r : Int32 × Mem} (h : f_X7_want l1 l2 l3 mem = some r) : Cl E yX7_want cX7_want 5 (some .int) d [.ref (ad 62), .int l1, .int l2, .int l3] (some (.int r.1)) ad (LC sh sp ++ LM) mem (LC sh sp ++ LM) r.2 := by
  refine Cl.of [some (.ref (ad 62)), some (.int l1), some (.int l2), some (.int l3), none] (by decide +kernel) rfl (Nat.le_of_ble_eq_true rfl) (fun κ C hP => ?_)
  have C : Cx E κ cX7_want RX7 5 (some .int) d := C
  unfold f_X7_want at h
  refine g_aload_n (pc := 0) (i := 0) (x := ad 62) C dX7_want_0 rfl rfl ?_
  refine g_iload_n (pc := 1) (i := 1) (x := l1) C dX7_want_1 rfl rfl ?_
  obtain ⟨r2, hcall2, h⟩ := ob_some h
  refine g_callV (pc := 2) C ce0 mi_X7_isSolver mv_X7_isSolver wm_X7_243 dX7_want_2 ok_X7 [.int l1] [] la_62 (by omega) rfl rfl (Nat.le_of_ble_eq_true rfl) (m_X7_isSolver (d := d - 1) (by omega)  hcall2) ?_
  show Gw E κ 5 0 0 5 [some (.ref (ad 62)), some (.int l1), some (.int l2), some (.int l3), none] [.int r2] ad (LC sh sp ++ LM) mem
  rcases ite_some' h with ⟨hc5, h⟩ | ⟨hc5, h⟩
  · refine g_if_eq_t (pc := 5) C 26 dX7_want_5 (by decide) hc5 ?_
    refine g_iconst (pc := 26) (v := (-1)) C dX7_want_26 rfl ?_
    cases h
    exact g_iret (pc := 27) C hP rfl rfl dX7_want_27
  · refine g_if_eq_f (pc := 5) C 26 dX7_want_5 (by decide) hc5 ?_
    refine g_iload_n (pc := 8) (i := 2) (x := l2) C dX7_want_8 rfl rfl ?_
    refine g_iconst (pc := 9) (v := 0) C dX7_want_9 rfl ?_
    refine g_bipush (pc := 10) (v := 7) C dX7_want_10 rfl ?_
    obtain ⟨r12, hcall12, h⟩ := ob_some h
    refine g_callS (pc := 12) C ce0 mi_X7_in ms_X7_in wm_X7_123 dX7_want_12 [.int l2, .int 0, .int 7] [] (by omega) rfl rfl (Nat.le_of_ble_eq_true rfl) (m_X7_in (d := d - 1) (by omega)  hcall12) ?_
    show Gw E κ 5 0 0 15 [some (.ref (ad 62)), some (.int l1), some (.int l2), some (.int l3), none] [.int r12] ad (LC sh sp ++ LM) mem
    rcases ite_some' h with ⟨hc15, h⟩ | ⟨hc15, h⟩
    · refine g_if_eq_t (pc := 15) C 26 dX7_want_15 (by decide) hc15 ?_
      refine g_iconst (pc := 26) (v := (-1)) C dX7_want_26 rfl ?_
      cases h
      exact g_iret (pc := 27) C hP rfl rfl dX7_want_27
    · refine g_if_eq_f (pc := 15) C 26 dX7_want_15 (by decide) hc15 ?_
      refine g_aload_n (pc := 18) (i := 0) (x := ad 62) C dX7_want_18 rfl rfl ?_
      refine g_iload_n (pc := 19) (i := 3) (x := l3) C dX7_want_19 rfl rfl ?_
      obtain ⟨r20, hcall20, h⟩ := ob_some h
      refine g_callV (pc := 20) C ce0 mi_X7_isWord mv_X7_isWord wm_X7_225 dX7_want_20 ok_X7 [.int l3] [] la_62 (by omega) rfl rfl (Nat.le_of_ble_eq_true rfl) (m_X7_isWord (d := d - 1) (by omega)  hcall20) ?_
      show Gw E κ 5 0 0 23 [some (.ref (ad 62)), some (.int l1), some (.int l2), some (.int l3), none] [.int r20] ad (LC sh sp ++ LM) mem
      rcases ite_some' h with ⟨hc23, h⟩ | ⟨hc23, h⟩
      · refine g_if_ne_f (pc := 23) C 28 dX7_want_23 (by decide) hc23 ?_
        refine g_iconst (pc := 26) (v := (-1)) C dX7_want_26 rfl ?_
        cases h
        exact g_iret (pc := 27) C hP rfl rfl dX7_want_27
      · refine g_if_ne_t (pc := 23) C 28 dX7_want_23 (by decide) hc23 ?_
        refine g_aload_n (pc := 28) (i := 0) (x := ad 62) C dX7_want_28 rfl rfl ?_
        obtain ⟨m29, hcall29, h⟩ := ob_some h
        refine g_callV (pc := 29) C ce0 mi_X7_remember mv_X7_remember wm_X7_257 dX7_want_29 ok_X7 [] [] la_62 (by omega) rfl rfl (Nat.le_of_ble_eq_true rfl) (m_X7_remember (d := d - 1) (by omega)  hcall29) ?_
        show Gw E κ 5 0 0 32 [some (.ref (ad 62)), some (.int l1), some (.int l2), some (.int l3), none] [] ad (LC sh sp ++ LM) m29
        refine g_aload_n (pc := 32) (i := 0) (x := ad 62) C dX7_want_32 rfl rfl ?_
        refine g_get (pc := 33) (v := .ref (ad 77)) C ok_X7 26 (by decide) wf_X7_52 dX7_want_33 la_62 rfl ?_
        refine g_bipush (pc := 36) (v := 16) C dX7_want_36 rfl ?_
        refine g_iconst (pc := 38) (v := 2) C dX7_want_38 rfl ?_
        refine g_iload_n (pc := 39) (i := 1) (x := l1) C dX7_want_39 rfl rfl ?_
        refine g_imul (pc := 40) C dX7_want_40 ?_
        refine g_iadd (pc := 41) C dX7_want_41 ?_
        refine g_iconst (pc := 42) (v := 1) C dX7_want_42 rfl ?_
        refine g_iadd (pc := 43) C dX7_want_43 ?_
        obtain ⟨v44, hv44, hi44, h⟩ := rd_some h
        refine g_iald (pc := 44) C dX7_want_44 la_77 hi44 ?_
        refine g_topi hv44 ?_
        refine g_istore (pc := 45) (i := 4) (lv' := [some (.ref (ad 62)), some (.int l1), some (.int l2), some (.int l3), some (.int v44)]) C dX7_want_45 (by decide) rfl rfl ?_
        refine g_aload_n (pc := 47) (i := 0) (x := ad 62) C dX7_want_47 rfl rfl ?_
        refine g_get (pc := 48) (v := .ref (ad 77)) C ok_X7 26 (by decide) wf_X7_52 dX7_want_48 la_62 rfl ?_
        refine g_bipush (pc := 51) (v := 16) C dX7_want_51 rfl ?_
        refine g_iconst (pc := 53) (v := 2) C dX7_want_53 rfl ?_
        refine g_iload_n (pc := 54) (i := 1) (x := l1) C dX7_want_54 rfl rfl ?_
        refine g_imul (pc := 55) C dX7_want_55 ?_
        refine g_iadd (pc := 56) C dX7_want_56 ?_
        refine g_iload_n (pc := 57) (i := 2) (x := l2) C dX7_want_57 rfl rfl ?_
        obtain ⟨m58, hm58, hi58, h⟩ := wr_some h
        refine g_iast (pc := 58) C dX7_want_58 la_77 hi58 ?_
        refine g_mem hm58 ?_
        refine g_aload_n (pc := 59) (i := 0) (x := ad 62) C dX7_want_59 rfl rfl ?_
        refine g_get (pc := 60) (v := .ref (ad 77)) C ok_X7 26 (by decide) wf_X7_52 dX7_want_60 la_62 rfl ?_
        refine g_bipush (pc := 63) (v := 16) C dX7_want_63 rfl ?_
        refine g_iconst (pc := 65) (v := 2) C dX7_want_65 rfl ?_
        refine g_iload_n (pc := 66) (i := 1) (x := l1) C dX7_want_66 rfl rfl ?_
        refine g_imul (pc := 67) C dX7_want_67 ?_
        refine g_iadd (pc := 68) C dX7_want_68 ?_
        refine g_iconst (pc := 69) (v := 1) C dX7_want_69 rfl ?_
        refine g_iadd (pc := 70) C dX7_want_70 ?_
        refine g_iload_n (pc := 71) (i := 3) (x := l3) C dX7_want_71 rfl rfl ?_
        obtain ⟨m72, hm72, hi72, h⟩ := wr_some h
        refine g_iast (pc := 72) C dX7_want_72 la_77 hi72 ?_
        refine g_mem hm72 ?_
        refine g_iload (pc := 73) (i := 4) (x := v44) C dX7_want_73 rfl ?_
        cases h
        exact g_iret (pc := 75) C hP rfl rfl dX7_want_75
