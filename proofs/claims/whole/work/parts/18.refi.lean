theorem dX7_win_0 : decode cX7_win 0 = .ok (.aload_n 0, 1) := by decide +kernel
theorem dX7_win_1 : decode cX7_win 1 = .ok (.iload_n 1, 1) := by decide +kernel
theorem dX7_win_2 : decode cX7_win 2 = .ok (.invokevirtual 219, 3) := by decide +kernel
theorem dX7_win_5 : decode cX7_win 5 = .ok (.ifCond .eq 11, 3) := by decide +kernel
theorem dX7_win_8 : decode cX7_win 8 = .ok (.aload_n 0, 1) := by decide +kernel
theorem dX7_win_9 : decode cX7_win 9 = .ok (.iload_n 2, 1) := by decide +kernel
theorem dX7_win_10 : decode cX7_win 10 = .ok (.invokevirtual 225, 3) := by decide +kernel
theorem dX7_win_13 : decode cX7_win 13 = .ok (.ifCond .ne 5, 3) := by decide +kernel
theorem dX7_win_16 : decode cX7_win 16 = .ok (.iconst (-1), 1) := by decide +kernel
theorem dX7_win_17 : decode cX7_win 17 = .ok (.ireturn, 1) := by decide +kernel
theorem dX7_win_18 : decode cX7_win 18 = .ok (.bipush (-4), 2) := by decide +kernel
theorem dX7_win_20 : decode cX7_win 20 = .ok (.istore_n 3, 1) := by decide +kernel
theorem dX7_win_21 : decode cX7_win 21 = .ok (.iconst 0, 1) := by decide +kernel
theorem dX7_win_22 : decode cX7_win 22 = .ok (.istore 4, 2) := by decide +kernel
theorem dX7_win_24 : decode cX7_win 24 = .ok (.iload 4, 2) := by decide +kernel
theorem dX7_win_26 : decode cX7_win 26 = .ok (.iconst 1, 1) := by decide +kernel
theorem dX7_win_27 : decode cX7_win 27 = .ok (.aload_n 0, 1) := by decide +kernel
theorem dX7_win_28 : decode cX7_win 28 = .ok (.getfield 183, 3) := by decide +kernel
theorem dX7_win_31 : decode cX7_win 31 = .ok (.ishl, 1) := by decide +kernel
theorem dX7_win_32 : decode cX7_win 32 = .ok (.if_icmp .ge 160, 3) := by decide +kernel
theorem dX7_win_35 : decode cX7_win 35 = .ok (.iload_n 3, 1) := by decide +kernel
theorem dX7_win_36 : decode cX7_win 36 = .ok (.bipush (-4), 2) := by decide +kernel
theorem dX7_win_38 : decode cX7_win 38 = .ok (.if_icmp .eq 15, 3) := by decide +kernel
theorem dX7_win_41 : decode cX7_win 41 = .ok (.iload 4, 2) := by decide +kernel
theorem dX7_win_43 : decode cX7_win 43 = .ok (.invokestatic 287, 3) := by decide +kernel
theorem dX7_win_46 : decode cX7_win 46 = .ok (.iload_n 3, 1) := by decide +kernel
theorem dX7_win_47 : decode cX7_win 47 = .ok (.invokestatic 287, 3) := by decide +kernel
theorem dX7_win_50 : decode cX7_win 50 = .ok (.if_icmp .ge 136, 3) := by decide +kernel
theorem dX7_win_53 : decode cX7_win 53 = .ok (.aload_n 0, 1) := by decide +kernel
theorem dX7_win_54 : decode cX7_win 54 = .ok (.invokevirtual 266, 3) := by decide +kernel
theorem dX7_win_57 : decode cX7_win 57 = .ok (.iconst 0, 1) := by decide +kernel
theorem dX7_win_58 : decode cX7_win 58 = .ok (.istore 5, 2) := by decide +kernel
theorem dX7_win_60 : decode cX7_win 60 = .ok (.iload 5, 2) := by decide +kernel
theorem dX7_win_62 : decode cX7_win 62 = .ok (.aload_n 0, 1) := by decide +kernel
theorem dX7_win_63 : decode cX7_win 63 = .ok (.getfield 183, 3) := by decide +kernel
theorem dX7_win_66 : decode cX7_win 66 = .ok (.if_icmp .ge 89, 3) := by decide +kernel
theorem dX7_win_69 : decode cX7_win 69 = .ok (.aload_n 0, 1) := by decide +kernel
theorem dX7_win_70 : decode cX7_win 70 = .ok (.getfield 55, 3) := by decide +kernel
theorem dX7_win_73 : decode cX7_win 73 = .ok (.bipush 16, 2) := by decide +kernel
theorem dX7_win_75 : decode cX7_win 75 = .ok (.iconst 2, 1) := by decide +kernel
theorem dX7_win_76 : decode cX7_win 76 = .ok (.iload 5, 2) := by decide +kernel
theorem dX7_win_78 : decode cX7_win 78 = .ok (.imul, 1) := by decide +kernel
theorem dX7_win_79 : decode cX7_win 79 = .ok (.iadd, 1) := by decide +kernel
theorem dX7_win_80 : decode cX7_win 80 = .ok (.iload 4, 2) := by decide +kernel
theorem dX7_win_82 : decode cX7_win 82 = .ok (.iload 5, 2) := by decide +kernel
theorem dX7_win_84 : decode cX7_win 84 = .ok (.invokestatic 232, 3) := by decide +kernel
theorem dX7_win_87 : decode cX7_win 87 = .ok (.ifCond .eq 7, 3) := by decide +kernel
theorem dX7_win_90 : decode cX7_win 90 = .ok (.iload_n 1, 1) := by decide +kernel
theorem dX7_win_91 : decode cX7_win 91 = .ok (.goto 15, 3) := by decide +kernel
theorem dX7_win_94 : decode cX7_win 94 = .ok (.aload_n 0, 1) := by decide +kernel
theorem dX7_win_95 : decode cX7_win 95 = .ok (.getfield 55, 3) := by decide +kernel
theorem dX7_win_98 : decode cX7_win 98 = .ok (.bipush 16, 2) := by decide +kernel
theorem dX7_win_100 : decode cX7_win 100 = .ok (.iconst 2, 1) := by decide +kernel
theorem dX7_win_101 : decode cX7_win 101 = .ok (.iload 5, 2) := by decide +kernel
theorem dX7_win_103 : decode cX7_win 103 = .ok (.imul, 1) := by decide +kernel
theorem dX7_win_104 : decode cX7_win 104 = .ok (.iadd, 1) := by decide +kernel
theorem dX7_win_105 : decode cX7_win 105 = .ok (.iaload, 1) := by decide +kernel
theorem dX7_win_106 : decode cX7_win 106 = .ok (.iastore, 1) := by decide +kernel
theorem dX7_win_107 : decode cX7_win 107 = .ok (.aload_n 0, 1) := by decide +kernel
theorem dX7_win_108 : decode cX7_win 108 = .ok (.getfield 55, 3) := by decide +kernel
theorem dX7_win_111 : decode cX7_win 111 = .ok (.bipush 16, 2) := by decide +kernel
theorem dX7_win_113 : decode cX7_win 113 = .ok (.iconst 2, 1) := by decide +kernel
theorem dX7_win_114 : decode cX7_win 114 = .ok (.iload 5, 2) := by decide +kernel
theorem dX7_win_116 : decode cX7_win 116 = .ok (.imul, 1) := by decide +kernel
theorem dX7_win_117 : decode cX7_win 117 = .ok (.iadd, 1) := by decide +kernel
theorem dX7_win_118 : decode cX7_win 118 = .ok (.iconst 1, 1) := by decide +kernel
theorem dX7_win_119 : decode cX7_win 119 = .ok (.iadd, 1) := by decide +kernel
theorem dX7_win_120 : decode cX7_win 120 = .ok (.iload 4, 2) := by decide +kernel
theorem dX7_win_122 : decode cX7_win 122 = .ok (.iload 5, 2) := by decide +kernel
theorem dX7_win_124 : decode cX7_win 124 = .ok (.invokestatic 232, 3) := by decide +kernel
theorem dX7_win_127 : decode cX7_win 127 = .ok (.ifCond .eq 7, 3) := by decide +kernel
theorem dX7_win_130 : decode cX7_win 130 = .ok (.iload_n 2, 1) := by decide +kernel
theorem dX7_win_131 : decode cX7_win 131 = .ok (.goto 17, 3) := by decide +kernel
theorem dX7_win_134 : decode cX7_win 134 = .ok (.aload_n 0, 1) := by decide +kernel
theorem dX7_win_135 : decode cX7_win 135 = .ok (.getfield 55, 3) := by decide +kernel
theorem dX7_win_138 : decode cX7_win 138 = .ok (.bipush 16, 2) := by decide +kernel
theorem dX7_win_140 : decode cX7_win 140 = .ok (.iconst 2, 1) := by decide +kernel
theorem dX7_win_141 : decode cX7_win 141 = .ok (.iload 5, 2) := by decide +kernel
theorem dX7_win_143 : decode cX7_win 143 = .ok (.imul, 1) := by decide +kernel
theorem dX7_win_144 : decode cX7_win 144 = .ok (.iadd, 1) := by decide +kernel
theorem dX7_win_145 : decode cX7_win 145 = .ok (.iconst 1, 1) := by decide +kernel
theorem dX7_win_146 : decode cX7_win 146 = .ok (.iadd, 1) := by decide +kernel
theorem dX7_win_147 : decode cX7_win 147 = .ok (.iaload, 1) := by decide +kernel
theorem dX7_win_148 : decode cX7_win 148 = .ok (.iastore, 1) := by decide +kernel
theorem dX7_win_149 : decode cX7_win 149 = .ok (.iinc 5 1, 3) := by decide +kernel
theorem dX7_win_152 : decode cX7_win 152 = .ok (.goto (-92), 3) := by decide +kernel
theorem dX7_win_155 : decode cX7_win 155 = .ok (.aload_n 0, 1) := by decide +kernel
theorem dX7_win_156 : decode cX7_win 156 = .ok (.aload_n 0, 1) := by decide +kernel
theorem dX7_win_157 : decode cX7_win 157 = .ok (.getfield 55, 3) := by decide +kernel
theorem dX7_win_160 : decode cX7_win 160 = .ok (.iconst (-1), 1) := by decide +kernel
theorem dX7_win_161 : decode cX7_win 161 = .ok (.invokevirtual 260, 3) := by decide +kernel
theorem dX7_win_164 : decode cX7_win 164 = .ok (.pop, 1) := by decide +kernel
theorem dX7_win_165 : decode cX7_win 165 = .ok (.aload_n 0, 1) := by decide +kernel
theorem dX7_win_166 : decode cX7_win 166 = .ok (.getfield 64, 3) := by decide +kernel
theorem dX7_win_169 : decode cX7_win 169 = .ok (.bipush 9, 2) := by decide +kernel
theorem dX7_win_171 : decode cX7_win 171 = .ok (.iload_n 1, 1) := by decide +kernel
theorem dX7_win_172 : decode cX7_win 172 = .ok (.imul, 1) := by decide +kernel
theorem dX7_win_173 : decode cX7_win 173 = .ok (.iload_n 2, 1) := by decide +kernel
theorem dX7_win_174 : decode cX7_win 174 = .ok (.iadd, 1) := by decide +kernel
theorem dX7_win_175 : decode cX7_win 175 = .ok (.baload, 1) := by decide +kernel
theorem dX7_win_176 : decode cX7_win 176 = .ok (.ifCond .eq 8, 3) := by decide +kernel
theorem dX7_win_179 : decode cX7_win 179 = .ok (.iload 4, 2) := by decide +kernel
theorem dX7_win_181 : decode cX7_win 181 = .ok (.goto 4, 3) := by decide +kernel
theorem dX7_win_184 : decode cX7_win 184 = .ok (.iload_n 3, 1) := by decide +kernel
theorem dX7_win_185 : decode cX7_win 185 = .ok (.istore_n 3, 1) := by decide +kernel
theorem dX7_win_186 : decode cX7_win 186 = .ok (.iinc 4 1, 3) := by decide +kernel
theorem dX7_win_189 : decode cX7_win 189 = .ok (.goto (-165), 3) := by decide +kernel
theorem dX7_win_192 : decode cX7_win 192 = .ok (.iload_n 3, 1) := by decide +kernel
theorem dX7_win_193 : decode cX7_win 193 = .ok (.ireturn, 1) := by decide +kernel
noncomputable def f_X7_win_j106 (l1 : Int32) (l2 : Int32) (l3 : Int32) (l4 : Int32) (l5 : Int32) (w1 : Int32) (w2 : Int32) (mem : Mem) : Option ((Int32 × Mem) ⊕ (Int32 × Mem)) :=
  wr mem 78 28 w1 w2 fun m106 => ob (f_X7_has l4 l5) fun r124 => if r124 = 0 then (rd (m106 78) 28 ((16 + (2 * l5)) + 1) fun v147 => wr m106 78 28 ((16 + (2 * l5)) + 1) v147 fun m148 => lt' (l5 + 1) fun v149 => some (.inl (v149, m148))) else (wr m106 78 28 ((16 + (2 * l5)) + 1) l2 fun m148 => lt' (l5 + 1) fun v149 => some (.inl (v149, m148)))
noncomputable def f_X7_win_b60 (l1 : Int32) (l2 : Int32) (l3 : Int32) (l4 : Int32) (q : Int32 × Mem) : Option ((Int32 × Mem) ⊕ (Int32 × Mem)) :=
  if (q.2 62 18) ≤ q.1 then (some (.inr (q.1, q.2))) else (ob (f_X7_has l4 q.1) fun r84 => if r84 = 0 then (rd (q.2 78) 28 (16 + (2 * q.1)) fun v105 => f_X7_win_j106 l1 l2 l3 l4 q.1 (16 + (2 * q.1)) v105 q.2) else (f_X7_win_j106 l1 l2 l3 l4 q.1 (16 + (2 * q.1)) l1 q.2))
noncomputable def f_X7_win_j53 (l1 : Int32) (l2 : Int32) (l3 : Int32) (l4 : Int32) (mem : Mem) : Option ((Int32 × Int32 × Mem) ⊕ (Int32 × Int32 × Mem)) :=
  ob (f_X7_copyNow mem) fun m54 => ob (lp (f_X7_win_b60 l1 l2 l3 l4) FU (0, m54)) fun q60 => ob2 (f_X7_passes 78 (-1) q60.2) fun r161 m161 => rd (m161 81) 72 ((9 * l1) + l2) fun v175 => if v175 = 0 then (lt' (l4 + 1) fun v186 => some (.inl (l3, v186, m161))) else (lt' (l4 + 1) fun v186 => some (.inl (l4, v186, m161)))
noncomputable def f_X7_win_b24 (l1 : Int32) (l2 : Int32) (q : Int32 × Int32 × Mem) : Option ((Int32 × Int32 × Mem) ⊕ (Int32 × Int32 × Mem)) :=
  if (1 <<< ((q.2.2 62 18) &&& 31)) ≤ q.2.1 then (some (.inr (q.1, q.2.1, q.2.2))) else (if q.1 = (-4) then (f_X7_win_j53 l1 l2 q.1 q.2.1 q.2.2) else (ob (f_X7_bits q.2.1) fun r43 => ob (f_X7_bits q.1) fun r47 => if r47 ≤ r43 then (lt' (q.2.1 + 1) fun v186 => some (.inl (q.1, v186, q.2.2))) else (f_X7_win_j53 l1 l2 q.1 q.2.1 q.2.2)))
noncomputable def f_X7_win (l1 : Int32) (l2 : Int32) (mem : Mem) : Option (Int32 × Mem) :=
  ob (f_X7_isPlace l1 mem) fun r2 => if r2 = 0 then (some ((-1), mem)) else (ob (f_X7_isWord l2 mem) fun r10 => if r10 = 0 then (some ((-1), mem)) else (ob (lp (f_X7_win_b24 l1 l2) FU ((-4), 0, mem)) fun q24 => some (q24.1, q24.2.2)))
def P_X7_win_60 (E : Ex) (κ : Kx) (ad : Nat → Nat) (lay : List Ent) (l1 : Int32) (l2 : Int32) (l3 : Int32) (l4 : Int32) : (Int32 × Mem) ⊕ (Int32 × Mem) → Prop
  | .inl q => Gw E κ 6 0 0 60 [some (.ref (ad 62)), some (.int l1), some (.int l2), some (.int l3), some (.int l4), some (.int q.1)] [] ad lay q.2
  | .inr q => Gw E κ 6 0 0 155 [some (.ref (ad 62)), some (.int l1), some (.int l2), some (.int l3), some (.int l4), none] [] ad lay q.2
def P_X7_win_24 (E : Ex) (κ : Kx) (ad : Nat → Nat) (lay : List Ent) (l1 : Int32) (l2 : Int32) : (Int32 × Int32 × Mem) ⊕ (Int32 × Int32 × Mem) → Prop
  | .inl q => Gw E κ 6 0 0 24 [some (.ref (ad 62)), some (.int l1), some (.int l2), some (.int q.1), some (.int q.2.1), none] [] ad lay q.2.2
  | .inr q => Gw E κ 6 0 0 192 [none, none, none, some (.int q.1), none, none] [] ad lay q.2.2
set_option maxRecDepth 100000 in
set_option maxHeartbeats 4000000 in
theorem j_X7_win_106 {E : Ex} {κ : Kx} {ad : Nat → Nat} {sh sp : Nat} {d : Nat} (C : Cx E κ cX7_win RX7 6 (some .int) d) (hd : 6 ≤ d)  {l1 : Int32} {l2 : Int32} {l3 : Int32} {l4 : Int32} {l5 : Int32} {w1 : Int32} {w2 : Int32} {mem : Mem} {x : (Int32 × Mem) ⊕ (Int32 × Mem)} (h : f_X7_win_j106 l1 l2 l3 l4 l5 w1 w2 mem = some x) (hP : (P_X7_win_60 E κ ad (LC sh sp ++ LM) l1 l2 l3 l4) x) : Gw E κ 6 0 0 106 [some (.ref (ad 62)), some (.int l1), some (.int l2), some (.int l3), some (.int l4), some (.int l5)] [.int w2, .int w1, .ref (ad 78)] ad (LC sh sp ++ LM) mem := by
  unfold f_X7_win_j106 at h
  obtain ⟨m106, hm106, hi106, h⟩ := wr_some h
  refine g_iast (pc := 106) C dX7_win_106 la_78 hi106 ?_
  refine g_mem hm106 ?_
  refine g_aload_n (pc := 107) (i := 0) (x := ad 62) C dX7_win_107 rfl rfl ?_
  refine g_get (pc := 108) (v := .ref (ad 78)) C ok_X7 27 (by decide) wf_X7_55 dX7_win_108 la_62 rfl ?_
  refine g_bipush (pc := 111) (v := 16) C dX7_win_111 rfl ?_
  refine g_iconst (pc := 113) (v := 2) C dX7_win_113 rfl ?_
  refine g_iload (pc := 114) (i := 5) (x := l5) C dX7_win_114 rfl ?_
  refine g_imul (pc := 116) C dX7_win_116 ?_
  refine g_iadd (pc := 117) C dX7_win_117 ?_
  refine g_iconst (pc := 118) (v := 1) C dX7_win_118 rfl ?_
  refine g_iadd (pc := 119) C dX7_win_119 ?_
  refine g_iload (pc := 120) (i := 4) (x := l4) C dX7_win_120 rfl ?_
  refine g_iload (pc := 122) (i := 5) (x := l5) C dX7_win_122 rfl ?_
  obtain ⟨r124, hcall124, h⟩ := ob_some h
  refine g_callS (pc := 124) C ce0 mi_X7_has ms_X7_has wm_X7_232 dX7_win_124 [.int l4, .int l5] [.int ((16 + (2 * l5)) + 1), .ref (ad 78)] (by omega) rfl rfl (Nat.le_of_ble_eq_true rfl) (m_X7_has (d := d - 1) (by omega)  hcall124) ?_
  show Gw E κ 6 0 0 127 [some (.ref (ad 62)), some (.int l1), some (.int l2), some (.int l3), some (.int l4), some (.int l5)] [.int r124, .int ((16 + (2 * l5)) + 1), .ref (ad 78)] ad (LC sh sp ++ LM) m106
  rcases ite_some' h with ⟨hc127, h⟩ | ⟨hc127, h⟩
  · refine g_if_eq_t (pc := 127) C 134 dX7_win_127 (by decide) hc127 ?_
    refine g_aload_n (pc := 134) (i := 0) (x := ad 62) C dX7_win_134 rfl rfl ?_
    refine g_get (pc := 135) (v := .ref (ad 78)) C ok_X7 27 (by decide) wf_X7_55 dX7_win_135 la_62 rfl ?_
    refine g_bipush (pc := 138) (v := 16) C dX7_win_138 rfl ?_
    refine g_iconst (pc := 140) (v := 2) C dX7_win_140 rfl ?_
    refine g_iload (pc := 141) (i := 5) (x := l5) C dX7_win_141 rfl ?_
    refine g_imul (pc := 143) C dX7_win_143 ?_
    refine g_iadd (pc := 144) C dX7_win_144 ?_
    refine g_iconst (pc := 145) (v := 1) C dX7_win_145 rfl ?_
    refine g_iadd (pc := 146) C dX7_win_146 ?_
    obtain ⟨v147, hv147, hi147, h⟩ := rd_some h
    refine g_iald (pc := 147) C dX7_win_147 la_78 hi147 ?_
    refine g_topi hv147 ?_
    obtain ⟨m148, hm148, hi148, h⟩ := wr_some h
    refine g_iast (pc := 148) C dX7_win_148 la_78 hi148 ?_
    refine g_mem hm148 ?_
    obtain ⟨v149, hv149, h⟩ := lt_some h
    refine g_iinc (pc := 149) (i := 5) (x := l5) (v := v149) (lv' := [some (.ref (ad 62)), some (.int l1), some (.int l2), some (.int l3), some (.int l4), some (.int v149)]) C dX7_win_149 rfl hv149.symm (by decide) rfl rfl ?_
    refine g_goto (pc := 152) C 60 dX7_win_152 (by decide) ?_
    cases h
    exact hP
  · refine g_if_eq_f (pc := 127) C 134 dX7_win_127 (by decide) hc127 ?_
    refine g_iload_n (pc := 130) (i := 2) (x := l2) C dX7_win_130 rfl rfl ?_
    refine g_goto (pc := 131) C 148 dX7_win_131 (by decide) ?_
    obtain ⟨m148, hm148, hi148, h⟩ := wr_some h
    refine g_iast (pc := 148) C dX7_win_148 la_78 hi148 ?_
    refine g_mem hm148 ?_
    obtain ⟨v149, hv149, h⟩ := lt_some h
    refine g_iinc (pc := 149) (i := 5) (x := l5) (v := v149) (lv' := [some (.ref (ad 62)), some (.int l1), some (.int l2), some (.int l3), some (.int l4), some (.int v149)]) C dX7_win_149 rfl hv149.symm (by decide) rfl rfl ?_
    refine g_goto (pc := 152) C 60 dX7_win_152 (by decide) ?_
    cases h
    exact hP
set_option maxRecDepth 100000 in
set_option maxHeartbeats 4000000 in
theorem b_X7_win_60 {E : Ex} {κ : Kx} {ad : Nat → Nat} {sh sp : Nat} {d : Nat} (C : Cx E κ cX7_win RX7 6 (some .int) d) (hd : 6 ≤ d)  {l1 : Int32} {l2 : Int32} {l3 : Int32} {l4 : Int32} {q : Int32 × Mem} {x : (Int32 × Mem) ⊕ (Int32 × Mem)} (h : f_X7_win_b60 l1 l2 l3 l4 q = some x) (hP : (P_X7_win_60 E κ ad (LC sh sp ++ LM) l1 l2 l3 l4) x) : Gw E κ 6 0 0 60 [some (.ref (ad 62)), some (.int l1), some (.int l2), some (.int l3), some (.int l4), some (.int q.1)] [] ad (LC sh sp ++ LM) q.2 := by
  unfold f_X7_win_b60 at h
  refine g_iload (pc := 60) (i := 5) (x := q.1) C dX7_win_60 rfl ?_
  refine g_aload_n (pc := 62) (i := 0) (x := ad 62) C dX7_win_62 rfl rfl ?_
  refine g_get (pc := 63) (v := .int (q.2 62 18)) C ok_X7 18 (by decide) wf_X7_183 dX7_win_63 la_62 rfl ?_
  rcases ite_some' h with ⟨hc66, h⟩ | ⟨hc66, h⟩
  · refine g_icmp_ge_t (pc := 66) C 155 dX7_win_66 (by decide) hc66 ?_
    refine g_mask (lv' := [some (.ref (ad 62)), some (.int l1), some (.int l2), some (.int l3), some (.int l4), none]) [true, true, true, true, true, false] rfl ?_
    cases h
    exact hP
  · refine g_icmp_ge_f (pc := 66) C 155 dX7_win_66 (by decide) hc66 ?_
    refine g_aload_n (pc := 69) (i := 0) (x := ad 62) C dX7_win_69 rfl rfl ?_
    refine g_get (pc := 70) (v := .ref (ad 78)) C ok_X7 27 (by decide) wf_X7_55 dX7_win_70 la_62 rfl ?_
    refine g_bipush (pc := 73) (v := 16) C dX7_win_73 rfl ?_
    refine g_iconst (pc := 75) (v := 2) C dX7_win_75 rfl ?_
    refine g_iload (pc := 76) (i := 5) (x := q.1) C dX7_win_76 rfl ?_
    refine g_imul (pc := 78) C dX7_win_78 ?_
    refine g_iadd (pc := 79) C dX7_win_79 ?_
    refine g_iload (pc := 80) (i := 4) (x := l4) C dX7_win_80 rfl ?_
    refine g_iload (pc := 82) (i := 5) (x := q.1) C dX7_win_82 rfl ?_
    obtain ⟨r84, hcall84, h⟩ := ob_some h
    refine g_callS (pc := 84) C ce0 mi_X7_has ms_X7_has wm_X7_232 dX7_win_84 [.int l4, .int q.1] [.int (16 + (2 * q.1)), .ref (ad 78)] (by omega) rfl rfl (Nat.le_of_ble_eq_true rfl) (m_X7_has (d := d - 1) (by omega)  hcall84) ?_
    show Gw E κ 6 0 0 87 [some (.ref (ad 62)), some (.int l1), some (.int l2), some (.int l3), some (.int l4), some (.int q.1)] [.int r84, .int (16 + (2 * q.1)), .ref (ad 78)] ad (LC sh sp ++ LM) q.2
    rcases ite_some' h with ⟨hc87, h⟩ | ⟨hc87, h⟩
    · refine g_if_eq_t (pc := 87) C 94 dX7_win_87 (by decide) hc87 ?_
      refine g_aload_n (pc := 94) (i := 0) (x := ad 62) C dX7_win_94 rfl rfl ?_
      refine g_get (pc := 95) (v := .ref (ad 78)) C ok_X7 27 (by decide) wf_X7_55 dX7_win_95 la_62 rfl ?_
      refine g_bipush (pc := 98) (v := 16) C dX7_win_98 rfl ?_
      refine g_iconst (pc := 100) (v := 2) C dX7_win_100 rfl ?_
      refine g_iload (pc := 101) (i := 5) (x := q.1) C dX7_win_101 rfl ?_
      refine g_imul (pc := 103) C dX7_win_103 ?_
      refine g_iadd (pc := 104) C dX7_win_104 ?_
      obtain ⟨v105, hv105, hi105, h⟩ := rd_some h
      refine g_iald (pc := 105) C dX7_win_105 la_78 hi105 ?_
      refine g_topi hv105 ?_
      exact j_X7_win_106 C hd h hP
    · refine g_if_eq_f (pc := 87) C 94 dX7_win_87 (by decide) hc87 ?_
      refine g_iload_n (pc := 90) (i := 1) (x := l1) C dX7_win_90 rfl rfl ?_
      refine g_goto (pc := 91) C 106 dX7_win_91 (by decide) ?_
      exact j_X7_win_106 C hd h hP
set_option maxRecDepth 100000 in
set_option maxHeartbeats 4000000 in
theorem j_X7_win_53 {E : Ex} {κ : Kx} {ad : Nat → Nat} {sh sp : Nat} {d : Nat} (C : Cx E κ cX7_win RX7 6 (some .int) d) (hd : 6 ≤ d)  {l1 : Int32} {l2 : Int32} {l3 : Int32} {l4 : Int32} {mem : Mem} {x : (Int32 × Int32 × Mem) ⊕ (Int32 × Int32 × Mem)} (h : f_X7_win_j53 l1 l2 l3 l4 mem = some x) (hP : (P_X7_win_24 E κ ad (LC sh sp ++ LM) l1 l2) x) : Gw E κ 6 0 0 53 [some (.ref (ad 62)), some (.int l1), some (.int l2), some (.int l3), some (.int l4), none] [] ad (LC sh sp ++ LM) mem := by
  unfold f_X7_win_j53 at h
  refine g_aload_n (pc := 53) (i := 0) (x := ad 62) C dX7_win_53 rfl rfl ?_
  obtain ⟨m54, hcall54, h⟩ := ob_some h
  refine g_callV (pc := 54) C ce0 mi_X7_copyNow mv_X7_copyNow wm_X7_266 dX7_win_54 ok_X7 [] [] la_62 (by omega) rfl rfl (Nat.le_of_ble_eq_true rfl) (m_X7_copyNow (d := d - 1) (by omega)  hcall54) ?_
  show Gw E κ 6 0 0 57 [some (.ref (ad 62)), some (.int l1), some (.int l2), some (.int l3), some (.int l4), none] [] ad (LC sh sp ++ LM) m54
  refine g_iconst (pc := 57) (v := 0) C dX7_win_57 rfl ?_
  refine g_istore (pc := 58) (i := 5) (lv' := [some (.ref (ad 62)), some (.int l1), some (.int l2), some (.int l3), some (.int l4), some (.int 0)]) C dX7_win_58 (by decide) rfl rfl ?_
  obtain ⟨q60, hq, h⟩ := ob_some h
  refine lp_gw (P_X7_win_60 E κ ad (LC sh sp ++ LM) l1 l2 l3 l4) (fun q x hb hp => b_X7_win_60 C hd hb hp) _ (0, m54) _ hq ?_
  show Gw E κ 6 0 0 155 [some (.ref (ad 62)), some (.int l1), some (.int l2), some (.int l3), some (.int l4), none] [] ad (LC sh sp ++ LM) q60.2
  refine g_aload_n (pc := 155) (i := 0) (x := ad 62) C dX7_win_155 rfl rfl ?_
  refine g_aload_n (pc := 156) (i := 0) (x := ad 62) C dX7_win_156 rfl rfl ?_
  refine g_get (pc := 157) (v := .ref (ad 78)) C ok_X7 27 (by decide) wf_X7_55 dX7_win_157 la_62 rfl ?_
  refine g_iconst (pc := 160) (v := (-1)) C dX7_win_160 rfl ?_
  obtain ⟨r161, m161, hcall161, h⟩ := ob2_some h
  refine g_callV (pc := 161) C ce0 mi_X7_passes mv_X7_passes wm_X7_260 dX7_win_161 ok_X7 [.ref (ad 78), .int (-1)] [] la_62 (by omega) rfl rfl (Nat.le_of_ble_eq_true rfl) (m_X7_passes (d := d - 1) (by omega) o_78 hcall161) ?_
  show Gw E κ 6 0 0 164 [some (.ref (ad 62)), some (.int l1), some (.int l2), some (.int l3), some (.int l4), none] [.int r161] ad (LC sh sp ++ LM) m161
  refine g_pop (pc := 164) C dX7_win_164 rfl ?_
  refine g_aload_n (pc := 165) (i := 0) (x := ad 62) C dX7_win_165 rfl rfl ?_
  refine g_get (pc := 166) (v := .ref (ad 81)) C ok_X7 30 (by decide) wf_X7_64 dX7_win_166 la_62 rfl ?_
  refine g_bipush (pc := 169) (v := 9) C dX7_win_169 rfl ?_
  refine g_iload_n (pc := 171) (i := 1) (x := l1) C dX7_win_171 rfl rfl ?_
  refine g_imul (pc := 172) C dX7_win_172 ?_
  refine g_iload_n (pc := 173) (i := 2) (x := l2) C dX7_win_173 rfl rfl ?_
  refine g_iadd (pc := 174) C dX7_win_174 ?_
  obtain ⟨v175, hv175, hi175, h⟩ := rd_some h
  refine g_zald (pc := 175) C dX7_win_175 la_81 hi175 ?_
  refine g_topi hv175 ?_
  rcases ite_some' h with ⟨hc176, h⟩ | ⟨hc176, h⟩
  · refine g_if_eq_t (pc := 176) C 184 dX7_win_176 (by decide) hc176 ?_
    refine g_iload_n (pc := 184) (i := 3) (x := l3) C dX7_win_184 rfl rfl ?_
    refine g_istore_n (pc := 185) (i := 3) (lv' := [some (.ref (ad 62)), some (.int l1), some (.int l2), some (.int l3), some (.int l4), none]) C dX7_win_185 rfl (by decide) rfl rfl ?_
    obtain ⟨v186, hv186, h⟩ := lt_some h
    refine g_iinc (pc := 186) (i := 4) (x := l4) (v := v186) (lv' := [some (.ref (ad 62)), some (.int l1), some (.int l2), some (.int l3), some (.int v186), none]) C dX7_win_186 rfl hv186.symm (by decide) rfl rfl ?_
    refine g_goto (pc := 189) C 24 dX7_win_189 (by decide) ?_
    cases h
    exact hP
  · refine g_if_eq_f (pc := 176) C 184 dX7_win_176 (by decide) hc176 ?_
    refine g_iload (pc := 179) (i := 4) (x := l4) C dX7_win_179 rfl ?_
    refine g_goto (pc := 181) C 185 dX7_win_181 (by decide) ?_
    refine g_istore_n (pc := 185) (i := 3) (lv' := [some (.ref (ad 62)), some (.int l1), some (.int l2), some (.int l4), some (.int l4), none]) C dX7_win_185 rfl (by decide) rfl rfl ?_
    obtain ⟨v186, hv186, h⟩ := lt_some h
    refine g_iinc (pc := 186) (i := 4) (x := l4) (v := v186) (lv' := [some (.ref (ad 62)), some (.int l1), some (.int l2), some (.int l4), some (.int v186), none]) C dX7_win_186 rfl hv186.symm (by decide) rfl rfl ?_
    refine g_goto (pc := 189) C 24 dX7_win_189 (by decide) ?_
    cases h
    exact hP
set_option maxRecDepth 100000 in
set_option maxHeartbeats 4000000 in
theorem b_X7_win_24 {E : Ex} {κ : Kx} {ad : Nat → Nat} {sh sp : Nat} {d : Nat} (C : Cx E κ cX7_win RX7 6 (some .int) d) (hd : 6 ≤ d)  {l1 : Int32} {l2 : Int32} {q : Int32 × Int32 × Mem} {x : (Int32 × Int32 × Mem) ⊕ (Int32 × Int32 × Mem)} (h : f_X7_win_b24 l1 l2 q = some x) (hP : (P_X7_win_24 E κ ad (LC sh sp ++ LM) l1 l2) x) : Gw E κ 6 0 0 24 [some (.ref (ad 62)), some (.int l1), some (.int l2), some (.int q.1), some (.int q.2.1), none] [] ad (LC sh sp ++ LM) q.2.2 := by
  unfold f_X7_win_b24 at h
  refine g_iload (pc := 24) (i := 4) (x := q.2.1) C dX7_win_24 rfl ?_
  refine g_iconst (pc := 26) (v := 1) C dX7_win_26 rfl ?_
  refine g_aload_n (pc := 27) (i := 0) (x := ad 62) C dX7_win_27 rfl rfl ?_
  refine g_get (pc := 28) (v := .int (q.2.2 62 18)) C ok_X7 18 (by decide) wf_X7_183 dX7_win_28 la_62 rfl ?_
  refine g_ishl (pc := 31) C dX7_win_31 ?_
  rcases ite_some' h with ⟨hc32, h⟩ | ⟨hc32, h⟩
  · refine g_icmp_ge_t (pc := 32) C 192 dX7_win_32 (by decide) hc32 ?_
    refine g_mask (lv' := [none, none, none, some (.int q.1), none, none]) [false, false, false, true, false, false] rfl ?_
    cases h
    exact hP
  · refine g_icmp_ge_f (pc := 32) C 192 dX7_win_32 (by decide) hc32 ?_
    refine g_iload_n (pc := 35) (i := 3) (x := q.1) C dX7_win_35 rfl rfl ?_
    refine g_bipush (pc := 36) (v := (-4)) C dX7_win_36 rfl ?_
    rcases ite_some' h with ⟨hc38, h⟩ | ⟨hc38, h⟩
    · refine g_icmp_eq_t (pc := 38) C 53 dX7_win_38 (by decide) hc38 ?_
      exact j_X7_win_53 C hd h hP
    · refine g_icmp_eq_f (pc := 38) C 53 dX7_win_38 (by decide) hc38 ?_
      refine g_iload (pc := 41) (i := 4) (x := q.2.1) C dX7_win_41 rfl ?_
      obtain ⟨r43, hcall43, h⟩ := ob_some h
      refine g_callS (pc := 43) C ce0 mi_X7_bits ms_X7_bits wm_X7_287 dX7_win_43 [.int q.2.1] [] (by omega) rfl rfl (Nat.le_of_ble_eq_true rfl) (m_X7_bits (d := d - 1) (by omega)  hcall43) ?_
      show Gw E κ 6 0 0 46 [some (.ref (ad 62)), some (.int l1), some (.int l2), some (.int q.1), some (.int q.2.1), none] [.int r43] ad (LC sh sp ++ LM) q.2.2
      refine g_iload_n (pc := 46) (i := 3) (x := q.1) C dX7_win_46 rfl rfl ?_
      obtain ⟨r47, hcall47, h⟩ := ob_some h
      refine g_callS (pc := 47) C ce0 mi_X7_bits ms_X7_bits wm_X7_287 dX7_win_47 [.int q.1] [.int r43] (by omega) rfl rfl (Nat.le_of_ble_eq_true rfl) (m_X7_bits (d := d - 1) (by omega)  hcall47) ?_
      show Gw E κ 6 0 0 50 [some (.ref (ad 62)), some (.int l1), some (.int l2), some (.int q.1), some (.int q.2.1), none] [.int r47, .int r43] ad (LC sh sp ++ LM) q.2.2
      rcases ite_some' h with ⟨hc50, h⟩ | ⟨hc50, h⟩
      · refine g_icmp_ge_t (pc := 50) C 186 dX7_win_50 (by decide) hc50 ?_
        obtain ⟨v186, hv186, h⟩ := lt_some h
        refine g_iinc (pc := 186) (i := 4) (x := q.2.1) (v := v186) (lv' := [some (.ref (ad 62)), some (.int l1), some (.int l2), some (.int q.1), some (.int v186), none]) C dX7_win_186 rfl hv186.symm (by decide) rfl rfl ?_
        refine g_goto (pc := 189) C 24 dX7_win_189 (by decide) ?_
        cases h
        exact hP
      · refine g_icmp_ge_f (pc := 50) C 186 dX7_win_50 (by decide) hc50 ?_
        exact j_X7_win_53 C hd h hP
set_option maxRecDepth 100000 in
set_option maxHeartbeats 4000000 in
theorem m_X7_win {E : Ex} {ad : Nat → Nat} {sh sp : Nat} {d : Nat} (hd : 6 ≤ d)  {l1 : Int32} {l2 : Int32} {mem : Mem} {r : Int32 × Mem} (h : f_X7_win l1 l2 mem = some r) : Cl E yX7_win cX7_win 6 (some .int) d [.ref (ad 62), .int l1, .int l2] (some (.int r.1)) ad (LC sh sp ++ LM) mem (LC sh sp ++ LM) r.2 := by
  refine Cl.of [some (.ref (ad 62)), some (.int l1), some (.int l2), none, none, none] (by decide +kernel) rfl (Nat.le_of_ble_eq_true rfl) (fun κ C hP => ?_)
  have C : Cx E κ cX7_win RX7 6 (some .int) d := C
  unfold f_X7_win at h
  refine g_aload_n (pc := 0) (i := 0) (x := ad 62) C dX7_win_0 rfl rfl ?_
  refine g_iload_n (pc := 1) (i := 1) (x := l1) C dX7_win_1 rfl rfl ?_
  obtain ⟨r2, hcall2, h⟩ := ob_some h
  refine g_callV (pc := 2) C ce0 mi_X7_isPlace mv_X7_isPlace wm_X7_219 dX7_win_2 ok_X7 [.int l1] [] la_62 (by omega) rfl rfl (Nat.le_of_ble_eq_true rfl) (m_X7_isPlace (d := d - 1) (by omega)  hcall2) ?_
  show Gw E κ 6 0 0 5 [some (.ref (ad 62)), some (.int l1), some (.int l2), none, none, none] [.int r2] ad (LC sh sp ++ LM) mem
  rcases ite_some' h with ⟨hc5, h⟩ | ⟨hc5, h⟩
  · refine g_if_eq_t (pc := 5) C 16 dX7_win_5 (by decide) hc5 ?_
    refine g_iconst (pc := 16) (v := (-1)) C dX7_win_16 rfl ?_
    cases h
    exact g_iret (pc := 17) C hP rfl rfl dX7_win_17
  · refine g_if_eq_f (pc := 5) C 16 dX7_win_5 (by decide) hc5 ?_
    refine g_aload_n (pc := 8) (i := 0) (x := ad 62) C dX7_win_8 rfl rfl ?_
    refine g_iload_n (pc := 9) (i := 2) (x := l2) C dX7_win_9 rfl rfl ?_
    obtain ⟨r10, hcall10, h⟩ := ob_some h
    refine g_callV (pc := 10) C ce0 mi_X7_isWord mv_X7_isWord wm_X7_225 dX7_win_10 ok_X7 [.int l2] [] la_62 (by omega) rfl rfl (Nat.le_of_ble_eq_true rfl) (m_X7_isWord (d := d - 1) (by omega)  hcall10) ?_
    show Gw E κ 6 0 0 13 [some (.ref (ad 62)), some (.int l1), some (.int l2), none, none, none] [.int r10] ad (LC sh sp ++ LM) mem
    rcases ite_some' h with ⟨hc13, h⟩ | ⟨hc13, h⟩
    · refine g_if_ne_f (pc := 13) C 18 dX7_win_13 (by decide) hc13 ?_
      refine g_iconst (pc := 16) (v := (-1)) C dX7_win_16 rfl ?_
      cases h
      exact g_iret (pc := 17) C hP rfl rfl dX7_win_17
    · refine g_if_ne_t (pc := 13) C 18 dX7_win_13 (by decide) hc13 ?_
      refine g_bipush (pc := 18) (v := (-4)) C dX7_win_18 rfl ?_
      refine g_istore_n (pc := 20) (i := 3) (lv' := [some (.ref (ad 62)), some (.int l1), some (.int l2), some (.int (-4)), none, none]) C dX7_win_20 rfl (by decide) rfl rfl ?_
      refine g_iconst (pc := 21) (v := 0) C dX7_win_21 rfl ?_
      refine g_istore (pc := 22) (i := 4) (lv' := [some (.ref (ad 62)), some (.int l1), some (.int l2), some (.int (-4)), some (.int 0), none]) C dX7_win_22 (by decide) rfl rfl ?_
      obtain ⟨q24, hq, h⟩ := ob_some h
      refine lp_gw (P_X7_win_24 E κ ad (LC sh sp ++ LM) l1 l2) (fun q x hb hp => b_X7_win_24 C hd hb hp) _ ((-4), 0, mem) _ hq ?_
      show Gw E κ 6 0 0 192 [none, none, none, some (.int q24.1), none, none] [] ad (LC sh sp ++ LM) q24.2.2
      refine g_iload_n (pc := 192) (i := 3) (x := q24.1) C dX7_win_192 rfl rfl ?_
      cases h
      exact g_iret (pc := 193) C hP rfl rfl dX7_win_193

theorem dX7_sent_0 : decode cX7_sent 0 = .ok (.aload_n 0, 1) := by decide +kernel
theorem dX7_sent_1 : decode cX7_sent 1 = .ok (.iload_n 1, 1) := by decide +kernel
theorem dX7_sent_2 : decode cX7_sent 2 = .ok (.invokevirtual 243, 3) := by decide +kernel
theorem dX7_sent_5 : decode cX7_sent 5 = .ok (.ifCond .ne 5, 3) := by decide +kernel
theorem dX7_sent_8 : decode cX7_sent 8 = .ok (.iconst (-1), 1) := by decide +kernel
theorem dX7_sent_9 : decode cX7_sent 9 = .ok (.ireturn, 1) := by decide +kernel
theorem dX7_sent_10 : decode cX7_sent 10 = .ok (.aload_n 0, 1) := by decide +kernel
theorem dX7_sent_11 : decode cX7_sent 11 = .ok (.getfield 195, 3) := by decide +kernel
theorem dX7_sent_14 : decode cX7_sent 14 = .ok (.bipush 6, 2) := by decide +kernel
theorem dX7_sent_16 : decode cX7_sent 16 = .ok (.if_icmp .ne 6, 3) := by decide +kernel
theorem dX7_sent_19 : decode cX7_sent 19 = .ok (.bipush (-3), 2) := by decide +kernel
theorem dX7_sent_21 : decode cX7_sent 21 = .ok (.ireturn, 1) := by decide +kernel
theorem dX7_sent_22 : decode cX7_sent 22 = .ok (.aload_n 0, 1) := by decide +kernel
theorem dX7_sent_23 : decode cX7_sent 23 = .ok (.getfield 83, 3) := by decide +kernel
theorem dX7_sent_26 : decode cX7_sent 26 = .ok (.aload_n 0, 1) := by decide +kernel
theorem dX7_sent_27 : decode cX7_sent 27 = .ok (.getfield 195, 3) := by decide +kernel
theorem dX7_sent_30 : decode cX7_sent 30 = .ok (.iload_n 1, 1) := by decide +kernel
theorem dX7_sent_31 : decode cX7_sent 31 = .ok (.iastore, 1) := by decide +kernel
theorem dX7_sent_32 : decode cX7_sent 32 = .ok (.aload_n 0, 1) := by decide +kernel
theorem dX7_sent_33 : decode cX7_sent 33 = .ok (.getfield 86, 3) := by decide +kernel
theorem dX7_sent_36 : decode cX7_sent 36 = .ok (.aload_n 0, 1) := by decide +kernel
theorem dX7_sent_37 : decode cX7_sent 37 = .ok (.getfield 195, 3) := by decide +kernel
theorem dX7_sent_40 : decode cX7_sent 40 = .ok (.iload_n 2, 1) := by decide +kernel
theorem dX7_sent_41 : decode cX7_sent 41 = .ok (.bastore, 1) := by decide +kernel
theorem dX7_sent_42 : decode cX7_sent 42 = .ok (.aload_n 0, 1) := by decide +kernel
theorem dX7_sent_43 : decode cX7_sent 43 = .ok (.dup, 1) := by decide +kernel
theorem dX7_sent_44 : decode cX7_sent 44 = .ok (.getfield 195, 3) := by decide +kernel
theorem dX7_sent_47 : decode cX7_sent 47 = .ok (.iconst 1, 1) := by decide +kernel
theorem dX7_sent_48 : decode cX7_sent 48 = .ok (.iadd, 1) := by decide +kernel
theorem dX7_sent_49 : decode cX7_sent 49 = .ok (.putfield 195, 3) := by decide +kernel
theorem dX7_sent_52 : decode cX7_sent 52 = .ok (.aload_n 0, 1) := by decide +kernel
theorem dX7_sent_53 : decode cX7_sent 53 = .ok (.getfield 195, 3) := by decide +kernel
theorem dX7_sent_56 : decode cX7_sent 56 = .ok (.ireturn, 1) := by decide +kernel
noncomputable def f_X7_sent (l1 : Int32) (l2 : Int32) (mem : Mem) : Option (Int32 × Mem) :=
  ob (f_X7_isSolver l1 mem) fun r2 => if r2 = 0 then (some ((-1), mem)) else (if (mem 62 40) = 6 then (some ((-3), mem)) else (wr mem 87 6 (mem 62 40) l1 fun m31 => wr m31 88 6 (m31 62 40) (vp_nar .boolean l2) fun m41 => lt' (mset m41 62 40 ((m41 62 40) + 1)) fun m49 => lt' (m49 62 40) fun v56 => some (v56, m49)))
set_option maxRecDepth 100000 in
set_option maxHeartbeats 4000000 in
theorem m_X7_sent {E : Ex} {ad : Nat → Nat} {sh sp : Nat} {d : Nat} (hd : 2 ≤ d)  {l1 : Int32} {l2 : Int32} {mem : Mem} {r : Int32 × Mem} (h : f_X7_sent l1 l2 mem = some r) : Cl E yX7_sent cX7_sent 3 (some .int) d [.ref (ad 62), .int l1, .int l2] (some (.int r.1)) ad (LC sh sp ++ LM) mem (LC sh sp ++ LM) r.2 := by
  refine Cl.of [some (.ref (ad 62)), some (.int l1), some (.int l2)] (by decide +kernel) rfl (Nat.le_of_ble_eq_true rfl) (fun κ C hP => ?_)
  have C : Cx E κ cX7_sent RX7 3 (some .int) d := C
  unfold f_X7_sent at h
  refine g_aload_n (pc := 0) (i := 0) (x := ad 62) C dX7_sent_0 rfl rfl ?_
  refine g_iload_n (pc := 1) (i := 1) (x := l1) C dX7_sent_1 rfl rfl ?_
  obtain ⟨r2, hcall2, h⟩ := ob_some h
  refine g_callV (pc := 2) C ce0 mi_X7_isSolver mv_X7_isSolver wm_X7_243 dX7_sent_2 ok_X7 [.int l1] [] la_62 (by omega) rfl rfl (Nat.le_of_ble_eq_true rfl) (m_X7_isSolver (d := d - 1) (by omega)  hcall2) ?_
  show Gw E κ 3 0 0 5 [some (.ref (ad 62)), some (.int l1), some (.int l2)] [.int r2] ad (LC sh sp ++ LM) mem
  rcases ite_some' h with ⟨hc5, h⟩ | ⟨hc5, h⟩
  · refine g_if_ne_f (pc := 5) C 10 dX7_sent_5 (by decide) hc5 ?_
    refine g_iconst (pc := 8) (v := (-1)) C dX7_sent_8 rfl ?_
    cases h
    exact g_iret (pc := 9) C hP rfl rfl dX7_sent_9
  · refine g_if_ne_t (pc := 5) C 10 dX7_sent_5 (by decide) hc5 ?_
    refine g_aload_n (pc := 10) (i := 0) (x := ad 62) C dX7_sent_10 rfl rfl ?_
    refine g_get (pc := 11) (v := .int (mem 62 40)) C ok_X7 40 (by decide) wf_X7_195 dX7_sent_11 la_62 rfl ?_
    refine g_bipush (pc := 14) (v := 6) C dX7_sent_14 rfl ?_
    rcases ite_some' h with ⟨hc16, h⟩ | ⟨hc16, h⟩
    · refine g_icmp_ne_f (pc := 16) C 22 dX7_sent_16 (by decide) hc16 ?_
      refine g_bipush (pc := 19) (v := (-3)) C dX7_sent_19 rfl ?_
      cases h
      exact g_iret (pc := 21) C hP rfl rfl dX7_sent_21
    · refine g_icmp_ne_t (pc := 16) C 22 dX7_sent_16 (by decide) hc16 ?_
      refine g_aload_n (pc := 22) (i := 0) (x := ad 62) C dX7_sent_22 rfl rfl ?_
      refine g_get (pc := 23) (v := .ref (ad 87)) C ok_X7 41 (by decide) wf_X7_83 dX7_sent_23 la_62 rfl ?_
      refine g_aload_n (pc := 26) (i := 0) (x := ad 62) C dX7_sent_26 rfl rfl ?_
      refine g_get (pc := 27) (v := .int (mem 62 40)) C ok_X7 40 (by decide) wf_X7_195 dX7_sent_27 la_62 rfl ?_
      refine g_iload_n (pc := 30) (i := 1) (x := l1) C dX7_sent_30 rfl rfl ?_
      obtain ⟨m31, hm31, hi31, h⟩ := wr_some h
      refine g_iast (pc := 31) C dX7_sent_31 la_87 hi31 ?_
      refine g_mem hm31 ?_
      refine g_aload_n (pc := 32) (i := 0) (x := ad 62) C dX7_sent_32 rfl rfl ?_
      refine g_get (pc := 33) (v := .ref (ad 88)) C ok_X7 42 (by decide) wf_X7_86 dX7_sent_33 la_62 rfl ?_
      refine g_aload_n (pc := 36) (i := 0) (x := ad 62) C dX7_sent_36 rfl rfl ?_
      refine g_get (pc := 37) (v := .int (m31 62 40)) C ok_X7 40 (by decide) wf_X7_195 dX7_sent_37 la_62 rfl ?_
      refine g_iload_n (pc := 40) (i := 2) (x := l2) C dX7_sent_40 rfl rfl ?_
      obtain ⟨m41, hm41, hi41, h⟩ := wr_some h
      refine g_zast (pc := 41) C dX7_sent_41 la_88 hi41 ?_
      refine g_mem hm41 ?_
      refine g_aload_n (pc := 42) (i := 0) (x := ad 62) C dX7_sent_42 rfl rfl ?_
      refine g_dup (pc := 43) C dX7_sent_43 rfl ?_
      refine g_get (pc := 44) (v := .int (m41 62 40)) C ok_X7 40 (by decide) wf_X7_195 dX7_sent_44 la_62 rfl ?_
      refine g_iconst (pc := 47) (v := 1) C dX7_sent_47 rfl ?_
      refine g_iadd (pc := 48) C dX7_sent_48 ?_
      obtain ⟨m49, hm49, h⟩ := lt_some h
      refine g_put (pc := 49) C ok_X7 40 (by decide) wf_X7_195 dX7_sent_49 rfl rfl la_62 ?_
      refine g_mem hm49 ?_
      refine g_aload_n (pc := 52) (i := 0) (x := ad 62) C dX7_sent_52 rfl rfl ?_
      refine g_get (pc := 53) (v := .int (m49 62 40)) C ok_X7 40 (by decide) wf_X7_195 dX7_sent_53 la_62 rfl ?_
      obtain ⟨v56, hv56, h⟩ := lt_some h
      refine g_topi hv56 ?_
      cases h
      exact g_iret (pc := 56) C hP rfl rfl dX7_sent_56

theorem dX7_forget_0 : decode cX7_forget 0 = .ok (.aload_n 0, 1) := by decide +kernel
theorem dX7_forget_1 : decode cX7_forget 1 = .ok (.getfield 195, 3) := by decide +kernel
theorem dX7_forget_4 : decode cX7_forget 4 = .ok (.istore_n 1, 1) := by decide +kernel
theorem dX7_forget_5 : decode cX7_forget 5 = .ok (.aload_n 0, 1) := by decide +kernel
theorem dX7_forget_6 : decode cX7_forget 6 = .ok (.iconst 0, 1) := by decide +kernel
theorem dX7_forget_7 : decode cX7_forget 7 = .ok (.putfield 195, 3) := by decide +kernel
theorem dX7_forget_10 : decode cX7_forget 10 = .ok (.iload_n 1, 1) := by decide +kernel
theorem dX7_forget_11 : decode cX7_forget 11 = .ok (.ireturn, 1) := by decide +kernel
noncomputable def f_X7_forget  (mem : Mem) : Option (Int32 × Mem) :=
  lt' (mem 62 40) fun v4 => lt' (mset mem 62 40 0) fun m7 => some (v4, m7)
set_option maxRecDepth 100000 in
set_option maxHeartbeats 4000000 in
theorem m_X7_forget {E : Ex} {ad : Nat → Nat} {sh sp : Nat} {d : Nat} (hd : 0 ≤ d)   {mem : Mem} {r : Int32 × Mem} (h : f_X7_forget mem = some r) : Cl E yX7_forget cX7_forget 2 (some .int) d [.ref (ad 62)] (some (.int r.1)) ad (LC sh sp ++ LM) mem (LC sh sp ++ LM) r.2 := by
  refine Cl.of [some (.ref (ad 62)), none] (by decide +kernel) rfl (Nat.le_of_ble_eq_true rfl) (fun κ C hP => ?_)
  have C : Cx E κ cX7_forget RX7 2 (some .int) d := C
  unfold f_X7_forget at h
  refine g_aload_n (pc := 0) (i := 0) (x := ad 62) C dX7_forget_0 rfl rfl ?_
  refine g_get (pc := 1) (v := .int (mem 62 40)) C ok_X7 40 (by decide) wf_X7_195 dX7_forget_1 la_62 rfl ?_
  obtain ⟨v4, hv4, h⟩ := lt_some h
  refine g_topi hv4 ?_
  refine g_istore_n (pc := 4) (i := 1) (lv' := [some (.ref (ad 62)), some (.int v4)]) C dX7_forget_4 rfl (by decide) rfl rfl ?_
  refine g_aload_n (pc := 5) (i := 0) (x := ad 62) C dX7_forget_5 rfl rfl ?_
  refine g_iconst (pc := 6) (v := 0) C dX7_forget_6 rfl ?_
  obtain ⟨m7, hm7, h⟩ := lt_some h
  refine g_put (pc := 7) C ok_X7 40 (by decide) wf_X7_195 dX7_forget_7 rfl rfl la_62 ?_
  refine g_mem hm7 ?_
  refine g_iload_n (pc := 10) (i := 1) (x := v4) C dX7_forget_10 rfl rfl ?_
  cases h
  exact g_iret (pc := 11) C hP rfl rfl dX7_forget_11

theorem dX7_isSo_0 : decode cX7_isSo 0 = .ok (.iconst 1, 1) := by decide +kernel
theorem dX7_isSo_1 : decode cX7_isSo 1 = .ok (.istore_n 3, 1) := by decide +kernel
theorem dX7_isSo_2 : decode cX7_isSo 2 = .ok (.iconst 0, 1) := by decide +kernel
theorem dX7_isSo_3 : decode cX7_isSo 3 = .ok (.istore 4, 2) := by decide +kernel
theorem dX7_isSo_5 : decode cX7_isSo 5 = .ok (.iload 4, 2) := by decide +kernel
theorem dX7_isSo_7 : decode cX7_isSo 7 = .ok (.aload_n 0, 1) := by decide +kernel
theorem dX7_isSo_8 : decode cX7_isSo 8 = .ok (.getfield 195, 3) := by decide +kernel
theorem dX7_isSo_11 : decode cX7_isSo 11 = .ok (.if_icmp .ge 56, 3) := by decide +kernel
theorem dX7_isSo_14 : decode cX7_isSo 14 = .ok (.iload_n 3, 1) := by decide +kernel
theorem dX7_isSo_15 : decode cX7_isSo 15 = .ok (.ifCond .eq 44, 3) := by decide +kernel
theorem dX7_isSo_18 : decode cX7_isSo 18 = .ok (.iload_n 2, 1) := by decide +kernel
theorem dX7_isSo_19 : decode cX7_isSo 19 = .ok (.ifCond .lt 14, 3) := by decide +kernel
theorem dX7_isSo_22 : decode cX7_isSo 22 = .ok (.aload_n 0, 1) := by decide +kernel
theorem dX7_isSo_23 : decode cX7_isSo 23 = .ok (.getfield 83, 3) := by decide +kernel
theorem dX7_isSo_26 : decode cX7_isSo 26 = .ok (.iload 4, 2) := by decide +kernel
theorem dX7_isSo_28 : decode cX7_isSo 28 = .ok (.iaload, 1) := by decide +kernel
theorem dX7_isSo_29 : decode cX7_isSo 29 = .ok (.iload_n 2, 1) := by decide +kernel
theorem dX7_isSo_30 : decode cX7_isSo 30 = .ok (.if_icmp .ne 25, 3) := by decide +kernel
theorem dX7_isSo_33 : decode cX7_isSo 33 = .ok (.aload_n 0, 1) := by decide +kernel
theorem dX7_isSo_34 : decode cX7_isSo 34 = .ok (.aload_n 1, 1) := by decide +kernel
theorem dX7_isSo_35 : decode cX7_isSo 35 = .ok (.aload_n 0, 1) := by decide +kernel
theorem dX7_isSo_36 : decode cX7_isSo 36 = .ok (.getfield 83, 3) := by decide +kernel
theorem dX7_isSo_39 : decode cX7_isSo 39 = .ok (.iload 4, 2) := by decide +kernel
theorem dX7_isSo_41 : decode cX7_isSo 41 = .ok (.iaload, 1) := by decide +kernel
theorem dX7_isSo_42 : decode cX7_isSo 42 = .ok (.invokevirtual 236, 3) := by decide +kernel
theorem dX7_isSo_45 : decode cX7_isSo 45 = .ok (.aload_n 0, 1) := by decide +kernel
theorem dX7_isSo_46 : decode cX7_isSo 46 = .ok (.getfield 86, 3) := by decide +kernel
theorem dX7_isSo_49 : decode cX7_isSo 49 = .ok (.iload 4, 2) := by decide +kernel
theorem dX7_isSo_51 : decode cX7_isSo 51 = .ok (.baload, 1) := by decide +kernel
theorem dX7_isSo_52 : decode cX7_isSo 52 = .ok (.if_icmp .ne 7, 3) := by decide +kernel
theorem dX7_isSo_55 : decode cX7_isSo 55 = .ok (.iconst 1, 1) := by decide +kernel
theorem dX7_isSo_56 : decode cX7_isSo 56 = .ok (.goto 4, 3) := by decide +kernel
theorem dX7_isSo_59 : decode cX7_isSo 59 = .ok (.iconst 0, 1) := by decide +kernel
theorem dX7_isSo_60 : decode cX7_isSo 60 = .ok (.istore_n 3, 1) := by decide +kernel
theorem dX7_isSo_61 : decode cX7_isSo 61 = .ok (.iinc 4 1, 3) := by decide +kernel
theorem dX7_isSo_64 : decode cX7_isSo 64 = .ok (.goto (-59), 3) := by decide +kernel
theorem dX7_isSo_67 : decode cX7_isSo 67 = .ok (.iload_n 3, 1) := by decide +kernel
theorem dX7_isSo_68 : decode cX7_isSo 68 = .ok (.ireturn, 1) := by decide +kernel
noncomputable def f_X7_isSo_j33 (o : Nat) (l2 : Int32) (l4 : Int32) (mem : Mem) : Option ((Int32 × Int32) ⊕ (Int32 × Int32)) :=
  rd (mem 87) 6 l4 fun v41 => ob (f_X7_isSending o v41 mem) fun r42 => rd (mem 88) 6 l4 fun v51 => if r42 = v51 then (lt' (l4 + 1) fun v61 => some (.inl (1, v61))) else (lt' (l4 + 1) fun v61 => some (.inl (0, v61)))
noncomputable def f_X7_isSo_b5 (o : Nat) (l2 : Int32) (mem : Mem) (q : Int32 × Int32) : Option ((Int32 × Int32) ⊕ (Int32 × Int32)) :=
  if (mem 62 40) ≤ q.2 then (some (.inr (q.1, q.2))) else (if q.1 = 0 then (lt' (q.2 + 1) fun v61 => some (.inl (0, v61))) else (if l2 < 0 then (f_X7_isSo_j33 o l2 q.2 mem) else (rd (mem 87) 6 q.2 fun v28 => if v28 = l2 then (f_X7_isSo_j33 o l2 q.2 mem) else (lt' (q.2 + 1) fun v61 => some (.inl (1, v61))))))
noncomputable def f_X7_isSo (o : Nat) (l2 : Int32) (mem : Mem) : Option (Int32) :=
  ob (lp (f_X7_isSo_b5 o l2 mem) FU (1, 0)) fun q5 => bk q5.1 (some q5.1)
def P_X7_isSo_5 (E : Ex) (κ : Kx) (ad : Nat → Nat) (lay : List Ent) (o : Nat) (l2 : Int32) (mem : Mem) : (Int32 × Int32) ⊕ (Int32 × Int32) → Prop
  | .inl q => Gw E κ 5 0 0 5 [some (.ref (ad 62)), some (.ref (ad o)), some (.int l2), some (.int q.1), some (.int q.2)] [] ad lay mem
  | .inr q => Gw E κ 5 0 0 67 [none, none, none, some (.int q.1), none] [] ad lay mem
set_option maxRecDepth 100000 in
set_option maxHeartbeats 4000000 in
theorem j_X7_isSo_33 {E : Ex} {κ : Kx} {ad : Nat → Nat} {sh sp : Nat} {d : Nat} {o : Nat} (C : Cx E κ cX7_isSo RX7 5 (some .boolean) d) (hd : 4 ≤ d) (ho : isO o) {l2 : Int32} {l4 : Int32} {mem : Mem} {x : (Int32 × Int32) ⊕ (Int32 × Int32)} (h : f_X7_isSo_j33 o l2 l4 mem = some x) (hP : (P_X7_isSo_5 E κ ad (LC sh sp ++ LM) o l2 mem) x) : Gw E κ 5 0 0 33 [some (.ref (ad 62)), some (.ref (ad o)), some (.int l2), none, some (.int l4)] [] ad (LC sh sp ++ LM) mem := by
  unfold f_X7_isSo_j33 at h
  refine g_aload_n (pc := 33) (i := 0) (x := ad 62) C dX7_isSo_33 rfl rfl ?_
  refine g_aload_n (pc := 34) (i := 1) (x := ad o) C dX7_isSo_34 rfl rfl ?_
  refine g_aload_n (pc := 35) (i := 0) (x := ad 62) C dX7_isSo_35 rfl rfl ?_
  refine g_get (pc := 36) (v := .ref (ad 87)) C ok_X7 41 (by decide) wf_X7_83 dX7_isSo_36 la_62 rfl ?_
  refine g_iload (pc := 39) (i := 4) (x := l4) C dX7_isSo_39 rfl ?_
  obtain ⟨v41, hv41, hi41, h⟩ := rd_some h
  refine g_iald (pc := 41) C dX7_isSo_41 la_87 hi41 ?_
  refine g_topi hv41 ?_
  obtain ⟨r42, hcall42, h⟩ := ob_some h
  refine g_callV (pc := 42) C ce0 mi_X7_isSending mv_X7_isSending wm_X7_236 dX7_isSo_42 ok_X7 [.ref (ad o), .int v41] [] la_62 (by omega) rfl rfl (Nat.le_of_ble_eq_true rfl) (m_X7_isSending (d := d - 1) (by omega) ho hcall42) ?_
  show Gw E κ 5 0 0 45 [some (.ref (ad 62)), some (.ref (ad o)), some (.int l2), none, some (.int l4)] [.int r42] ad (LC sh sp ++ LM) mem
  refine g_aload_n (pc := 45) (i := 0) (x := ad 62) C dX7_isSo_45 rfl rfl ?_
  refine g_get (pc := 46) (v := .ref (ad 88)) C ok_X7 42 (by decide) wf_X7_86 dX7_isSo_46 la_62 rfl ?_
  refine g_iload (pc := 49) (i := 4) (x := l4) C dX7_isSo_49 rfl ?_
  obtain ⟨v51, hv51, hi51, h⟩ := rd_some h
  refine g_zald (pc := 51) C dX7_isSo_51 la_88 hi51 ?_
  refine g_topi hv51 ?_
  rcases ite_some' h with ⟨hc52, h⟩ | ⟨hc52, h⟩
  · refine g_icmp_ne_f (pc := 52) C 59 dX7_isSo_52 (by decide) hc52 ?_
    refine g_iconst (pc := 55) (v := 1) C dX7_isSo_55 rfl ?_
    refine g_goto (pc := 56) C 60 dX7_isSo_56 (by decide) ?_
    refine g_istore_n (pc := 60) (i := 3) (lv' := [some (.ref (ad 62)), some (.ref (ad o)), some (.int l2), some (.int 1), some (.int l4)]) C dX7_isSo_60 rfl (by decide) rfl rfl ?_
    obtain ⟨v61, hv61, h⟩ := lt_some h
    refine g_iinc (pc := 61) (i := 4) (x := l4) (v := v61) (lv' := [some (.ref (ad 62)), some (.ref (ad o)), some (.int l2), some (.int 1), some (.int v61)]) C dX7_isSo_61 rfl hv61.symm (by decide) rfl rfl ?_
    refine g_goto (pc := 64) C 5 dX7_isSo_64 (by decide) ?_
    cases h
    exact hP
  · refine g_icmp_ne_t (pc := 52) C 59 dX7_isSo_52 (by decide) hc52 ?_
    refine g_iconst (pc := 59) (v := 0) C dX7_isSo_59 rfl ?_
    refine g_istore_n (pc := 60) (i := 3) (lv' := [some (.ref (ad 62)), some (.ref (ad o)), some (.int l2), some (.int 0), some (.int l4)]) C dX7_isSo_60 rfl (by decide) rfl rfl ?_
    obtain ⟨v61, hv61, h⟩ := lt_some h
    refine g_iinc (pc := 61) (i := 4) (x := l4) (v := v61) (lv' := [some (.ref (ad 62)), some (.ref (ad o)), some (.int l2), some (.int 0), some (.int v61)]) C dX7_isSo_61 rfl hv61.symm (by decide) rfl rfl ?_
    refine g_goto (pc := 64) C 5 dX7_isSo_64 (by decide) ?_
    cases h
    exact hP
set_option maxRecDepth 100000 in
set_option maxHeartbeats 4000000 in
theorem b_X7_isSo_5 {E : Ex} {κ : Kx} {ad : Nat → Nat} {sh sp : Nat} {d : Nat} {o : Nat} (C : Cx E κ cX7_isSo RX7 5 (some .boolean) d) (hd : 4 ≤ d) (ho : isO o) {l2 : Int32} {mem : Mem} {q : Int32 × Int32} {x : (Int32 × Int32) ⊕ (Int32 × Int32)} (h : f_X7_isSo_b5 o l2 mem q = some x) (hP : (P_X7_isSo_5 E κ ad (LC sh sp ++ LM) o l2 mem) x) : Gw E κ 5 0 0 5 [some (.ref (ad 62)), some (.ref (ad o)), some (.int l2), some (.int q.1), some (.int q.2)] [] ad (LC sh sp ++ LM) mem := by
  unfold f_X7_isSo_b5 at h
  refine g_iload (pc := 5) (i := 4) (x := q.2) C dX7_isSo_5 rfl ?_
  refine g_aload_n (pc := 7) (i := 0) (x := ad 62) C dX7_isSo_7 rfl rfl ?_
  refine g_get (pc := 8) (v := .int (mem 62 40)) C ok_X7 40 (by decide) wf_X7_195 dX7_isSo_8 la_62 rfl ?_
  rcases ite_some' h with ⟨hc11, h⟩ | ⟨hc11, h⟩
  · refine g_icmp_ge_t (pc := 11) C 67 dX7_isSo_11 (by decide) hc11 ?_
    refine g_mask (lv' := [none, none, none, some (.int q.1), none]) [false, false, false, true, false] rfl ?_
    cases h
    exact hP
  · refine g_icmp_ge_f (pc := 11) C 67 dX7_isSo_11 (by decide) hc11 ?_
    refine g_iload_n (pc := 14) (i := 3) (x := q.1) C dX7_isSo_14 rfl rfl ?_
    rcases ite_some' h with ⟨hc15, h⟩ | ⟨hc15, h⟩
    · refine g_if_eq_t (pc := 15) C 59 dX7_isSo_15 (by decide) hc15 ?_
      refine g_iconst (pc := 59) (v := 0) C dX7_isSo_59 rfl ?_
      refine g_istore_n (pc := 60) (i := 3) (lv' := [some (.ref (ad 62)), some (.ref (ad o)), some (.int l2), some (.int 0), some (.int q.2)]) C dX7_isSo_60 rfl (by decide) rfl rfl ?_
      obtain ⟨v61, hv61, h⟩ := lt_some h
      refine g_iinc (pc := 61) (i := 4) (x := q.2) (v := v61) (lv' := [some (.ref (ad 62)), some (.ref (ad o)), some (.int l2), some (.int 0), some (.int v61)]) C dX7_isSo_61 rfl hv61.symm (by decide) rfl rfl ?_
      refine g_goto (pc := 64) C 5 dX7_isSo_64 (by decide) ?_
      cases h
      exact hP
    · refine g_if_eq_f (pc := 15) C 59 dX7_isSo_15 (by decide) hc15 ?_
      refine g_iload_n (pc := 18) (i := 2) (x := l2) C dX7_isSo_18 rfl rfl ?_
      rcases ite_some' h with ⟨hc19, h⟩ | ⟨hc19, h⟩
      · refine g_if_lt_t (pc := 19) C 33 dX7_isSo_19 (by decide) hc19 ?_
        refine g_mask (lv' := [some (.ref (ad 62)), some (.ref (ad o)), some (.int l2), none, some (.int q.2)]) [true, true, true, false, true] rfl ?_
        exact j_X7_isSo_33 C hd ho h hP
      · refine g_if_lt_f (pc := 19) C 33 dX7_isSo_19 (by decide) hc19 ?_
        refine g_aload_n (pc := 22) (i := 0) (x := ad 62) C dX7_isSo_22 rfl rfl ?_
        refine g_get (pc := 23) (v := .ref (ad 87)) C ok_X7 41 (by decide) wf_X7_83 dX7_isSo_23 la_62 rfl ?_
        refine g_iload (pc := 26) (i := 4) (x := q.2) C dX7_isSo_26 rfl ?_
        obtain ⟨v28, hv28, hi28, h⟩ := rd_some h
        refine g_iald (pc := 28) C dX7_isSo_28 la_87 hi28 ?_
        refine g_topi hv28 ?_
        refine g_iload_n (pc := 29) (i := 2) (x := l2) C dX7_isSo_29 rfl rfl ?_
        rcases ite_some' h with ⟨hc30, h⟩ | ⟨hc30, h⟩
        · refine g_icmp_ne_f (pc := 30) C 55 dX7_isSo_30 (by decide) hc30 ?_
          refine g_mask (lv' := [some (.ref (ad 62)), some (.ref (ad o)), some (.int l2), none, some (.int q.2)]) [true, true, true, false, true] rfl ?_
          exact j_X7_isSo_33 C hd ho h hP
        · refine g_icmp_ne_t (pc := 30) C 55 dX7_isSo_30 (by decide) hc30 ?_
          refine g_iconst (pc := 55) (v := 1) C dX7_isSo_55 rfl ?_
          refine g_goto (pc := 56) C 60 dX7_isSo_56 (by decide) ?_
          refine g_istore_n (pc := 60) (i := 3) (lv' := [some (.ref (ad 62)), some (.ref (ad o)), some (.int l2), some (.int 1), some (.int q.2)]) C dX7_isSo_60 rfl (by decide) rfl rfl ?_
          obtain ⟨v61, hv61, h⟩ := lt_some h
          refine g_iinc (pc := 61) (i := 4) (x := q.2) (v := v61) (lv' := [some (.ref (ad 62)), some (.ref (ad o)), some (.int l2), some (.int 1), some (.int v61)]) C dX7_isSo_61 rfl hv61.symm (by decide) rfl rfl ?_
          refine g_goto (pc := 64) C 5 dX7_isSo_64 (by decide) ?_
          cases h
          exact hP
set_option maxRecDepth 100000 in
set_option maxHeartbeats 4000000 in
theorem m_X7_isSo {E : Ex} {ad : Nat → Nat} {sh sp : Nat} {d : Nat} (hd : 4 ≤ d) {o : Nat} (ho : isO o) {l2 : Int32} {mem : Mem} {r : Int32} (h : f_X7_isSo o l2 mem = some r) : Cl E yX7_isSo cX7_isSo 5 (some .boolean) d [.ref (ad 62), .ref (ad o), .int l2] (some (.int r)) ad (LC sh sp ++ LM) mem (LC sh sp ++ LM) mem := by
  refine Cl.of [some (.ref (ad 62)), some (.ref (ad o)), some (.int l2), none, none] (by decide +kernel) rfl (Nat.le_of_ble_eq_true rfl) (fun κ C hP => ?_)
  have C : Cx E κ cX7_isSo RX7 5 (some .boolean) d := C
  unfold f_X7_isSo at h
  refine g_iconst (pc := 0) (v := 1) C dX7_isSo_0 rfl ?_
  refine g_istore_n (pc := 1) (i := 3) (lv' := [some (.ref (ad 62)), some (.ref (ad o)), some (.int l2), some (.int 1), none]) C dX7_isSo_1 rfl (by decide) rfl rfl ?_
  refine g_iconst (pc := 2) (v := 0) C dX7_isSo_2 rfl ?_
  refine g_istore (pc := 3) (i := 4) (lv' := [some (.ref (ad 62)), some (.ref (ad o)), some (.int l2), some (.int 1), some (.int 0)]) C dX7_isSo_3 (by decide) rfl rfl ?_
  obtain ⟨q5, hq, h⟩ := ob_some h
  refine lp_gw (P_X7_isSo_5 E κ ad (LC sh sp ++ LM) o l2 mem) (fun q x hb hp => b_X7_isSo_5 C hd ho hb hp) _ (1, 0) _ hq ?_
  show Gw E κ 5 0 0 67 [none, none, none, some (.int q5.1), none] [] ad (LC sh sp ++ LM) mem
  refine g_iload_n (pc := 67) (i := 3) (x := q5.1) C dX7_isSo_67 rfl rfl ?_
  obtain ⟨hb68, h⟩ := bk_some h
  cases h
  exact g_iret (pc := 68) C hP rfl (nb01 hb68).1 dX7_isSo_68

theorem dX7_wants_0 : decode cX7_wants 0 = .ok (.aload_n 0, 1) := by decide +kernel
theorem dX7_wants_1 : decode cX7_wants 1 = .ok (.iload_n 1, 1) := by decide +kernel
theorem dX7_wants_2 : decode cX7_wants 2 = .ok (.invokevirtual 243, 3) := by decide +kernel
theorem dX7_wants_5 : decode cX7_wants 5 = .ok (.ifCond .ne 5, 3) := by decide +kernel
theorem dX7_wants_8 : decode cX7_wants 8 = .ok (.iconst (-1), 1) := by decide +kernel
theorem dX7_wants_9 : decode cX7_wants 9 = .ok (.ireturn, 1) := by decide +kernel
theorem dX7_wants_10 : decode cX7_wants 10 = .ok (.iconst 0, 1) := by decide +kernel
theorem dX7_wants_11 : decode cX7_wants 11 = .ok (.istore_n 2, 1) := by decide +kernel
theorem dX7_wants_12 : decode cX7_wants 12 = .ok (.iconst 0, 1) := by decide +kernel
theorem dX7_wants_13 : decode cX7_wants 13 = .ok (.istore_n 3, 1) := by decide +kernel
theorem dX7_wants_14 : decode cX7_wants 14 = .ok (.iload_n 3, 1) := by decide +kernel
theorem dX7_wants_15 : decode cX7_wants 15 = .ok (.aload_n 0, 1) := by decide +kernel
theorem dX7_wants_16 : decode cX7_wants 16 = .ok (.getfield 180, 3) := by decide +kernel
theorem dX7_wants_19 : decode cX7_wants 19 = .ok (.if_icmp .ge 49, 3) := by decide +kernel
theorem dX7_wants_22 : decode cX7_wants 22 = .ok (.aload_n 0, 1) := by decide +kernel
theorem dX7_wants_23 : decode cX7_wants 23 = .ok (.invokevirtual 266, 3) := by decide +kernel
theorem dX7_wants_26 : decode cX7_wants 26 = .ok (.aload_n 0, 1) := by decide +kernel
theorem dX7_wants_27 : decode cX7_wants 27 = .ok (.getfield 55, 3) := by decide +kernel
theorem dX7_wants_30 : decode cX7_wants 30 = .ok (.bipush 16, 2) := by decide +kernel
theorem dX7_wants_32 : decode cX7_wants 32 = .ok (.iconst 2, 1) := by decide +kernel
theorem dX7_wants_33 : decode cX7_wants 33 = .ok (.iload_n 1, 1) := by decide +kernel
theorem dX7_wants_34 : decode cX7_wants 34 = .ok (.imul, 1) := by decide +kernel
theorem dX7_wants_35 : decode cX7_wants 35 = .ok (.iadd, 1) := by decide +kernel
theorem dX7_wants_36 : decode cX7_wants 36 = .ok (.iconst 1, 1) := by decide +kernel
theorem dX7_wants_37 : decode cX7_wants 37 = .ok (.iadd, 1) := by decide +kernel
theorem dX7_wants_38 : decode cX7_wants 38 = .ok (.iload_n 3, 1) := by decide +kernel
theorem dX7_wants_39 : decode cX7_wants 39 = .ok (.iastore, 1) := by decide +kernel
theorem dX7_wants_40 : decode cX7_wants 40 = .ok (.iload_n 2, 1) := by decide +kernel
theorem dX7_wants_41 : decode cX7_wants 41 = .ok (.aload_n 0, 1) := by decide +kernel
theorem dX7_wants_42 : decode cX7_wants 42 = .ok (.aload_n 0, 1) := by decide +kernel
theorem dX7_wants_43 : decode cX7_wants 43 = .ok (.getfield 55, 3) := by decide +kernel
theorem dX7_wants_46 : decode cX7_wants 46 = .ok (.iload_n 1, 1) := by decide +kernel
theorem dX7_wants_47 : decode cX7_wants 47 = .ok (.invokevirtual 290, 3) := by decide +kernel
theorem dX7_wants_50 : decode cX7_wants 50 = .ok (.ifCond .eq 9, 3) := by decide +kernel
theorem dX7_wants_53 : decode cX7_wants 53 = .ok (.iconst 1, 1) := by decide +kernel
theorem dX7_wants_54 : decode cX7_wants 54 = .ok (.iload_n 3, 1) := by decide +kernel
theorem dX7_wants_55 : decode cX7_wants 55 = .ok (.ishl, 1) := by decide +kernel
theorem dX7_wants_56 : decode cX7_wants 56 = .ok (.goto 4, 3) := by decide +kernel
theorem dX7_wants_59 : decode cX7_wants 59 = .ok (.iconst 0, 1) := by decide +kernel
theorem dX7_wants_60 : decode cX7_wants 60 = .ok (.ior, 1) := by decide +kernel
theorem dX7_wants_61 : decode cX7_wants 61 = .ok (.istore_n 2, 1) := by decide +kernel
theorem dX7_wants_62 : decode cX7_wants 62 = .ok (.iinc 3 1, 3) := by decide +kernel
theorem dX7_wants_65 : decode cX7_wants 65 = .ok (.goto (-51), 3) := by decide +kernel
theorem dX7_wants_68 : decode cX7_wants 68 = .ok (.iload_n 2, 1) := by decide +kernel
theorem dX7_wants_69 : decode cX7_wants 69 = .ok (.ireturn, 1) := by decide +kernel
noncomputable def f_X7_wants_b14 (l1 : Int32) (q : Int32 × Int32 × Mem) : Option ((Int32 × Int32 × Mem) ⊕ (Int32 × Int32 × Mem)) :=
  if (q.2.2 62 17) ≤ q.2.1 then (some (.inr (q.1, q.2.1, q.2.2))) else (ob (f_X7_copyNow q.2.2) fun m23 => wr m23 78 28 ((16 + (2 * l1)) + 1) q.2.1 fun m39 => ob (f_X7_isSo 78 l1 m39) fun r47 => if r47 = 0 then (lt' (q.1 ||| 0) fun v61 => lt' (q.2.1 + 1) fun v62 => some (.inl (v61, v62, m39))) else (lt' (q.1 ||| (1 <<< (q.2.1 &&& 31))) fun v61 => lt' (q.2.1 + 1) fun v62 => some (.inl (v61, v62, m39))))
noncomputable def f_X7_wants (l1 : Int32) (mem : Mem) : Option (Int32 × Mem) :=
  ob (f_X7_isSolver l1 mem) fun r2 => if r2 = 0 then (some ((-1), mem)) else (ob (lp (f_X7_wants_b14 l1) FU (0, 0, mem)) fun q14 => some (q14.1, q14.2.2))
def P_X7_wants_14 (E : Ex) (κ : Kx) (ad : Nat → Nat) (lay : List Ent) (l1 : Int32) : (Int32 × Int32 × Mem) ⊕ (Int32 × Int32 × Mem) → Prop
  | .inl q => Gw E κ 4 0 0 14 [some (.ref (ad 62)), some (.int l1), some (.int q.1), some (.int q.2.1)] [] ad lay q.2.2
  | .inr q => Gw E κ 4 0 0 68 [none, none, some (.int q.1), none] [] ad lay q.2.2
set_option maxRecDepth 100000 in
set_option maxHeartbeats 4000000 in
theorem b_X7_wants_14 {E : Ex} {κ : Kx} {ad : Nat → Nat} {sh sp : Nat} {d : Nat} (C : Cx E κ cX7_wants RX7 4 (some .int) d) (hd : 5 ≤ d)  {l1 : Int32} {q : Int32 × Int32 × Mem} {x : (Int32 × Int32 × Mem) ⊕ (Int32 × Int32 × Mem)} (h : f_X7_wants_b14 l1 q = some x) (hP : (P_X7_wants_14 E κ ad (LC sh sp ++ LM) l1) x) : Gw E κ 4 0 0 14 [some (.ref (ad 62)), some (.int l1), some (.int q.1), some (.int q.2.1)] [] ad (LC sh sp ++ LM) q.2.2 := by
  unfold f_X7_wants_b14 at h
  refine g_iload_n (pc := 14) (i := 3) (x := q.2.1) C dX7_wants_14 rfl rfl ?_
  refine g_aload_n (pc := 15) (i := 0) (x := ad 62) C dX7_wants_15 rfl rfl ?_
  refine g_get (pc := 16) (v := .int (q.2.2 62 17)) C ok_X7 17 (by decide) wf_X7_180 dX7_wants_16 la_62 rfl ?_
  rcases ite_some' h with ⟨hc19, h⟩ | ⟨hc19, h⟩
  · refine g_icmp_ge_t (pc := 19) C 68 dX7_wants_19 (by decide) hc19 ?_
    refine g_mask (lv' := [none, none, some (.int q.1), none]) [false, false, true, false] rfl ?_
    cases h
    exact hP
  · refine g_icmp_ge_f (pc := 19) C 68 dX7_wants_19 (by decide) hc19 ?_
    refine g_aload_n (pc := 22) (i := 0) (x := ad 62) C dX7_wants_22 rfl rfl ?_
    obtain ⟨m23, hcall23, h⟩ := ob_some h
    refine g_callV (pc := 23) C ce0 mi_X7_copyNow mv_X7_copyNow wm_X7_266 dX7_wants_23 ok_X7 [] [] la_62 (by omega) rfl rfl (Nat.le_of_ble_eq_true rfl) (m_X7_copyNow (d := d - 1) (by omega)  hcall23) ?_
    show Gw E κ 4 0 0 26 [some (.ref (ad 62)), some (.int l1), some (.int q.1), some (.int q.2.1)] [] ad (LC sh sp ++ LM) m23
    refine g_aload_n (pc := 26) (i := 0) (x := ad 62) C dX7_wants_26 rfl rfl ?_
    refine g_get (pc := 27) (v := .ref (ad 78)) C ok_X7 27 (by decide) wf_X7_55 dX7_wants_27 la_62 rfl ?_
    refine g_bipush (pc := 30) (v := 16) C dX7_wants_30 rfl ?_
    refine g_iconst (pc := 32) (v := 2) C dX7_wants_32 rfl ?_
    refine g_iload_n (pc := 33) (i := 1) (x := l1) C dX7_wants_33 rfl rfl ?_
    refine g_imul (pc := 34) C dX7_wants_34 ?_
    refine g_iadd (pc := 35) C dX7_wants_35 ?_
    refine g_iconst (pc := 36) (v := 1) C dX7_wants_36 rfl ?_
    refine g_iadd (pc := 37) C dX7_wants_37 ?_
    refine g_iload_n (pc := 38) (i := 3) (x := q.2.1) C dX7_wants_38 rfl rfl ?_
    obtain ⟨m39, hm39, hi39, h⟩ := wr_some h
    refine g_iast (pc := 39) C dX7_wants_39 la_78 hi39 ?_
    refine g_mem hm39 ?_
    refine g_iload_n (pc := 40) (i := 2) (x := q.1) C dX7_wants_40 rfl rfl ?_
    refine g_aload_n (pc := 41) (i := 0) (x := ad 62) C dX7_wants_41 rfl rfl ?_
    refine g_aload_n (pc := 42) (i := 0) (x := ad 62) C dX7_wants_42 rfl rfl ?_
    refine g_get (pc := 43) (v := .ref (ad 78)) C ok_X7 27 (by decide) wf_X7_55 dX7_wants_43 la_62 rfl ?_
    refine g_iload_n (pc := 46) (i := 1) (x := l1) C dX7_wants_46 rfl rfl ?_
    obtain ⟨r47, hcall47, h⟩ := ob_some h
    refine g_callV (pc := 47) C ce0 mi_X7_isSo mv_X7_isSo wm_X7_290 dX7_wants_47 ok_X7 [.ref (ad 78), .int l1] [.int q.1] la_62 (by omega) rfl rfl (Nat.le_of_ble_eq_true rfl) (m_X7_isSo (d := d - 1) (by omega) o_78 hcall47) ?_
    show Gw E κ 4 0 0 50 [some (.ref (ad 62)), some (.int l1), some (.int q.1), some (.int q.2.1)] [.int r47, .int q.1] ad (LC sh sp ++ LM) m39
    rcases ite_some' h with ⟨hc50, h⟩ | ⟨hc50, h⟩
    · refine g_if_eq_t (pc := 50) C 59 dX7_wants_50 (by decide) hc50 ?_
      refine g_iconst (pc := 59) (v := 0) C dX7_wants_59 rfl ?_
      refine g_ior (pc := 60) C dX7_wants_60 ?_
      obtain ⟨v61, hv61, h⟩ := lt_some h
      refine g_topi hv61 ?_
      refine g_istore_n (pc := 61) (i := 2) (lv' := [some (.ref (ad 62)), some (.int l1), some (.int v61), some (.int q.2.1)]) C dX7_wants_61 rfl (by decide) rfl rfl ?_
      obtain ⟨v62, hv62, h⟩ := lt_some h
      refine g_iinc (pc := 62) (i := 3) (x := q.2.1) (v := v62) (lv' := [some (.ref (ad 62)), some (.int l1), some (.int v61), some (.int v62)]) C dX7_wants_62 rfl hv62.symm (by decide) rfl rfl ?_
      refine g_goto (pc := 65) C 14 dX7_wants_65 (by decide) ?_
      cases h
      exact hP
    · refine g_if_eq_f (pc := 50) C 59 dX7_wants_50 (by decide) hc50 ?_
      refine g_iconst (pc := 53) (v := 1) C dX7_wants_53 rfl ?_
      refine g_iload_n (pc := 54) (i := 3) (x := q.2.1) C dX7_wants_54 rfl rfl ?_
      refine g_ishl (pc := 55) C dX7_wants_55 ?_
      refine g_goto (pc := 56) C 60 dX7_wants_56 (by decide) ?_
      refine g_ior (pc := 60) C dX7_wants_60 ?_
      obtain ⟨v61, hv61, h⟩ := lt_some h
      refine g_topi hv61 ?_
      refine g_istore_n (pc := 61) (i := 2) (lv' := [some (.ref (ad 62)), some (.int l1), some (.int v61), some (.int q.2.1)]) C dX7_wants_61 rfl (by decide) rfl rfl ?_
      obtain ⟨v62, hv62, h⟩ := lt_some h
      refine g_iinc (pc := 62) (i := 3) (x := q.2.1) (v := v62) (lv' := [some (.ref (ad 62)), some (.int l1), some (.int v61), some (.int v62)]) C dX7_wants_62 rfl hv62.symm (by decide) rfl rfl ?_
      refine g_goto (pc := 65) C 14 dX7_wants_65 (by decide) ?_
      cases h
      exact hP
set_option maxRecDepth 100000 in
set_option maxHeartbeats 4000000 in
theorem m_X7_wants {E : Ex} {ad : Nat → Nat} {sh sp : Nat} {d : Nat} (hd : 5 ≤ d)  {l1 : Int32} {mem : Mem} {r : Int32 × Mem} (h : f_X7_wants l1 mem = some r) : Cl E yX7_wants cX7_wants 4 (some .int) d [.ref (ad 62), .int l1] (some (.int r.1)) ad (LC sh sp ++ LM) mem (LC sh sp ++ LM) r.2 := by
  refine Cl.of [some (.ref (ad 62)), some (.int l1), none, none] (by decide +kernel) rfl (Nat.le_of_ble_eq_true rfl) (fun κ C hP => ?_)
  have C : Cx E κ cX7_wants RX7 4 (some .int) d := C
  unfold f_X7_wants at h
  refine g_aload_n (pc := 0) (i := 0) (x := ad 62) C dX7_wants_0 rfl rfl ?_
  refine g_iload_n (pc := 1) (i := 1) (x := l1) C dX7_wants_1 rfl rfl ?_
  obtain ⟨r2, hcall2, h⟩ := ob_some h
  refine g_callV (pc := 2) C ce0 mi_X7_isSolver mv_X7_isSolver wm_X7_243 dX7_wants_2 ok_X7 [.int l1] [] la_62 (by omega) rfl rfl (Nat.le_of_ble_eq_true rfl) (m_X7_isSolver (d := d - 1) (by omega)  hcall2) ?_
  show Gw E κ 4 0 0 5 [some (.ref (ad 62)), some (.int l1), none, none] [.int r2] ad (LC sh sp ++ LM) mem
  rcases ite_some' h with ⟨hc5, h⟩ | ⟨hc5, h⟩
  · refine g_if_ne_f (pc := 5) C 10 dX7_wants_5 (by decide) hc5 ?_
    refine g_iconst (pc := 8) (v := (-1)) C dX7_wants_8 rfl ?_
    cases h
    exact g_iret (pc := 9) C hP rfl rfl dX7_wants_9
  · refine g_if_ne_t (pc := 5) C 10 dX7_wants_5 (by decide) hc5 ?_
    refine g_iconst (pc := 10) (v := 0) C dX7_wants_10 rfl ?_
    refine g_istore_n (pc := 11) (i := 2) (lv' := [some (.ref (ad 62)), some (.int l1), some (.int 0), none]) C dX7_wants_11 rfl (by decide) rfl rfl ?_
    refine g_iconst (pc := 12) (v := 0) C dX7_wants_12 rfl ?_
    refine g_istore_n (pc := 13) (i := 3) (lv' := [some (.ref (ad 62)), some (.int l1), some (.int 0), some (.int 0)]) C dX7_wants_13 rfl (by decide) rfl rfl ?_
    obtain ⟨q14, hq, h⟩ := ob_some h
    refine lp_gw (P_X7_wants_14 E κ ad (LC sh sp ++ LM) l1) (fun q x hb hp => b_X7_wants_14 C hd hb hp) _ (0, 0, mem) _ hq ?_
    show Gw E κ 4 0 0 68 [none, none, some (.int q14.1), none] [] ad (LC sh sp ++ LM) q14.2.2
    refine g_iload_n (pc := 68) (i := 2) (x := q14.1) C dX7_wants_68 rfl rfl ?_
    cases h
    exact g_iret (pc := 69) C hP rfl rfl dX7_wants_69

theorem dX7_letters_0 : decode cX7_letters 0 = .ok (.aload_n 0, 1) := by decide +kernel
theorem dX7_letters_1 : decode cX7_letters 1 = .ok (.iload_n 1, 1) := by decide +kernel
theorem dX7_letters_2 : decode cX7_letters 2 = .ok (.invokevirtual 201, 3) := by decide +kernel
theorem dX7_letters_5 : decode cX7_letters 5 = .ok (.ifCond .ne 5, 3) := by decide +kernel
theorem dX7_letters_8 : decode cX7_letters 8 = .ok (.iconst (-1), 1) := by decide +kernel
theorem dX7_letters_9 : decode cX7_letters 9 = .ok (.ireturn, 1) := by decide +kernel
theorem dX7_letters_10 : decode cX7_letters 10 = .ok (.aload_n 0, 1) := by decide +kernel
theorem dX7_letters_11 : decode cX7_letters 11 = .ok (.getfield 31, 3) := by decide +kernel
theorem dX7_letters_14 : decode cX7_letters 14 = .ok (.iload_n 1, 1) := by decide +kernel
theorem dX7_letters_15 : decode cX7_letters 15 = .ok (.iaload, 1) := by decide +kernel
theorem dX7_letters_16 : decode cX7_letters 16 = .ok (.iconst 1, 1) := by decide +kernel
theorem dX7_letters_17 : decode cX7_letters 17 = .ok (.if_icmp .ne 6, 3) := by decide +kernel
theorem dX7_letters_20 : decode cX7_letters 20 = .ok (.bipush (-2), 2) := by decide +kernel
theorem dX7_letters_22 : decode cX7_letters 22 = .ok (.ireturn, 1) := by decide +kernel
theorem dX7_letters_23 : decode cX7_letters 23 = .ok (.iconst 0, 1) := by decide +kernel
theorem dX7_letters_24 : decode cX7_letters 24 = .ok (.istore_n 2, 1) := by decide +kernel
theorem dX7_letters_25 : decode cX7_letters 25 = .ok (.iconst 0, 1) := by decide +kernel
theorem dX7_letters_26 : decode cX7_letters 26 = .ok (.istore_n 3, 1) := by decide +kernel
theorem dX7_letters_27 : decode cX7_letters 27 = .ok (.iload_n 3, 1) := by decide +kernel
theorem dX7_letters_28 : decode cX7_letters 28 = .ok (.bipush 6, 2) := by decide +kernel
theorem dX7_letters_30 : decode cX7_letters 30 = .ok (.if_icmp .gt 42, 3) := by decide +kernel
theorem dX7_letters_33 : decode cX7_letters 33 = .ok (.aload_n 0, 1) := by decide +kernel
theorem dX7_letters_34 : decode cX7_letters 34 = .ok (.invokevirtual 266, 3) := by decide +kernel
theorem dX7_letters_37 : decode cX7_letters 37 = .ok (.aload_n 0, 1) := by decide +kernel
theorem dX7_letters_38 : decode cX7_letters 38 = .ok (.getfield 55, 3) := by decide +kernel
theorem dX7_letters_41 : decode cX7_letters 41 = .ok (.iload_n 1, 1) := by decide +kernel
theorem dX7_letters_42 : decode cX7_letters 42 = .ok (.iload_n 3, 1) := by decide +kernel
theorem dX7_letters_43 : decode cX7_letters 43 = .ok (.iastore, 1) := by decide +kernel
theorem dX7_letters_44 : decode cX7_letters 44 = .ok (.iload_n 2, 1) := by decide +kernel
theorem dX7_letters_45 : decode cX7_letters 45 = .ok (.aload_n 0, 1) := by decide +kernel
theorem dX7_letters_46 : decode cX7_letters 46 = .ok (.aload_n 0, 1) := by decide +kernel
theorem dX7_letters_47 : decode cX7_letters 47 = .ok (.getfield 55, 3) := by decide +kernel
theorem dX7_letters_50 : decode cX7_letters 50 = .ok (.iconst (-1), 1) := by decide +kernel
theorem dX7_letters_51 : decode cX7_letters 51 = .ok (.invokevirtual 290, 3) := by decide +kernel
theorem dX7_letters_54 : decode cX7_letters 54 = .ok (.ifCond .eq 9, 3) := by decide +kernel
theorem dX7_letters_57 : decode cX7_letters 57 = .ok (.iconst 1, 1) := by decide +kernel
theorem dX7_letters_58 : decode cX7_letters 58 = .ok (.iload_n 3, 1) := by decide +kernel
theorem dX7_letters_59 : decode cX7_letters 59 = .ok (.ishl, 1) := by decide +kernel
theorem dX7_letters_60 : decode cX7_letters 60 = .ok (.goto 4, 3) := by decide +kernel
theorem dX7_letters_63 : decode cX7_letters 63 = .ok (.iconst 0, 1) := by decide +kernel
theorem dX7_letters_64 : decode cX7_letters 64 = .ok (.ior, 1) := by decide +kernel
theorem dX7_letters_65 : decode cX7_letters 65 = .ok (.istore_n 2, 1) := by decide +kernel
theorem dX7_letters_66 : decode cX7_letters 66 = .ok (.iinc 3 1, 3) := by decide +kernel
theorem dX7_letters_69 : decode cX7_letters 69 = .ok (.goto (-42), 3) := by decide +kernel
theorem dX7_letters_72 : decode cX7_letters 72 = .ok (.iload_n 2, 1) := by decide +kernel
theorem dX7_letters_73 : decode cX7_letters 73 = .ok (.ireturn, 1) := by decide +kernel
noncomputable def f_X7_letters_b27 (l1 : Int32) (q : Int32 × Int32 × Mem) : Option ((Int32 × Int32 × Mem) ⊕ (Int32 × Int32 × Mem)) :=
  if 6 < q.2.1 then (some (.inr (q.1, q.2.1, q.2.2))) else (ob (f_X7_copyNow q.2.2) fun m34 => wr m34 78 28 l1 q.2.1 fun m43 => ob (f_X7_isSo 78 (-1) m43) fun r51 => if r51 = 0 then (lt' (q.1 ||| 0) fun v65 => lt' (q.2.1 + 1) fun v66 => some (.inl (v65, v66, m43))) else (lt' (q.1 ||| (1 <<< (q.2.1 &&& 31))) fun v65 => lt' (q.2.1 + 1) fun v66 => some (.inl (v65, v66, m43))))
noncomputable def f_X7_letters (l1 : Int32) (mem : Mem) : Option (Int32 × Mem) :=
  ob (f_X7_isSquare l1 mem) fun r2 => if r2 = 0 then (some ((-1), mem)) else (rd (mem 70) 16 l1 fun v15 => if v15 = 1 then (some ((-2), mem)) else (ob (lp (f_X7_letters_b27 l1) FU (0, 0, mem)) fun q27 => some (q27.1, q27.2.2)))
def P_X7_letters_27 (E : Ex) (κ : Kx) (ad : Nat → Nat) (lay : List Ent) (l1 : Int32) : (Int32 × Int32 × Mem) ⊕ (Int32 × Int32 × Mem) → Prop
  | .inl q => Gw E κ 4 0 0 27 [some (.ref (ad 62)), some (.int l1), some (.int q.1), some (.int q.2.1)] [] ad lay q.2.2
  | .inr q => Gw E κ 4 0 0 72 [none, none, some (.int q.1), none] [] ad lay q.2.2
set_option maxRecDepth 100000 in
set_option maxHeartbeats 4000000 in
theorem b_X7_letters_27 {E : Ex} {κ : Kx} {ad : Nat → Nat} {sh sp : Nat} {d : Nat} (C : Cx E κ cX7_letters RX7 4 (some .int) d) (hd : 5 ≤ d)  {l1 : Int32} {q : Int32 × Int32 × Mem} {x : (Int32 × Int32 × Mem) ⊕ (Int32 × Int32 × Mem)} (h : f_X7_letters_b27 l1 q = some x) (hP : (P_X7_letters_27 E κ ad (LC sh sp ++ LM) l1) x) : Gw E κ 4 0 0 27 [some (.ref (ad 62)), some (.int l1), some (.int q.1), some (.int q.2.1)] [] ad (LC sh sp ++ LM) q.2.2 := by
  unfold f_X7_letters_b27 at h
  refine g_iload_n (pc := 27) (i := 3) (x := q.2.1) C dX7_letters_27 rfl rfl ?_
  refine g_bipush (pc := 28) (v := 6) C dX7_letters_28 rfl ?_
  rcases ite_some' h with ⟨hc30, h⟩ | ⟨hc30, h⟩
  · refine g_icmp_gt_t (pc := 30) C 72 dX7_letters_30 (by decide) hc30 ?_
    refine g_mask (lv' := [none, none, some (.int q.1), none]) [false, false, true, false] rfl ?_
    cases h
    exact hP
  · refine g_icmp_gt_f (pc := 30) C 72 dX7_letters_30 (by decide) hc30 ?_
    refine g_aload_n (pc := 33) (i := 0) (x := ad 62) C dX7_letters_33 rfl rfl ?_
    obtain ⟨m34, hcall34, h⟩ := ob_some h
    refine g_callV (pc := 34) C ce0 mi_X7_copyNow mv_X7_copyNow wm_X7_266 dX7_letters_34 ok_X7 [] [] la_62 (by omega) rfl rfl (Nat.le_of_ble_eq_true rfl) (m_X7_copyNow (d := d - 1) (by omega)  hcall34) ?_
    show Gw E κ 4 0 0 37 [some (.ref (ad 62)), some (.int l1), some (.int q.1), some (.int q.2.1)] [] ad (LC sh sp ++ LM) m34
    refine g_aload_n (pc := 37) (i := 0) (x := ad 62) C dX7_letters_37 rfl rfl ?_
    refine g_get (pc := 38) (v := .ref (ad 78)) C ok_X7 27 (by decide) wf_X7_55 dX7_letters_38 la_62 rfl ?_
    refine g_iload_n (pc := 41) (i := 1) (x := l1) C dX7_letters_41 rfl rfl ?_
    refine g_iload_n (pc := 42) (i := 3) (x := q.2.1) C dX7_letters_42 rfl rfl ?_
    obtain ⟨m43, hm43, hi43, h⟩ := wr_some h
    refine g_iast (pc := 43) C dX7_letters_43 la_78 hi43 ?_
    refine g_mem hm43 ?_
    refine g_iload_n (pc := 44) (i := 2) (x := q.1) C dX7_letters_44 rfl rfl ?_
    refine g_aload_n (pc := 45) (i := 0) (x := ad 62) C dX7_letters_45 rfl rfl ?_
    refine g_aload_n (pc := 46) (i := 0) (x := ad 62) C dX7_letters_46 rfl rfl ?_
    refine g_get (pc := 47) (v := .ref (ad 78)) C ok_X7 27 (by decide) wf_X7_55 dX7_letters_47 la_62 rfl ?_
    refine g_iconst (pc := 50) (v := (-1)) C dX7_letters_50 rfl ?_
    obtain ⟨r51, hcall51, h⟩ := ob_some h
    refine g_callV (pc := 51) C ce0 mi_X7_isSo mv_X7_isSo wm_X7_290 dX7_letters_51 ok_X7 [.ref (ad 78), .int (-1)] [.int q.1] la_62 (by omega) rfl rfl (Nat.le_of_ble_eq_true rfl) (m_X7_isSo (d := d - 1) (by omega) o_78 hcall51) ?_
    show Gw E κ 4 0 0 54 [some (.ref (ad 62)), some (.int l1), some (.int q.1), some (.int q.2.1)] [.int r51, .int q.1] ad (LC sh sp ++ LM) m43
    rcases ite_some' h with ⟨hc54, h⟩ | ⟨hc54, h⟩
    · refine g_if_eq_t (pc := 54) C 63 dX7_letters_54 (by decide) hc54 ?_
      refine g_iconst (pc := 63) (v := 0) C dX7_letters_63 rfl ?_
      refine g_ior (pc := 64) C dX7_letters_64 ?_
      obtain ⟨v65, hv65, h⟩ := lt_some h
      refine g_topi hv65 ?_
      refine g_istore_n (pc := 65) (i := 2) (lv' := [some (.ref (ad 62)), some (.int l1), some (.int v65), some (.int q.2.1)]) C dX7_letters_65 rfl (by decide) rfl rfl ?_
      obtain ⟨v66, hv66, h⟩ := lt_some h
      refine g_iinc (pc := 66) (i := 3) (x := q.2.1) (v := v66) (lv' := [some (.ref (ad 62)), some (.int l1), some (.int v65), some (.int v66)]) C dX7_letters_66 rfl hv66.symm (by decide) rfl rfl ?_
      refine g_goto (pc := 69) C 27 dX7_letters_69 (by decide) ?_
      cases h
      exact hP
    · refine g_if_eq_f (pc := 54) C 63 dX7_letters_54 (by decide) hc54 ?_
      refine g_iconst (pc := 57) (v := 1) C dX7_letters_57 rfl ?_
      refine g_iload_n (pc := 58) (i := 3) (x := q.2.1) C dX7_letters_58 rfl rfl ?_
      refine g_ishl (pc := 59) C dX7_letters_59 ?_
      refine g_goto (pc := 60) C 64 dX7_letters_60 (by decide) ?_
      refine g_ior (pc := 64) C dX7_letters_64 ?_
      obtain ⟨v65, hv65, h⟩ := lt_some h
      refine g_topi hv65 ?_
      refine g_istore_n (pc := 65) (i := 2) (lv' := [some (.ref (ad 62)), some (.int l1), some (.int v65), some (.int q.2.1)]) C dX7_letters_65 rfl (by decide) rfl rfl ?_
      obtain ⟨v66, hv66, h⟩ := lt_some h
      refine g_iinc (pc := 66) (i := 3) (x := q.2.1) (v := v66) (lv' := [some (.ref (ad 62)), some (.int l1), some (.int v65), some (.int v66)]) C dX7_letters_66 rfl hv66.symm (by decide) rfl rfl ?_
      refine g_goto (pc := 69) C 27 dX7_letters_69 (by decide) ?_
      cases h
      exact hP
set_option maxRecDepth 100000 in
set_option maxHeartbeats 4000000 in
theorem m_X7_letters {E : Ex} {ad : Nat → Nat} {sh sp : Nat} {d : Nat} (hd : 5 ≤ d)  {l1 : Int32} {mem : Mem} {r : Int32 × Mem} (h : f_X7_letters l1 mem = some r) : Cl E yX7_letters cX7_letters 4 (some .int) d [.ref (ad 62), .int l1] (some (.int r.1)) ad (LC sh sp ++ LM) mem (LC sh sp ++ LM) r.2 := by
  refine Cl.of [some (.ref (ad 62)), some (.int l1), none, none] (by decide +kernel) rfl (Nat.le_of_ble_eq_true rfl) (fun κ C hP => ?_)
  have C : Cx E κ cX7_letters RX7 4 (some .int) d := C
  unfold f_X7_letters at h
  refine g_aload_n (pc := 0) (i := 0) (x := ad 62) C dX7_letters_0 rfl rfl ?_
  refine g_iload_n (pc := 1) (i := 1) (x := l1) C dX7_letters_1 rfl rfl ?_
  obtain ⟨r2, hcall2, h⟩ := ob_some h
  refine g_callV (pc := 2) C ce0 mi_X7_isSquare mv_X7_isSquare wm_X7_201 dX7_letters_2 ok_X7 [.int l1] [] la_62 (by omega) rfl rfl (Nat.le_of_ble_eq_true rfl) (m_X7_isSquare (d := d - 1) (by omega)  hcall2) ?_
  show Gw E κ 4 0 0 5 [some (.ref (ad 62)), some (.int l1), none, none] [.int r2] ad (LC sh sp ++ LM) mem
  rcases ite_some' h with ⟨hc5, h⟩ | ⟨hc5, h⟩
  · refine g_if_ne_f (pc := 5) C 10 dX7_letters_5 (by decide) hc5 ?_
    refine g_iconst (pc := 8) (v := (-1)) C dX7_letters_8 rfl ?_
    cases h
    exact g_iret (pc := 9) C hP rfl rfl dX7_letters_9
  · refine g_if_ne_t (pc := 5) C 10 dX7_letters_5 (by decide) hc5 ?_
    refine g_aload_n (pc := 10) (i := 0) (x := ad 62) C dX7_letters_10 rfl rfl ?_
    refine g_get (pc := 11) (v := .ref (ad 70)) C ok_X7 19 (by decide) wf_X7_31 dX7_letters_11 la_62 rfl ?_
    refine g_iload_n (pc := 14) (i := 1) (x := l1) C dX7_letters_14 rfl rfl ?_
    obtain ⟨v15, hv15, hi15, h⟩ := rd_some h
    refine g_iald (pc := 15) C dX7_letters_15 la_70 hi15 ?_
    refine g_topi hv15 ?_
    refine g_iconst (pc := 16) (v := 1) C dX7_letters_16 rfl ?_
    rcases ite_some' h with ⟨hc17, h⟩ | ⟨hc17, h⟩
    · refine g_icmp_ne_f (pc := 17) C 23 dX7_letters_17 (by decide) hc17 ?_
      refine g_bipush (pc := 20) (v := (-2)) C dX7_letters_20 rfl ?_
      cases h
      exact g_iret (pc := 22) C hP rfl rfl dX7_letters_22
    · refine g_icmp_ne_t (pc := 17) C 23 dX7_letters_17 (by decide) hc17 ?_
      refine g_iconst (pc := 23) (v := 0) C dX7_letters_23 rfl ?_
      refine g_istore_n (pc := 24) (i := 2) (lv' := [some (.ref (ad 62)), some (.int l1), some (.int 0), none]) C dX7_letters_24 rfl (by decide) rfl rfl ?_
      refine g_iconst (pc := 25) (v := 0) C dX7_letters_25 rfl ?_
      refine g_istore_n (pc := 26) (i := 3) (lv' := [some (.ref (ad 62)), some (.int l1), some (.int 0), some (.int 0)]) C dX7_letters_26 rfl (by decide) rfl rfl ?_
      obtain ⟨q27, hq, h⟩ := ob_some h
      refine lp_gw (P_X7_letters_27 E κ ad (LC sh sp ++ LM) l1) (fun q x hb hp => b_X7_letters_27 C hd hb hp) _ (0, 0, mem) _ hq ?_
      show Gw E κ 4 0 0 72 [none, none, some (.int q27.1), none] [] ad (LC sh sp ++ LM) q27.2.2
      refine g_iload_n (pc := 72) (i := 2) (x := q27.1) C dX7_letters_72 rfl rfl ?_
      cases h
      exact g_iret (pc := 73) C hP rfl rfl dX7_letters_73

theorem dX7_common_0 : decode cX7_common 0 = .ok (.lload_n 0, 1) := by decide +kernel
theorem dX7_common_1 : decode cX7_common 1 = .ok (.lstore 4, 2) := by decide +kernel
theorem dX7_common_3 : decode cX7_common 3 = .ok (.lload_n 2, 1) := by decide +kernel
theorem dX7_common_4 : decode cX7_common 4 = .ok (.lstore 6, 2) := by decide +kernel
theorem dX7_common_6 : decode cX7_common 6 = .ok (.lload 6, 2) := by decide +kernel
theorem dX7_common_8 : decode cX7_common 8 = .ok (.lconst 0, 1) := by decide +kernel
theorem dX7_common_9 : decode cX7_common 9 = .ok (.lcmp, 1) := by decide +kernel
theorem dX7_common_10 : decode cX7_common 10 = .ok (.ifCond .eq 21, 3) := by decide +kernel
theorem dX7_common_13 : decode cX7_common 13 = .ok (.lload 4, 2) := by decide +kernel
theorem dX7_common_15 : decode cX7_common 15 = .ok (.lload 6, 2) := by decide +kernel
theorem dX7_common_17 : decode cX7_common 17 = .ok (.lrem, 1) := by decide +kernel
theorem dX7_common_18 : decode cX7_common 18 = .ok (.lstore 8, 2) := by decide +kernel
theorem dX7_common_20 : decode cX7_common 20 = .ok (.lload 6, 2) := by decide +kernel
theorem dX7_common_22 : decode cX7_common 22 = .ok (.lstore 4, 2) := by decide +kernel
theorem dX7_common_24 : decode cX7_common 24 = .ok (.lload 8, 2) := by decide +kernel
theorem dX7_common_26 : decode cX7_common 26 = .ok (.lstore 6, 2) := by decide +kernel
theorem dX7_common_28 : decode cX7_common 28 = .ok (.goto (-22), 3) := by decide +kernel
theorem dX7_common_31 : decode cX7_common 31 = .ok (.lload 4, 2) := by decide +kernel
theorem dX7_common_33 : decode cX7_common 33 = .ok (.lreturn, 1) := by decide +kernel
noncomputable def f_X7_common_b6 (q : Int64 × Int64) : Option ((Int64 × Int64) ⊕ (Int64 × Int64)) :=
  if (lg_cmp q.2 0) = 0 then (some (.inr (q.1, q.2))) else (dkL q.2 (lt' (lrm q.1 q.2) fun v18 => some (.inl (q.2, v18))))
noncomputable def f_X7_common (l0 : Int64) (l2 : Int64) : Option (Int64) :=
  ob (lp f_X7_common_b6 FU (l0, l2)) fun q6 => some q6.1
def P_X7_common_6 (E : Ex) (κ : Kx) (ad : Nat → Nat) (lay : List Ent) (mem : Mem) : (Int64 × Int64) ⊕ (Int64 × Int64) → Prop
  | .inl q => Gw E κ 10 0 0 6 [none, none, none, none, some (.long q.1), none, some (.long q.2), none, none, none] [] ad lay mem
  | .inr q => Gw E κ 10 0 0 31 [none, none, none, none, some (.long q.1), none, none, none, none, none] [] ad lay mem
set_option maxRecDepth 100000 in
set_option maxHeartbeats 4000000 in
theorem b_X7_common_6 {E : Ex} {κ : Kx} {ad : Nat → Nat} {lay : List Ent} {d : Nat} (C : Cx E κ cX7_common RX7 10 (some .long) d) (hd : 0 ≤ d)  {mem : Mem} {q : Int64 × Int64} {x : (Int64 × Int64) ⊕ (Int64 × Int64)} (h : f_X7_common_b6  q = some x) (hP : (P_X7_common_6 E κ ad lay mem) x) : Gw E κ 10 0 0 6 [none, none, none, none, some (.long q.1), none, some (.long q.2), none, none, none] [] ad lay mem := by
  unfold f_X7_common_b6 at h
  refine g_lload (pc := 6) (i := 6) (x := q.2) C dX7_common_6 rfl ?_
  refine g_lconst (pc := 8) (v := 0) C dX7_common_8 rfl ?_
  refine g_lcmp (pc := 9) C dX7_common_9 ?_
  rcases ite_some' h with ⟨hc10, h⟩ | ⟨hc10, h⟩
  · refine g_if_eq_t (pc := 10) C 31 dX7_common_10 (by decide) hc10 ?_
    refine g_mask (lv' := [none, none, none, none, some (.long q.1), none, none, none, none, none]) [false, false, false, false, true, false, false, false, false, false] rfl ?_
    cases h
    exact hP
  · refine g_if_eq_f (pc := 10) C 31 dX7_common_10 (by decide) hc10 ?_
    refine g_lload (pc := 13) (i := 4) (x := q.1) C dX7_common_13 rfl ?_
    refine g_lload (pc := 15) (i := 6) (x := q.2) C dX7_common_15 rfl ?_
    obtain ⟨hz17, h⟩ := dkL_some h
    refine g_lrem' (pc := 17) C dX7_common_17 hz17 ?_
    obtain ⟨v18, hv18, h⟩ := lt_some h
    refine g_topl hv18 ?_
    refine g_lstore (pc := 18) (i := 8) (lv' := [none, none, none, none, some (.long q.1), none, some (.long q.2), none, some (.long v18), none]) C dX7_common_18 (by decide) rfl rfl ?_
    refine g_lload (pc := 20) (i := 6) (x := q.2) C dX7_common_20 rfl ?_
    refine g_lstore (pc := 22) (i := 4) (lv' := [none, none, none, none, some (.long q.2), none, some (.long q.2), none, some (.long v18), none]) C dX7_common_22 (by decide) rfl rfl ?_
    refine g_lload (pc := 24) (i := 8) (x := v18) C dX7_common_24 rfl ?_
    refine g_lstore (pc := 26) (i := 6) (lv' := [none, none, none, none, some (.long q.2), none, some (.long v18), none, some (.long v18), none]) C dX7_common_26 (by decide) rfl rfl ?_
    refine g_goto (pc := 28) C 6 dX7_common_28 (by decide) ?_
    refine g_mask (lv' := [none, none, none, none, some (.long q.2), none, some (.long v18), none, none, none]) [false, false, false, false, true, false, true, false, false, false] rfl ?_
    cases h
    exact hP
set_option maxRecDepth 100000 in
set_option maxHeartbeats 4000000 in
theorem m_X7_common {E : Ex} {ad : Nat → Nat} {lay : List Ent} {d : Nat} (hd : 0 ≤ d)  {l0 : Int64} {l2 : Int64} {mem : Mem} {r : Int64} (h : f_X7_common l0 l2 = some r) : Cl E yX7_common cX7_common 10 (some .long) d [.long l0, .long l2] (some (.long r)) ad lay mem lay mem := by
  refine Cl.of [some (.long l0), none, some (.long l2), none, none, none, none, none, none, none] (by decide +kernel) rfl (Nat.le_of_ble_eq_true rfl) (fun κ C hP => ?_)
  have C : Cx E κ cX7_common RX7 10 (some .long) d := C
  unfold f_X7_common at h
  refine g_lload_n (pc := 0) (i := 0) (x := l0) C dX7_common_0 rfl rfl ?_
  refine g_lstore (pc := 1) (i := 4) (lv' := [some (.long l0), none, some (.long l2), none, some (.long l0), none, none, none, none, none]) C dX7_common_1 (by decide) rfl rfl ?_
  refine g_lload_n (pc := 3) (i := 2) (x := l2) C dX7_common_3 rfl rfl ?_
  refine g_lstore (pc := 4) (i := 6) (lv' := [some (.long l0), none, some (.long l2), none, some (.long l0), none, some (.long l2), none, none, none]) C dX7_common_4 (by decide) rfl rfl ?_
  refine g_mask (lv' := [none, none, none, none, some (.long l0), none, some (.long l2), none, none, none]) [false, false, false, false, true, false, true, false, false, false] rfl ?_
  obtain ⟨q6, hq, h⟩ := ob_some h
  refine lp_gw (P_X7_common_6 E κ ad lay mem) (fun q x hb hp => b_X7_common_6 C hd hb hp) _ (l0, l2) _ hq ?_
  show Gw E κ 10 0 0 31 [none, none, none, none, some (.long q6.1), none, none, none, none, none] [] ad lay mem
  refine g_lload (pc := 31) (i := 4) (x := q6.1) C dX7_common_31 rfl ?_
  cases h
  exact g_lret (pc := 33) C hP rfl dX7_common_33
