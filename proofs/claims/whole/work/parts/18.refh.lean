theorem dX7_layFillings_0 : decode cX7_layFillings 0 = .ok (.aload_n 0, 1) := by decide +kernel
theorem dX7_layFillings_1 : decode cX7_layFillings 1 = .ok (.iconst 0, 1) := by decide +kernel
theorem dX7_layFillings_2 : decode cX7_layFillings 2 = .ok (.putfield 272, 3) := by decide +kernel
theorem dX7_layFillings_5 : decode cX7_layFillings 5 = .ok (.aload_n 0, 1) := by decide +kernel
theorem dX7_layFillings_6 : decode cX7_layFillings 6 = .ok (.iconst (-1), 1) := by decide +kernel
theorem dX7_layFillings_7 : decode cX7_layFillings 7 = .ok (.putfield 275, 3) := by decide +kernel
theorem dX7_layFillings_10 : decode cX7_layFillings 10 = .ok (.iconst 0, 1) := by decide +kernel
theorem dX7_layFillings_11 : decode cX7_layFillings 11 = .ok (.istore_n 1, 1) := by decide +kernel
theorem dX7_layFillings_12 : decode cX7_layFillings 12 = .ok (.iload_n 1, 1) := by decide +kernel
theorem dX7_layFillings_13 : decode cX7_layFillings 13 = .ok (.bipush 16, 2) := by decide +kernel
theorem dX7_layFillings_15 : decode cX7_layFillings 15 = .ok (.if_icmp .ge 28, 3) := by decide +kernel
theorem dX7_layFillings_18 : decode cX7_layFillings 18 = .ok (.aload_n 0, 1) := by decide +kernel
theorem dX7_layFillings_19 : decode cX7_layFillings 19 = .ok (.getfield 80, 3) := by decide +kernel
theorem dX7_layFillings_22 : decode cX7_layFillings 22 = .ok (.iload_n 1, 1) := by decide +kernel
theorem dX7_layFillings_23 : decode cX7_layFillings 23 = .ok (.iconst 0, 1) := by decide +kernel
theorem dX7_layFillings_24 : decode cX7_layFillings 24 = .ok (.iastore, 1) := by decide +kernel
theorem dX7_layFillings_25 : decode cX7_layFillings 25 = .ok (.aload_n 0, 1) := by decide +kernel
theorem dX7_layFillings_26 : decode cX7_layFillings 26 = .ok (.getfield 71, 3) := by decide +kernel
theorem dX7_layFillings_29 : decode cX7_layFillings 29 = .ok (.iload_n 1, 1) := by decide +kernel
theorem dX7_layFillings_30 : decode cX7_layFillings 30 = .ok (.aload_n 0, 1) := by decide +kernel
theorem dX7_layFillings_31 : decode cX7_layFillings 31 = .ok (.getfield 52, 3) := by decide +kernel
theorem dX7_layFillings_34 : decode cX7_layFillings 34 = .ok (.iload_n 1, 1) := by decide +kernel
theorem dX7_layFillings_35 : decode cX7_layFillings 35 = .ok (.iaload, 1) := by decide +kernel
theorem dX7_layFillings_36 : decode cX7_layFillings 36 = .ok (.iastore, 1) := by decide +kernel
theorem dX7_layFillings_37 : decode cX7_layFillings 37 = .ok (.iinc 1 1, 3) := by decide +kernel
theorem dX7_layFillings_40 : decode cX7_layFillings 40 = .ok (.goto (-28), 3) := by decide +kernel
theorem dX7_layFillings_43 : decode cX7_layFillings 43 = .ok (.iconst 0, 1) := by decide +kernel
theorem dX7_layFillings_44 : decode cX7_layFillings 44 = .ok (.istore_n 1, 1) := by decide +kernel
theorem dX7_layFillings_45 : decode cX7_layFillings 45 = .ok (.aload_n 0, 1) := by decide +kernel
theorem dX7_layFillings_46 : decode cX7_layFillings 46 = .ok (.getfield 177, 3) := by decide +kernel
theorem dX7_layFillings_49 : decode cX7_layFillings 49 = .ok (.ifCond .ne 8, 3) := by decide +kernel
theorem dX7_layFillings_52 : decode cX7_layFillings 52 = .ok (.aload_n 0, 1) := by decide +kernel
theorem dX7_layFillings_53 : decode cX7_layFillings 53 = .ok (.invokevirtual 278, 3) := by decide +kernel
theorem dX7_layFillings_56 : decode cX7_layFillings 56 = .ok (.return_, 1) := by decide +kernel
theorem dX7_layFillings_57 : decode cX7_layFillings 57 = .ok (.aload_n 0, 1) := by decide +kernel
theorem dX7_layFillings_58 : decode cX7_layFillings 58 = .ok (.getfield 74, 3) := by decide +kernel
theorem dX7_layFillings_61 : decode cX7_layFillings 61 = .ok (.iconst 0, 1) := by decide +kernel
theorem dX7_layFillings_62 : decode cX7_layFillings 62 = .ok (.iconst (-1), 1) := by decide +kernel
theorem dX7_layFillings_63 : decode cX7_layFillings 63 = .ok (.iastore, 1) := by decide +kernel
theorem dX7_layFillings_64 : decode cX7_layFillings 64 = .ok (.iload_n 1, 1) := by decide +kernel
theorem dX7_layFillings_65 : decode cX7_layFillings 65 = .ok (.ifCond .lt 76, 3) := by decide +kernel
theorem dX7_layFillings_68 : decode cX7_layFillings 68 = .ok (.aload_n 0, 1) := by decide +kernel
theorem dX7_layFillings_69 : decode cX7_layFillings 69 = .ok (.getfield 74, 3) := by decide +kernel
theorem dX7_layFillings_72 : decode cX7_layFillings 72 = .ok (.iload_n 1, 1) := by decide +kernel
theorem dX7_layFillings_73 : decode cX7_layFillings 73 = .ok (.dup2, 1) := by decide +kernel
theorem dX7_layFillings_74 : decode cX7_layFillings 74 = .ok (.iaload, 1) := by decide +kernel
theorem dX7_layFillings_75 : decode cX7_layFillings 75 = .ok (.iconst 1, 1) := by decide +kernel
theorem dX7_layFillings_76 : decode cX7_layFillings 76 = .ok (.iadd, 1) := by decide +kernel
theorem dX7_layFillings_77 : decode cX7_layFillings 77 = .ok (.iastore, 1) := by decide +kernel
theorem dX7_layFillings_78 : decode cX7_layFillings 78 = .ok (.aload_n 0, 1) := by decide +kernel
theorem dX7_layFillings_79 : decode cX7_layFillings 79 = .ok (.getfield 74, 3) := by decide +kernel
theorem dX7_layFillings_82 : decode cX7_layFillings 82 = .ok (.iload_n 1, 1) := by decide +kernel
theorem dX7_layFillings_83 : decode cX7_layFillings 83 = .ok (.iaload, 1) := by decide +kernel
theorem dX7_layFillings_84 : decode cX7_layFillings 84 = .ok (.aload_n 0, 1) := by decide +kernel
theorem dX7_layFillings_85 : decode cX7_layFillings 85 = .ok (.getfield 180, 3) := by decide +kernel
theorem dX7_layFillings_88 : decode cX7_layFillings 88 = .ok (.if_icmp .ne 9, 3) := by decide +kernel
theorem dX7_layFillings_91 : decode cX7_layFillings 91 = .ok (.iinc 1 (-1), 3) := by decide +kernel
theorem dX7_layFillings_94 : decode cX7_layFillings 94 = .ok (.goto (-30), 3) := by decide +kernel
theorem dX7_layFillings_97 : decode cX7_layFillings 97 = .ok (.aload_n 0, 1) := by decide +kernel
theorem dX7_layFillings_98 : decode cX7_layFillings 98 = .ok (.iload_n 1, 1) := by decide +kernel
theorem dX7_layFillings_99 : decode cX7_layFillings 99 = .ok (.aload_n 0, 1) := by decide +kernel
theorem dX7_layFillings_100 : decode cX7_layFillings 100 = .ok (.getfield 74, 3) := by decide +kernel
theorem dX7_layFillings_103 : decode cX7_layFillings 103 = .ok (.iload_n 1, 1) := by decide +kernel
theorem dX7_layFillings_104 : decode cX7_layFillings 104 = .ok (.iaload, 1) := by decide +kernel
theorem dX7_layFillings_105 : decode cX7_layFillings 105 = .ok (.invokevirtual 281, 3) := by decide +kernel
theorem dX7_layFillings_108 : decode cX7_layFillings 108 = .ok (.ifCond .eq (-44), 3) := by decide +kernel
theorem dX7_layFillings_111 : decode cX7_layFillings 111 = .ok (.iload_n 1, 1) := by decide +kernel
theorem dX7_layFillings_112 : decode cX7_layFillings 112 = .ok (.aload_n 0, 1) := by decide +kernel
theorem dX7_layFillings_113 : decode cX7_layFillings 113 = .ok (.getfield 177, 3) := by decide +kernel
theorem dX7_layFillings_116 : decode cX7_layFillings 116 = .ok (.iconst 1, 1) := by decide +kernel
theorem dX7_layFillings_117 : decode cX7_layFillings 117 = .ok (.isub, 1) := by decide +kernel
theorem dX7_layFillings_118 : decode cX7_layFillings 118 = .ok (.if_icmp .ne 10, 3) := by decide +kernel
theorem dX7_layFillings_121 : decode cX7_layFillings 121 = .ok (.aload_n 0, 1) := by decide +kernel
theorem dX7_layFillings_122 : decode cX7_layFillings 122 = .ok (.invokevirtual 278, 3) := by decide +kernel
theorem dX7_layFillings_125 : decode cX7_layFillings 125 = .ok (.goto (-61), 3) := by decide +kernel
theorem dX7_layFillings_128 : decode cX7_layFillings 128 = .ok (.iinc 1 1, 3) := by decide +kernel
theorem dX7_layFillings_131 : decode cX7_layFillings 131 = .ok (.aload_n 0, 1) := by decide +kernel
theorem dX7_layFillings_132 : decode cX7_layFillings 132 = .ok (.getfield 74, 3) := by decide +kernel
theorem dX7_layFillings_135 : decode cX7_layFillings 135 = .ok (.iload_n 1, 1) := by decide +kernel
theorem dX7_layFillings_136 : decode cX7_layFillings 136 = .ok (.iconst (-1), 1) := by decide +kernel
theorem dX7_layFillings_137 : decode cX7_layFillings 137 = .ok (.iastore, 1) := by decide +kernel
theorem dX7_layFillings_138 : decode cX7_layFillings 138 = .ok (.goto (-74), 3) := by decide +kernel
theorem dX7_layFillings_141 : decode cX7_layFillings 141 = .ok (.return_, 1) := by decide +kernel
noncomputable def f_X7_layFillings_b12 (q : Int32 × Mem) : Option ((Int32 × Mem) ⊕ (Int32 × Mem)) :=
  if 16 ≤ q.1 then (some (.inr (q.1, q.2))) else (wr q.2 86 16 q.1 0 fun m24 => rd (m24 77) 28 q.1 fun v35 => wr m24 83 144 q.1 v35 fun m36 => lt' (q.1 + 1) fun v37 => some (.inl (v37, m36)))
noncomputable def f_X7_layFillings_b64 (q : Int32 × Mem) : Option ((Int32 × Mem) ⊕ (Int32 × Mem)) :=
  if q.1 < 0 then (some (.inr (q.1, q.2))) else (rd (q.2 84) 8 q.1 fun v74 => wr q.2 84 8 q.1 (v74 + 1) fun m77 => rd (m77 84) 8 q.1 fun v83 => if v83 = (m77 62 17) then (lt' (q.1 + (-1)) fun v91 => some (.inl (v91, m77))) else (rd (m77 84) 8 q.1 fun v104 => ob2 (f_X7_fills q.1 v104 m77) fun r105 m105 => if r105 = 0 then (some (.inl (q.1, m105))) else (if q.1 = ((m105 62 16) - 1) then (ob (f_X7_filled m105) fun m122 => some (.inl (q.1, m122))) else (lt' (q.1 + 1) fun v128 => wr m105 84 8 v128 (-1) fun m137 => some (.inl (v128, m137))))))
noncomputable def f_X7_layFillings  (mem : Mem) : Option (Mem) :=
  lt' (mset mem 62 38 0) fun m2 => lt' (mset m2 62 39 (-1)) fun m7 => ob (lp f_X7_layFillings_b12 FU (0, m7)) fun q12 => if (q12.2 62 16) = 0 then (ob (f_X7_filled q12.2) fun m53 => some m53) else (wr q12.2 84 8 0 (-1) fun m63 => ob (lp f_X7_layFillings_b64 FU (0, m63)) fun q64 => some q64.2)
def P_X7_layFillings_12 (E : Ex) (κ : Kx) (ad : Nat → Nat) (lay : List Ent) : (Int32 × Mem) ⊕ (Int32 × Mem) → Prop
  | .inl q => Gw E κ 2 0 0 12 [some (.ref (ad 62)), some (.int q.1)] [] ad lay q.2
  | .inr q => Gw E κ 2 0 0 43 [some (.ref (ad 62)), none] [] ad lay q.2
def P_X7_layFillings_64 (E : Ex) (κ : Kx) (ad : Nat → Nat) (lay : List Ent) : (Int32 × Mem) ⊕ (Int32 × Mem) → Prop
  | .inl q => Gw E κ 2 0 0 64 [some (.ref (ad 62)), some (.int q.1)] [] ad lay q.2
  | .inr q => Gw E κ 2 0 0 141 [none, none] [] ad lay q.2
set_option maxRecDepth 100000 in
set_option maxHeartbeats 4000000 in
theorem b_X7_layFillings_12 {E : Ex} {κ : Kx} {ad : Nat → Nat} {sh sp : Nat} {d : Nat} (C : Cx E κ cX7_layFillings RX7 2 none d) (hd : 2 ≤ d)  {q : Int32 × Mem} {x : (Int32 × Mem) ⊕ (Int32 × Mem)} (h : f_X7_layFillings_b12  q = some x) (hP : (P_X7_layFillings_12 E κ ad (LC sh sp ++ LM) ) x) : Gw E κ 2 0 0 12 [some (.ref (ad 62)), some (.int q.1)] [] ad (LC sh sp ++ LM) q.2 := by
  unfold f_X7_layFillings_b12 at h
  refine g_iload_n (pc := 12) (i := 1) (x := q.1) C dX7_layFillings_12 rfl rfl ?_
  refine g_bipush (pc := 13) (v := 16) C dX7_layFillings_13 rfl ?_
  rcases ite_some' h with ⟨hc15, h⟩ | ⟨hc15, h⟩
  · refine g_icmp_ge_t (pc := 15) C 43 dX7_layFillings_15 (by decide) hc15 ?_
    refine g_mask (lv' := [some (.ref (ad 62)), none]) [true, false] rfl ?_
    cases h
    exact hP
  · refine g_icmp_ge_f (pc := 15) C 43 dX7_layFillings_15 (by decide) hc15 ?_
    refine g_aload_n (pc := 18) (i := 0) (x := ad 62) C dX7_layFillings_18 rfl rfl ?_
    refine g_get (pc := 19) (v := .ref (ad 86)) C ok_X7 37 (by decide) wf_X7_80 dX7_layFillings_19 la_62 rfl ?_
    refine g_iload_n (pc := 22) (i := 1) (x := q.1) C dX7_layFillings_22 rfl rfl ?_
    refine g_iconst (pc := 23) (v := 0) C dX7_layFillings_23 rfl ?_
    obtain ⟨m24, hm24, hi24, h⟩ := wr_some h
    refine g_iast (pc := 24) C dX7_layFillings_24 la_86 hi24 ?_
    refine g_mem hm24 ?_
    refine g_aload_n (pc := 25) (i := 0) (x := ad 62) C dX7_layFillings_25 rfl rfl ?_
    refine g_get (pc := 26) (v := .ref (ad 83)) C ok_X7 34 (by decide) wf_X7_71 dX7_layFillings_26 la_62 rfl ?_
    refine g_iload_n (pc := 29) (i := 1) (x := q.1) C dX7_layFillings_29 rfl rfl ?_
    refine g_aload_n (pc := 30) (i := 0) (x := ad 62) C dX7_layFillings_30 rfl rfl ?_
    refine g_get (pc := 31) (v := .ref (ad 77)) C ok_X7 26 (by decide) wf_X7_52 dX7_layFillings_31 la_62 rfl ?_
    refine g_iload_n (pc := 34) (i := 1) (x := q.1) C dX7_layFillings_34 rfl rfl ?_
    obtain ⟨v35, hv35, hi35, h⟩ := rd_some h
    refine g_iald (pc := 35) C dX7_layFillings_35 la_77 hi35 ?_
    refine g_topi hv35 ?_
    obtain ⟨m36, hm36, hi36, h⟩ := wr_some h
    refine g_iast (pc := 36) C dX7_layFillings_36 la_83 hi36 ?_
    refine g_mem hm36 ?_
    obtain ⟨v37, hv37, h⟩ := lt_some h
    refine g_iinc (pc := 37) (i := 1) (x := q.1) (v := v37) (lv' := [some (.ref (ad 62)), some (.int v37)]) C dX7_layFillings_37 rfl hv37.symm (by decide) rfl rfl ?_
    refine g_goto (pc := 40) C 12 dX7_layFillings_40 (by decide) ?_
    cases h
    exact hP
set_option maxRecDepth 100000 in
set_option maxHeartbeats 4000000 in
theorem b_X7_layFillings_64 {E : Ex} {κ : Kx} {ad : Nat → Nat} {sh sp : Nat} {d : Nat} (C : Cx E κ cX7_layFillings RX7 2 none d) (hd : 2 ≤ d)  {q : Int32 × Mem} {x : (Int32 × Mem) ⊕ (Int32 × Mem)} (h : f_X7_layFillings_b64  q = some x) (hP : (P_X7_layFillings_64 E κ ad (LC sh sp ++ LM) ) x) : Gw E κ 2 0 0 64 [some (.ref (ad 62)), some (.int q.1)] [] ad (LC sh sp ++ LM) q.2 := by
  unfold f_X7_layFillings_b64 at h
  refine g_iload_n (pc := 64) (i := 1) (x := q.1) C dX7_layFillings_64 rfl rfl ?_
  rcases ite_some' h with ⟨hc65, h⟩ | ⟨hc65, h⟩
  · refine g_if_lt_t (pc := 65) C 141 dX7_layFillings_65 (by decide) hc65 ?_
    refine g_mask (lv' := [none, none]) [false, false] rfl ?_
    cases h
    exact hP
  · refine g_if_lt_f (pc := 65) C 141 dX7_layFillings_65 (by decide) hc65 ?_
    refine g_aload_n (pc := 68) (i := 0) (x := ad 62) C dX7_layFillings_68 rfl rfl ?_
    refine g_get (pc := 69) (v := .ref (ad 84)) C ok_X7 35 (by decide) wf_X7_74 dX7_layFillings_69 la_62 rfl ?_
    refine g_iload_n (pc := 72) (i := 1) (x := q.1) C dX7_layFillings_72 rfl rfl ?_
    refine g_dup2 (pc := 73) C dX7_layFillings_73 rfl rfl ?_
    obtain ⟨v74, hv74, hi74, h⟩ := rd_some h
    refine g_iald (pc := 74) C dX7_layFillings_74 la_84 hi74 ?_
    refine g_topi hv74 ?_
    refine g_iconst (pc := 75) (v := 1) C dX7_layFillings_75 rfl ?_
    refine g_iadd (pc := 76) C dX7_layFillings_76 ?_
    obtain ⟨m77, hm77, hi77, h⟩ := wr_some h
    refine g_iast (pc := 77) C dX7_layFillings_77 la_84 hi77 ?_
    refine g_mem hm77 ?_
    refine g_aload_n (pc := 78) (i := 0) (x := ad 62) C dX7_layFillings_78 rfl rfl ?_
    refine g_get (pc := 79) (v := .ref (ad 84)) C ok_X7 35 (by decide) wf_X7_74 dX7_layFillings_79 la_62 rfl ?_
    refine g_iload_n (pc := 82) (i := 1) (x := q.1) C dX7_layFillings_82 rfl rfl ?_
    obtain ⟨v83, hv83, hi83, h⟩ := rd_some h
    refine g_iald (pc := 83) C dX7_layFillings_83 la_84 hi83 ?_
    refine g_topi hv83 ?_
    refine g_aload_n (pc := 84) (i := 0) (x := ad 62) C dX7_layFillings_84 rfl rfl ?_
    refine g_get (pc := 85) (v := .int (m77 62 17)) C ok_X7 17 (by decide) wf_X7_180 dX7_layFillings_85 la_62 rfl ?_
    rcases ite_some' h with ⟨hc88, h⟩ | ⟨hc88, h⟩
    · refine g_icmp_ne_f (pc := 88) C 97 dX7_layFillings_88 (by decide) hc88 ?_
      obtain ⟨v91, hv91, h⟩ := lt_some h
      refine g_iinc (pc := 91) (i := 1) (x := q.1) (v := v91) (lv' := [some (.ref (ad 62)), some (.int v91)]) C dX7_layFillings_91 rfl hv91.symm (by decide) rfl rfl ?_
      refine g_goto (pc := 94) C 64 dX7_layFillings_94 (by decide) ?_
      cases h
      exact hP
    · refine g_icmp_ne_t (pc := 88) C 97 dX7_layFillings_88 (by decide) hc88 ?_
      refine g_aload_n (pc := 97) (i := 0) (x := ad 62) C dX7_layFillings_97 rfl rfl ?_
      refine g_iload_n (pc := 98) (i := 1) (x := q.1) C dX7_layFillings_98 rfl rfl ?_
      refine g_aload_n (pc := 99) (i := 0) (x := ad 62) C dX7_layFillings_99 rfl rfl ?_
      refine g_get (pc := 100) (v := .ref (ad 84)) C ok_X7 35 (by decide) wf_X7_74 dX7_layFillings_100 la_62 rfl ?_
      refine g_iload_n (pc := 103) (i := 1) (x := q.1) C dX7_layFillings_103 rfl rfl ?_
      obtain ⟨v104, hv104, hi104, h⟩ := rd_some h
      refine g_iald (pc := 104) C dX7_layFillings_104 la_84 hi104 ?_
      refine g_topi hv104 ?_
      obtain ⟨r105, m105, hcall105, h⟩ := ob2_some h
      refine g_callV (pc := 105) C ce0 mi_X7_fills mv_X7_fills wm_X7_281 dX7_layFillings_105 ok_X7 [.int q.1, .int v104] [] la_62 (by omega) rfl rfl (Nat.le_of_ble_eq_true rfl) (m_X7_fills (d := d - 1) (by omega)  hcall105) ?_
      show Gw E κ 2 0 0 108 [some (.ref (ad 62)), some (.int q.1)] [.int r105] ad (LC sh sp ++ LM) m105
      rcases ite_some' h with ⟨hc108, h⟩ | ⟨hc108, h⟩
      · refine g_if_eq_t (pc := 108) C 64 dX7_layFillings_108 (by decide) hc108 ?_
        cases h
        exact hP
      · refine g_if_eq_f (pc := 108) C 64 dX7_layFillings_108 (by decide) hc108 ?_
        refine g_iload_n (pc := 111) (i := 1) (x := q.1) C dX7_layFillings_111 rfl rfl ?_
        refine g_aload_n (pc := 112) (i := 0) (x := ad 62) C dX7_layFillings_112 rfl rfl ?_
        refine g_get (pc := 113) (v := .int (m105 62 16)) C ok_X7 16 (by decide) wf_X7_177 dX7_layFillings_113 la_62 rfl ?_
        refine g_iconst (pc := 116) (v := 1) C dX7_layFillings_116 rfl ?_
        refine g_isub (pc := 117) C dX7_layFillings_117 ?_
        rcases ite_some' h with ⟨hc118, h⟩ | ⟨hc118, h⟩
        · refine g_icmp_ne_f (pc := 118) C 128 dX7_layFillings_118 (by decide) hc118 ?_
          refine g_aload_n (pc := 121) (i := 0) (x := ad 62) C dX7_layFillings_121 rfl rfl ?_
          obtain ⟨m122, hcall122, h⟩ := ob_some h
          refine g_callV (pc := 122) C ce0 mi_X7_filled mv_X7_filled wm_X7_278 dX7_layFillings_122 ok_X7 [] [] la_62 (by omega) rfl rfl (Nat.le_of_ble_eq_true rfl) (m_X7_filled (d := d - 1) (by omega)  hcall122) ?_
          show Gw E κ 2 0 0 125 [some (.ref (ad 62)), some (.int q.1)] [] ad (LC sh sp ++ LM) m122
          refine g_goto (pc := 125) C 64 dX7_layFillings_125 (by decide) ?_
          cases h
          exact hP
        · refine g_icmp_ne_t (pc := 118) C 128 dX7_layFillings_118 (by decide) hc118 ?_
          obtain ⟨v128, hv128, h⟩ := lt_some h
          refine g_iinc (pc := 128) (i := 1) (x := q.1) (v := v128) (lv' := [some (.ref (ad 62)), some (.int v128)]) C dX7_layFillings_128 rfl hv128.symm (by decide) rfl rfl ?_
          refine g_aload_n (pc := 131) (i := 0) (x := ad 62) C dX7_layFillings_131 rfl rfl ?_
          refine g_get (pc := 132) (v := .ref (ad 84)) C ok_X7 35 (by decide) wf_X7_74 dX7_layFillings_132 la_62 rfl ?_
          refine g_iload_n (pc := 135) (i := 1) (x := v128) C dX7_layFillings_135 rfl rfl ?_
          refine g_iconst (pc := 136) (v := (-1)) C dX7_layFillings_136 rfl ?_
          obtain ⟨m137, hm137, hi137, h⟩ := wr_some h
          refine g_iast (pc := 137) C dX7_layFillings_137 la_84 hi137 ?_
          refine g_mem hm137 ?_
          refine g_goto (pc := 138) C 64 dX7_layFillings_138 (by decide) ?_
          cases h
          exact hP
set_option maxRecDepth 100000 in
set_option maxHeartbeats 4000000 in
theorem m_X7_layFillings {E : Ex} {ad : Nat → Nat} {sh sp : Nat} {d : Nat} (hd : 2 ≤ d)   {mem : Mem} {r : Mem} (h : f_X7_layFillings mem = some r) : Cl E yX7_layFillings cX7_layFillings 2 none d [.ref (ad 62)] none ad (LC sh sp ++ LM) mem (LC sh sp ++ LM) r := by
  refine Cl.of [some (.ref (ad 62)), none] (by decide +kernel) rfl (Nat.le_of_ble_eq_true rfl) (fun κ C hP => ?_)
  have C : Cx E κ cX7_layFillings RX7 2 none d := C
  unfold f_X7_layFillings at h
  refine g_aload_n (pc := 0) (i := 0) (x := ad 62) C dX7_layFillings_0 rfl rfl ?_
  refine g_iconst (pc := 1) (v := 0) C dX7_layFillings_1 rfl ?_
  obtain ⟨m2, hm2, h⟩ := lt_some h
  refine g_put (pc := 2) C ok_X7 38 (by decide) wf_X7_272 dX7_layFillings_2 rfl rfl la_62 ?_
  refine g_mem hm2 ?_
  refine g_aload_n (pc := 5) (i := 0) (x := ad 62) C dX7_layFillings_5 rfl rfl ?_
  refine g_iconst (pc := 6) (v := (-1)) C dX7_layFillings_6 rfl ?_
  obtain ⟨m7, hm7, h⟩ := lt_some h
  refine g_put (pc := 7) C ok_X7 39 (by decide) wf_X7_275 dX7_layFillings_7 rfl rfl la_62 ?_
  refine g_mem hm7 ?_
  refine g_iconst (pc := 10) (v := 0) C dX7_layFillings_10 rfl ?_
  refine g_istore_n (pc := 11) (i := 1) (lv' := [some (.ref (ad 62)), some (.int 0)]) C dX7_layFillings_11 rfl (by decide) rfl rfl ?_
  obtain ⟨q12, hq, h⟩ := ob_some h
  refine lp_gw (P_X7_layFillings_12 E κ ad (LC sh sp ++ LM) ) (fun q x hb hp => b_X7_layFillings_12 C hd hb hp) _ (0, m7) _ hq ?_
  show Gw E κ 2 0 0 43 [some (.ref (ad 62)), none] [] ad (LC sh sp ++ LM) q12.2
  refine g_iconst (pc := 43) (v := 0) C dX7_layFillings_43 rfl ?_
  refine g_istore_n (pc := 44) (i := 1) (lv' := [some (.ref (ad 62)), some (.int 0)]) C dX7_layFillings_44 rfl (by decide) rfl rfl ?_
  refine g_aload_n (pc := 45) (i := 0) (x := ad 62) C dX7_layFillings_45 rfl rfl ?_
  refine g_get (pc := 46) (v := .int (q12.2 62 16)) C ok_X7 16 (by decide) wf_X7_177 dX7_layFillings_46 la_62 rfl ?_
  rcases ite_some' h with ⟨hc49, h⟩ | ⟨hc49, h⟩
  · refine g_if_ne_f (pc := 49) C 57 dX7_layFillings_49 (by decide) hc49 ?_
    refine g_aload_n (pc := 52) (i := 0) (x := ad 62) C dX7_layFillings_52 rfl rfl ?_
    obtain ⟨m53, hcall53, h⟩ := ob_some h
    refine g_callV (pc := 53) C ce0 mi_X7_filled mv_X7_filled wm_X7_278 dX7_layFillings_53 ok_X7 [] [] la_62 (by omega) rfl rfl (Nat.le_of_ble_eq_true rfl) (m_X7_filled (d := d - 1) (by omega)  hcall53) ?_
    show Gw E κ 2 0 0 56 [some (.ref (ad 62)), some (.int 0)] [] ad (LC sh sp ++ LM) m53
    cases h
    exact g_vret (pc := 56) C hP rfl dX7_layFillings_56
  · refine g_if_ne_t (pc := 49) C 57 dX7_layFillings_49 (by decide) hc49 ?_
    refine g_aload_n (pc := 57) (i := 0) (x := ad 62) C dX7_layFillings_57 rfl rfl ?_
    refine g_get (pc := 58) (v := .ref (ad 84)) C ok_X7 35 (by decide) wf_X7_74 dX7_layFillings_58 la_62 rfl ?_
    refine g_iconst (pc := 61) (v := 0) C dX7_layFillings_61 rfl ?_
    refine g_iconst (pc := 62) (v := (-1)) C dX7_layFillings_62 rfl ?_
    obtain ⟨m63, hm63, hi63, h⟩ := wr_some h
    refine g_iast (pc := 63) C dX7_layFillings_63 la_84 hi63 ?_
    refine g_mem hm63 ?_
    obtain ⟨q64, hq, h⟩ := ob_some h
    refine lp_gw (P_X7_layFillings_64 E κ ad (LC sh sp ++ LM) ) (fun q x hb hp => b_X7_layFillings_64 C hd hb hp) _ (0, m63) _ hq ?_
    show Gw E κ 2 0 0 141 [none, none] [] ad (LC sh sp ++ LM) q64.2
    cases h
    exact g_vret (pc := 141) C hP rfl dX7_layFillings_141

theorem dX7_fillings_0 : decode cX7_fillings 0 = .ok (.iload_n 1, 1) := by decide +kernel
theorem dX7_fillings_1 : decode cX7_fillings 1 = .ok (.iconst (-1), 1) := by decide +kernel
theorem dX7_fillings_2 : decode cX7_fillings 2 = .ok (.if_icmp .eq 13, 3) := by decide +kernel
theorem dX7_fillings_5 : decode cX7_fillings 5 = .ok (.aload_n 0, 1) := by decide +kernel
theorem dX7_fillings_6 : decode cX7_fillings 6 = .ok (.iload_n 1, 1) := by decide +kernel
theorem dX7_fillings_7 : decode cX7_fillings 7 = .ok (.invokevirtual 219, 3) := by decide +kernel
theorem dX7_fillings_10 : decode cX7_fillings 10 = .ok (.ifCond .ne 5, 3) := by decide +kernel
theorem dX7_fillings_13 : decode cX7_fillings 13 = .ok (.iconst (-1), 1) := by decide +kernel
theorem dX7_fillings_14 : decode cX7_fillings 14 = .ok (.ireturn, 1) := by decide +kernel
theorem dX7_fillings_15 : decode cX7_fillings 15 = .ok (.aload_n 0, 1) := by decide +kernel
theorem dX7_fillings_16 : decode cX7_fillings 16 = .ok (.invokevirtual 284, 3) := by decide +kernel
theorem dX7_fillings_19 : decode cX7_fillings 19 = .ok (.iload_n 1, 1) := by decide +kernel
theorem dX7_fillings_20 : decode cX7_fillings 20 = .ok (.iconst (-1), 1) := by decide +kernel
theorem dX7_fillings_21 : decode cX7_fillings 21 = .ok (.if_icmp .ne 10, 3) := by decide +kernel
theorem dX7_fillings_24 : decode cX7_fillings 24 = .ok (.aload_n 0, 1) := by decide +kernel
theorem dX7_fillings_25 : decode cX7_fillings 25 = .ok (.getfield 272, 3) := by decide +kernel
theorem dX7_fillings_28 : decode cX7_fillings 28 = .ok (.goto 21, 3) := by decide +kernel
theorem dX7_fillings_31 : decode cX7_fillings 31 = .ok (.aload_n 0, 1) := by decide +kernel
theorem dX7_fillings_32 : decode cX7_fillings 32 = .ok (.getfield 272, 3) := by decide +kernel
theorem dX7_fillings_35 : decode cX7_fillings 35 = .ok (.ifCond .ne 8, 3) := by decide +kernel
theorem dX7_fillings_38 : decode cX7_fillings 38 = .ok (.bipush (-4), 2) := by decide +kernel
theorem dX7_fillings_40 : decode cX7_fillings 40 = .ok (.goto 9, 3) := by decide +kernel
theorem dX7_fillings_43 : decode cX7_fillings 43 = .ok (.aload_n 0, 1) := by decide +kernel
theorem dX7_fillings_44 : decode cX7_fillings 44 = .ok (.getfield 77, 3) := by decide +kernel
theorem dX7_fillings_47 : decode cX7_fillings 47 = .ok (.iload_n 1, 1) := by decide +kernel
theorem dX7_fillings_48 : decode cX7_fillings 48 = .ok (.iaload, 1) := by decide +kernel
theorem dX7_fillings_49 : decode cX7_fillings 49 = .ok (.ireturn, 1) := by decide +kernel
noncomputable def f_X7_fillings_j15 (l1 : Int32) (mem : Mem) : Option (Int32 × Mem) :=
  ob (f_X7_layFillings mem) fun m16 => if l1 = (-1) then (lt' (m16 62 38) fun v49 => some (v49, m16)) else (if (m16 62 38) = 0 then (some ((-4), m16)) else (rd (m16 85) 8 l1 fun v48 => some (v48, m16)))
noncomputable def f_X7_fillings (l1 : Int32) (mem : Mem) : Option (Int32 × Mem) :=
  if l1 = (-1) then (f_X7_fillings_j15 l1 mem) else (ob (f_X7_isPlace l1 mem) fun r7 => if r7 = 0 then (some ((-1), mem)) else (f_X7_fillings_j15 l1 mem))
set_option maxRecDepth 100000 in
set_option maxHeartbeats 4000000 in
theorem j_X7_fillings_15 {E : Ex} {κ : Kx} {ad : Nat → Nat} {sh sp : Nat} {d : Nat} (C : Cx E κ cX7_fillings RX7 2 (some .int) d) (hd : 3 ≤ d)  {l1 : Int32} {mem : Mem} {x : Int32 × Mem} (h : f_X7_fillings_j15 l1 mem = some x) (hP : Qr E κ (some (.int x.1)) ad (LC sh sp ++ LM) x.2) : Gw E κ 2 0 0 15 [some (.ref (ad 62)), some (.int l1)] [] ad (LC sh sp ++ LM) mem := by
  unfold f_X7_fillings_j15 at h
  refine g_aload_n (pc := 15) (i := 0) (x := ad 62) C dX7_fillings_15 rfl rfl ?_
  obtain ⟨m16, hcall16, h⟩ := ob_some h
  refine g_callV (pc := 16) C ce0 mi_X7_layFillings mv_X7_layFillings wm_X7_284 dX7_fillings_16 ok_X7 [] [] la_62 (by omega) rfl rfl (Nat.le_of_ble_eq_true rfl) (m_X7_layFillings (d := d - 1) (by omega)  hcall16) ?_
  show Gw E κ 2 0 0 19 [some (.ref (ad 62)), some (.int l1)] [] ad (LC sh sp ++ LM) m16
  refine g_iload_n (pc := 19) (i := 1) (x := l1) C dX7_fillings_19 rfl rfl ?_
  refine g_iconst (pc := 20) (v := (-1)) C dX7_fillings_20 rfl ?_
  rcases ite_some' h with ⟨hc21, h⟩ | ⟨hc21, h⟩
  · refine g_icmp_ne_f (pc := 21) C 31 dX7_fillings_21 (by decide) hc21 ?_
    refine g_aload_n (pc := 24) (i := 0) (x := ad 62) C dX7_fillings_24 rfl rfl ?_
    refine g_get (pc := 25) (v := .int (m16 62 38)) C ok_X7 38 (by decide) wf_X7_272 dX7_fillings_25 la_62 rfl ?_
    refine g_goto (pc := 28) C 49 dX7_fillings_28 (by decide) ?_
    obtain ⟨v49, hv49, h⟩ := lt_some h
    refine g_topi hv49 ?_
    cases h
    exact g_iret (pc := 49) C hP rfl rfl dX7_fillings_49
  · refine g_icmp_ne_t (pc := 21) C 31 dX7_fillings_21 (by decide) hc21 ?_
    refine g_aload_n (pc := 31) (i := 0) (x := ad 62) C dX7_fillings_31 rfl rfl ?_
    refine g_get (pc := 32) (v := .int (m16 62 38)) C ok_X7 38 (by decide) wf_X7_272 dX7_fillings_32 la_62 rfl ?_
    rcases ite_some' h with ⟨hc35, h⟩ | ⟨hc35, h⟩
    · refine g_if_ne_f (pc := 35) C 43 dX7_fillings_35 (by decide) hc35 ?_
      refine g_bipush (pc := 38) (v := (-4)) C dX7_fillings_38 rfl ?_
      refine g_goto (pc := 40) C 49 dX7_fillings_40 (by decide) ?_
      cases h
      exact g_iret (pc := 49) C hP rfl rfl dX7_fillings_49
    · refine g_if_ne_t (pc := 35) C 43 dX7_fillings_35 (by decide) hc35 ?_
      refine g_aload_n (pc := 43) (i := 0) (x := ad 62) C dX7_fillings_43 rfl rfl ?_
      refine g_get (pc := 44) (v := .ref (ad 85)) C ok_X7 36 (by decide) wf_X7_77 dX7_fillings_44 la_62 rfl ?_
      refine g_iload_n (pc := 47) (i := 1) (x := l1) C dX7_fillings_47 rfl rfl ?_
      obtain ⟨v48, hv48, hi48, h⟩ := rd_some h
      refine g_iald (pc := 48) C dX7_fillings_48 la_85 hi48 ?_
      refine g_topi hv48 ?_
      cases h
      exact g_iret (pc := 49) C hP rfl rfl dX7_fillings_49
set_option maxRecDepth 100000 in
set_option maxHeartbeats 4000000 in
theorem m_X7_fillings {E : Ex} {ad : Nat → Nat} {sh sp : Nat} {d : Nat} (hd : 3 ≤ d)  {l1 : Int32} {mem : Mem} {r : Int32 × Mem} (h : f_X7_fillings l1 mem = some r) : Cl E yX7_fillings cX7_fillings 2 (some .int) d [.ref (ad 62), .int l1] (some (.int r.1)) ad (LC sh sp ++ LM) mem (LC sh sp ++ LM) r.2 := by
  refine Cl.of [some (.ref (ad 62)), some (.int l1)] (by decide +kernel) rfl (Nat.le_of_ble_eq_true rfl) (fun κ C hP => ?_)
  have C : Cx E κ cX7_fillings RX7 2 (some .int) d := C
  unfold f_X7_fillings at h
  refine g_iload_n (pc := 0) (i := 1) (x := l1) C dX7_fillings_0 rfl rfl ?_
  refine g_iconst (pc := 1) (v := (-1)) C dX7_fillings_1 rfl ?_
  rcases ite_some' h with ⟨hc2, h⟩ | ⟨hc2, h⟩
  · refine g_icmp_eq_t (pc := 2) C 15 dX7_fillings_2 (by decide) hc2 ?_
    exact j_X7_fillings_15 C hd h hP
  · refine g_icmp_eq_f (pc := 2) C 15 dX7_fillings_2 (by decide) hc2 ?_
    refine g_aload_n (pc := 5) (i := 0) (x := ad 62) C dX7_fillings_5 rfl rfl ?_
    refine g_iload_n (pc := 6) (i := 1) (x := l1) C dX7_fillings_6 rfl rfl ?_
    obtain ⟨r7, hcall7, h⟩ := ob_some h
    refine g_callV (pc := 7) C ce0 mi_X7_isPlace mv_X7_isPlace wm_X7_219 dX7_fillings_7 ok_X7 [.int l1] [] la_62 (by omega) rfl rfl (Nat.le_of_ble_eq_true rfl) (m_X7_isPlace (d := d - 1) (by omega)  hcall7) ?_
    show Gw E κ 2 0 0 10 [some (.ref (ad 62)), some (.int l1)] [.int r7] ad (LC sh sp ++ LM) mem
    rcases ite_some' h with ⟨hc10, h⟩ | ⟨hc10, h⟩
    · refine g_if_ne_f (pc := 10) C 15 dX7_fillings_10 (by decide) hc10 ?_
      refine g_iconst (pc := 13) (v := (-1)) C dX7_fillings_13 rfl ?_
      cases h
      exact g_iret (pc := 14) C hP rfl rfl dX7_fillings_14
    · refine g_if_ne_t (pc := 10) C 15 dX7_fillings_10 (by decide) hc10 ?_
      exact j_X7_fillings_15 C hd h hP

theorem dX7_must_0 : decode cX7_must 0 = .ok (.aload_n 0, 1) := by decide +kernel
theorem dX7_must_1 : decode cX7_must 1 = .ok (.iload_n 1, 1) := by decide +kernel
theorem dX7_must_2 : decode cX7_must 2 = .ok (.invokevirtual 201, 3) := by decide +kernel
theorem dX7_must_5 : decode cX7_must 5 = .ok (.ifCond .ne 5, 3) := by decide +kernel
theorem dX7_must_8 : decode cX7_must 8 = .ok (.iconst (-1), 1) := by decide +kernel
theorem dX7_must_9 : decode cX7_must 9 = .ok (.ireturn, 1) := by decide +kernel
theorem dX7_must_10 : decode cX7_must 10 = .ok (.aload_n 0, 1) := by decide +kernel
theorem dX7_must_11 : decode cX7_must 11 = .ok (.invokevirtual 284, 3) := by decide +kernel
theorem dX7_must_14 : decode cX7_must 14 = .ok (.iconst 1, 1) := by decide +kernel
theorem dX7_must_15 : decode cX7_must 15 = .ok (.istore_n 2, 1) := by decide +kernel
theorem dX7_must_16 : decode cX7_must 16 = .ok (.iload_n 2, 1) := by decide +kernel
theorem dX7_must_17 : decode cX7_must 17 = .ok (.bipush 6, 2) := by decide +kernel
theorem dX7_must_19 : decode cX7_must 19 = .ok (.if_icmp .gt 32, 3) := by decide +kernel
theorem dX7_must_22 : decode cX7_must 22 = .ok (.aload_n 0, 1) := by decide +kernel
theorem dX7_must_23 : decode cX7_must 23 = .ok (.getfield 31, 3) := by decide +kernel
theorem dX7_must_26 : decode cX7_must 26 = .ok (.iload_n 1, 1) := by decide +kernel
theorem dX7_must_27 : decode cX7_must 27 = .ok (.iaload, 1) := by decide +kernel
theorem dX7_must_28 : decode cX7_must 28 = .ok (.ifCond .ne 17, 3) := by decide +kernel
theorem dX7_must_31 : decode cX7_must 31 = .ok (.aload_n 0, 1) := by decide +kernel
theorem dX7_must_32 : decode cX7_must 32 = .ok (.getfield 80, 3) := by decide +kernel
theorem dX7_must_35 : decode cX7_must 35 = .ok (.iload_n 1, 1) := by decide +kernel
theorem dX7_must_36 : decode cX7_must 36 = .ok (.iaload, 1) := by decide +kernel
theorem dX7_must_37 : decode cX7_must 37 = .ok (.iconst 1, 1) := by decide +kernel
theorem dX7_must_38 : decode cX7_must 38 = .ok (.iload_n 2, 1) := by decide +kernel
theorem dX7_must_39 : decode cX7_must 39 = .ok (.ishl, 1) := by decide +kernel
theorem dX7_must_40 : decode cX7_must 40 = .ok (.if_icmp .ne 5, 3) := by decide +kernel
theorem dX7_must_43 : decode cX7_must 43 = .ok (.iload_n 2, 1) := by decide +kernel
theorem dX7_must_44 : decode cX7_must 44 = .ok (.ireturn, 1) := by decide +kernel
theorem dX7_must_45 : decode cX7_must 45 = .ok (.iinc 2 1, 3) := by decide +kernel
theorem dX7_must_48 : decode cX7_must 48 = .ok (.goto (-32), 3) := by decide +kernel
theorem dX7_must_51 : decode cX7_must 51 = .ok (.bipush (-4), 2) := by decide +kernel
theorem dX7_must_53 : decode cX7_must 53 = .ok (.ireturn, 1) := by decide +kernel
noncomputable def f_X7_must_b16 (l1 : Int32) (mem : Mem) (q : Int32) : Option ((Int32) ⊕ ((Int32) ⊕ (Int32 × Mem))) :=
  if 6 < q then (some (.inr (.inl q))) else (rd (mem 70) 16 l1 fun v27 => if v27 = 0 then (rd (mem 86) 16 l1 fun v36 => if v36 = (1 <<< (q &&& 31)) then (some (.inr (.inr (q, mem)))) else (lt' (q + 1) fun v45 => some (.inl v45))) else (lt' (q + 1) fun v45 => some (.inl v45)))
noncomputable def f_X7_must (l1 : Int32) (mem : Mem) : Option (Int32 × Mem) :=
  ob (f_X7_isSquare l1 mem) fun r2 => if r2 = 0 then (some ((-1), mem)) else (ob (f_X7_layFillings mem) fun m11 => obs (lp (f_X7_must_b16 l1 m11) FU 1) (fun q16 => some ((-4), m11)) (fun r => some r))
def P_X7_must_16 (E : Ex) (κ : Kx) (ad : Nat → Nat) (lay : List Ent) (l1 : Int32) (mem : Mem) : (Int32) ⊕ ((Int32) ⊕ (Int32 × Mem)) → Prop
  | .inl q => Gw E κ 3 0 0 16 [some (.ref (ad 62)), some (.int l1), some (.int q)] [] ad lay mem
  | .inr (.inl q) => Gw E κ 3 0 0 51 [none, none, none] [] ad lay mem
  | .inr (.inr r) => Qr E κ (some (.int r.1)) ad lay r.2
set_option maxRecDepth 100000 in
set_option maxHeartbeats 4000000 in
theorem b_X7_must_16 {E : Ex} {κ : Kx} {ad : Nat → Nat} {sh sp : Nat} {d : Nat} (C : Cx E κ cX7_must RX7 3 (some .int) d) (hd : 3 ≤ d)  {l1 : Int32} {mem : Mem} {q : Int32} {x : (Int32) ⊕ ((Int32) ⊕ (Int32 × Mem))} (h : f_X7_must_b16 l1 mem q = some x) (hP : (P_X7_must_16 E κ ad (LC sh sp ++ LM) l1 mem) x) : Gw E κ 3 0 0 16 [some (.ref (ad 62)), some (.int l1), some (.int q)] [] ad (LC sh sp ++ LM) mem := by
  unfold f_X7_must_b16 at h
  refine g_iload_n (pc := 16) (i := 2) (x := q) C dX7_must_16 rfl rfl ?_
  refine g_bipush (pc := 17) (v := 6) C dX7_must_17 rfl ?_
  rcases ite_some' h with ⟨hc19, h⟩ | ⟨hc19, h⟩
  · refine g_icmp_gt_t (pc := 19) C 51 dX7_must_19 (by decide) hc19 ?_
    refine g_mask (lv' := [none, none, none]) [false, false, false] rfl ?_
    cases h
    exact hP
  · refine g_icmp_gt_f (pc := 19) C 51 dX7_must_19 (by decide) hc19 ?_
    refine g_aload_n (pc := 22) (i := 0) (x := ad 62) C dX7_must_22 rfl rfl ?_
    refine g_get (pc := 23) (v := .ref (ad 70)) C ok_X7 19 (by decide) wf_X7_31 dX7_must_23 la_62 rfl ?_
    refine g_iload_n (pc := 26) (i := 1) (x := l1) C dX7_must_26 rfl rfl ?_
    obtain ⟨v27, hv27, hi27, h⟩ := rd_some h
    refine g_iald (pc := 27) C dX7_must_27 la_70 hi27 ?_
    refine g_topi hv27 ?_
    rcases ite_some' h with ⟨hc28, h⟩ | ⟨hc28, h⟩
    · refine g_if_ne_f (pc := 28) C 45 dX7_must_28 (by decide) hc28 ?_
      refine g_aload_n (pc := 31) (i := 0) (x := ad 62) C dX7_must_31 rfl rfl ?_
      refine g_get (pc := 32) (v := .ref (ad 86)) C ok_X7 37 (by decide) wf_X7_80 dX7_must_32 la_62 rfl ?_
      refine g_iload_n (pc := 35) (i := 1) (x := l1) C dX7_must_35 rfl rfl ?_
      obtain ⟨v36, hv36, hi36, h⟩ := rd_some h
      refine g_iald (pc := 36) C dX7_must_36 la_86 hi36 ?_
      refine g_topi hv36 ?_
      refine g_iconst (pc := 37) (v := 1) C dX7_must_37 rfl ?_
      refine g_iload_n (pc := 38) (i := 2) (x := q) C dX7_must_38 rfl rfl ?_
      refine g_ishl (pc := 39) C dX7_must_39 ?_
      rcases ite_some' h with ⟨hc40, h⟩ | ⟨hc40, h⟩
      · refine g_icmp_ne_f (pc := 40) C 45 dX7_must_40 (by decide) hc40 ?_
        refine g_iload_n (pc := 43) (i := 2) (x := q) C dX7_must_43 rfl rfl ?_
        cases h
        exact g_iret (pc := 44) C hP rfl rfl dX7_must_44
      · refine g_icmp_ne_t (pc := 40) C 45 dX7_must_40 (by decide) hc40 ?_
        obtain ⟨v45, hv45, h⟩ := lt_some h
        refine g_iinc (pc := 45) (i := 2) (x := q) (v := v45) (lv' := [some (.ref (ad 62)), some (.int l1), some (.int v45)]) C dX7_must_45 rfl hv45.symm (by decide) rfl rfl ?_
        refine g_goto (pc := 48) C 16 dX7_must_48 (by decide) ?_
        cases h
        exact hP
    · refine g_if_ne_t (pc := 28) C 45 dX7_must_28 (by decide) hc28 ?_
      obtain ⟨v45, hv45, h⟩ := lt_some h
      refine g_iinc (pc := 45) (i := 2) (x := q) (v := v45) (lv' := [some (.ref (ad 62)), some (.int l1), some (.int v45)]) C dX7_must_45 rfl hv45.symm (by decide) rfl rfl ?_
      refine g_goto (pc := 48) C 16 dX7_must_48 (by decide) ?_
      cases h
      exact hP
set_option maxRecDepth 100000 in
set_option maxHeartbeats 4000000 in
theorem m_X7_must {E : Ex} {ad : Nat → Nat} {sh sp : Nat} {d : Nat} (hd : 3 ≤ d)  {l1 : Int32} {mem : Mem} {r : Int32 × Mem} (h : f_X7_must l1 mem = some r) : Cl E yX7_must cX7_must 3 (some .int) d [.ref (ad 62), .int l1] (some (.int r.1)) ad (LC sh sp ++ LM) mem (LC sh sp ++ LM) r.2 := by
  refine Cl.of [some (.ref (ad 62)), some (.int l1), none] (by decide +kernel) rfl (Nat.le_of_ble_eq_true rfl) (fun κ C hP => ?_)
  have C : Cx E κ cX7_must RX7 3 (some .int) d := C
  unfold f_X7_must at h
  refine g_aload_n (pc := 0) (i := 0) (x := ad 62) C dX7_must_0 rfl rfl ?_
  refine g_iload_n (pc := 1) (i := 1) (x := l1) C dX7_must_1 rfl rfl ?_
  obtain ⟨r2, hcall2, h⟩ := ob_some h
  refine g_callV (pc := 2) C ce0 mi_X7_isSquare mv_X7_isSquare wm_X7_201 dX7_must_2 ok_X7 [.int l1] [] la_62 (by omega) rfl rfl (Nat.le_of_ble_eq_true rfl) (m_X7_isSquare (d := d - 1) (by omega)  hcall2) ?_
  show Gw E κ 3 0 0 5 [some (.ref (ad 62)), some (.int l1), none] [.int r2] ad (LC sh sp ++ LM) mem
  rcases ite_some' h with ⟨hc5, h⟩ | ⟨hc5, h⟩
  · refine g_if_ne_f (pc := 5) C 10 dX7_must_5 (by decide) hc5 ?_
    refine g_iconst (pc := 8) (v := (-1)) C dX7_must_8 rfl ?_
    cases h
    exact g_iret (pc := 9) C hP rfl rfl dX7_must_9
  · refine g_if_ne_t (pc := 5) C 10 dX7_must_5 (by decide) hc5 ?_
    refine g_aload_n (pc := 10) (i := 0) (x := ad 62) C dX7_must_10 rfl rfl ?_
    obtain ⟨m11, hcall11, h⟩ := ob_some h
    refine g_callV (pc := 11) C ce0 mi_X7_layFillings mv_X7_layFillings wm_X7_284 dX7_must_11 ok_X7 [] [] la_62 (by omega) rfl rfl (Nat.le_of_ble_eq_true rfl) (m_X7_layFillings (d := d - 1) (by omega)  hcall11) ?_
    show Gw E κ 3 0 0 14 [some (.ref (ad 62)), some (.int l1), none] [] ad (LC sh sp ++ LM) m11
    refine g_iconst (pc := 14) (v := 1) C dX7_must_14 rfl ?_
    refine g_istore_n (pc := 15) (i := 2) (lv' := [some (.ref (ad 62)), some (.int l1), some (.int 1)]) C dX7_must_15 rfl (by decide) rfl rfl ?_
    rcases obs_some h with ⟨q16, hq, h⟩ | ⟨r, hq, h⟩
    · refine lp_gw (P_X7_must_16 E κ ad (LC sh sp ++ LM) l1 m11) (fun q x hb hp => b_X7_must_16 C hd hb hp) _ 1 _ hq ?_
      show Gw E κ 3 0 0 51 [none, none, none] [] ad (LC sh sp ++ LM) m11
      refine g_bipush (pc := 51) (v := (-4)) C dX7_must_51 rfl ?_
      cases h
      exact g_iret (pc := 53) C hP rfl rfl dX7_must_53
    · refine lp_gw (P_X7_must_16 E κ ad (LC sh sp ++ LM) l1 m11) (fun q x hb hp => b_X7_must_16 C hd hb hp) _ 1 _ hq ?_
      cases h
      exact hP

theorem dX7_best_0 : decode cX7_best 0 = .ok (.aload_n 0, 1) := by decide +kernel
theorem dX7_best_1 : decode cX7_best 1 = .ok (.invokevirtual 284, 3) := by decide +kernel
theorem dX7_best_4 : decode cX7_best 4 = .ok (.aload_n 0, 1) := by decide +kernel
theorem dX7_best_5 : decode cX7_best 5 = .ok (.getfield 272, 3) := by decide +kernel
theorem dX7_best_8 : decode cX7_best 8 = .ok (.ifCond .ne 8, 3) := by decide +kernel
theorem dX7_best_11 : decode cX7_best 11 = .ok (.bipush (-4), 2) := by decide +kernel
theorem dX7_best_13 : decode cX7_best 13 = .ok (.goto 7, 3) := by decide +kernel
theorem dX7_best_16 : decode cX7_best 16 = .ok (.aload_n 0, 1) := by decide +kernel
theorem dX7_best_17 : decode cX7_best 17 = .ok (.getfield 275, 3) := by decide +kernel
theorem dX7_best_20 : decode cX7_best 20 = .ok (.ireturn, 1) := by decide +kernel
noncomputable def f_X7_best  (mem : Mem) : Option (Int32 × Mem) :=
  ob (f_X7_layFillings mem) fun m1 => if (m1 62 38) = 0 then (some ((-4), m1)) else (lt' (m1 62 39) fun v20 => some (v20, m1))
set_option maxRecDepth 100000 in
set_option maxHeartbeats 4000000 in
theorem m_X7_best {E : Ex} {ad : Nat → Nat} {sh sp : Nat} {d : Nat} (hd : 3 ≤ d)   {mem : Mem} {r : Int32 × Mem} (h : f_X7_best mem = some r) : Cl E yX7_best cX7_best 1 (some .int) d [.ref (ad 62)] (some (.int r.1)) ad (LC sh sp ++ LM) mem (LC sh sp ++ LM) r.2 := by
  refine Cl.of [some (.ref (ad 62))] (by decide +kernel) rfl (Nat.le_of_ble_eq_true rfl) (fun κ C hP => ?_)
  have C : Cx E κ cX7_best RX7 1 (some .int) d := C
  unfold f_X7_best at h
  refine g_aload_n (pc := 0) (i := 0) (x := ad 62) C dX7_best_0 rfl rfl ?_
  obtain ⟨m1, hcall1, h⟩ := ob_some h
  refine g_callV (pc := 1) C ce0 mi_X7_layFillings mv_X7_layFillings wm_X7_284 dX7_best_1 ok_X7 [] [] la_62 (by omega) rfl rfl (Nat.le_of_ble_eq_true rfl) (m_X7_layFillings (d := d - 1) (by omega)  hcall1) ?_
  show Gw E κ 1 0 0 4 [some (.ref (ad 62))] [] ad (LC sh sp ++ LM) m1
  refine g_aload_n (pc := 4) (i := 0) (x := ad 62) C dX7_best_4 rfl rfl ?_
  refine g_get (pc := 5) (v := .int (m1 62 38)) C ok_X7 38 (by decide) wf_X7_272 dX7_best_5 la_62 rfl ?_
  rcases ite_some' h with ⟨hc8, h⟩ | ⟨hc8, h⟩
  · refine g_if_ne_f (pc := 8) C 16 dX7_best_8 (by decide) hc8 ?_
    refine g_bipush (pc := 11) (v := (-4)) C dX7_best_11 rfl ?_
    refine g_goto (pc := 13) C 20 dX7_best_13 (by decide) ?_
    cases h
    exact g_iret (pc := 20) C hP rfl rfl dX7_best_20
  · refine g_if_ne_t (pc := 8) C 16 dX7_best_8 (by decide) hc8 ?_
    refine g_aload_n (pc := 16) (i := 0) (x := ad 62) C dX7_best_16 rfl rfl ?_
    refine g_get (pc := 17) (v := .int (m1 62 39)) C ok_X7 39 (by decide) wf_X7_275 dX7_best_17 la_62 rfl ?_
    obtain ⟨v20, hv20, h⟩ := lt_some h
    refine g_topi hv20 ?_
    cases h
    exact g_iret (pc := 20) C hP rfl rfl dX7_best_20

theorem dX7_dead_0 : decode cX7_dead 0 = .ok (.iconst 0, 1) := by decide +kernel
theorem dX7_dead_1 : decode cX7_dead 1 = .ok (.istore_n 1, 1) := by decide +kernel
theorem dX7_dead_2 : decode cX7_dead 2 = .ok (.iconst 0, 1) := by decide +kernel
theorem dX7_dead_3 : decode cX7_dead 3 = .ok (.istore_n 2, 1) := by decide +kernel
theorem dX7_dead_4 : decode cX7_dead 4 = .ok (.iload_n 2, 1) := by decide +kernel
theorem dX7_dead_5 : decode cX7_dead 5 = .ok (.aload_n 0, 1) := by decide +kernel
theorem dX7_dead_6 : decode cX7_dead 6 = .ok (.getfield 177, 3) := by decide +kernel
theorem dX7_dead_9 : decode cX7_dead 9 = .ok (.if_icmp .ge 39, 3) := by decide +kernel
theorem dX7_dead_12 : decode cX7_dead 12 = .ok (.iload_n 1, 1) := by decide +kernel
theorem dX7_dead_13 : decode cX7_dead 13 = .ok (.aload_n 0, 1) := by decide +kernel
theorem dX7_dead_14 : decode cX7_dead 14 = .ok (.aload_n 0, 1) := by decide +kernel
theorem dX7_dead_15 : decode cX7_dead 15 = .ok (.getfield 52, 3) := by decide +kernel
theorem dX7_dead_18 : decode cX7_dead 18 = .ok (.iload_n 2, 1) := by decide +kernel
theorem dX7_dead_19 : decode cX7_dead 19 = .ok (.invokevirtual 212, 3) := by decide +kernel
theorem dX7_dead_22 : decode cX7_dead 22 = .ok (.ifCond .le 17, 3) := by decide +kernel
theorem dX7_dead_25 : decode cX7_dead 25 = .ok (.aload_n 0, 1) := by decide +kernel
theorem dX7_dead_26 : decode cX7_dead 26 = .ok (.iload_n 2, 1) := by decide +kernel
theorem dX7_dead_27 : decode cX7_dead 27 = .ok (.invokevirtual 222, 3) := by decide +kernel
theorem dX7_dead_30 : decode cX7_dead 30 = .ok (.ifCond .ne 9, 3) := by decide +kernel
theorem dX7_dead_33 : decode cX7_dead 33 = .ok (.iconst 1, 1) := by decide +kernel
theorem dX7_dead_34 : decode cX7_dead 34 = .ok (.iload_n 2, 1) := by decide +kernel
theorem dX7_dead_35 : decode cX7_dead 35 = .ok (.ishl, 1) := by decide +kernel
theorem dX7_dead_36 : decode cX7_dead 36 = .ok (.goto 4, 3) := by decide +kernel
theorem dX7_dead_39 : decode cX7_dead 39 = .ok (.iconst 0, 1) := by decide +kernel
theorem dX7_dead_40 : decode cX7_dead 40 = .ok (.ior, 1) := by decide +kernel
theorem dX7_dead_41 : decode cX7_dead 41 = .ok (.istore_n 1, 1) := by decide +kernel
theorem dX7_dead_42 : decode cX7_dead 42 = .ok (.iinc 2 1, 3) := by decide +kernel
theorem dX7_dead_45 : decode cX7_dead 45 = .ok (.goto (-41), 3) := by decide +kernel
theorem dX7_dead_48 : decode cX7_dead 48 = .ok (.iload_n 1, 1) := by decide +kernel
theorem dX7_dead_49 : decode cX7_dead 49 = .ok (.ireturn, 1) := by decide +kernel
noncomputable def f_X7_dead_b4 (mem : Mem) (q : Int32 × Int32) : Option ((Int32 × Int32) ⊕ (Int32 × Int32)) :=
  if (mem 62 16) ≤ q.2 then (some (.inr (q.1, q.2))) else (ob (f_X7_empties 77 q.2 mem) fun r19 => if r19 ≤ 0 then (lt' (q.1 ||| 0) fun v41 => lt' (q.2 + 1) fun v42 => some (.inl (v41, v42))) else (ob (f_X7_fitting q.2 mem) fun r27 => if r27 = 0 then (lt' (q.1 ||| (1 <<< (q.2 &&& 31))) fun v41 => lt' (q.2 + 1) fun v42 => some (.inl (v41, v42))) else (lt' (q.1 ||| 0) fun v41 => lt' (q.2 + 1) fun v42 => some (.inl (v41, v42)))))
noncomputable def f_X7_dead  (mem : Mem) : Option (Int32) :=
  ob (lp (f_X7_dead_b4 mem) FU (0, 0)) fun q4 => some q4.1
def P_X7_dead_4 (E : Ex) (κ : Kx) (ad : Nat → Nat) (lay : List Ent) (mem : Mem) : (Int32 × Int32) ⊕ (Int32 × Int32) → Prop
  | .inl q => Gw E κ 3 0 0 4 [some (.ref (ad 62)), some (.int q.1), some (.int q.2)] [] ad lay mem
  | .inr q => Gw E κ 3 0 0 48 [none, some (.int q.1), none] [] ad lay mem
set_option maxRecDepth 100000 in
set_option maxHeartbeats 4000000 in
theorem b_X7_dead_4 {E : Ex} {κ : Kx} {ad : Nat → Nat} {sh sp : Nat} {d : Nat} (C : Cx E κ cX7_dead RX7 3 (some .int) d) (hd : 4 ≤ d)  {mem : Mem} {q : Int32 × Int32} {x : (Int32 × Int32) ⊕ (Int32 × Int32)} (h : f_X7_dead_b4 mem q = some x) (hP : (P_X7_dead_4 E κ ad (LC sh sp ++ LM) mem) x) : Gw E κ 3 0 0 4 [some (.ref (ad 62)), some (.int q.1), some (.int q.2)] [] ad (LC sh sp ++ LM) mem := by
  unfold f_X7_dead_b4 at h
  refine g_iload_n (pc := 4) (i := 2) (x := q.2) C dX7_dead_4 rfl rfl ?_
  refine g_aload_n (pc := 5) (i := 0) (x := ad 62) C dX7_dead_5 rfl rfl ?_
  refine g_get (pc := 6) (v := .int (mem 62 16)) C ok_X7 16 (by decide) wf_X7_177 dX7_dead_6 la_62 rfl ?_
  rcases ite_some' h with ⟨hc9, h⟩ | ⟨hc9, h⟩
  · refine g_icmp_ge_t (pc := 9) C 48 dX7_dead_9 (by decide) hc9 ?_
    refine g_mask (lv' := [none, some (.int q.1), none]) [false, true, false] rfl ?_
    cases h
    exact hP
  · refine g_icmp_ge_f (pc := 9) C 48 dX7_dead_9 (by decide) hc9 ?_
    refine g_iload_n (pc := 12) (i := 1) (x := q.1) C dX7_dead_12 rfl rfl ?_
    refine g_aload_n (pc := 13) (i := 0) (x := ad 62) C dX7_dead_13 rfl rfl ?_
    refine g_aload_n (pc := 14) (i := 0) (x := ad 62) C dX7_dead_14 rfl rfl ?_
    refine g_get (pc := 15) (v := .ref (ad 77)) C ok_X7 26 (by decide) wf_X7_52 dX7_dead_15 la_62 rfl ?_
    refine g_iload_n (pc := 18) (i := 2) (x := q.2) C dX7_dead_18 rfl rfl ?_
    obtain ⟨r19, hcall19, h⟩ := ob_some h
    refine g_callV (pc := 19) C ce0 mi_X7_empties mv_X7_empties wm_X7_212 dX7_dead_19 ok_X7 [.ref (ad 77), .int q.2] [.int q.1] la_62 (by omega) rfl rfl (Nat.le_of_ble_eq_true rfl) (m_X7_empties (d := d - 1) (by omega) o_77 hcall19) ?_
    show Gw E κ 3 0 0 22 [some (.ref (ad 62)), some (.int q.1), some (.int q.2)] [.int r19, .int q.1] ad (LC sh sp ++ LM) mem
    rcases ite_some' h with ⟨hc22, h⟩ | ⟨hc22, h⟩
    · refine g_if_le_t (pc := 22) C 39 dX7_dead_22 (by decide) hc22 ?_
      refine g_iconst (pc := 39) (v := 0) C dX7_dead_39 rfl ?_
      refine g_ior (pc := 40) C dX7_dead_40 ?_
      obtain ⟨v41, hv41, h⟩ := lt_some h
      refine g_topi hv41 ?_
      refine g_istore_n (pc := 41) (i := 1) (lv' := [some (.ref (ad 62)), some (.int v41), some (.int q.2)]) C dX7_dead_41 rfl (by decide) rfl rfl ?_
      obtain ⟨v42, hv42, h⟩ := lt_some h
      refine g_iinc (pc := 42) (i := 2) (x := q.2) (v := v42) (lv' := [some (.ref (ad 62)), some (.int v41), some (.int v42)]) C dX7_dead_42 rfl hv42.symm (by decide) rfl rfl ?_
      refine g_goto (pc := 45) C 4 dX7_dead_45 (by decide) ?_
      cases h
      exact hP
    · refine g_if_le_f (pc := 22) C 39 dX7_dead_22 (by decide) hc22 ?_
      refine g_aload_n (pc := 25) (i := 0) (x := ad 62) C dX7_dead_25 rfl rfl ?_
      refine g_iload_n (pc := 26) (i := 2) (x := q.2) C dX7_dead_26 rfl rfl ?_
      obtain ⟨r27, hcall27, h⟩ := ob_some h
      refine g_callV (pc := 27) C ce0 mi_X7_fitting mv_X7_fitting wm_X7_222 dX7_dead_27 ok_X7 [.int q.2] [.int q.1] la_62 (by omega) rfl rfl (Nat.le_of_ble_eq_true rfl) (m_X7_fitting (d := d - 1) (by omega)  hcall27) ?_
      show Gw E κ 3 0 0 30 [some (.ref (ad 62)), some (.int q.1), some (.int q.2)] [.int r27, .int q.1] ad (LC sh sp ++ LM) mem
      rcases ite_some' h with ⟨hc30, h⟩ | ⟨hc30, h⟩
      · refine g_if_ne_f (pc := 30) C 39 dX7_dead_30 (by decide) hc30 ?_
        refine g_iconst (pc := 33) (v := 1) C dX7_dead_33 rfl ?_
        refine g_iload_n (pc := 34) (i := 2) (x := q.2) C dX7_dead_34 rfl rfl ?_
        refine g_ishl (pc := 35) C dX7_dead_35 ?_
        refine g_goto (pc := 36) C 40 dX7_dead_36 (by decide) ?_
        refine g_ior (pc := 40) C dX7_dead_40 ?_
        obtain ⟨v41, hv41, h⟩ := lt_some h
        refine g_topi hv41 ?_
        refine g_istore_n (pc := 41) (i := 1) (lv' := [some (.ref (ad 62)), some (.int v41), some (.int q.2)]) C dX7_dead_41 rfl (by decide) rfl rfl ?_
        obtain ⟨v42, hv42, h⟩ := lt_some h
        refine g_iinc (pc := 42) (i := 2) (x := q.2) (v := v42) (lv' := [some (.ref (ad 62)), some (.int v41), some (.int v42)]) C dX7_dead_42 rfl hv42.symm (by decide) rfl rfl ?_
        refine g_goto (pc := 45) C 4 dX7_dead_45 (by decide) ?_
        cases h
        exact hP
      · refine g_if_ne_t (pc := 30) C 39 dX7_dead_30 (by decide) hc30 ?_
        refine g_iconst (pc := 39) (v := 0) C dX7_dead_39 rfl ?_
        refine g_ior (pc := 40) C dX7_dead_40 ?_
        obtain ⟨v41, hv41, h⟩ := lt_some h
        refine g_topi hv41 ?_
        refine g_istore_n (pc := 41) (i := 1) (lv' := [some (.ref (ad 62)), some (.int v41), some (.int q.2)]) C dX7_dead_41 rfl (by decide) rfl rfl ?_
        obtain ⟨v42, hv42, h⟩ := lt_some h
        refine g_iinc (pc := 42) (i := 2) (x := q.2) (v := v42) (lv' := [some (.ref (ad 62)), some (.int v41), some (.int v42)]) C dX7_dead_42 rfl hv42.symm (by decide) rfl rfl ?_
        refine g_goto (pc := 45) C 4 dX7_dead_45 (by decide) ?_
        cases h
        exact hP
set_option maxRecDepth 100000 in
set_option maxHeartbeats 4000000 in
theorem m_X7_dead {E : Ex} {ad : Nat → Nat} {sh sp : Nat} {d : Nat} (hd : 4 ≤ d)   {mem : Mem} {r : Int32} (h : f_X7_dead mem = some r) : Cl E yX7_dead cX7_dead 3 (some .int) d [.ref (ad 62)] (some (.int r)) ad (LC sh sp ++ LM) mem (LC sh sp ++ LM) mem := by
  refine Cl.of [some (.ref (ad 62)), none, none] (by decide +kernel) rfl (Nat.le_of_ble_eq_true rfl) (fun κ C hP => ?_)
  have C : Cx E κ cX7_dead RX7 3 (some .int) d := C
  unfold f_X7_dead at h
  refine g_iconst (pc := 0) (v := 0) C dX7_dead_0 rfl ?_
  refine g_istore_n (pc := 1) (i := 1) (lv' := [some (.ref (ad 62)), some (.int 0), none]) C dX7_dead_1 rfl (by decide) rfl rfl ?_
  refine g_iconst (pc := 2) (v := 0) C dX7_dead_2 rfl ?_
  refine g_istore_n (pc := 3) (i := 2) (lv' := [some (.ref (ad 62)), some (.int 0), some (.int 0)]) C dX7_dead_3 rfl (by decide) rfl rfl ?_
  obtain ⟨q4, hq, h⟩ := ob_some h
  refine lp_gw (P_X7_dead_4 E κ ad (LC sh sp ++ LM) mem) (fun q x hb hp => b_X7_dead_4 C hd hb hp) _ (0, 0) _ hq ?_
  show Gw E κ 3 0 0 48 [none, some (.int q4.1), none] [] ad (LC sh sp ++ LM) mem
  refine g_iload_n (pc := 48) (i := 1) (x := q4.1) C dX7_dead_48 rfl rfl ?_
  cases h
  exact g_iret (pc := 49) C hP rfl rfl dX7_dead_49

theorem dX7_counts_0 : decode cX7_counts 0 = .ok (.aload_n 0, 1) := by decide +kernel
theorem dX7_counts_1 : decode cX7_counts 1 = .ok (.iload_n 1, 1) := by decide +kernel
theorem dX7_counts_2 : decode cX7_counts 2 = .ok (.invokevirtual 219, 3) := by decide +kernel
theorem dX7_counts_5 : decode cX7_counts 5 = .ok (.ifCond .eq 20, 3) := by decide +kernel
theorem dX7_counts_8 : decode cX7_counts 8 = .ok (.aload_n 0, 1) := by decide +kernel
theorem dX7_counts_9 : decode cX7_counts 9 = .ok (.iload_n 2, 1) := by decide +kernel
theorem dX7_counts_10 : decode cX7_counts 10 = .ok (.invokevirtual 225, 3) := by decide +kernel
theorem dX7_counts_13 : decode cX7_counts 13 = .ok (.ifCond .eq 12, 3) := by decide +kernel
theorem dX7_counts_16 : decode cX7_counts 16 = .ok (.iload_n 3, 1) := by decide +kernel
theorem dX7_counts_17 : decode cX7_counts 17 = .ok (.iconst 0, 1) := by decide +kernel
theorem dX7_counts_18 : decode cX7_counts 18 = .ok (.iconst 1, 1) := by decide +kernel
theorem dX7_counts_19 : decode cX7_counts 19 = .ok (.invokestatic 123, 3) := by decide +kernel
theorem dX7_counts_22 : decode cX7_counts 22 = .ok (.ifCond .ne 5, 3) := by decide +kernel
theorem dX7_counts_25 : decode cX7_counts 25 = .ok (.iconst (-1), 1) := by decide +kernel
theorem dX7_counts_26 : decode cX7_counts 26 = .ok (.ireturn, 1) := by decide +kernel
theorem dX7_counts_27 : decode cX7_counts 27 = .ok (.aload_n 0, 1) := by decide +kernel
theorem dX7_counts_28 : decode cX7_counts 28 = .ok (.invokevirtual 266, 3) := by decide +kernel
theorem dX7_counts_31 : decode cX7_counts 31 = .ok (.aload_n 0, 1) := by decide +kernel
theorem dX7_counts_32 : decode cX7_counts 32 = .ok (.aload_n 0, 1) := by decide +kernel
theorem dX7_counts_33 : decode cX7_counts 33 = .ok (.getfield 55, 3) := by decide +kernel
theorem dX7_counts_36 : decode cX7_counts 36 = .ok (.iconst (-1), 1) := by decide +kernel
theorem dX7_counts_37 : decode cX7_counts 37 = .ok (.invokevirtual 260, 3) := by decide +kernel
theorem dX7_counts_40 : decode cX7_counts 40 = .ok (.pop, 1) := by decide +kernel
theorem dX7_counts_41 : decode cX7_counts 41 = .ok (.bipush 9, 2) := by decide +kernel
theorem dX7_counts_43 : decode cX7_counts 43 = .ok (.iload_n 1, 1) := by decide +kernel
theorem dX7_counts_44 : decode cX7_counts 44 = .ok (.imul, 1) := by decide +kernel
theorem dX7_counts_45 : decode cX7_counts 45 = .ok (.iload_n 2, 1) := by decide +kernel
theorem dX7_counts_46 : decode cX7_counts 46 = .ok (.iadd, 1) := by decide +kernel
theorem dX7_counts_47 : decode cX7_counts 47 = .ok (.istore 4, 2) := by decide +kernel
theorem dX7_counts_49 : decode cX7_counts 49 = .ok (.iload_n 3, 1) := by decide +kernel
theorem dX7_counts_50 : decode cX7_counts 50 = .ok (.ifCond .ne 13, 3) := by decide +kernel
theorem dX7_counts_53 : decode cX7_counts 53 = .ok (.aload_n 0, 1) := by decide +kernel
theorem dX7_counts_54 : decode cX7_counts 54 = .ok (.getfield 61, 3) := by decide +kernel
theorem dX7_counts_57 : decode cX7_counts 57 = .ok (.iload 4, 2) := by decide +kernel
theorem dX7_counts_59 : decode cX7_counts 59 = .ok (.iaload, 1) := by decide +kernel
theorem dX7_counts_60 : decode cX7_counts 60 = .ok (.goto 18, 3) := by decide +kernel
theorem dX7_counts_63 : decode cX7_counts 63 = .ok (.aload_n 0, 1) := by decide +kernel
theorem dX7_counts_64 : decode cX7_counts 64 = .ok (.getfield 64, 3) := by decide +kernel
theorem dX7_counts_67 : decode cX7_counts 67 = .ok (.iload 4, 2) := by decide +kernel
theorem dX7_counts_69 : decode cX7_counts 69 = .ok (.baload, 1) := by decide +kernel
theorem dX7_counts_70 : decode cX7_counts 70 = .ok (.ifCond .eq 7, 3) := by decide +kernel
theorem dX7_counts_73 : decode cX7_counts 73 = .ok (.iconst 1, 1) := by decide +kernel
theorem dX7_counts_74 : decode cX7_counts 74 = .ok (.goto 4, 3) := by decide +kernel
theorem dX7_counts_77 : decode cX7_counts 77 = .ok (.iconst 0, 1) := by decide +kernel
theorem dX7_counts_78 : decode cX7_counts 78 = .ok (.ireturn, 1) := by decide +kernel
noncomputable def f_X7_counts (l1 : Int32) (l2 : Int32) (l3 : Int32) (mem : Mem) : Option (Int32 × Mem) :=
  ob (f_X7_isPlace l1 mem) fun r2 => if r2 = 0 then (some ((-1), mem)) else (ob (f_X7_isWord l2 mem) fun r10 => if r10 = 0 then (some ((-1), mem)) else (ob (f_X7_in l3 0 1) fun r19 => if r19 = 0 then (some ((-1), mem)) else (ob (f_X7_copyNow mem) fun m28 => ob2 (f_X7_passes 78 (-1) m28) fun r37 m37 => lt' ((9 * l1) + l2) fun v47 => if l3 = 0 then (rd (m37 80) 72 v47 fun v59 => some (v59, m37)) else (rd (m37 81) 72 v47 fun v69 => if v69 = 0 then (some (0, m37)) else (some (1, m37))))))
set_option maxRecDepth 100000 in
set_option maxHeartbeats 4000000 in
theorem m_X7_counts {E : Ex} {ad : Nat → Nat} {sh sp : Nat} {d : Nat} (hd : 6 ≤ d)  {l1 : Int32} {l2 : Int32} {l3 : Int32} {mem : Mem} {r : Int32 × Mem} (h : f_X7_counts l1 l2 l3 mem = some r) : Cl E yX7_counts cX7_counts 5 (some .int) d [.ref (ad 62), .int l1, .int l2, .int l3] (some (.int r.1)) ad (LC sh sp ++ LM) mem (LC sh sp ++ LM) r.2 := by
  refine Cl.of [some (.ref (ad 62)), some (.int l1), some (.int l2), some (.int l3), none] (by decide +kernel) rfl (Nat.le_of_ble_eq_true rfl) (fun κ C hP => ?_)
  have C : Cx E κ cX7_counts RX7 5 (some .int) d := C
  unfold f_X7_counts at h
  refine g_aload_n (pc := 0) (i := 0) (x := ad 62) C dX7_counts_0 rfl rfl ?_
  refine g_iload_n (pc := 1) (i := 1) (x := l1) C dX7_counts_1 rfl rfl ?_
  obtain ⟨r2, hcall2, h⟩ := ob_some h
  refine g_callV (pc := 2) C ce0 mi_X7_isPlace mv_X7_isPlace wm_X7_219 dX7_counts_2 ok_X7 [.int l1] [] la_62 (by omega) rfl rfl (Nat.le_of_ble_eq_true rfl) (m_X7_isPlace (d := d - 1) (by omega)  hcall2) ?_
  show Gw E κ 5 0 0 5 [some (.ref (ad 62)), some (.int l1), some (.int l2), some (.int l3), none] [.int r2] ad (LC sh sp ++ LM) mem
  rcases ite_some' h with ⟨hc5, h⟩ | ⟨hc5, h⟩
  · refine g_if_eq_t (pc := 5) C 25 dX7_counts_5 (by decide) hc5 ?_
    refine g_iconst (pc := 25) (v := (-1)) C dX7_counts_25 rfl ?_
    cases h
    exact g_iret (pc := 26) C hP rfl rfl dX7_counts_26
  · refine g_if_eq_f (pc := 5) C 25 dX7_counts_5 (by decide) hc5 ?_
    refine g_aload_n (pc := 8) (i := 0) (x := ad 62) C dX7_counts_8 rfl rfl ?_
    refine g_iload_n (pc := 9) (i := 2) (x := l2) C dX7_counts_9 rfl rfl ?_
    obtain ⟨r10, hcall10, h⟩ := ob_some h
    refine g_callV (pc := 10) C ce0 mi_X7_isWord mv_X7_isWord wm_X7_225 dX7_counts_10 ok_X7 [.int l2] [] la_62 (by omega) rfl rfl (Nat.le_of_ble_eq_true rfl) (m_X7_isWord (d := d - 1) (by omega)  hcall10) ?_
    show Gw E κ 5 0 0 13 [some (.ref (ad 62)), some (.int l1), some (.int l2), some (.int l3), none] [.int r10] ad (LC sh sp ++ LM) mem
    rcases ite_some' h with ⟨hc13, h⟩ | ⟨hc13, h⟩
    · refine g_if_eq_t (pc := 13) C 25 dX7_counts_13 (by decide) hc13 ?_
      refine g_iconst (pc := 25) (v := (-1)) C dX7_counts_25 rfl ?_
      cases h
      exact g_iret (pc := 26) C hP rfl rfl dX7_counts_26
    · refine g_if_eq_f (pc := 13) C 25 dX7_counts_13 (by decide) hc13 ?_
      refine g_iload_n (pc := 16) (i := 3) (x := l3) C dX7_counts_16 rfl rfl ?_
      refine g_iconst (pc := 17) (v := 0) C dX7_counts_17 rfl ?_
      refine g_iconst (pc := 18) (v := 1) C dX7_counts_18 rfl ?_
      obtain ⟨r19, hcall19, h⟩ := ob_some h
      refine g_callS (pc := 19) C ce0 mi_X7_in ms_X7_in wm_X7_123 dX7_counts_19 [.int l3, .int 0, .int 1] [] (by omega) rfl rfl (Nat.le_of_ble_eq_true rfl) (m_X7_in (d := d - 1) (by omega)  hcall19) ?_
      show Gw E κ 5 0 0 22 [some (.ref (ad 62)), some (.int l1), some (.int l2), some (.int l3), none] [.int r19] ad (LC sh sp ++ LM) mem
      rcases ite_some' h with ⟨hc22, h⟩ | ⟨hc22, h⟩
      · refine g_if_ne_f (pc := 22) C 27 dX7_counts_22 (by decide) hc22 ?_
        refine g_iconst (pc := 25) (v := (-1)) C dX7_counts_25 rfl ?_
        cases h
        exact g_iret (pc := 26) C hP rfl rfl dX7_counts_26
      · refine g_if_ne_t (pc := 22) C 27 dX7_counts_22 (by decide) hc22 ?_
        refine g_aload_n (pc := 27) (i := 0) (x := ad 62) C dX7_counts_27 rfl rfl ?_
        obtain ⟨m28, hcall28, h⟩ := ob_some h
        refine g_callV (pc := 28) C ce0 mi_X7_copyNow mv_X7_copyNow wm_X7_266 dX7_counts_28 ok_X7 [] [] la_62 (by omega) rfl rfl (Nat.le_of_ble_eq_true rfl) (m_X7_copyNow (d := d - 1) (by omega)  hcall28) ?_
        show Gw E κ 5 0 0 31 [some (.ref (ad 62)), some (.int l1), some (.int l2), some (.int l3), none] [] ad (LC sh sp ++ LM) m28
        refine g_aload_n (pc := 31) (i := 0) (x := ad 62) C dX7_counts_31 rfl rfl ?_
        refine g_aload_n (pc := 32) (i := 0) (x := ad 62) C dX7_counts_32 rfl rfl ?_
        refine g_get (pc := 33) (v := .ref (ad 78)) C ok_X7 27 (by decide) wf_X7_55 dX7_counts_33 la_62 rfl ?_
        refine g_iconst (pc := 36) (v := (-1)) C dX7_counts_36 rfl ?_
        obtain ⟨r37, m37, hcall37, h⟩ := ob2_some h
        refine g_callV (pc := 37) C ce0 mi_X7_passes mv_X7_passes wm_X7_260 dX7_counts_37 ok_X7 [.ref (ad 78), .int (-1)] [] la_62 (by omega) rfl rfl (Nat.le_of_ble_eq_true rfl) (m_X7_passes (d := d - 1) (by omega) o_78 hcall37) ?_
        show Gw E κ 5 0 0 40 [some (.ref (ad 62)), some (.int l1), some (.int l2), some (.int l3), none] [.int r37] ad (LC sh sp ++ LM) m37
        refine g_pop (pc := 40) C dX7_counts_40 rfl ?_
        refine g_bipush (pc := 41) (v := 9) C dX7_counts_41 rfl ?_
        refine g_iload_n (pc := 43) (i := 1) (x := l1) C dX7_counts_43 rfl rfl ?_
        refine g_imul (pc := 44) C dX7_counts_44 ?_
        refine g_iload_n (pc := 45) (i := 2) (x := l2) C dX7_counts_45 rfl rfl ?_
        refine g_iadd (pc := 46) C dX7_counts_46 ?_
        obtain ⟨v47, hv47, h⟩ := lt_some h
        refine g_topi hv47 ?_
        refine g_istore (pc := 47) (i := 4) (lv' := [some (.ref (ad 62)), some (.int l1), some (.int l2), some (.int l3), some (.int v47)]) C dX7_counts_47 (by decide) rfl rfl ?_
        refine g_iload_n (pc := 49) (i := 3) (x := l3) C dX7_counts_49 rfl rfl ?_
        rcases ite_some' h with ⟨hc50, h⟩ | ⟨hc50, h⟩
        · refine g_if_ne_f (pc := 50) C 63 dX7_counts_50 (by decide) hc50 ?_
          refine g_aload_n (pc := 53) (i := 0) (x := ad 62) C dX7_counts_53 rfl rfl ?_
          refine g_get (pc := 54) (v := .ref (ad 80)) C ok_X7 29 (by decide) wf_X7_61 dX7_counts_54 la_62 rfl ?_
          refine g_iload (pc := 57) (i := 4) (x := v47) C dX7_counts_57 rfl ?_
          obtain ⟨v59, hv59, hi59, h⟩ := rd_some h
          refine g_iald (pc := 59) C dX7_counts_59 la_80 hi59 ?_
          refine g_topi hv59 ?_
          refine g_goto (pc := 60) C 78 dX7_counts_60 (by decide) ?_
          cases h
          exact g_iret (pc := 78) C hP rfl rfl dX7_counts_78
        · refine g_if_ne_t (pc := 50) C 63 dX7_counts_50 (by decide) hc50 ?_
          refine g_aload_n (pc := 63) (i := 0) (x := ad 62) C dX7_counts_63 rfl rfl ?_
          refine g_get (pc := 64) (v := .ref (ad 81)) C ok_X7 30 (by decide) wf_X7_64 dX7_counts_64 la_62 rfl ?_
          refine g_iload (pc := 67) (i := 4) (x := v47) C dX7_counts_67 rfl ?_
          obtain ⟨v69, hv69, hi69, h⟩ := rd_some h
          refine g_zald (pc := 69) C dX7_counts_69 la_81 hi69 ?_
          refine g_topi hv69 ?_
          rcases ite_some' h with ⟨hc70, h⟩ | ⟨hc70, h⟩
          · refine g_if_eq_t (pc := 70) C 77 dX7_counts_70 (by decide) hc70 ?_
            refine g_iconst (pc := 77) (v := 0) C dX7_counts_77 rfl ?_
            cases h
            exact g_iret (pc := 78) C hP rfl rfl dX7_counts_78
          · refine g_if_eq_f (pc := 70) C 77 dX7_counts_70 (by decide) hc70 ?_
            refine g_iconst (pc := 73) (v := 1) C dX7_counts_73 rfl ?_
            refine g_goto (pc := 74) C 78 dX7_counts_74 (by decide) ?_
            cases h
            exact g_iret (pc := 78) C hP rfl rfl dX7_counts_78
