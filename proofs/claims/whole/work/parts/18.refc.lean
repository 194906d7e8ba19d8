theorem dX7_faultOf_0 : decode cX7_faultOf 0 = .ok (.aload_n 0, 1) := by decide +kernel
theorem dX7_faultOf_1 : decode cX7_faultOf 1 = .ok (.invokevirtual 92, 3) := by decide +kernel
theorem dX7_faultOf_4 : decode cX7_faultOf 4 = .ok (.aload_n 0, 1) := by decide +kernel
theorem dX7_faultOf_5 : decode cX7_faultOf 5 = .ok (.iconst 0, 1) := by decide +kernel
theorem dX7_faultOf_6 : decode cX7_faultOf 6 = .ok (.putfield 130, 3) := by decide +kernel
theorem dX7_faultOf_9 : decode cX7_faultOf 9 = .ok (.aload_n 0, 1) := by decide +kernel
theorem dX7_faultOf_10 : decode cX7_faultOf 10 = .ok (.getfield 130, 3) := by decide +kernel
theorem dX7_faultOf_13 : decode cX7_faultOf 13 = .ok (.aload_n 0, 1) := by decide +kernel
theorem dX7_faultOf_14 : decode cX7_faultOf 14 = .ok (.getfield 127, 3) := by decide +kernel
theorem dX7_faultOf_17 : decode cX7_faultOf 17 = .ok (.if_icmp .ge 20, 3) := by decide +kernel
theorem dX7_faultOf_20 : decode cX7_faultOf 20 = .ok (.aload_n 0, 1) := by decide +kernel
theorem dX7_faultOf_21 : decode cX7_faultOf 21 = .ok (.getfield 130, 3) := by decide +kernel
theorem dX7_faultOf_24 : decode cX7_faultOf 24 = .ok (.istore_n 1, 1) := by decide +kernel
theorem dX7_faultOf_25 : decode cX7_faultOf 25 = .ok (.aload_n 0, 1) := by decide +kernel
theorem dX7_faultOf_26 : decode cX7_faultOf 26 = .ok (.invokevirtual 165, 3) := by decide +kernel
theorem dX7_faultOf_29 : decode cX7_faultOf 29 = .ok (.ifCond .ne 5, 3) := by decide +kernel
theorem dX7_faultOf_32 : decode cX7_faultOf 32 = .ok (.iload_n 1, 1) := by decide +kernel
theorem dX7_faultOf_33 : decode cX7_faultOf 33 = .ok (.ireturn, 1) := by decide +kernel
theorem dX7_faultOf_34 : decode cX7_faultOf 34 = .ok (.goto (-25), 3) := by decide +kernel
theorem dX7_faultOf_37 : decode cX7_faultOf 37 = .ok (.bipush (-4), 2) := by decide +kernel
theorem dX7_faultOf_39 : decode cX7_faultOf 39 = .ok (.ireturn, 1) := by decide +kernel
noncomputable def f_X7_faultOf_b9 (q : Mem) : Option ((Mem) ⊕ ((Mem) ⊕ (Int32 × Mem))) :=
  if (q 62 0) ≤ (q 62 2) then (some (.inr (.inl q))) else (lt' (q 62 2) fun v24 => ob2 (f_X7_readsItem q) fun r26 m26 => if r26 = 0 then (some (.inr (.inr (v24, m26)))) else (some (.inl m26)))
noncomputable def f_X7_faultOf  (mem : Mem) : Option (Int32 × Mem) :=
  ob (f_X7_anew mem) fun m1 => lt' (mset m1 62 2 0) fun m6 => obs (lp f_X7_faultOf_b9 FU m6) (fun q9 => some ((-4), q9)) (fun r => some r)
def P_X7_faultOf_9 (E : Ex) (κ : Kx) (ad : Nat → Nat) (lay : List Ent) : (Mem) ⊕ ((Mem) ⊕ (Int32 × Mem)) → Prop
  | .inl q => Gw E κ 2 0 0 9 [some (.ref (ad 62)), none] [] ad lay q
  | .inr (.inl q) => Gw E κ 2 0 0 37 [none, none] [] ad lay q
  | .inr (.inr r) => Qr E κ (some (.int r.1)) ad lay r.2
set_option maxRecDepth 100000 in
set_option maxHeartbeats 4000000 in
theorem b_X7_faultOf_9 {E : Ex} {κ : Kx} {ad : Nat → Nat} {sh sp : Nat} {d : Nat} (C : Cx E κ cX7_faultOf RX7 2 (some .int) d) (hd : 4 ≤ d)  {q : Mem} {x : (Mem) ⊕ ((Mem) ⊕ (Int32 × Mem))} (h : f_X7_faultOf_b9  q = some x) (hP : (P_X7_faultOf_9 E κ ad (LC sh sp ++ LM) ) x) : Gw E κ 2 0 0 9 [some (.ref (ad 62)), none] [] ad (LC sh sp ++ LM) q := by
  unfold f_X7_faultOf_b9 at h
  refine g_aload_n (pc := 9) (i := 0) (x := ad 62) C dX7_faultOf_9 rfl rfl ?_
  refine g_get (pc := 10) (v := .int (q 62 2)) C ok_X7 2 (by decide) wf_X7_130 dX7_faultOf_10 la_62 rfl ?_
  refine g_aload_n (pc := 13) (i := 0) (x := ad 62) C dX7_faultOf_13 rfl rfl ?_
  refine g_get (pc := 14) (v := .int (q 62 0)) C ok_X7 0 (by decide) wf_X7_127 dX7_faultOf_14 la_62 rfl ?_
  rcases ite_some' h with ⟨hc17, h⟩ | ⟨hc17, h⟩
  · refine g_icmp_ge_t (pc := 17) C 37 dX7_faultOf_17 (by decide) hc17 ?_
    refine g_mask (lv' := [none, none]) [false, false] rfl ?_
    cases h
    exact hP
  · refine g_icmp_ge_f (pc := 17) C 37 dX7_faultOf_17 (by decide) hc17 ?_
    refine g_aload_n (pc := 20) (i := 0) (x := ad 62) C dX7_faultOf_20 rfl rfl ?_
    refine g_get (pc := 21) (v := .int (q 62 2)) C ok_X7 2 (by decide) wf_X7_130 dX7_faultOf_21 la_62 rfl ?_
    obtain ⟨v24, hv24, h⟩ := lt_some h
    refine g_topi hv24 ?_
    refine g_istore_n (pc := 24) (i := 1) (lv' := [some (.ref (ad 62)), some (.int v24)]) C dX7_faultOf_24 rfl (by decide) rfl rfl ?_
    refine g_aload_n (pc := 25) (i := 0) (x := ad 62) C dX7_faultOf_25 rfl rfl ?_
    obtain ⟨r26, m26, hcall26, h⟩ := ob2_some h
    refine g_callV (pc := 26) C ce0 mi_X7_readsItem mv_X7_readsItem wm_X7_165 dX7_faultOf_26 ok_X7 [] [] la_62 (by omega) rfl rfl (Nat.le_of_ble_eq_true rfl) (m_X7_readsItem (d := d - 1) (by omega)  hcall26) ?_
    show Gw E κ 2 0 0 29 [some (.ref (ad 62)), some (.int v24)] [.int r26] ad (LC sh sp ++ LM) m26
    rcases ite_some' h with ⟨hc29, h⟩ | ⟨hc29, h⟩
    · refine g_if_ne_f (pc := 29) C 34 dX7_faultOf_29 (by decide) hc29 ?_
      refine g_iload_n (pc := 32) (i := 1) (x := v24) C dX7_faultOf_32 rfl rfl ?_
      cases h
      exact g_iret (pc := 33) C hP rfl rfl dX7_faultOf_33
    · refine g_if_ne_t (pc := 29) C 34 dX7_faultOf_29 (by decide) hc29 ?_
      refine g_goto (pc := 34) C 9 dX7_faultOf_34 (by decide) ?_
      refine g_mask (lv' := [some (.ref (ad 62)), none]) [true, false] rfl ?_
      cases h
      exact hP
set_option maxRecDepth 100000 in
set_option maxHeartbeats 4000000 in
theorem m_X7_faultOf {E : Ex} {ad : Nat → Nat} {sh sp : Nat} {d : Nat} (hd : 4 ≤ d)   {mem : Mem} {r : Int32 × Mem} (h : f_X7_faultOf mem = some r) : Cl E yX7_faultOf cX7_faultOf 2 (some .int) d [.ref (ad 62)] (some (.int r.1)) ad (LC sh sp ++ LM) mem (LC sh sp ++ LM) r.2 := by
  refine Cl.of [some (.ref (ad 62)), none] (by decide +kernel) rfl (Nat.le_of_ble_eq_true rfl) (fun κ C hP => ?_)
  have C : Cx E κ cX7_faultOf RX7 2 (some .int) d := C
  unfold f_X7_faultOf at h
  refine g_aload_n (pc := 0) (i := 0) (x := ad 62) C dX7_faultOf_0 rfl rfl ?_
  obtain ⟨m1, hcall1, h⟩ := ob_some h
  refine g_callV (pc := 1) C ce0 mi_X7_anew mv_X7_anew wm_X7_92 dX7_faultOf_1 ok_X7 [] [] la_62 (by omega) rfl rfl (Nat.le_of_ble_eq_true rfl) (m_X7_anew (d := d - 1) (by omega)  hcall1) ?_
  show Gw E κ 2 0 0 4 [some (.ref (ad 62)), none] [] ad (LC sh sp ++ LM) m1
  refine g_aload_n (pc := 4) (i := 0) (x := ad 62) C dX7_faultOf_4 rfl rfl ?_
  refine g_iconst (pc := 5) (v := 0) C dX7_faultOf_5 rfl ?_
  obtain ⟨m6, hm6, h⟩ := lt_some h
  refine g_put (pc := 6) C ok_X7 2 (by decide) wf_X7_130 dX7_faultOf_6 rfl rfl la_62 ?_
  refine g_mem hm6 ?_
  rcases obs_some h with ⟨q9, hq, h⟩ | ⟨r, hq, h⟩
  · refine lp_gw (P_X7_faultOf_9 E κ ad (LC sh sp ++ LM) ) (fun q x hb hp => b_X7_faultOf_9 C hd hb hp) _ m6 _ hq ?_
    show Gw E κ 2 0 0 37 [none, none] [] ad (LC sh sp ++ LM) q9
    refine g_bipush (pc := 37) (v := (-4)) C dX7_faultOf_37 rfl ?_
    cases h
    exact g_iret (pc := 39) C hP rfl rfl dX7_faultOf_39
  · refine lp_gw (P_X7_faultOf_9 E κ ad (LC sh sp ++ LM) ) (fun q x hb hp => b_X7_faultOf_9 C hd hb hp) _ m6 _ hq ?_
    cases h
    exact hP

theorem dX7_fault_0 : decode cX7_fault 0 = .ok (.aload_n 0, 1) := by decide +kernel
theorem dX7_fault_1 : decode cX7_fault 1 = .ok (.invokevirtual 168, 3) := by decide +kernel
theorem dX7_fault_4 : decode cX7_fault 4 = .ok (.ireturn, 1) := by decide +kernel
noncomputable def f_X7_fault  (mem : Mem) : Option (Int32 × Mem) :=
  ob2 (f_X7_faultOf mem) fun r1 m1 => some (r1, m1)
set_option maxRecDepth 100000 in
set_option maxHeartbeats 4000000 in
theorem m_X7_fault {E : Ex} {ad : Nat → Nat} {sh sp : Nat} {d : Nat} (hd : 5 ≤ d)   {mem : Mem} {r : Int32 × Mem} (h : f_X7_fault mem = some r) : Cl E yX7_fault cX7_fault 1 (some .int) d [.ref (ad 62)] (some (.int r.1)) ad (LC sh sp ++ LM) mem (LC sh sp ++ LM) r.2 := by
  refine Cl.of [some (.ref (ad 62))] (by decide +kernel) rfl (Nat.le_of_ble_eq_true rfl) (fun κ C hP => ?_)
  have C : Cx E κ cX7_fault RX7 1 (some .int) d := C
  unfold f_X7_fault at h
  refine g_aload_n (pc := 0) (i := 0) (x := ad 62) C dX7_fault_0 rfl rfl ?_
  obtain ⟨r1, m1, hcall1, h⟩ := ob2_some h
  refine g_callV (pc := 1) C ce0 mi_X7_faultOf mv_X7_faultOf wm_X7_168 dX7_fault_1 ok_X7 [] [] la_62 (by omega) rfl rfl (Nat.le_of_ble_eq_true rfl) (m_X7_faultOf (d := d - 1) (by omega)  hcall1) ?_
  show Gw E κ 1 0 0 4 [some (.ref (ad 62))] [.int r1] ad (LC sh sp ++ LM) m1
  cases h
  exact g_iret (pc := 4) C hP rfl rfl dX7_fault_4

theorem dX7_squares_0 : decode cX7_squares 0 = .ok (.aload_n 0, 1) := by decide +kernel
theorem dX7_squares_1 : decode cX7_squares 1 = .ok (.getfield 171, 3) := by decide +kernel
theorem dX7_squares_4 : decode cX7_squares 4 = .ok (.aload_n 0, 1) := by decide +kernel
theorem dX7_squares_5 : decode cX7_squares 5 = .ok (.getfield 174, 3) := by decide +kernel
theorem dX7_squares_8 : decode cX7_squares 8 = .ok (.imul, 1) := by decide +kernel
theorem dX7_squares_9 : decode cX7_squares 9 = .ok (.ireturn, 1) := by decide +kernel
noncomputable def f_X7_squares  (mem : Mem) : Option (Int32) :=
  lt' ((mem 62 14) * (mem 62 15)) fun v9 => some v9
set_option maxRecDepth 100000 in
set_option maxHeartbeats 4000000 in
theorem m_X7_squares {E : Ex} {ad : Nat → Nat} {sh sp : Nat} {d : Nat} (hd : 0 ≤ d)   {mem : Mem} {r : Int32} (h : f_X7_squares mem = some r) : Cl E yX7_squares cX7_squares 1 (some .int) d [.ref (ad 62)] (some (.int r)) ad (LC sh sp ++ LM) mem (LC sh sp ++ LM) mem := by
  refine Cl.of [some (.ref (ad 62))] (by decide +kernel) rfl (Nat.le_of_ble_eq_true rfl) (fun κ C hP => ?_)
  have C : Cx E κ cX7_squares RX7 1 (some .int) d := C
  unfold f_X7_squares at h
  refine g_aload_n (pc := 0) (i := 0) (x := ad 62) C dX7_squares_0 rfl rfl ?_
  refine g_get (pc := 1) (v := .int (mem 62 14)) C ok_X7 14 (by decide) wf_X7_171 dX7_squares_1 la_62 rfl ?_
  refine g_aload_n (pc := 4) (i := 0) (x := ad 62) C dX7_squares_4 rfl rfl ?_
  refine g_get (pc := 5) (v := .int (mem 62 15)) C ok_X7 15 (by decide) wf_X7_174 dX7_squares_5 la_62 rfl ?_
  refine g_imul (pc := 8) C dX7_squares_8 ?_
  obtain ⟨v9, hv9, h⟩ := lt_some h
  refine g_topi hv9 ?_
  cases h
  exact g_iret (pc := 9) C hP rfl rfl dX7_squares_9

theorem dX7_layLine_0 : decode cX7_layLine 0 = .ok (.iconst 0, 1) := by decide +kernel
theorem dX7_layLine_1 : decode cX7_layLine 1 = .ok (.istore 4, 2) := by decide +kernel
theorem dX7_layLine_3 : decode cX7_layLine 3 = .ok (.iconst 0, 1) := by decide +kernel
theorem dX7_layLine_4 : decode cX7_layLine 4 = .ok (.istore 5, 2) := by decide +kernel
theorem dX7_layLine_6 : decode cX7_layLine 6 = .ok (.iload 5, 2) := by decide +kernel
theorem dX7_layLine_8 : decode cX7_layLine 8 = .ok (.iload_n 2, 1) := by decide +kernel
theorem dX7_layLine_9 : decode cX7_layLine 9 = .ok (.if_icmp .gt 93, 3) := by decide +kernel
theorem dX7_layLine_12 : decode cX7_layLine 12 = .ok (.iload 5, 2) := by decide +kernel
theorem dX7_layLine_14 : decode cX7_layLine 14 = .ok (.iload_n 2, 1) := by decide +kernel
theorem dX7_layLine_15 : decode cX7_layLine 15 = .ok (.if_icmp .ge 23, 3) := by decide +kernel
theorem dX7_layLine_18 : decode cX7_layLine 18 = .ok (.aload_n 0, 1) := by decide +kernel
theorem dX7_layLine_19 : decode cX7_layLine 19 = .ok (.getfield 31, 3) := by decide +kernel
theorem dX7_layLine_22 : decode cX7_layLine 22 = .ok (.iload_n 1, 1) := by decide +kernel
theorem dX7_layLine_23 : decode cX7_layLine 23 = .ok (.iload 5, 2) := by decide +kernel
theorem dX7_layLine_25 : decode cX7_layLine 25 = .ok (.iload_n 3, 1) := by decide +kernel
theorem dX7_layLine_26 : decode cX7_layLine 26 = .ok (.imul, 1) := by decide +kernel
theorem dX7_layLine_27 : decode cX7_layLine 27 = .ok (.iadd, 1) := by decide +kernel
theorem dX7_layLine_28 : decode cX7_layLine 28 = .ok (.iaload, 1) := by decide +kernel
theorem dX7_layLine_29 : decode cX7_layLine 29 = .ok (.ifCond .ne 9, 3) := by decide +kernel
theorem dX7_layLine_32 : decode cX7_layLine 32 = .ok (.iinc 4 1, 3) := by decide +kernel
theorem dX7_layLine_35 : decode cX7_layLine 35 = .ok (.goto 61, 3) := by decide +kernel
theorem dX7_layLine_38 : decode cX7_layLine 38 = .ok (.iload 4, 2) := by decide +kernel
theorem dX7_layLine_40 : decode cX7_layLine 40 = .ok (.iconst 1, 1) := by decide +kernel
theorem dX7_layLine_41 : decode cX7_layLine 41 = .ok (.if_icmp .le 52, 3) := by decide +kernel
theorem dX7_layLine_44 : decode cX7_layLine 44 = .ok (.aload_n 0, 1) := by decide +kernel
theorem dX7_layLine_45 : decode cX7_layLine 45 = .ok (.getfield 43, 3) := by decide +kernel
theorem dX7_layLine_48 : decode cX7_layLine 48 = .ok (.aload_n 0, 1) := by decide +kernel
theorem dX7_layLine_49 : decode cX7_layLine 49 = .ok (.getfield 177, 3) := by decide +kernel
theorem dX7_layLine_52 : decode cX7_layLine 52 = .ok (.iload_n 1, 1) := by decide +kernel
theorem dX7_layLine_53 : decode cX7_layLine 53 = .ok (.iload 5, 2) := by decide +kernel
theorem dX7_layLine_55 : decode cX7_layLine 55 = .ok (.iload 4, 2) := by decide +kernel
theorem dX7_layLine_57 : decode cX7_layLine 57 = .ok (.isub, 1) := by decide +kernel
theorem dX7_layLine_58 : decode cX7_layLine 58 = .ok (.iload_n 3, 1) := by decide +kernel
theorem dX7_layLine_59 : decode cX7_layLine 59 = .ok (.imul, 1) := by decide +kernel
theorem dX7_layLine_60 : decode cX7_layLine 60 = .ok (.iadd, 1) := by decide +kernel
theorem dX7_layLine_61 : decode cX7_layLine 61 = .ok (.iastore, 1) := by decide +kernel
theorem dX7_layLine_62 : decode cX7_layLine 62 = .ok (.aload_n 0, 1) := by decide +kernel
theorem dX7_layLine_63 : decode cX7_layLine 63 = .ok (.getfield 46, 3) := by decide +kernel
theorem dX7_layLine_66 : decode cX7_layLine 66 = .ok (.aload_n 0, 1) := by decide +kernel
theorem dX7_layLine_67 : decode cX7_layLine 67 = .ok (.getfield 177, 3) := by decide +kernel
theorem dX7_layLine_70 : decode cX7_layLine 70 = .ok (.iload 4, 2) := by decide +kernel
theorem dX7_layLine_72 : decode cX7_layLine 72 = .ok (.iastore, 1) := by decide +kernel
theorem dX7_layLine_73 : decode cX7_layLine 73 = .ok (.aload_n 0, 1) := by decide +kernel
theorem dX7_layLine_74 : decode cX7_layLine 74 = .ok (.getfield 49, 3) := by decide +kernel
theorem dX7_layLine_77 : decode cX7_layLine 77 = .ok (.aload_n 0, 1) := by decide +kernel
theorem dX7_layLine_78 : decode cX7_layLine 78 = .ok (.getfield 177, 3) := by decide +kernel
theorem dX7_layLine_81 : decode cX7_layLine 81 = .ok (.iload_n 3, 1) := by decide +kernel
theorem dX7_layLine_82 : decode cX7_layLine 82 = .ok (.iastore, 1) := by decide +kernel
theorem dX7_layLine_83 : decode cX7_layLine 83 = .ok (.aload_n 0, 1) := by decide +kernel
theorem dX7_layLine_84 : decode cX7_layLine 84 = .ok (.dup, 1) := by decide +kernel
theorem dX7_layLine_85 : decode cX7_layLine 85 = .ok (.getfield 177, 3) := by decide +kernel
theorem dX7_layLine_88 : decode cX7_layLine 88 = .ok (.iconst 1, 1) := by decide +kernel
theorem dX7_layLine_89 : decode cX7_layLine 89 = .ok (.iadd, 1) := by decide +kernel
theorem dX7_layLine_90 : decode cX7_layLine 90 = .ok (.putfield 177, 3) := by decide +kernel
theorem dX7_layLine_93 : decode cX7_layLine 93 = .ok (.iconst 0, 1) := by decide +kernel
theorem dX7_layLine_94 : decode cX7_layLine 94 = .ok (.istore 4, 2) := by decide +kernel
theorem dX7_layLine_96 : decode cX7_layLine 96 = .ok (.iinc 5 1, 3) := by decide +kernel
theorem dX7_layLine_99 : decode cX7_layLine 99 = .ok (.goto (-93), 3) := by decide +kernel
theorem dX7_layLine_102 : decode cX7_layLine 102 = .ok (.return_, 1) := by decide +kernel
noncomputable def f_X7_layLine_j38 (l1 : Int32) (l2 : Int32) (l3 : Int32) (l4 : Int32) (l5 : Int32) (mem : Mem) : Option ((Int32 × Int32 × Mem) ⊕ (Int32 × Int32 × Mem)) :=
  if l4 ≤ 1 then (lt' (l5 + 1) fun v96 => some (.inl (0, v96, mem))) else (wr mem 74 8 (mem 62 16) (l1 + ((l5 - l4) * l3)) fun m61 => wr m61 75 8 (m61 62 16) l4 fun m72 => wr m72 76 8 (m72 62 16) l3 fun m82 => lt' (mset m82 62 16 ((m82 62 16) + 1)) fun m90 => lt' (l5 + 1) fun v96 => some (.inl (0, v96, m90)))
noncomputable def f_X7_layLine_b6 (l1 : Int32) (l2 : Int32) (l3 : Int32) (q : Int32 × Int32 × Mem) : Option ((Int32 × Int32 × Mem) ⊕ (Int32 × Int32 × Mem)) :=
  if l2 < q.2.1 then (some (.inr (q.1, q.2.1, q.2.2))) else (if l2 ≤ q.2.1 then (f_X7_layLine_j38 l1 l2 l3 q.1 q.2.1 q.2.2) else (rd (q.2.2 70) 16 (l1 + (q.2.1 * l3)) fun v28 => if v28 = 0 then (lt' (q.1 + 1) fun v32 => lt' (q.2.1 + 1) fun v96 => some (.inl (v32, v96, q.2.2))) else (f_X7_layLine_j38 l1 l2 l3 q.1 q.2.1 q.2.2)))
noncomputable def f_X7_layLine (l1 : Int32) (l2 : Int32) (l3 : Int32) (mem : Mem) : Option (Mem) :=
  ob (lp (f_X7_layLine_b6 l1 l2 l3) FU (0, 0, mem)) fun q6 => some q6.2.2
def P_X7_layLine_6 (E : Ex) (κ : Kx) (ad : Nat → Nat) (lay : List Ent) (l1 : Int32) (l2 : Int32) (l3 : Int32) : (Int32 × Int32 × Mem) ⊕ (Int32 × Int32 × Mem) → Prop
  | .inl q => Gw E κ 6 0 0 6 [some (.ref (ad 62)), some (.int l1), some (.int l2), some (.int l3), some (.int q.1), some (.int q.2.1)] [] ad lay q.2.2
  | .inr q => Gw E κ 6 0 0 102 [none, none, none, none, none, none] [] ad lay q.2.2
set_option maxRecDepth 100000 in
set_option maxHeartbeats 4000000 in
theorem j_X7_layLine_38 {E : Ex} {κ : Kx} {ad : Nat → Nat} {sh sp : Nat} {d : Nat} (C : Cx E κ cX7_layLine RX7 6 none d) (hd : 0 ≤ d)  {l1 : Int32} {l2 : Int32} {l3 : Int32} {l4 : Int32} {l5 : Int32} {mem : Mem} {x : (Int32 × Int32 × Mem) ⊕ (Int32 × Int32 × Mem)} (h : f_X7_layLine_j38 l1 l2 l3 l4 l5 mem = some x) (hP : (P_X7_layLine_6 E κ ad (LC sh sp ++ LM) l1 l2 l3) x) : Gw E κ 6 0 0 38 [some (.ref (ad 62)), some (.int l1), some (.int l2), some (.int l3), some (.int l4), some (.int l5)] [] ad (LC sh sp ++ LM) mem := by
  unfold f_X7_layLine_j38 at h
  refine g_iload (pc := 38) (i := 4) (x := l4) C dX7_layLine_38 rfl ?_
  refine g_iconst (pc := 40) (v := 1) C dX7_layLine_40 rfl ?_
  rcases ite_some' h with ⟨hc41, h⟩ | ⟨hc41, h⟩
  · refine g_icmp_le_t (pc := 41) C 93 dX7_layLine_41 (by decide) hc41 ?_
    refine g_iconst (pc := 93) (v := 0) C dX7_layLine_93 rfl ?_
    refine g_istore (pc := 94) (i := 4) (lv' := [some (.ref (ad 62)), some (.int l1), some (.int l2), some (.int l3), some (.int 0), some (.int l5)]) C dX7_layLine_94 (by decide) rfl rfl ?_
    obtain ⟨v96, hv96, h⟩ := lt_some h
    refine g_iinc (pc := 96) (i := 5) (x := l5) (v := v96) (lv' := [some (.ref (ad 62)), some (.int l1), some (.int l2), some (.int l3), some (.int 0), some (.int v96)]) C dX7_layLine_96 rfl hv96.symm (by decide) rfl rfl ?_
    refine g_goto (pc := 99) C 6 dX7_layLine_99 (by decide) ?_
    cases h
    exact hP
  · refine g_icmp_le_f (pc := 41) C 93 dX7_layLine_41 (by decide) hc41 ?_
    refine g_aload_n (pc := 44) (i := 0) (x := ad 62) C dX7_layLine_44 rfl rfl ?_
    refine g_get (pc := 45) (v := .ref (ad 74)) C ok_X7 23 (by decide) wf_X7_43 dX7_layLine_45 la_62 rfl ?_
    refine g_aload_n (pc := 48) (i := 0) (x := ad 62) C dX7_layLine_48 rfl rfl ?_
    refine g_get (pc := 49) (v := .int (mem 62 16)) C ok_X7 16 (by decide) wf_X7_177 dX7_layLine_49 la_62 rfl ?_
    refine g_iload_n (pc := 52) (i := 1) (x := l1) C dX7_layLine_52 rfl rfl ?_
    refine g_iload (pc := 53) (i := 5) (x := l5) C dX7_layLine_53 rfl ?_
    refine g_iload (pc := 55) (i := 4) (x := l4) C dX7_layLine_55 rfl ?_
    refine g_isub (pc := 57) C dX7_layLine_57 ?_
    refine g_iload_n (pc := 58) (i := 3) (x := l3) C dX7_layLine_58 rfl rfl ?_
    refine g_imul (pc := 59) C dX7_layLine_59 ?_
    refine g_iadd (pc := 60) C dX7_layLine_60 ?_
    obtain ⟨m61, hm61, hi61, h⟩ := wr_some h
    refine g_iast (pc := 61) C dX7_layLine_61 la_74 hi61 ?_
    refine g_mem hm61 ?_
    refine g_aload_n (pc := 62) (i := 0) (x := ad 62) C dX7_layLine_62 rfl rfl ?_
    refine g_get (pc := 63) (v := .ref (ad 75)) C ok_X7 24 (by decide) wf_X7_46 dX7_layLine_63 la_62 rfl ?_
    refine g_aload_n (pc := 66) (i := 0) (x := ad 62) C dX7_layLine_66 rfl rfl ?_
    refine g_get (pc := 67) (v := .int (m61 62 16)) C ok_X7 16 (by decide) wf_X7_177 dX7_layLine_67 la_62 rfl ?_
    refine g_iload (pc := 70) (i := 4) (x := l4) C dX7_layLine_70 rfl ?_
    obtain ⟨m72, hm72, hi72, h⟩ := wr_some h
    refine g_iast (pc := 72) C dX7_layLine_72 la_75 hi72 ?_
    refine g_mem hm72 ?_
    refine g_aload_n (pc := 73) (i := 0) (x := ad 62) C dX7_layLine_73 rfl rfl ?_
    refine g_get (pc := 74) (v := .ref (ad 76)) C ok_X7 25 (by decide) wf_X7_49 dX7_layLine_74 la_62 rfl ?_
    refine g_aload_n (pc := 77) (i := 0) (x := ad 62) C dX7_layLine_77 rfl rfl ?_
    refine g_get (pc := 78) (v := .int (m72 62 16)) C ok_X7 16 (by decide) wf_X7_177 dX7_layLine_78 la_62 rfl ?_
    refine g_iload_n (pc := 81) (i := 3) (x := l3) C dX7_layLine_81 rfl rfl ?_
    obtain ⟨m82, hm82, hi82, h⟩ := wr_some h
    refine g_iast (pc := 82) C dX7_layLine_82 la_76 hi82 ?_
    refine g_mem hm82 ?_
    refine g_aload_n (pc := 83) (i := 0) (x := ad 62) C dX7_layLine_83 rfl rfl ?_
    refine g_dup (pc := 84) C dX7_layLine_84 rfl ?_
    refine g_get (pc := 85) (v := .int (m82 62 16)) C ok_X7 16 (by decide) wf_X7_177 dX7_layLine_85 la_62 rfl ?_
    refine g_iconst (pc := 88) (v := 1) C dX7_layLine_88 rfl ?_
    refine g_iadd (pc := 89) C dX7_layLine_89 ?_
    obtain ⟨m90, hm90, h⟩ := lt_some h
    refine g_put (pc := 90) C ok_X7 16 (by decide) wf_X7_177 dX7_layLine_90 rfl rfl la_62 ?_
    refine g_mem hm90 ?_
    refine g_iconst (pc := 93) (v := 0) C dX7_layLine_93 rfl ?_
    refine g_istore (pc := 94) (i := 4) (lv' := [some (.ref (ad 62)), some (.int l1), some (.int l2), some (.int l3), some (.int 0), some (.int l5)]) C dX7_layLine_94 (by decide) rfl rfl ?_
    obtain ⟨v96, hv96, h⟩ := lt_some h
    refine g_iinc (pc := 96) (i := 5) (x := l5) (v := v96) (lv' := [some (.ref (ad 62)), some (.int l1), some (.int l2), some (.int l3), some (.int 0), some (.int v96)]) C dX7_layLine_96 rfl hv96.symm (by decide) rfl rfl ?_
    refine g_goto (pc := 99) C 6 dX7_layLine_99 (by decide) ?_
    cases h
    exact hP
set_option maxRecDepth 100000 in
set_option maxHeartbeats 4000000 in
theorem b_X7_layLine_6 {E : Ex} {κ : Kx} {ad : Nat → Nat} {sh sp : Nat} {d : Nat} (C : Cx E κ cX7_layLine RX7 6 none d) (hd : 0 ≤ d)  {l1 : Int32} {l2 : Int32} {l3 : Int32} {q : Int32 × Int32 × Mem} {x : (Int32 × Int32 × Mem) ⊕ (Int32 × Int32 × Mem)} (h : f_X7_layLine_b6 l1 l2 l3 q = some x) (hP : (P_X7_layLine_6 E κ ad (LC sh sp ++ LM) l1 l2 l3) x) : Gw E κ 6 0 0 6 [some (.ref (ad 62)), some (.int l1), some (.int l2), some (.int l3), some (.int q.1), some (.int q.2.1)] [] ad (LC sh sp ++ LM) q.2.2 := by
  unfold f_X7_layLine_b6 at h
  refine g_iload (pc := 6) (i := 5) (x := q.2.1) C dX7_layLine_6 rfl ?_
  refine g_iload_n (pc := 8) (i := 2) (x := l2) C dX7_layLine_8 rfl rfl ?_
  rcases ite_some' h with ⟨hc9, h⟩ | ⟨hc9, h⟩
  · refine g_icmp_gt_t (pc := 9) C 102 dX7_layLine_9 (by decide) hc9 ?_
    refine g_mask (lv' := [none, none, none, none, none, none]) [false, false, false, false, false, false] rfl ?_
    cases h
    exact hP
  · refine g_icmp_gt_f (pc := 9) C 102 dX7_layLine_9 (by decide) hc9 ?_
    refine g_iload (pc := 12) (i := 5) (x := q.2.1) C dX7_layLine_12 rfl ?_
    refine g_iload_n (pc := 14) (i := 2) (x := l2) C dX7_layLine_14 rfl rfl ?_
    rcases ite_some' h with ⟨hc15, h⟩ | ⟨hc15, h⟩
    · refine g_icmp_ge_t (pc := 15) C 38 dX7_layLine_15 (by decide) hc15 ?_
      exact j_X7_layLine_38 C hd h hP
    · refine g_icmp_ge_f (pc := 15) C 38 dX7_layLine_15 (by decide) hc15 ?_
      refine g_aload_n (pc := 18) (i := 0) (x := ad 62) C dX7_layLine_18 rfl rfl ?_
      refine g_get (pc := 19) (v := .ref (ad 70)) C ok_X7 19 (by decide) wf_X7_31 dX7_layLine_19 la_62 rfl ?_
      refine g_iload_n (pc := 22) (i := 1) (x := l1) C dX7_layLine_22 rfl rfl ?_
      refine g_iload (pc := 23) (i := 5) (x := q.2.1) C dX7_layLine_23 rfl ?_
      refine g_iload_n (pc := 25) (i := 3) (x := l3) C dX7_layLine_25 rfl rfl ?_
      refine g_imul (pc := 26) C dX7_layLine_26 ?_
      refine g_iadd (pc := 27) C dX7_layLine_27 ?_
      obtain ⟨v28, hv28, hi28, h⟩ := rd_some h
      refine g_iald (pc := 28) C dX7_layLine_28 la_70 hi28 ?_
      refine g_topi hv28 ?_
      rcases ite_some' h with ⟨hc29, h⟩ | ⟨hc29, h⟩
      · refine g_if_ne_f (pc := 29) C 38 dX7_layLine_29 (by decide) hc29 ?_
        obtain ⟨v32, hv32, h⟩ := lt_some h
        refine g_iinc (pc := 32) (i := 4) (x := q.1) (v := v32) (lv' := [some (.ref (ad 62)), some (.int l1), some (.int l2), some (.int l3), some (.int v32), some (.int q.2.1)]) C dX7_layLine_32 rfl hv32.symm (by decide) rfl rfl ?_
        refine g_goto (pc := 35) C 96 dX7_layLine_35 (by decide) ?_
        obtain ⟨v96, hv96, h⟩ := lt_some h
        refine g_iinc (pc := 96) (i := 5) (x := q.2.1) (v := v96) (lv' := [some (.ref (ad 62)), some (.int l1), some (.int l2), some (.int l3), some (.int v32), some (.int v96)]) C dX7_layLine_96 rfl hv96.symm (by decide) rfl rfl ?_
        refine g_goto (pc := 99) C 6 dX7_layLine_99 (by decide) ?_
        cases h
        exact hP
      · refine g_if_ne_t (pc := 29) C 38 dX7_layLine_29 (by decide) hc29 ?_
        exact j_X7_layLine_38 C hd h hP
set_option maxRecDepth 100000 in
set_option maxHeartbeats 4000000 in
theorem m_X7_layLine {E : Ex} {ad : Nat → Nat} {sh sp : Nat} {d : Nat} (hd : 0 ≤ d)  {l1 : Int32} {l2 : Int32} {l3 : Int32} {mem : Mem} {r : Mem} (h : f_X7_layLine l1 l2 l3 mem = some r) : Cl E yX7_layLine cX7_layLine 6 none d [.ref (ad 62), .int l1, .int l2, .int l3] none ad (LC sh sp ++ LM) mem (LC sh sp ++ LM) r := by
  refine Cl.of [some (.ref (ad 62)), some (.int l1), some (.int l2), some (.int l3), none, none] (by decide +kernel) rfl (Nat.le_of_ble_eq_true rfl) (fun κ C hP => ?_)
  have C : Cx E κ cX7_layLine RX7 6 none d := C
  unfold f_X7_layLine at h
  refine g_iconst (pc := 0) (v := 0) C dX7_layLine_0 rfl ?_
  refine g_istore (pc := 1) (i := 4) (lv' := [some (.ref (ad 62)), some (.int l1), some (.int l2), some (.int l3), some (.int 0), none]) C dX7_layLine_1 (by decide) rfl rfl ?_
  refine g_iconst (pc := 3) (v := 0) C dX7_layLine_3 rfl ?_
  refine g_istore (pc := 4) (i := 5) (lv' := [some (.ref (ad 62)), some (.int l1), some (.int l2), some (.int l3), some (.int 0), some (.int 0)]) C dX7_layLine_4 (by decide) rfl rfl ?_
  obtain ⟨q6, hq, h⟩ := ob_some h
  refine lp_gw (P_X7_layLine_6 E κ ad (LC sh sp ++ LM) l1 l2 l3) (fun q x hb hp => b_X7_layLine_6 C hd hb hp) _ (0, 0, mem) _ hq ?_
  show Gw E κ 6 0 0 102 [none, none, none, none, none, none] [] ad (LC sh sp ++ LM) q6.2.2
  cases h
  exact g_vret (pc := 102) C hP rfl dX7_layLine_102

theorem dX7_laid_0 : decode cX7_laid 0 = .ok (.aload_n 0, 1) := by decide +kernel
theorem dX7_laid_1 : decode cX7_laid 1 = .ok (.aload_n 0, 1) := by decide +kernel
theorem dX7_laid_2 : decode cX7_laid 2 = .ok (.getfield 106, 3) := by decide +kernel
theorem dX7_laid_5 : decode cX7_laid 5 = .ok (.putfield 171, 3) := by decide +kernel
theorem dX7_laid_8 : decode cX7_laid 8 = .ok (.aload_n 0, 1) := by decide +kernel
theorem dX7_laid_9 : decode cX7_laid 9 = .ok (.aload_n 0, 1) := by decide +kernel
theorem dX7_laid_10 : decode cX7_laid 10 = .ok (.getfield 110, 3) := by decide +kernel
theorem dX7_laid_13 : decode cX7_laid 13 = .ok (.putfield 174, 3) := by decide +kernel
theorem dX7_laid_16 : decode cX7_laid 16 = .ok (.aload_n 0, 1) := by decide +kernel
theorem dX7_laid_17 : decode cX7_laid 17 = .ok (.aload_n 0, 1) := by decide +kernel
theorem dX7_laid_18 : decode cX7_laid 18 = .ok (.getfield 113, 3) := by decide +kernel
theorem dX7_laid_21 : decode cX7_laid 21 = .ok (.putfield 180, 3) := by decide +kernel
theorem dX7_laid_24 : decode cX7_laid 24 = .ok (.aload_n 0, 1) := by decide +kernel
theorem dX7_laid_25 : decode cX7_laid 25 = .ok (.aload_n 0, 1) := by decide +kernel
theorem dX7_laid_26 : decode cX7_laid 26 = .ok (.getfield 116, 3) := by decide +kernel
theorem dX7_laid_29 : decode cX7_laid 29 = .ok (.putfield 183, 3) := by decide +kernel
theorem dX7_laid_32 : decode cX7_laid 32 = .ok (.iconst 0, 1) := by decide +kernel
theorem dX7_laid_33 : decode cX7_laid 33 = .ok (.istore_n 1, 1) := by decide +kernel
theorem dX7_laid_34 : decode cX7_laid 34 = .ok (.iload_n 1, 1) := by decide +kernel
theorem dX7_laid_35 : decode cX7_laid 35 = .ok (.bipush 16, 2) := by decide +kernel
theorem dX7_laid_37 : decode cX7_laid 37 = .ok (.if_icmp .ge 47, 3) := by decide +kernel
theorem dX7_laid_40 : decode cX7_laid 40 = .ok (.aload_n 0, 1) := by decide +kernel
theorem dX7_laid_41 : decode cX7_laid 41 = .ok (.getfield 31, 3) := by decide +kernel
theorem dX7_laid_44 : decode cX7_laid 44 = .ok (.iload_n 1, 1) := by decide +kernel
theorem dX7_laid_45 : decode cX7_laid 45 = .ok (.aload_n 0, 1) := by decide +kernel
theorem dX7_laid_46 : decode cX7_laid 46 = .ok (.getfield 13, 3) := by decide +kernel
theorem dX7_laid_49 : decode cX7_laid 49 = .ok (.iload_n 1, 1) := by decide +kernel
theorem dX7_laid_50 : decode cX7_laid 50 = .ok (.iaload, 1) := by decide +kernel
theorem dX7_laid_51 : decode cX7_laid 51 = .ok (.iastore, 1) := by decide +kernel
theorem dX7_laid_52 : decode cX7_laid 52 = .ok (.aload_n 0, 1) := by decide +kernel
theorem dX7_laid_53 : decode cX7_laid 53 = .ok (.getfield 52, 3) := by decide +kernel
theorem dX7_laid_56 : decode cX7_laid 56 = .ok (.iload_n 1, 1) := by decide +kernel
theorem dX7_laid_57 : decode cX7_laid 57 = .ok (.aload_n 0, 1) := by decide +kernel
theorem dX7_laid_58 : decode cX7_laid 58 = .ok (.getfield 13, 3) := by decide +kernel
theorem dX7_laid_61 : decode cX7_laid 61 = .ok (.iload_n 1, 1) := by decide +kernel
theorem dX7_laid_62 : decode cX7_laid 62 = .ok (.iaload, 1) := by decide +kernel
theorem dX7_laid_63 : decode cX7_laid 63 = .ok (.iconst 1, 1) := by decide +kernel
theorem dX7_laid_64 : decode cX7_laid 64 = .ok (.if_icmp .ne 7, 3) := by decide +kernel
theorem dX7_laid_67 : decode cX7_laid 67 = .ok (.iconst 0, 1) := by decide +kernel
theorem dX7_laid_68 : decode cX7_laid 68 = .ok (.goto 9, 3) := by decide +kernel
theorem dX7_laid_71 : decode cX7_laid 71 = .ok (.aload_n 0, 1) := by decide +kernel
theorem dX7_laid_72 : decode cX7_laid 72 = .ok (.getfield 16, 3) := by decide +kernel
theorem dX7_laid_75 : decode cX7_laid 75 = .ok (.iload_n 1, 1) := by decide +kernel
theorem dX7_laid_76 : decode cX7_laid 76 = .ok (.iaload, 1) := by decide +kernel
theorem dX7_laid_77 : decode cX7_laid 77 = .ok (.iastore, 1) := by decide +kernel
theorem dX7_laid_78 : decode cX7_laid 78 = .ok (.iinc 1 1, 3) := by decide +kernel
theorem dX7_laid_81 : decode cX7_laid 81 = .ok (.goto (-47), 3) := by decide +kernel
theorem dX7_laid_84 : decode cX7_laid 84 = .ok (.iconst 0, 1) := by decide +kernel
theorem dX7_laid_85 : decode cX7_laid 85 = .ok (.istore_n 1, 1) := by decide +kernel
theorem dX7_laid_86 : decode cX7_laid 86 = .ok (.iload_n 1, 1) := by decide +kernel
theorem dX7_laid_87 : decode cX7_laid 87 = .ok (.bipush 9, 2) := by decide +kernel
theorem dX7_laid_89 : decode cX7_laid 89 = .ok (.if_icmp .ge 21, 3) := by decide +kernel
theorem dX7_laid_92 : decode cX7_laid 92 = .ok (.aload_n 0, 1) := by decide +kernel
theorem dX7_laid_93 : decode cX7_laid 93 = .ok (.getfield 34, 3) := by decide +kernel
theorem dX7_laid_96 : decode cX7_laid 96 = .ok (.iload_n 1, 1) := by decide +kernel
theorem dX7_laid_97 : decode cX7_laid 97 = .ok (.aload_n 0, 1) := by decide +kernel
theorem dX7_laid_98 : decode cX7_laid 98 = .ok (.getfield 19, 3) := by decide +kernel
theorem dX7_laid_101 : decode cX7_laid 101 = .ok (.iload_n 1, 1) := by decide +kernel
theorem dX7_laid_102 : decode cX7_laid 102 = .ok (.iaload, 1) := by decide +kernel
theorem dX7_laid_103 : decode cX7_laid 103 = .ok (.iastore, 1) := by decide +kernel
theorem dX7_laid_104 : decode cX7_laid 104 = .ok (.iinc 1 1, 3) := by decide +kernel
theorem dX7_laid_107 : decode cX7_laid 107 = .ok (.goto (-21), 3) := by decide +kernel
theorem dX7_laid_110 : decode cX7_laid 110 = .ok (.iconst 0, 1) := by decide +kernel
theorem dX7_laid_111 : decode cX7_laid 111 = .ok (.istore_n 1, 1) := by decide +kernel
theorem dX7_laid_112 : decode cX7_laid 112 = .ok (.iload_n 1, 1) := by decide +kernel
theorem dX7_laid_113 : decode cX7_laid 113 = .ok (.bipush 36, 2) := by decide +kernel
theorem dX7_laid_115 : decode cX7_laid 115 = .ok (.if_icmp .ge 21, 3) := by decide +kernel
theorem dX7_laid_118 : decode cX7_laid 118 = .ok (.aload_n 0, 1) := by decide +kernel
theorem dX7_laid_119 : decode cX7_laid 119 = .ok (.getfield 37, 3) := by decide +kernel
theorem dX7_laid_122 : decode cX7_laid 122 = .ok (.iload_n 1, 1) := by decide +kernel
theorem dX7_laid_123 : decode cX7_laid 123 = .ok (.aload_n 0, 1) := by decide +kernel
theorem dX7_laid_124 : decode cX7_laid 124 = .ok (.getfield 22, 3) := by decide +kernel
theorem dX7_laid_127 : decode cX7_laid 127 = .ok (.iload_n 1, 1) := by decide +kernel
theorem dX7_laid_128 : decode cX7_laid 128 = .ok (.iaload, 1) := by decide +kernel
theorem dX7_laid_129 : decode cX7_laid 129 = .ok (.iastore, 1) := by decide +kernel
theorem dX7_laid_130 : decode cX7_laid 130 = .ok (.iinc 1 1, 3) := by decide +kernel
theorem dX7_laid_133 : decode cX7_laid 133 = .ok (.goto (-21), 3) := by decide +kernel
theorem dX7_laid_136 : decode cX7_laid 136 = .ok (.iconst 0, 1) := by decide +kernel
theorem dX7_laid_137 : decode cX7_laid 137 = .ok (.istore_n 1, 1) := by decide +kernel
theorem dX7_laid_138 : decode cX7_laid 138 = .ok (.iload_n 1, 1) := by decide +kernel
theorem dX7_laid_139 : decode cX7_laid 139 = .ok (.bipush 6, 2) := by decide +kernel
theorem dX7_laid_141 : decode cX7_laid 141 = .ok (.if_icmp .ge 91, 3) := by decide +kernel
theorem dX7_laid_144 : decode cX7_laid 144 = .ok (.aload_n 0, 1) := by decide +kernel
theorem dX7_laid_145 : decode cX7_laid 145 = .ok (.getfield 40, 3) := by decide +kernel
theorem dX7_laid_148 : decode cX7_laid 148 = .ok (.iload_n 1, 1) := by decide +kernel
theorem dX7_laid_149 : decode cX7_laid 149 = .ok (.aload_n 0, 1) := by decide +kernel
theorem dX7_laid_150 : decode cX7_laid 150 = .ok (.getfield 25, 3) := by decide +kernel
theorem dX7_laid_153 : decode cX7_laid 153 = .ok (.iconst 3, 1) := by decide +kernel
theorem dX7_laid_154 : decode cX7_laid 154 = .ok (.iload_n 1, 1) := by decide +kernel
theorem dX7_laid_155 : decode cX7_laid 155 = .ok (.imul, 1) := by decide +kernel
theorem dX7_laid_156 : decode cX7_laid 156 = .ok (.iaload, 1) := by decide +kernel
theorem dX7_laid_157 : decode cX7_laid 157 = .ok (.iastore, 1) := by decide +kernel
theorem dX7_laid_158 : decode cX7_laid 158 = .ok (.aload_n 0, 1) := by decide +kernel
theorem dX7_laid_159 : decode cX7_laid 159 = .ok (.getfield 52, 3) := by decide +kernel
theorem dX7_laid_162 : decode cX7_laid 162 = .ok (.bipush 16, 2) := by decide +kernel
theorem dX7_laid_164 : decode cX7_laid 164 = .ok (.iconst 2, 1) := by decide +kernel
theorem dX7_laid_165 : decode cX7_laid 165 = .ok (.iload_n 1, 1) := by decide +kernel
theorem dX7_laid_166 : decode cX7_laid 166 = .ok (.imul, 1) := by decide +kernel
theorem dX7_laid_167 : decode cX7_laid 167 = .ok (.iadd, 1) := by decide +kernel
theorem dX7_laid_168 : decode cX7_laid 168 = .ok (.iload_n 1, 1) := by decide +kernel
theorem dX7_laid_169 : decode cX7_laid 169 = .ok (.aload_n 0, 1) := by decide +kernel
theorem dX7_laid_170 : decode cX7_laid 170 = .ok (.getfield 183, 3) := by decide +kernel
theorem dX7_laid_173 : decode cX7_laid 173 = .ok (.if_icmp .ge 16, 3) := by decide +kernel
theorem dX7_laid_176 : decode cX7_laid 176 = .ok (.aload_n 0, 1) := by decide +kernel
theorem dX7_laid_177 : decode cX7_laid 177 = .ok (.getfield 25, 3) := by decide +kernel
theorem dX7_laid_180 : decode cX7_laid 180 = .ok (.iconst 3, 1) := by decide +kernel
theorem dX7_laid_181 : decode cX7_laid 181 = .ok (.iload_n 1, 1) := by decide +kernel
theorem dX7_laid_182 : decode cX7_laid 182 = .ok (.imul, 1) := by decide +kernel
theorem dX7_laid_183 : decode cX7_laid 183 = .ok (.iconst 1, 1) := by decide +kernel
theorem dX7_laid_184 : decode cX7_laid 184 = .ok (.iadd, 1) := by decide +kernel
theorem dX7_laid_185 : decode cX7_laid 185 = .ok (.iaload, 1) := by decide +kernel
theorem dX7_laid_186 : decode cX7_laid 186 = .ok (.goto 4, 3) := by decide +kernel
theorem dX7_laid_189 : decode cX7_laid 189 = .ok (.iconst 0, 1) := by decide +kernel
theorem dX7_laid_190 : decode cX7_laid 190 = .ok (.iastore, 1) := by decide +kernel
theorem dX7_laid_191 : decode cX7_laid 191 = .ok (.aload_n 0, 1) := by decide +kernel
theorem dX7_laid_192 : decode cX7_laid 192 = .ok (.getfield 52, 3) := by decide +kernel
theorem dX7_laid_195 : decode cX7_laid 195 = .ok (.bipush 16, 2) := by decide +kernel
theorem dX7_laid_197 : decode cX7_laid 197 = .ok (.iconst 2, 1) := by decide +kernel
theorem dX7_laid_198 : decode cX7_laid 198 = .ok (.iload_n 1, 1) := by decide +kernel
theorem dX7_laid_199 : decode cX7_laid 199 = .ok (.imul, 1) := by decide +kernel
theorem dX7_laid_200 : decode cX7_laid 200 = .ok (.iadd, 1) := by decide +kernel
theorem dX7_laid_201 : decode cX7_laid 201 = .ok (.iconst 1, 1) := by decide +kernel
theorem dX7_laid_202 : decode cX7_laid 202 = .ok (.iadd, 1) := by decide +kernel
theorem dX7_laid_203 : decode cX7_laid 203 = .ok (.iload_n 1, 1) := by decide +kernel
theorem dX7_laid_204 : decode cX7_laid 204 = .ok (.aload_n 0, 1) := by decide +kernel
theorem dX7_laid_205 : decode cX7_laid 205 = .ok (.getfield 183, 3) := by decide +kernel
theorem dX7_laid_208 : decode cX7_laid 208 = .ok (.if_icmp .ge 16, 3) := by decide +kernel
theorem dX7_laid_211 : decode cX7_laid 211 = .ok (.aload_n 0, 1) := by decide +kernel
theorem dX7_laid_212 : decode cX7_laid 212 = .ok (.getfield 25, 3) := by decide +kernel
theorem dX7_laid_215 : decode cX7_laid 215 = .ok (.iconst 3, 1) := by decide +kernel
theorem dX7_laid_216 : decode cX7_laid 216 = .ok (.iload_n 1, 1) := by decide +kernel
theorem dX7_laid_217 : decode cX7_laid 217 = .ok (.imul, 1) := by decide +kernel
theorem dX7_laid_218 : decode cX7_laid 218 = .ok (.iconst 2, 1) := by decide +kernel
theorem dX7_laid_219 : decode cX7_laid 219 = .ok (.iadd, 1) := by decide +kernel
theorem dX7_laid_220 : decode cX7_laid 220 = .ok (.iaload, 1) := by decide +kernel
theorem dX7_laid_221 : decode cX7_laid 221 = .ok (.goto 4, 3) := by decide +kernel
theorem dX7_laid_224 : decode cX7_laid 224 = .ok (.iconst 0, 1) := by decide +kernel
theorem dX7_laid_225 : decode cX7_laid 225 = .ok (.iastore, 1) := by decide +kernel
theorem dX7_laid_226 : decode cX7_laid 226 = .ok (.iinc 1 1, 3) := by decide +kernel
theorem dX7_laid_229 : decode cX7_laid 229 = .ok (.goto (-91), 3) := by decide +kernel
theorem dX7_laid_232 : decode cX7_laid 232 = .ok (.aload_n 0, 1) := by decide +kernel
theorem dX7_laid_233 : decode cX7_laid 233 = .ok (.iconst 0, 1) := by decide +kernel
theorem dX7_laid_234 : decode cX7_laid 234 = .ok (.putfield 177, 3) := by decide +kernel
theorem dX7_laid_237 : decode cX7_laid 237 = .ok (.iconst 0, 1) := by decide +kernel
theorem dX7_laid_238 : decode cX7_laid 238 = .ok (.istore_n 1, 1) := by decide +kernel
theorem dX7_laid_239 : decode cX7_laid 239 = .ok (.iload_n 1, 1) := by decide +kernel
theorem dX7_laid_240 : decode cX7_laid 240 = .ok (.aload_n 0, 1) := by decide +kernel
theorem dX7_laid_241 : decode cX7_laid 241 = .ok (.getfield 171, 3) := by decide +kernel
theorem dX7_laid_244 : decode cX7_laid 244 = .ok (.if_icmp .ge 24, 3) := by decide +kernel
theorem dX7_laid_247 : decode cX7_laid 247 = .ok (.aload_n 0, 1) := by decide +kernel
theorem dX7_laid_248 : decode cX7_laid 248 = .ok (.iload_n 1, 1) := by decide +kernel
theorem dX7_laid_249 : decode cX7_laid 249 = .ok (.aload_n 0, 1) := by decide +kernel
theorem dX7_laid_250 : decode cX7_laid 250 = .ok (.getfield 174, 3) := by decide +kernel
theorem dX7_laid_253 : decode cX7_laid 253 = .ok (.imul, 1) := by decide +kernel
theorem dX7_laid_254 : decode cX7_laid 254 = .ok (.aload_n 0, 1) := by decide +kernel
theorem dX7_laid_255 : decode cX7_laid 255 = .ok (.getfield 174, 3) := by decide +kernel
theorem dX7_laid_258 : decode cX7_laid 258 = .ok (.iconst 1, 1) := by decide +kernel
theorem dX7_laid_259 : decode cX7_laid 259 = .ok (.invokevirtual 186, 3) := by decide +kernel
theorem dX7_laid_262 : decode cX7_laid 262 = .ok (.iinc 1 1, 3) := by decide +kernel
theorem dX7_laid_265 : decode cX7_laid 265 = .ok (.goto (-26), 3) := by decide +kernel
theorem dX7_laid_268 : decode cX7_laid 268 = .ok (.iconst 0, 1) := by decide +kernel
theorem dX7_laid_269 : decode cX7_laid 269 = .ok (.istore_n 1, 1) := by decide +kernel
theorem dX7_laid_270 : decode cX7_laid 270 = .ok (.iload_n 1, 1) := by decide +kernel
theorem dX7_laid_271 : decode cX7_laid 271 = .ok (.aload_n 0, 1) := by decide +kernel
theorem dX7_laid_272 : decode cX7_laid 272 = .ok (.getfield 174, 3) := by decide +kernel
theorem dX7_laid_275 : decode cX7_laid 275 = .ok (.if_icmp .ge 22, 3) := by decide +kernel
theorem dX7_laid_278 : decode cX7_laid 278 = .ok (.aload_n 0, 1) := by decide +kernel
theorem dX7_laid_279 : decode cX7_laid 279 = .ok (.iload_n 1, 1) := by decide +kernel
theorem dX7_laid_280 : decode cX7_laid 280 = .ok (.aload_n 0, 1) := by decide +kernel
theorem dX7_laid_281 : decode cX7_laid 281 = .ok (.getfield 171, 3) := by decide +kernel
theorem dX7_laid_284 : decode cX7_laid 284 = .ok (.aload_n 0, 1) := by decide +kernel
theorem dX7_laid_285 : decode cX7_laid 285 = .ok (.getfield 174, 3) := by decide +kernel
theorem dX7_laid_288 : decode cX7_laid 288 = .ok (.invokevirtual 186, 3) := by decide +kernel
theorem dX7_laid_291 : decode cX7_laid 291 = .ok (.iinc 1 1, 3) := by decide +kernel
theorem dX7_laid_294 : decode cX7_laid 294 = .ok (.goto (-24), 3) := by decide +kernel
theorem dX7_laid_297 : decode cX7_laid 297 = .ok (.aload_n 0, 1) := by decide +kernel
theorem dX7_laid_298 : decode cX7_laid 298 = .ok (.iconst 0, 1) := by decide +kernel
theorem dX7_laid_299 : decode cX7_laid 299 = .ok (.putfield 189, 3) := by decide +kernel
theorem dX7_laid_302 : decode cX7_laid 302 = .ok (.aload_n 0, 1) := by decide +kernel
theorem dX7_laid_303 : decode cX7_laid 303 = .ok (.iconst 0, 1) := by decide +kernel
theorem dX7_laid_304 : decode cX7_laid 304 = .ok (.putfield 192, 3) := by decide +kernel
theorem dX7_laid_307 : decode cX7_laid 307 = .ok (.aload_n 0, 1) := by decide +kernel
theorem dX7_laid_308 : decode cX7_laid 308 = .ok (.iconst 0, 1) := by decide +kernel
theorem dX7_laid_309 : decode cX7_laid 309 = .ok (.putfield 195, 3) := by decide +kernel
theorem dX7_laid_312 : decode cX7_laid 312 = .ok (.return_, 1) := by decide +kernel
noncomputable def f_X7_laid_b34 (q : Int32 × Mem) : Option ((Int32 × Mem) ⊕ (Int32 × Mem)) :=
  if 16 ≤ q.1 then (some (.inr (q.1, q.2))) else (rd (q.2 64) 16 q.1 fun v50 => wr q.2 70 16 q.1 v50 fun m51 => rd (m51 64) 16 q.1 fun v62 => if v62 = 1 then (wr m51 77 28 q.1 0 fun m77 => lt' (q.1 + 1) fun v78 => some (.inl (v78, m77))) else (rd (m51 65) 16 q.1 fun v76 => wr m51 77 28 q.1 v76 fun m77 => lt' (q.1 + 1) fun v78 => some (.inl (v78, m77))))
noncomputable def f_X7_laid_b86 (q : Int32 × Mem) : Option ((Int32 × Mem) ⊕ (Int32 × Mem)) :=
  if 9 ≤ q.1 then (some (.inr (q.1, q.2))) else (rd (q.2 66) 9 q.1 fun v102 => wr q.2 71 9 q.1 v102 fun m103 => lt' (q.1 + 1) fun v104 => some (.inl (v104, m103)))
noncomputable def f_X7_laid_b112 (q : Int32 × Mem) : Option ((Int32 × Mem) ⊕ (Int32 × Mem)) :=
  if 36 ≤ q.1 then (some (.inr (q.1, q.2))) else (rd (q.2 67) 36 q.1 fun v128 => wr q.2 72 36 q.1 v128 fun m129 => lt' (q.1 + 1) fun v130 => some (.inl (v130, m129)))
noncomputable def f_X7_laid_j190 (l1 : Int32) (w1 : Int32) (w2 : Int32) (mem : Mem) : Option ((Int32 × Mem) ⊕ (Int32 × Mem)) :=
  wr mem 77 28 w1 w2 fun m190 => if (m190 62 18) ≤ l1 then (wr m190 77 28 ((16 + (2 * l1)) + 1) 0 fun m225 => lt' (l1 + 1) fun v226 => some (.inl (v226, m225))) else (rd (m190 68) 18 ((3 * l1) + 2) fun v220 => wr m190 77 28 ((16 + (2 * l1)) + 1) v220 fun m225 => lt' (l1 + 1) fun v226 => some (.inl (v226, m225)))
noncomputable def f_X7_laid_b138 (q : Int32 × Mem) : Option ((Int32 × Mem) ⊕ (Int32 × Mem)) :=
  if 6 ≤ q.1 then (some (.inr (q.1, q.2))) else (rd (q.2 68) 18 (3 * q.1) fun v156 => wr q.2 73 6 q.1 v156 fun m157 => if (m157 62 18) ≤ q.1 then (f_X7_laid_j190 q.1 (16 + (2 * q.1)) 0 m157) else (rd (m157 68) 18 ((3 * q.1) + 1) fun v185 => f_X7_laid_j190 q.1 (16 + (2 * q.1)) v185 m157))
noncomputable def f_X7_laid_b239 (q : Int32 × Mem) : Option ((Int32 × Mem) ⊕ (Int32 × Mem)) :=
  if (q.2 62 14) ≤ q.1 then (some (.inr (q.1, q.2))) else (ob (f_X7_layLine (q.1 * (q.2 62 15)) (q.2 62 15) 1 q.2) fun m259 => lt' (q.1 + 1) fun v262 => some (.inl (v262, m259)))
noncomputable def f_X7_laid_b270 (q : Int32 × Mem) : Option ((Int32 × Mem) ⊕ (Int32 × Mem)) :=
  if (q.2 62 15) ≤ q.1 then (some (.inr (q.1, q.2))) else (ob (f_X7_layLine q.1 (q.2 62 14) (q.2 62 15) q.2) fun m288 => lt' (q.1 + 1) fun v291 => some (.inl (v291, m288)))
noncomputable def f_X7_laid  (mem : Mem) : Option (Mem) :=
  lt' (mset mem 62 14 (mem 62 3)) fun m5 => lt' (mset m5 62 15 (m5 62 4)) fun m13 => lt' (mset m13 62 17 (m13 62 5)) fun m21 => lt' (mset m21 62 18 (m21 62 6)) fun m29 => ob (lp f_X7_laid_b34 FU (0, m29)) fun q34 => ob (lp f_X7_laid_b86 FU (0, q34.2)) fun q86 => ob (lp f_X7_laid_b112 FU (0, q86.2)) fun q112 => ob (lp f_X7_laid_b138 FU (0, q112.2)) fun q138 => lt' (mset q138.2 62 16 0) fun m234 => ob (lp f_X7_laid_b239 FU (0, m234)) fun q239 => ob (lp f_X7_laid_b270 FU (0, q239.2)) fun q270 => lt' (mset q270.2 62 31 0) fun m299 => lt' (mset m299 62 43 0) fun m304 => lt' (mset m304 62 40 0) fun m309 => some m309
def P_X7_laid_34 (E : Ex) (κ : Kx) (ad : Nat → Nat) (lay : List Ent) : (Int32 × Mem) ⊕ (Int32 × Mem) → Prop
  | .inl q => Gw E κ 2 0 0 34 [some (.ref (ad 62)), some (.int q.1)] [] ad lay q.2
  | .inr q => Gw E κ 2 0 0 84 [some (.ref (ad 62)), none] [] ad lay q.2
def P_X7_laid_86 (E : Ex) (κ : Kx) (ad : Nat → Nat) (lay : List Ent) : (Int32 × Mem) ⊕ (Int32 × Mem) → Prop
  | .inl q => Gw E κ 2 0 0 86 [some (.ref (ad 62)), some (.int q.1)] [] ad lay q.2
  | .inr q => Gw E κ 2 0 0 110 [some (.ref (ad 62)), none] [] ad lay q.2
def P_X7_laid_112 (E : Ex) (κ : Kx) (ad : Nat → Nat) (lay : List Ent) : (Int32 × Mem) ⊕ (Int32 × Mem) → Prop
  | .inl q => Gw E κ 2 0 0 112 [some (.ref (ad 62)), some (.int q.1)] [] ad lay q.2
  | .inr q => Gw E κ 2 0 0 136 [some (.ref (ad 62)), none] [] ad lay q.2
def P_X7_laid_138 (E : Ex) (κ : Kx) (ad : Nat → Nat) (lay : List Ent) : (Int32 × Mem) ⊕ (Int32 × Mem) → Prop
  | .inl q => Gw E κ 2 0 0 138 [some (.ref (ad 62)), some (.int q.1)] [] ad lay q.2
  | .inr q => Gw E κ 2 0 0 232 [some (.ref (ad 62)), none] [] ad lay q.2
def P_X7_laid_239 (E : Ex) (κ : Kx) (ad : Nat → Nat) (lay : List Ent) : (Int32 × Mem) ⊕ (Int32 × Mem) → Prop
  | .inl q => Gw E κ 2 0 0 239 [some (.ref (ad 62)), some (.int q.1)] [] ad lay q.2
  | .inr q => Gw E κ 2 0 0 268 [some (.ref (ad 62)), none] [] ad lay q.2
def P_X7_laid_270 (E : Ex) (κ : Kx) (ad : Nat → Nat) (lay : List Ent) : (Int32 × Mem) ⊕ (Int32 × Mem) → Prop
  | .inl q => Gw E κ 2 0 0 270 [some (.ref (ad 62)), some (.int q.1)] [] ad lay q.2
  | .inr q => Gw E κ 2 0 0 297 [some (.ref (ad 62)), none] [] ad lay q.2
set_option maxRecDepth 100000 in
set_option maxHeartbeats 4000000 in
theorem b_X7_laid_34 {E : Ex} {κ : Kx} {ad : Nat → Nat} {sh sp : Nat} {d : Nat} (C : Cx E κ cX7_laid RX7 2 none d) (hd : 1 ≤ d)  {q : Int32 × Mem} {x : (Int32 × Mem) ⊕ (Int32 × Mem)} (h : f_X7_laid_b34  q = some x) (hP : (P_X7_laid_34 E κ ad (LC sh sp ++ LM) ) x) : Gw E κ 2 0 0 34 [some (.ref (ad 62)), some (.int q.1)] [] ad (LC sh sp ++ LM) q.2 := by
  unfold f_X7_laid_b34 at h
  refine g_iload_n (pc := 34) (i := 1) (x := q.1) C dX7_laid_34 rfl rfl ?_
  refine g_bipush (pc := 35) (v := 16) C dX7_laid_35 rfl ?_
  rcases ite_some' h with ⟨hc37, h⟩ | ⟨hc37, h⟩
  · refine g_icmp_ge_t (pc := 37) C 84 dX7_laid_37 (by decide) hc37 ?_
    refine g_mask (lv' := [some (.ref (ad 62)), none]) [true, false] rfl ?_
    cases h
    exact hP
  · refine g_icmp_ge_f (pc := 37) C 84 dX7_laid_37 (by decide) hc37 ?_
    refine g_aload_n (pc := 40) (i := 0) (x := ad 62) C dX7_laid_40 rfl rfl ?_
    refine g_get (pc := 41) (v := .ref (ad 70)) C ok_X7 19 (by decide) wf_X7_31 dX7_laid_41 la_62 rfl ?_
    refine g_iload_n (pc := 44) (i := 1) (x := q.1) C dX7_laid_44 rfl rfl ?_
    refine g_aload_n (pc := 45) (i := 0) (x := ad 62) C dX7_laid_45 rfl rfl ?_
    refine g_get (pc := 46) (v := .ref (ad 64)) C ok_X7 8 (by decide) wf_X7_13 dX7_laid_46 la_62 rfl ?_
    refine g_iload_n (pc := 49) (i := 1) (x := q.1) C dX7_laid_49 rfl rfl ?_
    obtain ⟨v50, hv50, hi50, h⟩ := rd_some h
    refine g_iald (pc := 50) C dX7_laid_50 la_64 hi50 ?_
    refine g_topi hv50 ?_
    obtain ⟨m51, hm51, hi51, h⟩ := wr_some h
    refine g_iast (pc := 51) C dX7_laid_51 la_70 hi51 ?_
    refine g_mem hm51 ?_
    refine g_aload_n (pc := 52) (i := 0) (x := ad 62) C dX7_laid_52 rfl rfl ?_
    refine g_get (pc := 53) (v := .ref (ad 77)) C ok_X7 26 (by decide) wf_X7_52 dX7_laid_53 la_62 rfl ?_
    refine g_iload_n (pc := 56) (i := 1) (x := q.1) C dX7_laid_56 rfl rfl ?_
    refine g_aload_n (pc := 57) (i := 0) (x := ad 62) C dX7_laid_57 rfl rfl ?_
    refine g_get (pc := 58) (v := .ref (ad 64)) C ok_X7 8 (by decide) wf_X7_13 dX7_laid_58 la_62 rfl ?_
    refine g_iload_n (pc := 61) (i := 1) (x := q.1) C dX7_laid_61 rfl rfl ?_
    obtain ⟨v62, hv62, hi62, h⟩ := rd_some h
    refine g_iald (pc := 62) C dX7_laid_62 la_64 hi62 ?_
    refine g_topi hv62 ?_
    refine g_iconst (pc := 63) (v := 1) C dX7_laid_63 rfl ?_
    rcases ite_some' h with ⟨hc64, h⟩ | ⟨hc64, h⟩
    · refine g_icmp_ne_f (pc := 64) C 71 dX7_laid_64 (by decide) hc64 ?_
      refine g_iconst (pc := 67) (v := 0) C dX7_laid_67 rfl ?_
      refine g_goto (pc := 68) C 77 dX7_laid_68 (by decide) ?_
      obtain ⟨m77, hm77, hi77, h⟩ := wr_some h
      refine g_iast (pc := 77) C dX7_laid_77 la_77 hi77 ?_
      refine g_mem hm77 ?_
      obtain ⟨v78, hv78, h⟩ := lt_some h
      refine g_iinc (pc := 78) (i := 1) (x := q.1) (v := v78) (lv' := [some (.ref (ad 62)), some (.int v78)]) C dX7_laid_78 rfl hv78.symm (by decide) rfl rfl ?_
      refine g_goto (pc := 81) C 34 dX7_laid_81 (by decide) ?_
      cases h
      exact hP
    · refine g_icmp_ne_t (pc := 64) C 71 dX7_laid_64 (by decide) hc64 ?_
      refine g_aload_n (pc := 71) (i := 0) (x := ad 62) C dX7_laid_71 rfl rfl ?_
      refine g_get (pc := 72) (v := .ref (ad 65)) C ok_X7 9 (by decide) wf_X7_16 dX7_laid_72 la_62 rfl ?_
      refine g_iload_n (pc := 75) (i := 1) (x := q.1) C dX7_laid_75 rfl rfl ?_
      obtain ⟨v76, hv76, hi76, h⟩ := rd_some h
      refine g_iald (pc := 76) C dX7_laid_76 la_65 hi76 ?_
      refine g_topi hv76 ?_
      obtain ⟨m77, hm77, hi77, h⟩ := wr_some h
      refine g_iast (pc := 77) C dX7_laid_77 la_77 hi77 ?_
      refine g_mem hm77 ?_
      obtain ⟨v78, hv78, h⟩ := lt_some h
      refine g_iinc (pc := 78) (i := 1) (x := q.1) (v := v78) (lv' := [some (.ref (ad 62)), some (.int v78)]) C dX7_laid_78 rfl hv78.symm (by decide) rfl rfl ?_
      refine g_goto (pc := 81) C 34 dX7_laid_81 (by decide) ?_
      cases h
      exact hP
set_option maxRecDepth 100000 in
set_option maxHeartbeats 4000000 in
theorem b_X7_laid_86 {E : Ex} {κ : Kx} {ad : Nat → Nat} {sh sp : Nat} {d : Nat} (C : Cx E κ cX7_laid RX7 2 none d) (hd : 1 ≤ d)  {q : Int32 × Mem} {x : (Int32 × Mem) ⊕ (Int32 × Mem)} (h : f_X7_laid_b86  q = some x) (hP : (P_X7_laid_86 E κ ad (LC sh sp ++ LM) ) x) : Gw E κ 2 0 0 86 [some (.ref (ad 62)), some (.int q.1)] [] ad (LC sh sp ++ LM) q.2 := by
  unfold f_X7_laid_b86 at h
  refine g_iload_n (pc := 86) (i := 1) (x := q.1) C dX7_laid_86 rfl rfl ?_
  refine g_bipush (pc := 87) (v := 9) C dX7_laid_87 rfl ?_
  rcases ite_some' h with ⟨hc89, h⟩ | ⟨hc89, h⟩
  · refine g_icmp_ge_t (pc := 89) C 110 dX7_laid_89 (by decide) hc89 ?_
    refine g_mask (lv' := [some (.ref (ad 62)), none]) [true, false] rfl ?_
    cases h
    exact hP
  · refine g_icmp_ge_f (pc := 89) C 110 dX7_laid_89 (by decide) hc89 ?_
    refine g_aload_n (pc := 92) (i := 0) (x := ad 62) C dX7_laid_92 rfl rfl ?_
    refine g_get (pc := 93) (v := .ref (ad 71)) C ok_X7 20 (by decide) wf_X7_34 dX7_laid_93 la_62 rfl ?_
    refine g_iload_n (pc := 96) (i := 1) (x := q.1) C dX7_laid_96 rfl rfl ?_
    refine g_aload_n (pc := 97) (i := 0) (x := ad 62) C dX7_laid_97 rfl rfl ?_
    refine g_get (pc := 98) (v := .ref (ad 66)) C ok_X7 10 (by decide) wf_X7_19 dX7_laid_98 la_62 rfl ?_
    refine g_iload_n (pc := 101) (i := 1) (x := q.1) C dX7_laid_101 rfl rfl ?_
    obtain ⟨v102, hv102, hi102, h⟩ := rd_some h
    refine g_iald (pc := 102) C dX7_laid_102 la_66 hi102 ?_
    refine g_topi hv102 ?_
    obtain ⟨m103, hm103, hi103, h⟩ := wr_some h
    refine g_iast (pc := 103) C dX7_laid_103 la_71 hi103 ?_
    refine g_mem hm103 ?_
    obtain ⟨v104, hv104, h⟩ := lt_some h
    refine g_iinc (pc := 104) (i := 1) (x := q.1) (v := v104) (lv' := [some (.ref (ad 62)), some (.int v104)]) C dX7_laid_104 rfl hv104.symm (by decide) rfl rfl ?_
    refine g_goto (pc := 107) C 86 dX7_laid_107 (by decide) ?_
    cases h
    exact hP
set_option maxRecDepth 100000 in
set_option maxHeartbeats 4000000 in
theorem b_X7_laid_112 {E : Ex} {κ : Kx} {ad : Nat → Nat} {sh sp : Nat} {d : Nat} (C : Cx E κ cX7_laid RX7 2 none d) (hd : 1 ≤ d)  {q : Int32 × Mem} {x : (Int32 × Mem) ⊕ (Int32 × Mem)} (h : f_X7_laid_b112  q = some x) (hP : (P_X7_laid_112 E κ ad (LC sh sp ++ LM) ) x) : Gw E κ 2 0 0 112 [some (.ref (ad 62)), some (.int q.1)] [] ad (LC sh sp ++ LM) q.2 := by
  unfold f_X7_laid_b112 at h
  refine g_iload_n (pc := 112) (i := 1) (x := q.1) C dX7_laid_112 rfl rfl ?_
  refine g_bipush (pc := 113) (v := 36) C dX7_laid_113 rfl ?_
  rcases ite_some' h with ⟨hc115, h⟩ | ⟨hc115, h⟩
  · refine g_icmp_ge_t (pc := 115) C 136 dX7_laid_115 (by decide) hc115 ?_
    refine g_mask (lv' := [some (.ref (ad 62)), none]) [true, false] rfl ?_
    cases h
    exact hP
  · refine g_icmp_ge_f (pc := 115) C 136 dX7_laid_115 (by decide) hc115 ?_
    refine g_aload_n (pc := 118) (i := 0) (x := ad 62) C dX7_laid_118 rfl rfl ?_
    refine g_get (pc := 119) (v := .ref (ad 72)) C ok_X7 21 (by decide) wf_X7_37 dX7_laid_119 la_62 rfl ?_
    refine g_iload_n (pc := 122) (i := 1) (x := q.1) C dX7_laid_122 rfl rfl ?_
    refine g_aload_n (pc := 123) (i := 0) (x := ad 62) C dX7_laid_123 rfl rfl ?_
    refine g_get (pc := 124) (v := .ref (ad 67)) C ok_X7 11 (by decide) wf_X7_22 dX7_laid_124 la_62 rfl ?_
    refine g_iload_n (pc := 127) (i := 1) (x := q.1) C dX7_laid_127 rfl rfl ?_
    obtain ⟨v128, hv128, hi128, h⟩ := rd_some h
    refine g_iald (pc := 128) C dX7_laid_128 la_67 hi128 ?_
    refine g_topi hv128 ?_
    obtain ⟨m129, hm129, hi129, h⟩ := wr_some h
    refine g_iast (pc := 129) C dX7_laid_129 la_72 hi129 ?_
    refine g_mem hm129 ?_
    obtain ⟨v130, hv130, h⟩ := lt_some h
    refine g_iinc (pc := 130) (i := 1) (x := q.1) (v := v130) (lv' := [some (.ref (ad 62)), some (.int v130)]) C dX7_laid_130 rfl hv130.symm (by decide) rfl rfl ?_
    refine g_goto (pc := 133) C 112 dX7_laid_133 (by decide) ?_
    cases h
    exact hP
set_option maxRecDepth 100000 in
set_option maxHeartbeats 4000000 in
theorem j_X7_laid_190 {E : Ex} {κ : Kx} {ad : Nat → Nat} {sh sp : Nat} {d : Nat} (C : Cx E κ cX7_laid RX7 2 none d) (hd : 1 ≤ d)  {l1 : Int32} {w1 : Int32} {w2 : Int32} {mem : Mem} {x : (Int32 × Mem) ⊕ (Int32 × Mem)} (h : f_X7_laid_j190 l1 w1 w2 mem = some x) (hP : (P_X7_laid_138 E κ ad (LC sh sp ++ LM) ) x) : Gw E κ 2 0 0 190 [some (.ref (ad 62)), some (.int l1)] [.int w2, .int w1, .ref (ad 77)] ad (LC sh sp ++ LM) mem := by
  unfold f_X7_laid_j190 at h
  obtain ⟨m190, hm190, hi190, h⟩ := wr_some h
  refine g_iast (pc := 190) C dX7_laid_190 la_77 hi190 ?_
  refine g_mem hm190 ?_
  refine g_aload_n (pc := 191) (i := 0) (x := ad 62) C dX7_laid_191 rfl rfl ?_
  refine g_get (pc := 192) (v := .ref (ad 77)) C ok_X7 26 (by decide) wf_X7_52 dX7_laid_192 la_62 rfl ?_
  refine g_bipush (pc := 195) (v := 16) C dX7_laid_195 rfl ?_
  refine g_iconst (pc := 197) (v := 2) C dX7_laid_197 rfl ?_
  refine g_iload_n (pc := 198) (i := 1) (x := l1) C dX7_laid_198 rfl rfl ?_
  refine g_imul (pc := 199) C dX7_laid_199 ?_
  refine g_iadd (pc := 200) C dX7_laid_200 ?_
  refine g_iconst (pc := 201) (v := 1) C dX7_laid_201 rfl ?_
  refine g_iadd (pc := 202) C dX7_laid_202 ?_
  refine g_iload_n (pc := 203) (i := 1) (x := l1) C dX7_laid_203 rfl rfl ?_
  refine g_aload_n (pc := 204) (i := 0) (x := ad 62) C dX7_laid_204 rfl rfl ?_
  refine g_get (pc := 205) (v := .int (m190 62 18)) C ok_X7 18 (by decide) wf_X7_183 dX7_laid_205 la_62 rfl ?_
  rcases ite_some' h with ⟨hc208, h⟩ | ⟨hc208, h⟩
  · refine g_icmp_ge_t (pc := 208) C 224 dX7_laid_208 (by decide) hc208 ?_
    refine g_iconst (pc := 224) (v := 0) C dX7_laid_224 rfl ?_
    obtain ⟨m225, hm225, hi225, h⟩ := wr_some h
    refine g_iast (pc := 225) C dX7_laid_225 la_77 hi225 ?_
    refine g_mem hm225 ?_
    obtain ⟨v226, hv226, h⟩ := lt_some h
    refine g_iinc (pc := 226) (i := 1) (x := l1) (v := v226) (lv' := [some (.ref (ad 62)), some (.int v226)]) C dX7_laid_226 rfl hv226.symm (by decide) rfl rfl ?_
    refine g_goto (pc := 229) C 138 dX7_laid_229 (by decide) ?_
    cases h
    exact hP
  · refine g_icmp_ge_f (pc := 208) C 224 dX7_laid_208 (by decide) hc208 ?_
    refine g_aload_n (pc := 211) (i := 0) (x := ad 62) C dX7_laid_211 rfl rfl ?_
    refine g_get (pc := 212) (v := .ref (ad 68)) C ok_X7 12 (by decide) wf_X7_25 dX7_laid_212 la_62 rfl ?_
    refine g_iconst (pc := 215) (v := 3) C dX7_laid_215 rfl ?_
    refine g_iload_n (pc := 216) (i := 1) (x := l1) C dX7_laid_216 rfl rfl ?_
    refine g_imul (pc := 217) C dX7_laid_217 ?_
    refine g_iconst (pc := 218) (v := 2) C dX7_laid_218 rfl ?_
    refine g_iadd (pc := 219) C dX7_laid_219 ?_
    obtain ⟨v220, hv220, hi220, h⟩ := rd_some h
    refine g_iald (pc := 220) C dX7_laid_220 la_68 hi220 ?_
    refine g_topi hv220 ?_
    refine g_goto (pc := 221) C 225 dX7_laid_221 (by decide) ?_
    obtain ⟨m225, hm225, hi225, h⟩ := wr_some h
    refine g_iast (pc := 225) C dX7_laid_225 la_77 hi225 ?_
    refine g_mem hm225 ?_
    obtain ⟨v226, hv226, h⟩ := lt_some h
    refine g_iinc (pc := 226) (i := 1) (x := l1) (v := v226) (lv' := [some (.ref (ad 62)), some (.int v226)]) C dX7_laid_226 rfl hv226.symm (by decide) rfl rfl ?_
    refine g_goto (pc := 229) C 138 dX7_laid_229 (by decide) ?_
    cases h
    exact hP
set_option maxRecDepth 100000 in
set_option maxHeartbeats 4000000 in
theorem b_X7_laid_138 {E : Ex} {κ : Kx} {ad : Nat → Nat} {sh sp : Nat} {d : Nat} (C : Cx E κ cX7_laid RX7 2 none d) (hd : 1 ≤ d)  {q : Int32 × Mem} {x : (Int32 × Mem) ⊕ (Int32 × Mem)} (h : f_X7_laid_b138  q = some x) (hP : (P_X7_laid_138 E κ ad (LC sh sp ++ LM) ) x) : Gw E κ 2 0 0 138 [some (.ref (ad 62)), some (.int q.1)] [] ad (LC sh sp ++ LM) q.2 := by
  unfold f_X7_laid_b138 at h
  refine g_iload_n (pc := 138) (i := 1) (x := q.1) C dX7_laid_138 rfl rfl ?_
  refine g_bipush (pc := 139) (v := 6) C dX7_laid_139 rfl ?_
  rcases ite_some' h with ⟨hc141, h⟩ | ⟨hc141, h⟩
  · refine g_icmp_ge_t (pc := 141) C 232 dX7_laid_141 (by decide) hc141 ?_
    refine g_mask (lv' := [some (.ref (ad 62)), none]) [true, false] rfl ?_
    cases h
    exact hP
  · refine g_icmp_ge_f (pc := 141) C 232 dX7_laid_141 (by decide) hc141 ?_
    refine g_aload_n (pc := 144) (i := 0) (x := ad 62) C dX7_laid_144 rfl rfl ?_
    refine g_get (pc := 145) (v := .ref (ad 73)) C ok_X7 22 (by decide) wf_X7_40 dX7_laid_145 la_62 rfl ?_
    refine g_iload_n (pc := 148) (i := 1) (x := q.1) C dX7_laid_148 rfl rfl ?_
    refine g_aload_n (pc := 149) (i := 0) (x := ad 62) C dX7_laid_149 rfl rfl ?_
    refine g_get (pc := 150) (v := .ref (ad 68)) C ok_X7 12 (by decide) wf_X7_25 dX7_laid_150 la_62 rfl ?_
    refine g_iconst (pc := 153) (v := 3) C dX7_laid_153 rfl ?_
    refine g_iload_n (pc := 154) (i := 1) (x := q.1) C dX7_laid_154 rfl rfl ?_
    refine g_imul (pc := 155) C dX7_laid_155 ?_
    obtain ⟨v156, hv156, hi156, h⟩ := rd_some h
    refine g_iald (pc := 156) C dX7_laid_156 la_68 hi156 ?_
    refine g_topi hv156 ?_
    obtain ⟨m157, hm157, hi157, h⟩ := wr_some h
    refine g_iast (pc := 157) C dX7_laid_157 la_73 hi157 ?_
    refine g_mem hm157 ?_
    refine g_aload_n (pc := 158) (i := 0) (x := ad 62) C dX7_laid_158 rfl rfl ?_
    refine g_get (pc := 159) (v := .ref (ad 77)) C ok_X7 26 (by decide) wf_X7_52 dX7_laid_159 la_62 rfl ?_
    refine g_bipush (pc := 162) (v := 16) C dX7_laid_162 rfl ?_
    refine g_iconst (pc := 164) (v := 2) C dX7_laid_164 rfl ?_
    refine g_iload_n (pc := 165) (i := 1) (x := q.1) C dX7_laid_165 rfl rfl ?_
    refine g_imul (pc := 166) C dX7_laid_166 ?_
    refine g_iadd (pc := 167) C dX7_laid_167 ?_
    refine g_iload_n (pc := 168) (i := 1) (x := q.1) C dX7_laid_168 rfl rfl ?_
    refine g_aload_n (pc := 169) (i := 0) (x := ad 62) C dX7_laid_169 rfl rfl ?_
    refine g_get (pc := 170) (v := .int (m157 62 18)) C ok_X7 18 (by decide) wf_X7_183 dX7_laid_170 la_62 rfl ?_
    rcases ite_some' h with ⟨hc173, h⟩ | ⟨hc173, h⟩
    · refine g_icmp_ge_t (pc := 173) C 189 dX7_laid_173 (by decide) hc173 ?_
      refine g_iconst (pc := 189) (v := 0) C dX7_laid_189 rfl ?_
      exact j_X7_laid_190 C hd h hP
    · refine g_icmp_ge_f (pc := 173) C 189 dX7_laid_173 (by decide) hc173 ?_
      refine g_aload_n (pc := 176) (i := 0) (x := ad 62) C dX7_laid_176 rfl rfl ?_
      refine g_get (pc := 177) (v := .ref (ad 68)) C ok_X7 12 (by decide) wf_X7_25 dX7_laid_177 la_62 rfl ?_
      refine g_iconst (pc := 180) (v := 3) C dX7_laid_180 rfl ?_
      refine g_iload_n (pc := 181) (i := 1) (x := q.1) C dX7_laid_181 rfl rfl ?_
      refine g_imul (pc := 182) C dX7_laid_182 ?_
      refine g_iconst (pc := 183) (v := 1) C dX7_laid_183 rfl ?_
      refine g_iadd (pc := 184) C dX7_laid_184 ?_
      obtain ⟨v185, hv185, hi185, h⟩ := rd_some h
      refine g_iald (pc := 185) C dX7_laid_185 la_68 hi185 ?_
      refine g_topi hv185 ?_
      refine g_goto (pc := 186) C 190 dX7_laid_186 (by decide) ?_
      exact j_X7_laid_190 C hd h hP
set_option maxRecDepth 100000 in
set_option maxHeartbeats 4000000 in
theorem b_X7_laid_239 {E : Ex} {κ : Kx} {ad : Nat → Nat} {sh sp : Nat} {d : Nat} (C : Cx E κ cX7_laid RX7 2 none d) (hd : 1 ≤ d)  {q : Int32 × Mem} {x : (Int32 × Mem) ⊕ (Int32 × Mem)} (h : f_X7_laid_b239  q = some x) (hP : (P_X7_laid_239 E κ ad (LC sh sp ++ LM) ) x) : Gw E κ 2 0 0 239 [some (.ref (ad 62)), some (.int q.1)] [] ad (LC sh sp ++ LM) q.2 := by
  unfold f_X7_laid_b239 at h
  refine g_iload_n (pc := 239) (i := 1) (x := q.1) C dX7_laid_239 rfl rfl ?_
  refine g_aload_n (pc := 240) (i := 0) (x := ad 62) C dX7_laid_240 rfl rfl ?_
  refine g_get (pc := 241) (v := .int (q.2 62 14)) C ok_X7 14 (by decide) wf_X7_171 dX7_laid_241 la_62 rfl ?_
  rcases ite_some' h with ⟨hc244, h⟩ | ⟨hc244, h⟩
  · refine g_icmp_ge_t (pc := 244) C 268 dX7_laid_244 (by decide) hc244 ?_
    refine g_mask (lv' := [some (.ref (ad 62)), none]) [true, false] rfl ?_
    cases h
    exact hP
  · refine g_icmp_ge_f (pc := 244) C 268 dX7_laid_244 (by decide) hc244 ?_
    refine g_aload_n (pc := 247) (i := 0) (x := ad 62) C dX7_laid_247 rfl rfl ?_
    refine g_iload_n (pc := 248) (i := 1) (x := q.1) C dX7_laid_248 rfl rfl ?_
    refine g_aload_n (pc := 249) (i := 0) (x := ad 62) C dX7_laid_249 rfl rfl ?_
    refine g_get (pc := 250) (v := .int (q.2 62 15)) C ok_X7 15 (by decide) wf_X7_174 dX7_laid_250 la_62 rfl ?_
    refine g_imul (pc := 253) C dX7_laid_253 ?_
    refine g_aload_n (pc := 254) (i := 0) (x := ad 62) C dX7_laid_254 rfl rfl ?_
    refine g_get (pc := 255) (v := .int (q.2 62 15)) C ok_X7 15 (by decide) wf_X7_174 dX7_laid_255 la_62 rfl ?_
    refine g_iconst (pc := 258) (v := 1) C dX7_laid_258 rfl ?_
    obtain ⟨m259, hcall259, h⟩ := ob_some h
    refine g_callV (pc := 259) C ce0 mi_X7_layLine mv_X7_layLine wm_X7_186 dX7_laid_259 ok_X7 [.int (q.1 * (q.2 62 15)), .int (q.2 62 15), .int 1] [] la_62 (by omega) rfl rfl (Nat.le_of_ble_eq_true rfl) (m_X7_layLine (d := d - 1) (by omega)  hcall259) ?_
    show Gw E κ 2 0 0 262 [some (.ref (ad 62)), some (.int q.1)] [] ad (LC sh sp ++ LM) m259
    obtain ⟨v262, hv262, h⟩ := lt_some h
    refine g_iinc (pc := 262) (i := 1) (x := q.1) (v := v262) (lv' := [some (.ref (ad 62)), some (.int v262)]) C dX7_laid_262 rfl hv262.symm (by decide) rfl rfl ?_
    refine g_goto (pc := 265) C 239 dX7_laid_265 (by decide) ?_
    cases h
    exact hP
set_option maxRecDepth 100000 in
set_option maxHeartbeats 4000000 in
theorem b_X7_laid_270 {E : Ex} {κ : Kx} {ad : Nat → Nat} {sh sp : Nat} {d : Nat} (C : Cx E κ cX7_laid RX7 2 none d) (hd : 1 ≤ d)  {q : Int32 × Mem} {x : (Int32 × Mem) ⊕ (Int32 × Mem)} (h : f_X7_laid_b270  q = some x) (hP : (P_X7_laid_270 E κ ad (LC sh sp ++ LM) ) x) : Gw E κ 2 0 0 270 [some (.ref (ad 62)), some (.int q.1)] [] ad (LC sh sp ++ LM) q.2 := by
  unfold f_X7_laid_b270 at h
  refine g_iload_n (pc := 270) (i := 1) (x := q.1) C dX7_laid_270 rfl rfl ?_
  refine g_aload_n (pc := 271) (i := 0) (x := ad 62) C dX7_laid_271 rfl rfl ?_
  refine g_get (pc := 272) (v := .int (q.2 62 15)) C ok_X7 15 (by decide) wf_X7_174 dX7_laid_272 la_62 rfl ?_
  rcases ite_some' h with ⟨hc275, h⟩ | ⟨hc275, h⟩
  · refine g_icmp_ge_t (pc := 275) C 297 dX7_laid_275 (by decide) hc275 ?_
    refine g_mask (lv' := [some (.ref (ad 62)), none]) [true, false] rfl ?_
    cases h
    exact hP
  · refine g_icmp_ge_f (pc := 275) C 297 dX7_laid_275 (by decide) hc275 ?_
    refine g_aload_n (pc := 278) (i := 0) (x := ad 62) C dX7_laid_278 rfl rfl ?_
    refine g_iload_n (pc := 279) (i := 1) (x := q.1) C dX7_laid_279 rfl rfl ?_
    refine g_aload_n (pc := 280) (i := 0) (x := ad 62) C dX7_laid_280 rfl rfl ?_
    refine g_get (pc := 281) (v := .int (q.2 62 14)) C ok_X7 14 (by decide) wf_X7_171 dX7_laid_281 la_62 rfl ?_
    refine g_aload_n (pc := 284) (i := 0) (x := ad 62) C dX7_laid_284 rfl rfl ?_
    refine g_get (pc := 285) (v := .int (q.2 62 15)) C ok_X7 15 (by decide) wf_X7_174 dX7_laid_285 la_62 rfl ?_
    obtain ⟨m288, hcall288, h⟩ := ob_some h
    refine g_callV (pc := 288) C ce0 mi_X7_layLine mv_X7_layLine wm_X7_186 dX7_laid_288 ok_X7 [.int q.1, .int (q.2 62 14), .int (q.2 62 15)] [] la_62 (by omega) rfl rfl (Nat.le_of_ble_eq_true rfl) (m_X7_layLine (d := d - 1) (by omega)  hcall288) ?_
    show Gw E κ 2 0 0 291 [some (.ref (ad 62)), some (.int q.1)] [] ad (LC sh sp ++ LM) m288
    obtain ⟨v291, hv291, h⟩ := lt_some h
    refine g_iinc (pc := 291) (i := 1) (x := q.1) (v := v291) (lv' := [some (.ref (ad 62)), some (.int v291)]) C dX7_laid_291 rfl hv291.symm (by decide) rfl rfl ?_
    refine g_goto (pc := 294) C 270 dX7_laid_294 (by decide) ?_
    cases h
    exact hP
set_option maxRecDepth 100000 in
set_option maxHeartbeats 4000000 in
theorem m_X7_laid {E : Ex} {ad : Nat → Nat} {sh sp : Nat} {d : Nat} (hd : 1 ≤ d)   {mem : Mem} {r : Mem} (h : f_X7_laid mem = some r) : Cl E yX7_laid cX7_laid 2 none d [.ref (ad 62)] none ad (LC sh sp ++ LM) mem (LC sh sp ++ LM) r := by
  refine Cl.of [some (.ref (ad 62)), none] (by decide +kernel) rfl (Nat.le_of_ble_eq_true rfl) (fun κ C hP => ?_)
  have C : Cx E κ cX7_laid RX7 2 none d := C
  unfold f_X7_laid at h
  refine g_aload_n (pc := 0) (i := 0) (x := ad 62) C dX7_laid_0 rfl rfl ?_
  refine g_aload_n (pc := 1) (i := 0) (x := ad 62) C dX7_laid_1 rfl rfl ?_
  refine g_get (pc := 2) (v := .int (mem 62 3)) C ok_X7 3 (by decide) wf_X7_106 dX7_laid_2 la_62 rfl ?_
  obtain ⟨m5, hm5, h⟩ := lt_some h
  refine g_put (pc := 5) C ok_X7 14 (by decide) wf_X7_171 dX7_laid_5 rfl rfl la_62 ?_
  refine g_mem hm5 ?_
  refine g_aload_n (pc := 8) (i := 0) (x := ad 62) C dX7_laid_8 rfl rfl ?_
  refine g_aload_n (pc := 9) (i := 0) (x := ad 62) C dX7_laid_9 rfl rfl ?_
  refine g_get (pc := 10) (v := .int (m5 62 4)) C ok_X7 4 (by decide) wf_X7_110 dX7_laid_10 la_62 rfl ?_
  obtain ⟨m13, hm13, h⟩ := lt_some h
  refine g_put (pc := 13) C ok_X7 15 (by decide) wf_X7_174 dX7_laid_13 rfl rfl la_62 ?_
  refine g_mem hm13 ?_
  refine g_aload_n (pc := 16) (i := 0) (x := ad 62) C dX7_laid_16 rfl rfl ?_
  refine g_aload_n (pc := 17) (i := 0) (x := ad 62) C dX7_laid_17 rfl rfl ?_
  refine g_get (pc := 18) (v := .int (m13 62 5)) C ok_X7 5 (by decide) wf_X7_113 dX7_laid_18 la_62 rfl ?_
  obtain ⟨m21, hm21, h⟩ := lt_some h
  refine g_put (pc := 21) C ok_X7 17 (by decide) wf_X7_180 dX7_laid_21 rfl rfl la_62 ?_
  refine g_mem hm21 ?_
  refine g_aload_n (pc := 24) (i := 0) (x := ad 62) C dX7_laid_24 rfl rfl ?_
  refine g_aload_n (pc := 25) (i := 0) (x := ad 62) C dX7_laid_25 rfl rfl ?_
  refine g_get (pc := 26) (v := .int (m21 62 6)) C ok_X7 6 (by decide) wf_X7_116 dX7_laid_26 la_62 rfl ?_
  obtain ⟨m29, hm29, h⟩ := lt_some h
  refine g_put (pc := 29) C ok_X7 18 (by decide) wf_X7_183 dX7_laid_29 rfl rfl la_62 ?_
  refine g_mem hm29 ?_
  refine g_iconst (pc := 32) (v := 0) C dX7_laid_32 rfl ?_
  refine g_istore_n (pc := 33) (i := 1) (lv' := [some (.ref (ad 62)), some (.int 0)]) C dX7_laid_33 rfl (by decide) rfl rfl ?_
  obtain ⟨q34, hq, h⟩ := ob_some h
  refine lp_gw (P_X7_laid_34 E κ ad (LC sh sp ++ LM) ) (fun q x hb hp => b_X7_laid_34 C hd hb hp) _ (0, m29) _ hq ?_
  show Gw E κ 2 0 0 84 [some (.ref (ad 62)), none] [] ad (LC sh sp ++ LM) q34.2
  refine g_iconst (pc := 84) (v := 0) C dX7_laid_84 rfl ?_
  refine g_istore_n (pc := 85) (i := 1) (lv' := [some (.ref (ad 62)), some (.int 0)]) C dX7_laid_85 rfl (by decide) rfl rfl ?_
  obtain ⟨q86, hq, h⟩ := ob_some h
  refine lp_gw (P_X7_laid_86 E κ ad (LC sh sp ++ LM) ) (fun q x hb hp => b_X7_laid_86 C hd hb hp) _ (0, q34.2) _ hq ?_
  show Gw E κ 2 0 0 110 [some (.ref (ad 62)), none] [] ad (LC sh sp ++ LM) q86.2
  refine g_iconst (pc := 110) (v := 0) C dX7_laid_110 rfl ?_
  refine g_istore_n (pc := 111) (i := 1) (lv' := [some (.ref (ad 62)), some (.int 0)]) C dX7_laid_111 rfl (by decide) rfl rfl ?_
  obtain ⟨q112, hq, h⟩ := ob_some h
  refine lp_gw (P_X7_laid_112 E κ ad (LC sh sp ++ LM) ) (fun q x hb hp => b_X7_laid_112 C hd hb hp) _ (0, q86.2) _ hq ?_
  show Gw E κ 2 0 0 136 [some (.ref (ad 62)), none] [] ad (LC sh sp ++ LM) q112.2
  refine g_iconst (pc := 136) (v := 0) C dX7_laid_136 rfl ?_
  refine g_istore_n (pc := 137) (i := 1) (lv' := [some (.ref (ad 62)), some (.int 0)]) C dX7_laid_137 rfl (by decide) rfl rfl ?_
  obtain ⟨q138, hq, h⟩ := ob_some h
  refine lp_gw (P_X7_laid_138 E κ ad (LC sh sp ++ LM) ) (fun q x hb hp => b_X7_laid_138 C hd hb hp) _ (0, q112.2) _ hq ?_
  show Gw E κ 2 0 0 232 [some (.ref (ad 62)), none] [] ad (LC sh sp ++ LM) q138.2
  refine g_aload_n (pc := 232) (i := 0) (x := ad 62) C dX7_laid_232 rfl rfl ?_
  refine g_iconst (pc := 233) (v := 0) C dX7_laid_233 rfl ?_
  obtain ⟨m234, hm234, h⟩ := lt_some h
  refine g_put (pc := 234) C ok_X7 16 (by decide) wf_X7_177 dX7_laid_234 rfl rfl la_62 ?_
  refine g_mem hm234 ?_
  refine g_iconst (pc := 237) (v := 0) C dX7_laid_237 rfl ?_
  refine g_istore_n (pc := 238) (i := 1) (lv' := [some (.ref (ad 62)), some (.int 0)]) C dX7_laid_238 rfl (by decide) rfl rfl ?_
  obtain ⟨q239, hq, h⟩ := ob_some h
  refine lp_gw (P_X7_laid_239 E κ ad (LC sh sp ++ LM) ) (fun q x hb hp => b_X7_laid_239 C hd hb hp) _ (0, m234) _ hq ?_
  show Gw E κ 2 0 0 268 [some (.ref (ad 62)), none] [] ad (LC sh sp ++ LM) q239.2
  refine g_iconst (pc := 268) (v := 0) C dX7_laid_268 rfl ?_
  refine g_istore_n (pc := 269) (i := 1) (lv' := [some (.ref (ad 62)), some (.int 0)]) C dX7_laid_269 rfl (by decide) rfl rfl ?_
  obtain ⟨q270, hq, h⟩ := ob_some h
  refine lp_gw (P_X7_laid_270 E κ ad (LC sh sp ++ LM) ) (fun q x hb hp => b_X7_laid_270 C hd hb hp) _ (0, q239.2) _ hq ?_
  show Gw E κ 2 0 0 297 [some (.ref (ad 62)), none] [] ad (LC sh sp ++ LM) q270.2
  refine g_aload_n (pc := 297) (i := 0) (x := ad 62) C dX7_laid_297 rfl rfl ?_
  refine g_iconst (pc := 298) (v := 0) C dX7_laid_298 rfl ?_
  obtain ⟨m299, hm299, h⟩ := lt_some h
  refine g_put (pc := 299) C ok_X7 31 (by decide) wf_X7_189 dX7_laid_299 rfl rfl la_62 ?_
  refine g_mem hm299 ?_
  refine g_aload_n (pc := 302) (i := 0) (x := ad 62) C dX7_laid_302 rfl rfl ?_
  refine g_iconst (pc := 303) (v := 0) C dX7_laid_303 rfl ?_
  obtain ⟨m304, hm304, h⟩ := lt_some h
  refine g_put (pc := 304) C ok_X7 43 (by decide) wf_X7_192 dX7_laid_304 rfl rfl la_62 ?_
  refine g_mem hm304 ?_
  refine g_aload_n (pc := 307) (i := 0) (x := ad 62) C dX7_laid_307 rfl rfl ?_
  refine g_iconst (pc := 308) (v := 0) C dX7_laid_308 rfl ?_
  obtain ⟨m309, hm309, h⟩ := lt_some h
  refine g_put (pc := 309) C ok_X7 40 (by decide) wf_X7_195 dX7_laid_309 rfl rfl la_62 ?_
  refine g_mem hm309 ?_
  cases h
  exact g_vret (pc := 312) C hP rfl dX7_laid_312

theorem dX7_lay_0 : decode cX7_lay 0 = .ok (.aload_n 0, 1) := by decide +kernel
theorem dX7_lay_1 : decode cX7_lay 1 = .ok (.invokevirtual 168, 3) := by decide +kernel
theorem dX7_lay_4 : decode cX7_lay 4 = .ok (.bipush (-4), 2) := by decide +kernel
theorem dX7_lay_6 : decode cX7_lay 6 = .ok (.if_icmp .ne 10, 3) := by decide +kernel
theorem dX7_lay_9 : decode cX7_lay 9 = .ok (.aload_n 0, 1) := by decide +kernel
theorem dX7_lay_10 : decode cX7_lay 10 = .ok (.getfield 113, 3) := by decide +kernel
theorem dX7_lay_13 : decode cX7_lay 13 = .ok (.ifCond .ne 6, 3) := by decide +kernel
theorem dX7_lay_16 : decode cX7_lay 16 = .ok (.bipush (-2), 2) := by decide +kernel
theorem dX7_lay_18 : decode cX7_lay 18 = .ok (.ireturn, 1) := by decide +kernel
theorem dX7_lay_19 : decode cX7_lay 19 = .ok (.aload_n 0, 1) := by decide +kernel
theorem dX7_lay_20 : decode cX7_lay 20 = .ok (.invokevirtual 103, 3) := by decide +kernel
theorem dX7_lay_23 : decode cX7_lay 23 = .ok (.aload_n 0, 1) := by decide +kernel
theorem dX7_lay_24 : decode cX7_lay 24 = .ok (.getfield 177, 3) := by decide +kernel
theorem dX7_lay_27 : decode cX7_lay 27 = .ok (.ireturn, 1) := by decide +kernel
noncomputable def f_X7_lay  (mem : Mem) : Option (Int32 × Mem) :=
  ob2 (f_X7_faultOf mem) fun r1 m1 => if r1 = (-4) then (if (m1 62 5) = 0 then (some ((-2), m1)) else (ob (f_X7_laid m1) fun m20 => lt' (m20 62 16) fun v27 => some (v27, m20))) else (some ((-2), m1))
set_option maxRecDepth 100000 in
set_option maxHeartbeats 4000000 in
theorem m_X7_lay {E : Ex} {ad : Nat → Nat} {sh sp : Nat} {d : Nat} (hd : 5 ≤ d)   {mem : Mem} {r : Int32 × Mem} (h : f_X7_lay mem = some r) : Cl E yX7_lay cX7_lay 1 (some .int) d [.ref (ad 62)] (some (.int r.1)) ad (LC sh sp ++ LM) mem (LC sh sp ++ LM) r.2 := by
  refine Cl.of [some (.ref (ad 62))] (by decide +kernel) rfl (Nat.le_of_ble_eq_true rfl) (fun κ C hP => ?_)
  have C : Cx E κ cX7_lay RX7 1 (some .int) d := C
  unfold f_X7_lay at h
  refine g_aload_n (pc := 0) (i := 0) (x := ad 62) C dX7_lay_0 rfl rfl ?_
  obtain ⟨r1, m1, hcall1, h⟩ := ob2_some h
  refine g_callV (pc := 1) C ce0 mi_X7_faultOf mv_X7_faultOf wm_X7_168 dX7_lay_1 ok_X7 [] [] la_62 (by omega) rfl rfl (Nat.le_of_ble_eq_true rfl) (m_X7_faultOf (d := d - 1) (by omega)  hcall1) ?_
  show Gw E κ 1 0 0 4 [some (.ref (ad 62))] [.int r1] ad (LC sh sp ++ LM) m1
  refine g_bipush (pc := 4) (v := (-4)) C dX7_lay_4 rfl ?_
  rcases ite_some' h with ⟨hc6, h⟩ | ⟨hc6, h⟩
  · refine g_icmp_ne_f (pc := 6) C 16 dX7_lay_6 (by decide) hc6 ?_
    refine g_aload_n (pc := 9) (i := 0) (x := ad 62) C dX7_lay_9 rfl rfl ?_
    refine g_get (pc := 10) (v := .int (m1 62 5)) C ok_X7 5 (by decide) wf_X7_113 dX7_lay_10 la_62 rfl ?_
    rcases ite_some' h with ⟨hc13, h⟩ | ⟨hc13, h⟩
    · refine g_if_ne_f (pc := 13) C 19 dX7_lay_13 (by decide) hc13 ?_
      refine g_bipush (pc := 16) (v := (-2)) C dX7_lay_16 rfl ?_
      cases h
      exact g_iret (pc := 18) C hP rfl rfl dX7_lay_18
    · refine g_if_ne_t (pc := 13) C 19 dX7_lay_13 (by decide) hc13 ?_
      refine g_aload_n (pc := 19) (i := 0) (x := ad 62) C dX7_lay_19 rfl rfl ?_
      obtain ⟨m20, hcall20, h⟩ := ob_some h
      refine g_callV (pc := 20) C ce0 mi_X7_laid mv_X7_laid wm_X7_103 dX7_lay_20 ok_X7 [] [] la_62 (by omega) rfl rfl (Nat.le_of_ble_eq_true rfl) (m_X7_laid (d := d - 1) (by omega)  hcall20) ?_
      show Gw E κ 1 0 0 23 [some (.ref (ad 62))] [] ad (LC sh sp ++ LM) m20
      refine g_aload_n (pc := 23) (i := 0) (x := ad 62) C dX7_lay_23 rfl rfl ?_
      refine g_get (pc := 24) (v := .int (m20 62 16)) C ok_X7 16 (by decide) wf_X7_177 dX7_lay_24 la_62 rfl ?_
      obtain ⟨v27, hv27, h⟩ := lt_some h
      refine g_topi hv27 ?_
      cases h
      exact g_iret (pc := 27) C hP rfl rfl dX7_lay_27
  · refine g_icmp_ne_t (pc := 6) C 16 dX7_lay_6 (by decide) hc6 ?_
    refine g_bipush (pc := 16) (v := (-2)) C dX7_lay_16 rfl ?_
    cases h
    exact g_iret (pc := 18) C hP rfl rfl dX7_lay_18

theorem dX7_isSquare_0 : decode cX7_isSquare 0 = .ok (.iload_n 1, 1) := by decide +kernel
theorem dX7_isSquare_1 : decode cX7_isSquare 1 = .ok (.iconst 0, 1) := by decide +kernel
theorem dX7_isSquare_2 : decode cX7_isSquare 2 = .ok (.aload_n 0, 1) := by decide +kernel
theorem dX7_isSquare_3 : decode cX7_isSquare 3 = .ok (.invokevirtual 198, 3) := by decide +kernel
theorem dX7_isSquare_6 : decode cX7_isSquare 6 = .ok (.iconst 1, 1) := by decide +kernel
theorem dX7_isSquare_7 : decode cX7_isSquare 7 = .ok (.isub, 1) := by decide +kernel
theorem dX7_isSquare_8 : decode cX7_isSquare 8 = .ok (.invokestatic 123, 3) := by decide +kernel
theorem dX7_isSquare_11 : decode cX7_isSquare 11 = .ok (.ireturn, 1) := by decide +kernel
noncomputable def f_X7_isSquare (l1 : Int32) (mem : Mem) : Option (Int32) :=
  ob (f_X7_squares mem) fun r3 => ob (f_X7_in l1 0 (r3 - 1)) fun r8 => bk r8 (some r8)
set_option maxRecDepth 100000 in
set_option maxHeartbeats 4000000 in
theorem m_X7_isSquare {E : Ex} {ad : Nat → Nat} {sh sp : Nat} {d : Nat} (hd : 1 ≤ d)  {l1 : Int32} {mem : Mem} {r : Int32} (h : f_X7_isSquare l1 mem = some r) : Cl E yX7_isSquare cX7_isSquare 2 (some .boolean) d [.ref (ad 62), .int l1] (some (.int r)) ad (LC sh sp ++ LM) mem (LC sh sp ++ LM) mem := by
  refine Cl.of [some (.ref (ad 62)), some (.int l1)] (by decide +kernel) rfl (Nat.le_of_ble_eq_true rfl) (fun κ C hP => ?_)
  have C : Cx E κ cX7_isSquare RX7 2 (some .boolean) d := C
  unfold f_X7_isSquare at h
  refine g_iload_n (pc := 0) (i := 1) (x := l1) C dX7_isSquare_0 rfl rfl ?_
  refine g_iconst (pc := 1) (v := 0) C dX7_isSquare_1 rfl ?_
  refine g_aload_n (pc := 2) (i := 0) (x := ad 62) C dX7_isSquare_2 rfl rfl ?_
  obtain ⟨r3, hcall3, h⟩ := ob_some h
  refine g_callV (pc := 3) C ce0 mi_X7_squares mv_X7_squares wm_X7_198 dX7_isSquare_3 ok_X7 [] [.int 0, .int l1] la_62 (by omega) rfl rfl (Nat.le_of_ble_eq_true rfl) (m_X7_squares (d := d - 1) (by omega)  hcall3) ?_
  show Gw E κ 2 0 0 6 [some (.ref (ad 62)), some (.int l1)] [.int r3, .int 0, .int l1] ad (LC sh sp ++ LM) mem
  refine g_iconst (pc := 6) (v := 1) C dX7_isSquare_6 rfl ?_
  refine g_isub (pc := 7) C dX7_isSquare_7 ?_
  obtain ⟨r8, hcall8, h⟩ := ob_some h
  refine g_callS (pc := 8) C ce0 mi_X7_in ms_X7_in wm_X7_123 dX7_isSquare_8 [.int l1, .int 0, .int (r3 - 1)] [] (by omega) rfl rfl (Nat.le_of_ble_eq_true rfl) (m_X7_in (d := d - 1) (by omega)  hcall8) ?_
  show Gw E κ 2 0 0 11 [some (.ref (ad 62)), some (.int l1)] [.int r8] ad (LC sh sp ++ LM) mem
  obtain ⟨hb11, h⟩ := bk_some h
  cases h
  exact g_iret (pc := 11) C hP rfl (nb01 hb11).1 dX7_isSquare_11

theorem dX7_isPlace_0 : decode cX7_isPlace 0 = .ok (.iload_n 1, 1) := by decide +kernel
theorem dX7_isPlace_1 : decode cX7_isPlace 1 = .ok (.iconst 0, 1) := by decide +kernel
theorem dX7_isPlace_2 : decode cX7_isPlace 2 = .ok (.aload_n 0, 1) := by decide +kernel
theorem dX7_isPlace_3 : decode cX7_isPlace 3 = .ok (.getfield 177, 3) := by decide +kernel
theorem dX7_isPlace_6 : decode cX7_isPlace 6 = .ok (.iconst 1, 1) := by decide +kernel
theorem dX7_isPlace_7 : decode cX7_isPlace 7 = .ok (.isub, 1) := by decide +kernel
theorem dX7_isPlace_8 : decode cX7_isPlace 8 = .ok (.invokestatic 123, 3) := by decide +kernel
theorem dX7_isPlace_11 : decode cX7_isPlace 11 = .ok (.ireturn, 1) := by decide +kernel
noncomputable def f_X7_isPlace (l1 : Int32) (mem : Mem) : Option (Int32) :=
  ob (f_X7_in l1 0 ((mem 62 16) - 1)) fun r8 => bk r8 (some r8)
set_option maxRecDepth 100000 in
set_option maxHeartbeats 4000000 in
theorem m_X7_isPlace {E : Ex} {ad : Nat → Nat} {sh sp : Nat} {d : Nat} (hd : 1 ≤ d)  {l1 : Int32} {mem : Mem} {r : Int32} (h : f_X7_isPlace l1 mem = some r) : Cl E yX7_isPlace cX7_isPlace 2 (some .boolean) d [.ref (ad 62), .int l1] (some (.int r)) ad (LC sh sp ++ LM) mem (LC sh sp ++ LM) mem := by
  refine Cl.of [some (.ref (ad 62)), some (.int l1)] (by decide +kernel) rfl (Nat.le_of_ble_eq_true rfl) (fun κ C hP => ?_)
  have C : Cx E κ cX7_isPlace RX7 2 (some .boolean) d := C
  unfold f_X7_isPlace at h
  refine g_iload_n (pc := 0) (i := 1) (x := l1) C dX7_isPlace_0 rfl rfl ?_
  refine g_iconst (pc := 1) (v := 0) C dX7_isPlace_1 rfl ?_
  refine g_aload_n (pc := 2) (i := 0) (x := ad 62) C dX7_isPlace_2 rfl rfl ?_
  refine g_get (pc := 3) (v := .int (mem 62 16)) C ok_X7 16 (by decide) wf_X7_177 dX7_isPlace_3 la_62 rfl ?_
  refine g_iconst (pc := 6) (v := 1) C dX7_isPlace_6 rfl ?_
  refine g_isub (pc := 7) C dX7_isPlace_7 ?_
  obtain ⟨r8, hcall8, h⟩ := ob_some h
  refine g_callS (pc := 8) C ce0 mi_X7_in ms_X7_in wm_X7_123 dX7_isPlace_8 [.int l1, .int 0, .int ((mem 62 16) - 1)] [] (by omega) rfl rfl (Nat.le_of_ble_eq_true rfl) (m_X7_in (d := d - 1) (by omega)  hcall8) ?_
  show Gw E κ 2 0 0 11 [some (.ref (ad 62)), some (.int l1)] [.int r8] ad (LC sh sp ++ LM) mem
  obtain ⟨hb11, h⟩ := bk_some h
  cases h
  exact g_iret (pc := 11) C hP rfl (nb01 hb11).1 dX7_isPlace_11

theorem dX7_isWord_0 : decode cX7_isWord 0 = .ok (.iload_n 1, 1) := by decide +kernel
theorem dX7_isWord_1 : decode cX7_isWord 1 = .ok (.iconst 0, 1) := by decide +kernel
theorem dX7_isWord_2 : decode cX7_isWord 2 = .ok (.aload_n 0, 1) := by decide +kernel
theorem dX7_isWord_3 : decode cX7_isWord 3 = .ok (.getfield 180, 3) := by decide +kernel
theorem dX7_isWord_6 : decode cX7_isWord 6 = .ok (.iconst 1, 1) := by decide +kernel
theorem dX7_isWord_7 : decode cX7_isWord 7 = .ok (.isub, 1) := by decide +kernel
theorem dX7_isWord_8 : decode cX7_isWord 8 = .ok (.invokestatic 123, 3) := by decide +kernel
theorem dX7_isWord_11 : decode cX7_isWord 11 = .ok (.ireturn, 1) := by decide +kernel
noncomputable def f_X7_isWord (l1 : Int32) (mem : Mem) : Option (Int32) :=
  ob (f_X7_in l1 0 ((mem 62 17) - 1)) fun r8 => bk r8 (some r8)
set_option maxRecDepth 100000 in
set_option maxHeartbeats 4000000 in
theorem m_X7_isWord {E : Ex} {ad : Nat → Nat} {sh sp : Nat} {d : Nat} (hd : 1 ≤ d)  {l1 : Int32} {mem : Mem} {r : Int32} (h : f_X7_isWord l1 mem = some r) : Cl E yX7_isWord cX7_isWord 2 (some .boolean) d [.ref (ad 62), .int l1] (some (.int r)) ad (LC sh sp ++ LM) mem (LC sh sp ++ LM) mem := by
  refine Cl.of [some (.ref (ad 62)), some (.int l1)] (by decide +kernel) rfl (Nat.le_of_ble_eq_true rfl) (fun κ C hP => ?_)
  have C : Cx E κ cX7_isWord RX7 2 (some .boolean) d := C
  unfold f_X7_isWord at h
  refine g_iload_n (pc := 0) (i := 1) (x := l1) C dX7_isWord_0 rfl rfl ?_
  refine g_iconst (pc := 1) (v := 0) C dX7_isWord_1 rfl ?_
  refine g_aload_n (pc := 2) (i := 0) (x := ad 62) C dX7_isWord_2 rfl rfl ?_
  refine g_get (pc := 3) (v := .int (mem 62 17)) C ok_X7 17 (by decide) wf_X7_180 dX7_isWord_3 la_62 rfl ?_
  refine g_iconst (pc := 6) (v := 1) C dX7_isWord_6 rfl ?_
  refine g_isub (pc := 7) C dX7_isWord_7 ?_
  obtain ⟨r8, hcall8, h⟩ := ob_some h
  refine g_callS (pc := 8) C ce0 mi_X7_in ms_X7_in wm_X7_123 dX7_isWord_8 [.int l1, .int 0, .int ((mem 62 17) - 1)] [] (by omega) rfl rfl (Nat.le_of_ble_eq_true rfl) (m_X7_in (d := d - 1) (by omega)  hcall8) ?_
  show Gw E κ 2 0 0 11 [some (.ref (ad 62)), some (.int l1)] [.int r8] ad (LC sh sp ++ LM) mem
  obtain ⟨hb11, h⟩ := bk_some h
  cases h
  exact g_iret (pc := 11) C hP rfl (nb01 hb11).1 dX7_isWord_11

theorem dX7_isSolver_0 : decode cX7_isSolver 0 = .ok (.iload_n 1, 1) := by decide +kernel
theorem dX7_isSolver_1 : decode cX7_isSolver 1 = .ok (.iconst 0, 1) := by decide +kernel
theorem dX7_isSolver_2 : decode cX7_isSolver 2 = .ok (.aload_n 0, 1) := by decide +kernel
theorem dX7_isSolver_3 : decode cX7_isSolver 3 = .ok (.getfield 183, 3) := by decide +kernel
theorem dX7_isSolver_6 : decode cX7_isSolver 6 = .ok (.iconst 1, 1) := by decide +kernel
theorem dX7_isSolver_7 : decode cX7_isSolver 7 = .ok (.isub, 1) := by decide +kernel
theorem dX7_isSolver_8 : decode cX7_isSolver 8 = .ok (.invokestatic 123, 3) := by decide +kernel
theorem dX7_isSolver_11 : decode cX7_isSolver 11 = .ok (.ireturn, 1) := by decide +kernel
noncomputable def f_X7_isSolver (l1 : Int32) (mem : Mem) : Option (Int32) :=
  ob (f_X7_in l1 0 ((mem 62 18) - 1)) fun r8 => bk r8 (some r8)
set_option maxRecDepth 100000 in
set_option maxHeartbeats 4000000 in
theorem m_X7_isSolver {E : Ex} {ad : Nat → Nat} {sh sp : Nat} {d : Nat} (hd : 1 ≤ d)  {l1 : Int32} {mem : Mem} {r : Int32} (h : f_X7_isSolver l1 mem = some r) : Cl E yX7_isSolver cX7_isSolver 2 (some .boolean) d [.ref (ad 62), .int l1] (some (.int r)) ad (LC sh sp ++ LM) mem (LC sh sp ++ LM) mem := by
  refine Cl.of [some (.ref (ad 62)), some (.int l1)] (by decide +kernel) rfl (Nat.le_of_ble_eq_true rfl) (fun κ C hP => ?_)
  have C : Cx E κ cX7_isSolver RX7 2 (some .boolean) d := C
  unfold f_X7_isSolver at h
  refine g_iload_n (pc := 0) (i := 1) (x := l1) C dX7_isSolver_0 rfl rfl ?_
  refine g_iconst (pc := 1) (v := 0) C dX7_isSolver_1 rfl ?_
  refine g_aload_n (pc := 2) (i := 0) (x := ad 62) C dX7_isSolver_2 rfl rfl ?_
  refine g_get (pc := 3) (v := .int (mem 62 18)) C ok_X7 18 (by decide) wf_X7_183 dX7_isSolver_3 la_62 rfl ?_
  refine g_iconst (pc := 6) (v := 1) C dX7_isSolver_6 rfl ?_
  refine g_isub (pc := 7) C dX7_isSolver_7 ?_
  obtain ⟨r8, hcall8, h⟩ := ob_some h
  refine g_callS (pc := 8) C ce0 mi_X7_in ms_X7_in wm_X7_123 dX7_isSolver_8 [.int l1, .int 0, .int ((mem 62 18) - 1)] [] (by omega) rfl rfl (Nat.le_of_ble_eq_true rfl) (m_X7_in (d := d - 1) (by omega)  hcall8) ?_
  show Gw E κ 2 0 0 11 [some (.ref (ad 62)), some (.int l1)] [.int r8] ad (LC sh sp ++ LM) mem
  obtain ⟨hb11, h⟩ := bk_some h
  cases h
  exact g_iret (pc := 11) C hP rfl (nb01 hb11).1 dX7_isSolver_11
