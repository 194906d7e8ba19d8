theorem dX7_in_0 : decode cX7_in 0 = .ok (.iload_n 0, 1) := by decide +kernel
theorem dX7_in_1 : decode cX7_in 1 = .ok (.iload_n 1, 1) := by decide +kernel
theorem dX7_in_2 : decode cX7_in 2 = .ok (.if_icmp .lt 12, 3) := by decide +kernel
theorem dX7_in_5 : decode cX7_in 5 = .ok (.iload_n 0, 1) := by decide +kernel
theorem dX7_in_6 : decode cX7_in 6 = .ok (.iload_n 2, 1) := by decide +kernel
theorem dX7_in_7 : decode cX7_in 7 = .ok (.if_icmp .gt 7, 3) := by decide +kernel
theorem dX7_in_10 : decode cX7_in 10 = .ok (.iconst 1, 1) := by decide +kernel
theorem dX7_in_11 : decode cX7_in 11 = .ok (.goto 4, 3) := by decide +kernel
theorem dX7_in_14 : decode cX7_in 14 = .ok (.iconst 0, 1) := by decide +kernel
theorem dX7_in_15 : decode cX7_in 15 = .ok (.ireturn, 1) := by decide +kernel
noncomputable def f_X7_in (l0 : Int32) (l1 : Int32) (l2 : Int32) : Option (Int32) :=
  if l0 < l1 then (some 0) else (if l2 < l0 then (some 0) else (some 1))
set_option maxRecDepth 100000 in
set_option maxHeartbeats 4000000 in
theorem m_X7_in {E : Ex} {ad : Nat → Nat} {lay : List Ent} {d : Nat} (hd : 0 ≤ d)  {l0 : Int32} {l1 : Int32} {l2 : Int32} {mem : Mem} {r : Int32} (h : f_X7_in l0 l1 l2 = some r) : Cl E yX7_in cX7_in 3 (some .boolean) d [.int l0, .int l1, .int l2] (some (.int r)) ad lay mem lay mem := by
  refine Cl.of [some (.int l0), some (.int l1), some (.int l2)] (by decide +kernel) rfl (Nat.le_of_ble_eq_true rfl) (fun κ C hP => ?_)
  have C : Cx E κ cX7_in RX7 3 (some .boolean) d := C
  unfold f_X7_in at h
  refine g_iload_n (pc := 0) (i := 0) (x := l0) C dX7_in_0 rfl rfl ?_
  refine g_iload_n (pc := 1) (i := 1) (x := l1) C dX7_in_1 rfl rfl ?_
  rcases ite_some' h with ⟨hc2, h⟩ | ⟨hc2, h⟩
  · refine g_icmp_lt_t (pc := 2) C 14 dX7_in_2 (by decide) hc2 ?_
    refine g_iconst (pc := 14) (v := 0) C dX7_in_14 rfl ?_
    cases h
    exact g_iret (pc := 15) C hP rfl rfl dX7_in_15
  · refine g_icmp_lt_f (pc := 2) C 14 dX7_in_2 (by decide) hc2 ?_
    refine g_iload_n (pc := 5) (i := 0) (x := l0) C dX7_in_5 rfl rfl ?_
    refine g_iload_n (pc := 6) (i := 2) (x := l2) C dX7_in_6 rfl rfl ?_
    rcases ite_some' h with ⟨hc7, h⟩ | ⟨hc7, h⟩
    · refine g_icmp_gt_t (pc := 7) C 14 dX7_in_7 (by decide) hc7 ?_
      refine g_iconst (pc := 14) (v := 0) C dX7_in_14 rfl ?_
      cases h
      exact g_iret (pc := 15) C hP rfl rfl dX7_in_15
    · refine g_icmp_gt_f (pc := 7) C 14 dX7_in_7 (by decide) hc7 ?_
      refine g_iconst (pc := 10) (v := 1) C dX7_in_10 rfl ?_
      refine g_goto (pc := 11) C 15 dX7_in_11 (by decide) ?_
      cases h
      exact g_iret (pc := 15) C hP rfl rfl dX7_in_15

theorem dX7_has_0 : decode cX7_has 0 = .ok (.iload_n 0, 1) := by decide +kernel
theorem dX7_has_1 : decode cX7_has 1 = .ok (.iload_n 1, 1) := by decide +kernel
theorem dX7_has_2 : decode cX7_has 2 = .ok (.ishr, 1) := by decide +kernel
theorem dX7_has_3 : decode cX7_has 3 = .ok (.iconst 1, 1) := by decide +kernel
theorem dX7_has_4 : decode cX7_has 4 = .ok (.iand, 1) := by decide +kernel
theorem dX7_has_5 : decode cX7_has 5 = .ok (.iconst 1, 1) := by decide +kernel
theorem dX7_has_6 : decode cX7_has 6 = .ok (.if_icmp .ne 7, 3) := by decide +kernel
theorem dX7_has_9 : decode cX7_has 9 = .ok (.iconst 1, 1) := by decide +kernel
theorem dX7_has_10 : decode cX7_has 10 = .ok (.goto 4, 3) := by decide +kernel
theorem dX7_has_13 : decode cX7_has 13 = .ok (.iconst 0, 1) := by decide +kernel
theorem dX7_has_14 : decode cX7_has 14 = .ok (.ireturn, 1) := by decide +kernel
noncomputable def f_X7_has (l0 : Int32) (l1 : Int32) : Option (Int32) :=
  if ((l0 >>> (l1 &&& 31)) &&& 1) = 1 then (some 1) else (some 0)
set_option maxRecDepth 100000 in
set_option maxHeartbeats 4000000 in
theorem m_X7_has {E : Ex} {ad : Nat → Nat} {lay : List Ent} {d : Nat} (hd : 0 ≤ d)  {l0 : Int32} {l1 : Int32} {mem : Mem} {r : Int32} (h : f_X7_has l0 l1 = some r) : Cl E yX7_has cX7_has 2 (some .boolean) d [.int l0, .int l1] (some (.int r)) ad lay mem lay mem := by
  refine Cl.of [some (.int l0), some (.int l1)] (by decide +kernel) rfl (Nat.le_of_ble_eq_true rfl) (fun κ C hP => ?_)
  have C : Cx E κ cX7_has RX7 2 (some .boolean) d := C
  unfold f_X7_has at h
  refine g_iload_n (pc := 0) (i := 0) (x := l0) C dX7_has_0 rfl rfl ?_
  refine g_iload_n (pc := 1) (i := 1) (x := l1) C dX7_has_1 rfl rfl ?_
  refine g_ishr (pc := 2) C dX7_has_2 ?_
  refine g_iconst (pc := 3) (v := 1) C dX7_has_3 rfl ?_
  refine g_iand (pc := 4) C dX7_has_4 ?_
  refine g_iconst (pc := 5) (v := 1) C dX7_has_5 rfl ?_
  rcases ite_some' h with ⟨hc6, h⟩ | ⟨hc6, h⟩
  · refine g_icmp_ne_f (pc := 6) C 13 dX7_has_6 (by decide) hc6 ?_
    refine g_iconst (pc := 9) (v := 1) C dX7_has_9 rfl ?_
    refine g_goto (pc := 10) C 14 dX7_has_10 (by decide) ?_
    cases h
    exact g_iret (pc := 14) C hP rfl rfl dX7_has_14
  · refine g_icmp_ne_t (pc := 6) C 13 dX7_has_6 (by decide) hc6 ?_
    refine g_iconst (pc := 13) (v := 0) C dX7_has_13 rfl ?_
    cases h
    exact g_iret (pc := 14) C hP rfl rfl dX7_has_14

theorem dX7_bits_0 : decode cX7_bits 0 = .ok (.iconst 0, 1) := by decide +kernel
theorem dX7_bits_1 : decode cX7_bits 1 = .ok (.istore_n 1, 1) := by decide +kernel
theorem dX7_bits_2 : decode cX7_bits 2 = .ok (.iload_n 0, 1) := by decide +kernel
theorem dX7_bits_3 : decode cX7_bits 3 = .ok (.istore_n 2, 1) := by decide +kernel
theorem dX7_bits_4 : decode cX7_bits 4 = .ok (.iload_n 2, 1) := by decide +kernel
theorem dX7_bits_5 : decode cX7_bits 5 = .ok (.ifCond .eq 15, 3) := by decide +kernel
theorem dX7_bits_8 : decode cX7_bits 8 = .ok (.iinc 1 1, 3) := by decide +kernel
theorem dX7_bits_11 : decode cX7_bits 11 = .ok (.iload_n 2, 1) := by decide +kernel
theorem dX7_bits_12 : decode cX7_bits 12 = .ok (.iload_n 2, 1) := by decide +kernel
theorem dX7_bits_13 : decode cX7_bits 13 = .ok (.iconst 1, 1) := by decide +kernel
theorem dX7_bits_14 : decode cX7_bits 14 = .ok (.isub, 1) := by decide +kernel
theorem dX7_bits_15 : decode cX7_bits 15 = .ok (.iand, 1) := by decide +kernel
theorem dX7_bits_16 : decode cX7_bits 16 = .ok (.istore_n 2, 1) := by decide +kernel
theorem dX7_bits_17 : decode cX7_bits 17 = .ok (.goto (-13), 3) := by decide +kernel
theorem dX7_bits_20 : decode cX7_bits 20 = .ok (.iload_n 1, 1) := by decide +kernel
theorem dX7_bits_21 : decode cX7_bits 21 = .ok (.ireturn, 1) := by decide +kernel
noncomputable def f_X7_bits_b4 (q : Int32 × Int32) : Option ((Int32 × Int32) ⊕ (Int32 × Int32)) :=
  if q.2 = 0 then (some (.inr (q.1, q.2))) else (lt' (q.1 + 1) fun v8 => lt' (q.2 &&& (q.2 - 1)) fun v16 => some (.inl (v8, v16)))
noncomputable def f_X7_bits (l0 : Int32) : Option (Int32) :=
  ob (lp f_X7_bits_b4 FU (0, l0)) fun q4 => some q4.1
def P_X7_bits_4 (E : Ex) (κ : Kx) (ad : Nat → Nat) (lay : List Ent) (mem : Mem) : (Int32 × Int32) ⊕ (Int32 × Int32) → Prop
  | .inl q => Gw E κ 3 0 0 4 [none, some (.int q.1), some (.int q.2)] [] ad lay mem
  | .inr q => Gw E κ 3 0 0 20 [none, some (.int q.1), none] [] ad lay mem
set_option maxRecDepth 100000 in
set_option maxHeartbeats 4000000 in
theorem b_X7_bits_4 {E : Ex} {κ : Kx} {ad : Nat → Nat} {lay : List Ent} {d : Nat} (C : Cx E κ cX7_bits RX7 3 (some .int) d) (hd : 0 ≤ d)  {mem : Mem} {q : Int32 × Int32} {x : (Int32 × Int32) ⊕ (Int32 × Int32)} (h : f_X7_bits_b4  q = some x) (hP : (P_X7_bits_4 E κ ad lay mem) x) : Gw E κ 3 0 0 4 [none, some (.int q.1), some (.int q.2)] [] ad lay mem := by
  unfold f_X7_bits_b4 at h
  refine g_iload_n (pc := 4) (i := 2) (x := q.2) C dX7_bits_4 rfl rfl ?_
  rcases ite_some' h with ⟨hc5, h⟩ | ⟨hc5, h⟩
  · refine g_if_eq_t (pc := 5) C 20 dX7_bits_5 (by decide) hc5 ?_
    refine g_mask (lv' := [none, some (.int q.1), none]) [false, true, false] rfl ?_
    cases h
    exact hP
  · refine g_if_eq_f (pc := 5) C 20 dX7_bits_5 (by decide) hc5 ?_
    obtain ⟨v8, hv8, h⟩ := lt_some h
    refine g_iinc (pc := 8) (i := 1) (x := q.1) (v := v8) (lv' := [none, some (.int v8), some (.int q.2)]) C dX7_bits_8 rfl hv8.symm (by decide) rfl rfl ?_
    refine g_iload_n (pc := 11) (i := 2) (x := q.2) C dX7_bits_11 rfl rfl ?_
    refine g_iload_n (pc := 12) (i := 2) (x := q.2) C dX7_bits_12 rfl rfl ?_
    refine g_iconst (pc := 13) (v := 1) C dX7_bits_13 rfl ?_
    refine g_isub (pc := 14) C dX7_bits_14 ?_
    refine g_iand (pc := 15) C dX7_bits_15 ?_
    obtain ⟨v16, hv16, h⟩ := lt_some h
    refine g_topi hv16 ?_
    refine g_istore_n (pc := 16) (i := 2) (lv' := [none, some (.int v8), some (.int v16)]) C dX7_bits_16 rfl (by decide) rfl rfl ?_
    refine g_goto (pc := 17) C 4 dX7_bits_17 (by decide) ?_
    cases h
    exact hP
set_option maxRecDepth 100000 in
set_option maxHeartbeats 4000000 in
theorem m_X7_bits {E : Ex} {ad : Nat → Nat} {lay : List Ent} {d : Nat} (hd : 0 ≤ d)  {l0 : Int32} {mem : Mem} {r : Int32} (h : f_X7_bits l0 = some r) : Cl E yX7_bits cX7_bits 3 (some .int) d [.int l0] (some (.int r)) ad lay mem lay mem := by
  refine Cl.of [some (.int l0), none, none] (by decide +kernel) rfl (Nat.le_of_ble_eq_true rfl) (fun κ C hP => ?_)
  have C : Cx E κ cX7_bits RX7 3 (some .int) d := C
  unfold f_X7_bits at h
  refine g_iconst (pc := 0) (v := 0) C dX7_bits_0 rfl ?_
  refine g_istore_n (pc := 1) (i := 1) (lv' := [some (.int l0), some (.int 0), none]) C dX7_bits_1 rfl (by decide) rfl rfl ?_
  refine g_iload_n (pc := 2) (i := 0) (x := l0) C dX7_bits_2 rfl rfl ?_
  refine g_istore_n (pc := 3) (i := 2) (lv' := [some (.int l0), some (.int 0), some (.int l0)]) C dX7_bits_3 rfl (by decide) rfl rfl ?_
  refine g_mask (lv' := [none, some (.int 0), some (.int l0)]) [false, true, true] rfl ?_
  obtain ⟨q4, hq, h⟩ := ob_some h
  refine lp_gw (P_X7_bits_4 E κ ad lay mem) (fun q x hb hp => b_X7_bits_4 C hd hb hp) _ (0, l0) _ hq ?_
  show Gw E κ 3 0 0 20 [none, some (.int q4.1), none] [] ad lay mem
  refine g_iload_n (pc := 20) (i := 1) (x := q4.1) C dX7_bits_20 rfl rfl ?_
  cases h
  exact g_iret (pc := 21) C hP rfl rfl dX7_bits_21

theorem dX7_anew_0 : decode cX7_anew 0 = .ok (.aload_n 0, 1) := by decide +kernel
theorem dX7_anew_1 : decode cX7_anew 1 = .ok (.iconst 3, 1) := by decide +kernel
theorem dX7_anew_2 : decode cX7_anew 2 = .ok (.putfield 106, 3) := by decide +kernel
theorem dX7_anew_5 : decode cX7_anew 5 = .ok (.aload_n 0, 1) := by decide +kernel
theorem dX7_anew_6 : decode cX7_anew 6 = .ok (.iconst 4, 1) := by decide +kernel
theorem dX7_anew_7 : decode cX7_anew 7 = .ok (.putfield 110, 3) := by decide +kernel
theorem dX7_anew_10 : decode cX7_anew 10 = .ok (.aload_n 0, 1) := by decide +kernel
theorem dX7_anew_11 : decode cX7_anew 11 = .ok (.iconst 0, 1) := by decide +kernel
theorem dX7_anew_12 : decode cX7_anew 12 = .ok (.putfield 113, 3) := by decide +kernel
theorem dX7_anew_15 : decode cX7_anew 15 = .ok (.aload_n 0, 1) := by decide +kernel
theorem dX7_anew_16 : decode cX7_anew 16 = .ok (.iconst 0, 1) := by decide +kernel
theorem dX7_anew_17 : decode cX7_anew 17 = .ok (.putfield 116, 3) := by decide +kernel
theorem dX7_anew_20 : decode cX7_anew 20 = .ok (.aload_n 0, 1) := by decide +kernel
theorem dX7_anew_21 : decode cX7_anew 21 = .ok (.iconst 0, 1) := by decide +kernel
theorem dX7_anew_22 : decode cX7_anew 22 = .ok (.putfield 119, 3) := by decide +kernel
theorem dX7_anew_25 : decode cX7_anew 25 = .ok (.iconst 0, 1) := by decide +kernel
theorem dX7_anew_26 : decode cX7_anew 26 = .ok (.istore_n 1, 1) := by decide +kernel
theorem dX7_anew_27 : decode cX7_anew 27 = .ok (.iload_n 1, 1) := by decide +kernel
theorem dX7_anew_28 : decode cX7_anew 28 = .ok (.bipush 16, 2) := by decide +kernel
theorem dX7_anew_30 : decode cX7_anew 30 = .ok (.if_icmp .ge 23, 3) := by decide +kernel
theorem dX7_anew_33 : decode cX7_anew 33 = .ok (.aload_n 0, 1) := by decide +kernel
theorem dX7_anew_34 : decode cX7_anew 34 = .ok (.getfield 13, 3) := by decide +kernel
theorem dX7_anew_37 : decode cX7_anew 37 = .ok (.iload_n 1, 1) := by decide +kernel
theorem dX7_anew_38 : decode cX7_anew 38 = .ok (.iconst 0, 1) := by decide +kernel
theorem dX7_anew_39 : decode cX7_anew 39 = .ok (.iastore, 1) := by decide +kernel
theorem dX7_anew_40 : decode cX7_anew 40 = .ok (.aload_n 0, 1) := by decide +kernel
theorem dX7_anew_41 : decode cX7_anew 41 = .ok (.getfield 16, 3) := by decide +kernel
theorem dX7_anew_44 : decode cX7_anew 44 = .ok (.iload_n 1, 1) := by decide +kernel
theorem dX7_anew_45 : decode cX7_anew 45 = .ok (.iconst 0, 1) := by decide +kernel
theorem dX7_anew_46 : decode cX7_anew 46 = .ok (.iastore, 1) := by decide +kernel
theorem dX7_anew_47 : decode cX7_anew 47 = .ok (.iinc 1 1, 3) := by decide +kernel
theorem dX7_anew_50 : decode cX7_anew 50 = .ok (.goto (-23), 3) := by decide +kernel
theorem dX7_anew_53 : decode cX7_anew 53 = .ok (.return_, 1) := by decide +kernel
noncomputable def f_X7_anew_b27 (q : Int32 × Mem) : Option ((Int32 × Mem) ⊕ (Int32 × Mem)) :=
  if 16 ≤ q.1 then (some (.inr (q.1, q.2))) else (wr q.2 64 16 q.1 0 fun m39 => wr m39 65 16 q.1 0 fun m46 => lt' (q.1 + 1) fun v47 => some (.inl (v47, m46)))
noncomputable def f_X7_anew  (mem : Mem) : Option (Mem) :=
  lt' (mset mem 62 3 3) fun m2 => lt' (mset m2 62 4 4) fun m7 => lt' (mset m7 62 5 0) fun m12 => lt' (mset m12 62 6 0) fun m17 => lt' (mset m17 62 7 0) fun m22 => ob (lp f_X7_anew_b27 FU (0, m22)) fun q27 => some q27.2
def P_X7_anew_27 (E : Ex) (κ : Kx) (ad : Nat → Nat) (lay : List Ent) : (Int32 × Mem) ⊕ (Int32 × Mem) → Prop
  | .inl q => Gw E κ 2 0 0 27 [some (.ref (ad 62)), some (.int q.1)] [] ad lay q.2
  | .inr q => Gw E κ 2 0 0 53 [none, none] [] ad lay q.2
set_option maxRecDepth 100000 in
set_option maxHeartbeats 4000000 in
theorem b_X7_anew_27 {E : Ex} {κ : Kx} {ad : Nat → Nat} {sh sp : Nat} {d : Nat} (C : Cx E κ cX7_anew RX7 2 none d) (hd : 0 ≤ d)  {q : Int32 × Mem} {x : (Int32 × Mem) ⊕ (Int32 × Mem)} (h : f_X7_anew_b27  q = some x) (hP : (P_X7_anew_27 E κ ad (LC sh sp ++ LM) ) x) : Gw E κ 2 0 0 27 [some (.ref (ad 62)), some (.int q.1)] [] ad (LC sh sp ++ LM) q.2 := by
  unfold f_X7_anew_b27 at h
  refine g_iload_n (pc := 27) (i := 1) (x := q.1) C dX7_anew_27 rfl rfl ?_
  refine g_bipush (pc := 28) (v := 16) C dX7_anew_28 rfl ?_
  rcases ite_some' h with ⟨hc30, h⟩ | ⟨hc30, h⟩
  · refine g_icmp_ge_t (pc := 30) C 53 dX7_anew_30 (by decide) hc30 ?_
    refine g_mask (lv' := [none, none]) [false, false] rfl ?_
    cases h
    exact hP
  · refine g_icmp_ge_f (pc := 30) C 53 dX7_anew_30 (by decide) hc30 ?_
    refine g_aload_n (pc := 33) (i := 0) (x := ad 62) C dX7_anew_33 rfl rfl ?_
    refine g_get (pc := 34) (v := .ref (ad 64)) C ok_X7 8 (by decide) wf_X7_13 dX7_anew_34 la_62 rfl ?_
    refine g_iload_n (pc := 37) (i := 1) (x := q.1) C dX7_anew_37 rfl rfl ?_
    refine g_iconst (pc := 38) (v := 0) C dX7_anew_38 rfl ?_
    obtain ⟨m39, hm39, hi39, h⟩ := wr_some h
    refine g_iast (pc := 39) C dX7_anew_39 la_64 hi39 ?_
    refine g_mem hm39 ?_
    refine g_aload_n (pc := 40) (i := 0) (x := ad 62) C dX7_anew_40 rfl rfl ?_
    refine g_get (pc := 41) (v := .ref (ad 65)) C ok_X7 9 (by decide) wf_X7_16 dX7_anew_41 la_62 rfl ?_
    refine g_iload_n (pc := 44) (i := 1) (x := q.1) C dX7_anew_44 rfl rfl ?_
    refine g_iconst (pc := 45) (v := 0) C dX7_anew_45 rfl ?_
    obtain ⟨m46, hm46, hi46, h⟩ := wr_some h
    refine g_iast (pc := 46) C dX7_anew_46 la_65 hi46 ?_
    refine g_mem hm46 ?_
    obtain ⟨v47, hv47, h⟩ := lt_some h
    refine g_iinc (pc := 47) (i := 1) (x := q.1) (v := v47) (lv' := [some (.ref (ad 62)), some (.int v47)]) C dX7_anew_47 rfl hv47.symm (by decide) rfl rfl ?_
    refine g_goto (pc := 50) C 27 dX7_anew_50 (by decide) ?_
    cases h
    exact hP
set_option maxRecDepth 100000 in
set_option maxHeartbeats 4000000 in
theorem m_X7_anew {E : Ex} {ad : Nat → Nat} {sh sp : Nat} {d : Nat} (hd : 0 ≤ d)   {mem : Mem} {r : Mem} (h : f_X7_anew mem = some r) : Cl E yX7_anew cX7_anew 2 none d [.ref (ad 62)] none ad (LC sh sp ++ LM) mem (LC sh sp ++ LM) r := by
  refine Cl.of [some (.ref (ad 62)), none] (by decide +kernel) rfl (Nat.le_of_ble_eq_true rfl) (fun κ C hP => ?_)
  have C : Cx E κ cX7_anew RX7 2 none d := C
  unfold f_X7_anew at h
  refine g_aload_n (pc := 0) (i := 0) (x := ad 62) C dX7_anew_0 rfl rfl ?_
  refine g_iconst (pc := 1) (v := 3) C dX7_anew_1 rfl ?_
  obtain ⟨m2, hm2, h⟩ := lt_some h
  refine g_put (pc := 2) C ok_X7 3 (by decide) wf_X7_106 dX7_anew_2 rfl rfl la_62 ?_
  refine g_mem hm2 ?_
  refine g_aload_n (pc := 5) (i := 0) (x := ad 62) C dX7_anew_5 rfl rfl ?_
  refine g_iconst (pc := 6) (v := 4) C dX7_anew_6 rfl ?_
  obtain ⟨m7, hm7, h⟩ := lt_some h
  refine g_put (pc := 7) C ok_X7 4 (by decide) wf_X7_110 dX7_anew_7 rfl rfl la_62 ?_
  refine g_mem hm7 ?_
  refine g_aload_n (pc := 10) (i := 0) (x := ad 62) C dX7_anew_10 rfl rfl ?_
  refine g_iconst (pc := 11) (v := 0) C dX7_anew_11 rfl ?_
  obtain ⟨m12, hm12, h⟩ := lt_some h
  refine g_put (pc := 12) C ok_X7 5 (by decide) wf_X7_113 dX7_anew_12 rfl rfl la_62 ?_
  refine g_mem hm12 ?_
  refine g_aload_n (pc := 15) (i := 0) (x := ad 62) C dX7_anew_15 rfl rfl ?_
  refine g_iconst (pc := 16) (v := 0) C dX7_anew_16 rfl ?_
  obtain ⟨m17, hm17, h⟩ := lt_some h
  refine g_put (pc := 17) C ok_X7 6 (by decide) wf_X7_116 dX7_anew_17 rfl rfl la_62 ?_
  refine g_mem hm17 ?_
  refine g_aload_n (pc := 20) (i := 0) (x := ad 62) C dX7_anew_20 rfl rfl ?_
  refine g_iconst (pc := 21) (v := 0) C dX7_anew_21 rfl ?_
  obtain ⟨m22, hm22, h⟩ := lt_some h
  refine g_putZ (pc := 22) C ok_X7 7 (by decide) wf_X7_119 dX7_anew_22 rfl rfl (by decide) la_62 ?_
  refine g_mem hm22 ?_
  refine g_iconst (pc := 25) (v := 0) C dX7_anew_25 rfl ?_
  refine g_istore_n (pc := 26) (i := 1) (lv' := [some (.ref (ad 62)), some (.int 0)]) C dX7_anew_26 rfl (by decide) rfl rfl ?_
  obtain ⟨q27, hq, h⟩ := ob_some h
  refine lp_gw (P_X7_anew_27 E κ ad (LC sh sp ++ LM) ) (fun q x hb hp => b_X7_anew_27 C hd hb hp) _ (0, m22) _ hq ?_
  show Gw E κ 2 0 0 53 [none, none] [] ad (LC sh sp ++ LM) q27.2
  cases h
  exact g_vret (pc := 53) C hP rfl dX7_anew_53

theorem dX7_spells_0 : decode cX7_spells 0 = .ok (.iconst 4, 1) := by decide +kernel
theorem dX7_spells_1 : decode cX7_spells 1 = .ok (.aload_n 0, 1) := by decide +kernel
theorem dX7_spells_2 : decode cX7_spells 2 = .ok (.getfield 113, 3) := by decide +kernel
theorem dX7_spells_5 : decode cX7_spells 5 = .ok (.imul, 1) := by decide +kernel
theorem dX7_spells_6 : decode cX7_spells 6 = .ok (.istore 5, 2) := by decide +kernel
theorem dX7_spells_8 : decode cX7_spells 8 = .ok (.aload_n 0, 1) := by decide +kernel
theorem dX7_spells_9 : decode cX7_spells 9 = .ok (.getfield 22, 3) := by decide +kernel
theorem dX7_spells_12 : decode cX7_spells 12 = .ok (.iload 5, 2) := by decide +kernel
theorem dX7_spells_14 : decode cX7_spells 14 = .ok (.iload_n 1, 1) := by decide +kernel
theorem dX7_spells_15 : decode cX7_spells 15 = .ok (.iastore, 1) := by decide +kernel
theorem dX7_spells_16 : decode cX7_spells 16 = .ok (.aload_n 0, 1) := by decide +kernel
theorem dX7_spells_17 : decode cX7_spells 17 = .ok (.getfield 22, 3) := by decide +kernel
theorem dX7_spells_20 : decode cX7_spells 20 = .ok (.iload 5, 2) := by decide +kernel
theorem dX7_spells_22 : decode cX7_spells 22 = .ok (.iconst 1, 1) := by decide +kernel
theorem dX7_spells_23 : decode cX7_spells 23 = .ok (.iadd, 1) := by decide +kernel
theorem dX7_spells_24 : decode cX7_spells 24 = .ok (.iload_n 2, 1) := by decide +kernel
theorem dX7_spells_25 : decode cX7_spells 25 = .ok (.iastore, 1) := by decide +kernel
theorem dX7_spells_26 : decode cX7_spells 26 = .ok (.aload_n 0, 1) := by decide +kernel
theorem dX7_spells_27 : decode cX7_spells 27 = .ok (.getfield 22, 3) := by decide +kernel
theorem dX7_spells_30 : decode cX7_spells 30 = .ok (.iload 5, 2) := by decide +kernel
theorem dX7_spells_32 : decode cX7_spells 32 = .ok (.iconst 2, 1) := by decide +kernel
theorem dX7_spells_33 : decode cX7_spells 33 = .ok (.iadd, 1) := by decide +kernel
theorem dX7_spells_34 : decode cX7_spells 34 = .ok (.iload_n 3, 1) := by decide +kernel
theorem dX7_spells_35 : decode cX7_spells 35 = .ok (.iastore, 1) := by decide +kernel
theorem dX7_spells_36 : decode cX7_spells 36 = .ok (.aload_n 0, 1) := by decide +kernel
theorem dX7_spells_37 : decode cX7_spells 37 = .ok (.getfield 22, 3) := by decide +kernel
theorem dX7_spells_40 : decode cX7_spells 40 = .ok (.iload 5, 2) := by decide +kernel
theorem dX7_spells_42 : decode cX7_spells 42 = .ok (.iconst 3, 1) := by decide +kernel
theorem dX7_spells_43 : decode cX7_spells 43 = .ok (.iadd, 1) := by decide +kernel
theorem dX7_spells_44 : decode cX7_spells 44 = .ok (.iload 4, 2) := by decide +kernel
theorem dX7_spells_46 : decode cX7_spells 46 = .ok (.iastore, 1) := by decide +kernel
theorem dX7_spells_47 : decode cX7_spells 47 = .ok (.aload_n 0, 1) := by decide +kernel
theorem dX7_spells_48 : decode cX7_spells 48 = .ok (.getfield 19, 3) := by decide +kernel
theorem dX7_spells_51 : decode cX7_spells 51 = .ok (.aload_n 0, 1) := by decide +kernel
theorem dX7_spells_52 : decode cX7_spells 52 = .ok (.getfield 113, 3) := by decide +kernel
theorem dX7_spells_55 : decode cX7_spells 55 = .ok (.iload 4, 2) := by decide +kernel
theorem dX7_spells_57 : decode cX7_spells 57 = .ok (.ifCond .le 7, 3) := by decide +kernel
theorem dX7_spells_60 : decode cX7_spells 60 = .ok (.iconst 4, 1) := by decide +kernel
theorem dX7_spells_61 : decode cX7_spells 61 = .ok (.goto 12, 3) := by decide +kernel
theorem dX7_spells_64 : decode cX7_spells 64 = .ok (.iload_n 3, 1) := by decide +kernel
theorem dX7_spells_65 : decode cX7_spells 65 = .ok (.ifCond .le 7, 3) := by decide +kernel
theorem dX7_spells_68 : decode cX7_spells 68 = .ok (.iconst 3, 1) := by decide +kernel
theorem dX7_spells_69 : decode cX7_spells 69 = .ok (.goto 4, 3) := by decide +kernel
theorem dX7_spells_72 : decode cX7_spells 72 = .ok (.iconst 2, 1) := by decide +kernel
theorem dX7_spells_73 : decode cX7_spells 73 = .ok (.iastore, 1) := by decide +kernel
theorem dX7_spells_74 : decode cX7_spells 74 = .ok (.aload_n 0, 1) := by decide +kernel
theorem dX7_spells_75 : decode cX7_spells 75 = .ok (.dup, 1) := by decide +kernel
theorem dX7_spells_76 : decode cX7_spells 76 = .ok (.getfield 113, 3) := by decide +kernel
theorem dX7_spells_79 : decode cX7_spells 79 = .ok (.iconst 1, 1) := by decide +kernel
theorem dX7_spells_80 : decode cX7_spells 80 = .ok (.iadd, 1) := by decide +kernel
theorem dX7_spells_81 : decode cX7_spells 81 = .ok (.putfield 113, 3) := by decide +kernel
theorem dX7_spells_84 : decode cX7_spells 84 = .ok (.return_, 1) := by decide +kernel
noncomputable def f_X7_spells (l1 : Int32) (l2 : Int32) (l3 : Int32) (l4 : Int32) (mem : Mem) : Option (Mem) :=
  lt' (4 * (mem 62 5)) fun v6 => wr mem 67 36 v6 l1 fun m15 => wr m15 67 36 (v6 + 1) l2 fun m25 => wr m25 67 36 (v6 + 2) l3 fun m35 => wr m35 67 36 (v6 + 3) l4 fun m46 => if l4 ≤ 0 then (if l3 ≤ 0 then (wr m46 66 9 (m46 62 5) 2 fun m73 => lt' (mset m73 62 5 ((m73 62 5) + 1)) fun m81 => some m81) else (wr m46 66 9 (m46 62 5) 3 fun m73 => lt' (mset m73 62 5 ((m73 62 5) + 1)) fun m81 => some m81)) else (wr m46 66 9 (m46 62 5) 4 fun m73 => lt' (mset m73 62 5 ((m73 62 5) + 1)) fun m81 => some m81)
set_option maxRecDepth 100000 in
set_option maxHeartbeats 4000000 in
theorem m_X7_spells {E : Ex} {ad : Nat → Nat} {sh sp : Nat} {d : Nat} (hd : 0 ≤ d)  {l1 : Int32} {l2 : Int32} {l3 : Int32} {l4 : Int32} {mem : Mem} {r : Mem} (h : f_X7_spells l1 l2 l3 l4 mem = some r) : Cl E yX7_spells cX7_spells 6 none d [.ref (ad 62), .int l1, .int l2, .int l3, .int l4] none ad (LC sh sp ++ LM) mem (LC sh sp ++ LM) r := by
  refine Cl.of [some (.ref (ad 62)), some (.int l1), some (.int l2), some (.int l3), some (.int l4), none] (by decide +kernel) rfl (Nat.le_of_ble_eq_true rfl) (fun κ C hP => ?_)
  have C : Cx E κ cX7_spells RX7 6 none d := C
  unfold f_X7_spells at h
  refine g_iconst (pc := 0) (v := 4) C dX7_spells_0 rfl ?_
  refine g_aload_n (pc := 1) (i := 0) (x := ad 62) C dX7_spells_1 rfl rfl ?_
  refine g_get (pc := 2) (v := .int (mem 62 5)) C ok_X7 5 (by decide) wf_X7_113 dX7_spells_2 la_62 rfl ?_
  refine g_imul (pc := 5) C dX7_spells_5 ?_
  obtain ⟨v6, hv6, h⟩ := lt_some h
  refine g_topi hv6 ?_
  refine g_istore (pc := 6) (i := 5) (lv' := [some (.ref (ad 62)), some (.int l1), some (.int l2), some (.int l3), some (.int l4), some (.int v6)]) C dX7_spells_6 (by decide) rfl rfl ?_
  refine g_aload_n (pc := 8) (i := 0) (x := ad 62) C dX7_spells_8 rfl rfl ?_
  refine g_get (pc := 9) (v := .ref (ad 67)) C ok_X7 11 (by decide) wf_X7_22 dX7_spells_9 la_62 rfl ?_
  refine g_iload (pc := 12) (i := 5) (x := v6) C dX7_spells_12 rfl ?_
  refine g_iload_n (pc := 14) (i := 1) (x := l1) C dX7_spells_14 rfl rfl ?_
  obtain ⟨m15, hm15, hi15, h⟩ := wr_some h
  refine g_iast (pc := 15) C dX7_spells_15 la_67 hi15 ?_
  refine g_mem hm15 ?_
  refine g_aload_n (pc := 16) (i := 0) (x := ad 62) C dX7_spells_16 rfl rfl ?_
  refine g_get (pc := 17) (v := .ref (ad 67)) C ok_X7 11 (by decide) wf_X7_22 dX7_spells_17 la_62 rfl ?_
  refine g_iload (pc := 20) (i := 5) (x := v6) C dX7_spells_20 rfl ?_
  refine g_iconst (pc := 22) (v := 1) C dX7_spells_22 rfl ?_
  refine g_iadd (pc := 23) C dX7_spells_23 ?_
  refine g_iload_n (pc := 24) (i := 2) (x := l2) C dX7_spells_24 rfl rfl ?_
  obtain ⟨m25, hm25, hi25, h⟩ := wr_some h
  refine g_iast (pc := 25) C dX7_spells_25 la_67 hi25 ?_
  refine g_mem hm25 ?_
  refine g_aload_n (pc := 26) (i := 0) (x := ad 62) C dX7_spells_26 rfl rfl ?_
  refine g_get (pc := 27) (v := .ref (ad 67)) C ok_X7 11 (by decide) wf_X7_22 dX7_spells_27 la_62 rfl ?_
  refine g_iload (pc := 30) (i := 5) (x := v6) C dX7_spells_30 rfl ?_
  refine g_iconst (pc := 32) (v := 2) C dX7_spells_32 rfl ?_
  refine g_iadd (pc := 33) C dX7_spells_33 ?_
  refine g_iload_n (pc := 34) (i := 3) (x := l3) C dX7_spells_34 rfl rfl ?_
  obtain ⟨m35, hm35, hi35, h⟩ := wr_some h
  refine g_iast (pc := 35) C dX7_spells_35 la_67 hi35 ?_
  refine g_mem hm35 ?_
  refine g_aload_n (pc := 36) (i := 0) (x := ad 62) C dX7_spells_36 rfl rfl ?_
  refine g_get (pc := 37) (v := .ref (ad 67)) C ok_X7 11 (by decide) wf_X7_22 dX7_spells_37 la_62 rfl ?_
  refine g_iload (pc := 40) (i := 5) (x := v6) C dX7_spells_40 rfl ?_
  refine g_iconst (pc := 42) (v := 3) C dX7_spells_42 rfl ?_
  refine g_iadd (pc := 43) C dX7_spells_43 ?_
  refine g_iload (pc := 44) (i := 4) (x := l4) C dX7_spells_44 rfl ?_
  obtain ⟨m46, hm46, hi46, h⟩ := wr_some h
  refine g_iast (pc := 46) C dX7_spells_46 la_67 hi46 ?_
  refine g_mem hm46 ?_
  refine g_aload_n (pc := 47) (i := 0) (x := ad 62) C dX7_spells_47 rfl rfl ?_
  refine g_get (pc := 48) (v := .ref (ad 66)) C ok_X7 10 (by decide) wf_X7_19 dX7_spells_48 la_62 rfl ?_
  refine g_aload_n (pc := 51) (i := 0) (x := ad 62) C dX7_spells_51 rfl rfl ?_
  refine g_get (pc := 52) (v := .int (m46 62 5)) C ok_X7 5 (by decide) wf_X7_113 dX7_spells_52 la_62 rfl ?_
  refine g_iload (pc := 55) (i := 4) (x := l4) C dX7_spells_55 rfl ?_
  rcases ite_some' h with ⟨hc57, h⟩ | ⟨hc57, h⟩
  · refine g_if_le_t (pc := 57) C 64 dX7_spells_57 (by decide) hc57 ?_
    refine g_iload_n (pc := 64) (i := 3) (x := l3) C dX7_spells_64 rfl rfl ?_
    rcases ite_some' h with ⟨hc65, h⟩ | ⟨hc65, h⟩
    · refine g_if_le_t (pc := 65) C 72 dX7_spells_65 (by decide) hc65 ?_
      refine g_iconst (pc := 72) (v := 2) C dX7_spells_72 rfl ?_
      obtain ⟨m73, hm73, hi73, h⟩ := wr_some h
      refine g_iast (pc := 73) C dX7_spells_73 la_66 hi73 ?_
      refine g_mem hm73 ?_
      refine g_aload_n (pc := 74) (i := 0) (x := ad 62) C dX7_spells_74 rfl rfl ?_
      refine g_dup (pc := 75) C dX7_spells_75 rfl ?_
      refine g_get (pc := 76) (v := .int (m73 62 5)) C ok_X7 5 (by decide) wf_X7_113 dX7_spells_76 la_62 rfl ?_
      refine g_iconst (pc := 79) (v := 1) C dX7_spells_79 rfl ?_
      refine g_iadd (pc := 80) C dX7_spells_80 ?_
      obtain ⟨m81, hm81, h⟩ := lt_some h
      refine g_put (pc := 81) C ok_X7 5 (by decide) wf_X7_113 dX7_spells_81 rfl rfl la_62 ?_
      refine g_mem hm81 ?_
      cases h
      exact g_vret (pc := 84) C hP rfl dX7_spells_84
    · refine g_if_le_f (pc := 65) C 72 dX7_spells_65 (by decide) hc65 ?_
      refine g_iconst (pc := 68) (v := 3) C dX7_spells_68 rfl ?_
      refine g_goto (pc := 69) C 73 dX7_spells_69 (by decide) ?_
      obtain ⟨m73, hm73, hi73, h⟩ := wr_some h
      refine g_iast (pc := 73) C dX7_spells_73 la_66 hi73 ?_
      refine g_mem hm73 ?_
      refine g_aload_n (pc := 74) (i := 0) (x := ad 62) C dX7_spells_74 rfl rfl ?_
      refine g_dup (pc := 75) C dX7_spells_75 rfl ?_
      refine g_get (pc := 76) (v := .int (m73 62 5)) C ok_X7 5 (by decide) wf_X7_113 dX7_spells_76 la_62 rfl ?_
      refine g_iconst (pc := 79) (v := 1) C dX7_spells_79 rfl ?_
      refine g_iadd (pc := 80) C dX7_spells_80 ?_
      obtain ⟨m81, hm81, h⟩ := lt_some h
      refine g_put (pc := 81) C ok_X7 5 (by decide) wf_X7_113 dX7_spells_81 rfl rfl la_62 ?_
      refine g_mem hm81 ?_
      cases h
      exact g_vret (pc := 84) C hP rfl dX7_spells_84
  · refine g_if_le_f (pc := 57) C 64 dX7_spells_57 (by decide) hc57 ?_
    refine g_iconst (pc := 60) (v := 4) C dX7_spells_60 rfl ?_
    refine g_goto (pc := 61) C 73 dX7_spells_61 (by decide) ?_
    obtain ⟨m73, hm73, hi73, h⟩ := wr_some h
    refine g_iast (pc := 73) C dX7_spells_73 la_66 hi73 ?_
    refine g_mem hm73 ?_
    refine g_aload_n (pc := 74) (i := 0) (x := ad 62) C dX7_spells_74 rfl rfl ?_
    refine g_dup (pc := 75) C dX7_spells_75 rfl ?_
    refine g_get (pc := 76) (v := .int (m73 62 5)) C ok_X7 5 (by decide) wf_X7_113 dX7_spells_76 la_62 rfl ?_
    refine g_iconst (pc := 79) (v := 1) C dX7_spells_79 rfl ?_
    refine g_iadd (pc := 80) C dX7_spells_80 ?_
    obtain ⟨m81, hm81, h⟩ := lt_some h
    refine g_put (pc := 81) C ok_X7 5 (by decide) wf_X7_113 dX7_spells_81 rfl rfl la_62 ?_
    refine g_mem hm81 ?_
    cases h
    exact g_vret (pc := 84) C hP rfl dX7_spells_84

theorem dX7_comes_0 : decode cX7_comes 0 = .ok (.aload_n 0, 1) := by decide +kernel
theorem dX7_comes_1 : decode cX7_comes 1 = .ok (.getfield 25, 3) := by decide +kernel
theorem dX7_comes_4 : decode cX7_comes 4 = .ok (.iconst 3, 1) := by decide +kernel
theorem dX7_comes_5 : decode cX7_comes 5 = .ok (.aload_n 0, 1) := by decide +kernel
theorem dX7_comes_6 : decode cX7_comes 6 = .ok (.getfield 116, 3) := by decide +kernel
theorem dX7_comes_9 : decode cX7_comes 9 = .ok (.imul, 1) := by decide +kernel
theorem dX7_comes_10 : decode cX7_comes 10 = .ok (.iload_n 1, 1) := by decide +kernel
theorem dX7_comes_11 : decode cX7_comes 11 = .ok (.iastore, 1) := by decide +kernel
theorem dX7_comes_12 : decode cX7_comes 12 = .ok (.aload_n 0, 1) := by decide +kernel
theorem dX7_comes_13 : decode cX7_comes 13 = .ok (.getfield 25, 3) := by decide +kernel
theorem dX7_comes_16 : decode cX7_comes 16 = .ok (.iconst 3, 1) := by decide +kernel
theorem dX7_comes_17 : decode cX7_comes 17 = .ok (.aload_n 0, 1) := by decide +kernel
theorem dX7_comes_18 : decode cX7_comes 18 = .ok (.getfield 116, 3) := by decide +kernel
theorem dX7_comes_21 : decode cX7_comes 21 = .ok (.imul, 1) := by decide +kernel
theorem dX7_comes_22 : decode cX7_comes 22 = .ok (.iconst 1, 1) := by decide +kernel
theorem dX7_comes_23 : decode cX7_comes 23 = .ok (.iadd, 1) := by decide +kernel
theorem dX7_comes_24 : decode cX7_comes 24 = .ok (.iload_n 2, 1) := by decide +kernel
theorem dX7_comes_25 : decode cX7_comes 25 = .ok (.iastore, 1) := by decide +kernel
theorem dX7_comes_26 : decode cX7_comes 26 = .ok (.aload_n 0, 1) := by decide +kernel
theorem dX7_comes_27 : decode cX7_comes 27 = .ok (.getfield 25, 3) := by decide +kernel
theorem dX7_comes_30 : decode cX7_comes 30 = .ok (.iconst 3, 1) := by decide +kernel
theorem dX7_comes_31 : decode cX7_comes 31 = .ok (.aload_n 0, 1) := by decide +kernel
theorem dX7_comes_32 : decode cX7_comes 32 = .ok (.getfield 116, 3) := by decide +kernel
theorem dX7_comes_35 : decode cX7_comes 35 = .ok (.imul, 1) := by decide +kernel
theorem dX7_comes_36 : decode cX7_comes 36 = .ok (.iconst 2, 1) := by decide +kernel
theorem dX7_comes_37 : decode cX7_comes 37 = .ok (.iadd, 1) := by decide +kernel
theorem dX7_comes_38 : decode cX7_comes 38 = .ok (.iload_n 3, 1) := by decide +kernel
theorem dX7_comes_39 : decode cX7_comes 39 = .ok (.iastore, 1) := by decide +kernel
theorem dX7_comes_40 : decode cX7_comes 40 = .ok (.aload_n 0, 1) := by decide +kernel
theorem dX7_comes_41 : decode cX7_comes 41 = .ok (.dup, 1) := by decide +kernel
theorem dX7_comes_42 : decode cX7_comes 42 = .ok (.getfield 116, 3) := by decide +kernel
theorem dX7_comes_45 : decode cX7_comes 45 = .ok (.iconst 1, 1) := by decide +kernel
theorem dX7_comes_46 : decode cX7_comes 46 = .ok (.iadd, 1) := by decide +kernel
theorem dX7_comes_47 : decode cX7_comes 47 = .ok (.putfield 116, 3) := by decide +kernel
theorem dX7_comes_50 : decode cX7_comes 50 = .ok (.return_, 1) := by decide +kernel
noncomputable def f_X7_comes (l1 : Int32) (l2 : Int32) (l3 : Int32) (mem : Mem) : Option (Mem) :=
  wr mem 68 18 (3 * (mem 62 6)) l1 fun m11 => wr m11 68 18 ((3 * (m11 62 6)) + 1) l2 fun m25 => wr m25 68 18 ((3 * (m25 62 6)) + 2) l3 fun m39 => lt' (mset m39 62 6 ((m39 62 6) + 1)) fun m47 => some m47
set_option maxRecDepth 100000 in
set_option maxHeartbeats 4000000 in
theorem m_X7_comes {E : Ex} {ad : Nat → Nat} {sh sp : Nat} {d : Nat} (hd : 0 ≤ d)  {l1 : Int32} {l2 : Int32} {l3 : Int32} {mem : Mem} {r : Mem} (h : f_X7_comes l1 l2 l3 mem = some r) : Cl E yX7_comes cX7_comes 4 none d [.ref (ad 62), .int l1, .int l2, .int l3] none ad (LC sh sp ++ LM) mem (LC sh sp ++ LM) r := by
  refine Cl.of [some (.ref (ad 62)), some (.int l1), some (.int l2), some (.int l3)] (by decide +kernel) rfl (Nat.le_of_ble_eq_true rfl) (fun κ C hP => ?_)
  have C : Cx E κ cX7_comes RX7 4 none d := C
  unfold f_X7_comes at h
  refine g_aload_n (pc := 0) (i := 0) (x := ad 62) C dX7_comes_0 rfl rfl ?_
  refine g_get (pc := 1) (v := .ref (ad 68)) C ok_X7 12 (by decide) wf_X7_25 dX7_comes_1 la_62 rfl ?_
  refine g_iconst (pc := 4) (v := 3) C dX7_comes_4 rfl ?_
  refine g_aload_n (pc := 5) (i := 0) (x := ad 62) C dX7_comes_5 rfl rfl ?_
  refine g_get (pc := 6) (v := .int (mem 62 6)) C ok_X7 6 (by decide) wf_X7_116 dX7_comes_6 la_62 rfl ?_
  refine g_imul (pc := 9) C dX7_comes_9 ?_
  refine g_iload_n (pc := 10) (i := 1) (x := l1) C dX7_comes_10 rfl rfl ?_
  obtain ⟨m11, hm11, hi11, h⟩ := wr_some h
  refine g_iast (pc := 11) C dX7_comes_11 la_68 hi11 ?_
  refine g_mem hm11 ?_
  refine g_aload_n (pc := 12) (i := 0) (x := ad 62) C dX7_comes_12 rfl rfl ?_
  refine g_get (pc := 13) (v := .ref (ad 68)) C ok_X7 12 (by decide) wf_X7_25 dX7_comes_13 la_62 rfl ?_
  refine g_iconst (pc := 16) (v := 3) C dX7_comes_16 rfl ?_
  refine g_aload_n (pc := 17) (i := 0) (x := ad 62) C dX7_comes_17 rfl rfl ?_
  refine g_get (pc := 18) (v := .int (m11 62 6)) C ok_X7 6 (by decide) wf_X7_116 dX7_comes_18 la_62 rfl ?_
  refine g_imul (pc := 21) C dX7_comes_21 ?_
  refine g_iconst (pc := 22) (v := 1) C dX7_comes_22 rfl ?_
  refine g_iadd (pc := 23) C dX7_comes_23 ?_
  refine g_iload_n (pc := 24) (i := 2) (x := l2) C dX7_comes_24 rfl rfl ?_
  obtain ⟨m25, hm25, hi25, h⟩ := wr_some h
  refine g_iast (pc := 25) C dX7_comes_25 la_68 hi25 ?_
  refine g_mem hm25 ?_
  refine g_aload_n (pc := 26) (i := 0) (x := ad 62) C dX7_comes_26 rfl rfl ?_
  refine g_get (pc := 27) (v := .ref (ad 68)) C ok_X7 12 (by decide) wf_X7_25 dX7_comes_27 la_62 rfl ?_
  refine g_iconst (pc := 30) (v := 3) C dX7_comes_30 rfl ?_
  refine g_aload_n (pc := 31) (i := 0) (x := ad 62) C dX7_comes_31 rfl rfl ?_
  refine g_get (pc := 32) (v := .int (m25 62 6)) C ok_X7 6 (by decide) wf_X7_116 dX7_comes_32 la_62 rfl ?_
  refine g_imul (pc := 35) C dX7_comes_35 ?_
  refine g_iconst (pc := 36) (v := 2) C dX7_comes_36 rfl ?_
  refine g_iadd (pc := 37) C dX7_comes_37 ?_
  refine g_iload_n (pc := 38) (i := 3) (x := l3) C dX7_comes_38 rfl rfl ?_
  obtain ⟨m39, hm39, hi39, h⟩ := wr_some h
  refine g_iast (pc := 39) C dX7_comes_39 la_68 hi39 ?_
  refine g_mem hm39 ?_
  refine g_aload_n (pc := 40) (i := 0) (x := ad 62) C dX7_comes_40 rfl rfl ?_
  refine g_dup (pc := 41) C dX7_comes_41 rfl ?_
  refine g_get (pc := 42) (v := .int (m39 62 6)) C ok_X7 6 (by decide) wf_X7_116 dX7_comes_42 la_62 rfl ?_
  refine g_iconst (pc := 45) (v := 1) C dX7_comes_45 rfl ?_
  refine g_iadd (pc := 46) C dX7_comes_46 ?_
  obtain ⟨m47, hm47, h⟩ := lt_some h
  refine g_put (pc := 47) C ok_X7 6 (by decide) wf_X7_116 dX7_comes_47 rfl rfl la_62 ?_
  refine g_mem hm47 ?_
  cases h
  exact g_vret (pc := 50) C hP rfl dX7_comes_50

theorem dX7_write_0 : decode cX7_write 0 = .ok (.iload_n 1, 1) := by decide +kernel
theorem dX7_write_1 : decode cX7_write 1 = .ok (.bipush 32, 2) := by decide +kernel
theorem dX7_write_3 : decode cX7_write 3 = .ok (.bipush 126, 2) := by decide +kernel
theorem dX7_write_5 : decode cX7_write 5 = .ok (.invokestatic 123, 3) := by decide +kernel
theorem dX7_write_8 : decode cX7_write 8 = .ok (.ifCond .ne 5, 3) := by decide +kernel
theorem dX7_write_11 : decode cX7_write 11 = .ok (.iconst (-1), 1) := by decide +kernel
theorem dX7_write_12 : decode cX7_write 12 = .ok (.ireturn, 1) := by decide +kernel
theorem dX7_write_13 : decode cX7_write 13 = .ok (.aload_n 0, 1) := by decide +kernel
theorem dX7_write_14 : decode cX7_write 14 = .ok (.getfield 127, 3) := by decide +kernel
theorem dX7_write_17 : decode cX7_write 17 = .ok (.sipush 200, 3) := by decide +kernel
theorem dX7_write_20 : decode cX7_write 20 = .ok (.if_icmp .ne 6, 3) := by decide +kernel
theorem dX7_write_23 : decode cX7_write 23 = .ok (.bipush (-3), 2) := by decide +kernel
theorem dX7_write_25 : decode cX7_write 25 = .ok (.ireturn, 1) := by decide +kernel
theorem dX7_write_26 : decode cX7_write 26 = .ok (.aload_n 0, 1) := by decide +kernel
theorem dX7_write_27 : decode cX7_write 27 = .ok (.getfield 7, 3) := by decide +kernel
theorem dX7_write_30 : decode cX7_write 30 = .ok (.aload_n 0, 1) := by decide +kernel
theorem dX7_write_31 : decode cX7_write 31 = .ok (.getfield 127, 3) := by decide +kernel
theorem dX7_write_34 : decode cX7_write 34 = .ok (.iload_n 1, 1) := by decide +kernel
theorem dX7_write_35 : decode cX7_write 35 = .ok (.iastore, 1) := by decide +kernel
theorem dX7_write_36 : decode cX7_write 36 = .ok (.aload_n 0, 1) := by decide +kernel
theorem dX7_write_37 : decode cX7_write 37 = .ok (.dup, 1) := by decide +kernel
theorem dX7_write_38 : decode cX7_write 38 = .ok (.getfield 127, 3) := by decide +kernel
theorem dX7_write_41 : decode cX7_write 41 = .ok (.iconst 1, 1) := by decide +kernel
theorem dX7_write_42 : decode cX7_write 42 = .ok (.iadd, 1) := by decide +kernel
theorem dX7_write_43 : decode cX7_write 43 = .ok (.putfield 127, 3) := by decide +kernel
theorem dX7_write_46 : decode cX7_write 46 = .ok (.aload_n 0, 1) := by decide +kernel
theorem dX7_write_47 : decode cX7_write 47 = .ok (.getfield 127, 3) := by decide +kernel
theorem dX7_write_50 : decode cX7_write 50 = .ok (.ireturn, 1) := by decide +kernel
noncomputable def f_X7_write (l1 : Int32) (mem : Mem) : Option (Int32 × Mem) :=
  ob (f_X7_in l1 32 126) fun r5 => if r5 = 0 then (some ((-1), mem)) else (if (mem 62 0) = 200 then (some ((-3), mem)) else (wr mem 63 200 (mem 62 0) l1 fun m35 => lt' (mset m35 62 0 ((m35 62 0) + 1)) fun m43 => lt' (m43 62 0) fun v50 => some (v50, m43)))
set_option maxRecDepth 100000 in
set_option maxHeartbeats 4000000 in
theorem m_X7_write {E : Ex} {ad : Nat → Nat} {sh sp : Nat} {d : Nat} (hd : 1 ≤ d)  {l1 : Int32} {mem : Mem} {r : Int32 × Mem} (h : f_X7_write l1 mem = some r) : Cl E yX7_write cX7_write 2 (some .int) d [.ref (ad 62), .int l1] (some (.int r.1)) ad (LC sh sp ++ LM) mem (LC sh sp ++ LM) r.2 := by
  refine Cl.of [some (.ref (ad 62)), some (.int l1)] (by decide +kernel) rfl (Nat.le_of_ble_eq_true rfl) (fun κ C hP => ?_)
  have C : Cx E κ cX7_write RX7 2 (some .int) d := C
  unfold f_X7_write at h
  refine g_iload_n (pc := 0) (i := 1) (x := l1) C dX7_write_0 rfl rfl ?_
  refine g_bipush (pc := 1) (v := 32) C dX7_write_1 rfl ?_
  refine g_bipush (pc := 3) (v := 126) C dX7_write_3 rfl ?_
  obtain ⟨r5, hcall5, h⟩ := ob_some h
  refine g_callS (pc := 5) C ce0 mi_X7_in ms_X7_in wm_X7_123 dX7_write_5 [.int l1, .int 32, .int 126] [] (by omega) rfl rfl (Nat.le_of_ble_eq_true rfl) (m_X7_in (d := d - 1) (by omega)  hcall5) ?_
  show Gw E κ 2 0 0 8 [some (.ref (ad 62)), some (.int l1)] [.int r5] ad (LC sh sp ++ LM) mem
  rcases ite_some' h with ⟨hc8, h⟩ | ⟨hc8, h⟩
  · refine g_if_ne_f (pc := 8) C 13 dX7_write_8 (by decide) hc8 ?_
    refine g_iconst (pc := 11) (v := (-1)) C dX7_write_11 rfl ?_
    cases h
    exact g_iret (pc := 12) C hP rfl rfl dX7_write_12
  · refine g_if_ne_t (pc := 8) C 13 dX7_write_8 (by decide) hc8 ?_
    refine g_aload_n (pc := 13) (i := 0) (x := ad 62) C dX7_write_13 rfl rfl ?_
    refine g_get (pc := 14) (v := .int (mem 62 0)) C ok_X7 0 (by decide) wf_X7_127 dX7_write_14 la_62 rfl ?_
    refine g_sipush (pc := 17) (v := 200) C dX7_write_17 rfl ?_
    rcases ite_some' h with ⟨hc20, h⟩ | ⟨hc20, h⟩
    · refine g_icmp_ne_f (pc := 20) C 26 dX7_write_20 (by decide) hc20 ?_
      refine g_bipush (pc := 23) (v := (-3)) C dX7_write_23 rfl ?_
      cases h
      exact g_iret (pc := 25) C hP rfl rfl dX7_write_25
    · refine g_icmp_ne_t (pc := 20) C 26 dX7_write_20 (by decide) hc20 ?_
      refine g_aload_n (pc := 26) (i := 0) (x := ad 62) C dX7_write_26 rfl rfl ?_
      refine g_get (pc := 27) (v := .ref (ad 63)) C ok_X7 1 (by decide) wf_X7_7 dX7_write_27 la_62 rfl ?_
      refine g_aload_n (pc := 30) (i := 0) (x := ad 62) C dX7_write_30 rfl rfl ?_
      refine g_get (pc := 31) (v := .int (mem 62 0)) C ok_X7 0 (by decide) wf_X7_127 dX7_write_31 la_62 rfl ?_
      refine g_iload_n (pc := 34) (i := 1) (x := l1) C dX7_write_34 rfl rfl ?_
      obtain ⟨m35, hm35, hi35, h⟩ := wr_some h
      refine g_iast (pc := 35) C dX7_write_35 la_63 hi35 ?_
      refine g_mem hm35 ?_
      refine g_aload_n (pc := 36) (i := 0) (x := ad 62) C dX7_write_36 rfl rfl ?_
      refine g_dup (pc := 37) C dX7_write_37 rfl ?_
      refine g_get (pc := 38) (v := .int (m35 62 0)) C ok_X7 0 (by decide) wf_X7_127 dX7_write_38 la_62 rfl ?_
      refine g_iconst (pc := 41) (v := 1) C dX7_write_41 rfl ?_
      refine g_iadd (pc := 42) C dX7_write_42 ?_
      obtain ⟨m43, hm43, h⟩ := lt_some h
      refine g_put (pc := 43) C ok_X7 0 (by decide) wf_X7_127 dX7_write_43 rfl rfl la_62 ?_
      refine g_mem hm43 ?_
      refine g_aload_n (pc := 46) (i := 0) (x := ad 62) C dX7_write_46 rfl rfl ?_
      refine g_get (pc := 47) (v := .int (m43 62 0)) C ok_X7 0 (by decide) wf_X7_127 dX7_write_47 la_62 rfl ?_
      obtain ⟨v50, hv50, h⟩ := lt_some h
      refine g_topi hv50 ?_
      cases h
      exact g_iret (pc := 50) C hP rfl rfl dX7_write_50

theorem dX7_wipe_0 : decode cX7_wipe 0 = .ok (.aload_n 0, 1) := by decide +kernel
theorem dX7_wipe_1 : decode cX7_wipe 1 = .ok (.getfield 127, 3) := by decide +kernel
theorem dX7_wipe_4 : decode cX7_wipe 4 = .ok (.istore_n 1, 1) := by decide +kernel
theorem dX7_wipe_5 : decode cX7_wipe 5 = .ok (.aload_n 0, 1) := by decide +kernel
theorem dX7_wipe_6 : decode cX7_wipe 6 = .ok (.iconst 0, 1) := by decide +kernel
theorem dX7_wipe_7 : decode cX7_wipe 7 = .ok (.putfield 127, 3) := by decide +kernel
theorem dX7_wipe_10 : decode cX7_wipe 10 = .ok (.iload_n 1, 1) := by decide +kernel
theorem dX7_wipe_11 : decode cX7_wipe 11 = .ok (.ireturn, 1) := by decide +kernel
noncomputable def f_X7_wipe  (mem : Mem) : Option (Int32 × Mem) :=
  lt' (mem 62 0) fun v4 => lt' (mset mem 62 0 0) fun m7 => some (v4, m7)
set_option maxRecDepth 100000 in
set_option maxHeartbeats 4000000 in
theorem m_X7_wipe {E : Ex} {ad : Nat → Nat} {sh sp : Nat} {d : Nat} (hd : 0 ≤ d)   {mem : Mem} {r : Int32 × Mem} (h : f_X7_wipe mem = some r) : Cl E yX7_wipe cX7_wipe 2 (some .int) d [.ref (ad 62)] (some (.int r.1)) ad (LC sh sp ++ LM) mem (LC sh sp ++ LM) r.2 := by
  refine Cl.of [some (.ref (ad 62)), none] (by decide +kernel) rfl (Nat.le_of_ble_eq_true rfl) (fun κ C hP => ?_)
  have C : Cx E κ cX7_wipe RX7 2 (some .int) d := C
  unfold f_X7_wipe at h
  refine g_aload_n (pc := 0) (i := 0) (x := ad 62) C dX7_wipe_0 rfl rfl ?_
  refine g_get (pc := 1) (v := .int (mem 62 0)) C ok_X7 0 (by decide) wf_X7_127 dX7_wipe_1 la_62 rfl ?_
  obtain ⟨v4, hv4, h⟩ := lt_some h
  refine g_topi hv4 ?_
  refine g_istore_n (pc := 4) (i := 1) (lv' := [some (.ref (ad 62)), some (.int v4)]) C dX7_wipe_4 rfl (by decide) rfl rfl ?_
  refine g_aload_n (pc := 5) (i := 0) (x := ad 62) C dX7_wipe_5 rfl rfl ?_
  refine g_iconst (pc := 6) (v := 0) C dX7_wipe_6 rfl ?_
  obtain ⟨m7, hm7, h⟩ := lt_some h
  refine g_put (pc := 7) C ok_X7 0 (by decide) wf_X7_127 dX7_wipe_7 rfl rfl la_62 ?_
  refine g_mem hm7 ?_
  refine g_iload_n (pc := 10) (i := 1) (x := v4) C dX7_wipe_10 rfl rfl ?_
  cases h
  exact g_iret (pc := 11) C hP rfl rfl dX7_wipe_11

theorem dX7_here_0 : decode cX7_here 0 = .ok (.aload_n 0, 1) := by decide +kernel
theorem dX7_here_1 : decode cX7_here 1 = .ok (.getfield 130, 3) := by decide +kernel
theorem dX7_here_4 : decode cX7_here 4 = .ok (.aload_n 0, 1) := by decide +kernel
theorem dX7_here_5 : decode cX7_here 5 = .ok (.getfield 127, 3) := by decide +kernel
theorem dX7_here_8 : decode cX7_here 8 = .ok (.if_icmp .ge 15, 3) := by decide +kernel
theorem dX7_here_11 : decode cX7_here 11 = .ok (.aload_n 0, 1) := by decide +kernel
theorem dX7_here_12 : decode cX7_here 12 = .ok (.getfield 7, 3) := by decide +kernel
theorem dX7_here_15 : decode cX7_here 15 = .ok (.aload_n 0, 1) := by decide +kernel
theorem dX7_here_16 : decode cX7_here 16 = .ok (.getfield 130, 3) := by decide +kernel
theorem dX7_here_19 : decode cX7_here 19 = .ok (.iaload, 1) := by decide +kernel
theorem dX7_here_20 : decode cX7_here 20 = .ok (.goto 4, 3) := by decide +kernel
theorem dX7_here_23 : decode cX7_here 23 = .ok (.iconst 0, 1) := by decide +kernel
theorem dX7_here_24 : decode cX7_here 24 = .ok (.ireturn, 1) := by decide +kernel
noncomputable def f_X7_here  (mem : Mem) : Option (Int32) :=
  if (mem 62 0) ≤ (mem 62 2) then (some 0) else (rd (mem 63) 200 (mem 62 2) fun v19 => some v19)
set_option maxRecDepth 100000 in
set_option maxHeartbeats 4000000 in
theorem m_X7_here {E : Ex} {ad : Nat → Nat} {sh sp : Nat} {d : Nat} (hd : 0 ≤ d)   {mem : Mem} {r : Int32} (h : f_X7_here mem = some r) : Cl E yX7_here cX7_here 1 (some .int) d [.ref (ad 62)] (some (.int r)) ad (LC sh sp ++ LM) mem (LC sh sp ++ LM) mem := by
  refine Cl.of [some (.ref (ad 62))] (by decide +kernel) rfl (Nat.le_of_ble_eq_true rfl) (fun κ C hP => ?_)
  have C : Cx E κ cX7_here RX7 1 (some .int) d := C
  unfold f_X7_here at h
  refine g_aload_n (pc := 0) (i := 0) (x := ad 62) C dX7_here_0 rfl rfl ?_
  refine g_get (pc := 1) (v := .int (mem 62 2)) C ok_X7 2 (by decide) wf_X7_130 dX7_here_1 la_62 rfl ?_
  refine g_aload_n (pc := 4) (i := 0) (x := ad 62) C dX7_here_4 rfl rfl ?_
  refine g_get (pc := 5) (v := .int (mem 62 0)) C ok_X7 0 (by decide) wf_X7_127 dX7_here_5 la_62 rfl ?_
  rcases ite_some' h with ⟨hc8, h⟩ | ⟨hc8, h⟩
  · refine g_icmp_ge_t (pc := 8) C 23 dX7_here_8 (by decide) hc8 ?_
    refine g_iconst (pc := 23) (v := 0) C dX7_here_23 rfl ?_
    cases h
    exact g_iret (pc := 24) C hP rfl rfl dX7_here_24
  · refine g_icmp_ge_f (pc := 8) C 23 dX7_here_8 (by decide) hc8 ?_
    refine g_aload_n (pc := 11) (i := 0) (x := ad 62) C dX7_here_11 rfl rfl ?_
    refine g_get (pc := 12) (v := .ref (ad 63)) C ok_X7 1 (by decide) wf_X7_7 dX7_here_12 la_62 rfl ?_
    refine g_aload_n (pc := 15) (i := 0) (x := ad 62) C dX7_here_15 rfl rfl ?_
    refine g_get (pc := 16) (v := .int (mem 62 2)) C ok_X7 2 (by decide) wf_X7_130 dX7_here_16 la_62 rfl ?_
    obtain ⟨v19, hv19, hi19, h⟩ := rd_some h
    refine g_iald (pc := 19) C dX7_here_19 la_63 hi19 ?_
    refine g_topi hv19 ?_
    refine g_goto (pc := 20) C 24 dX7_here_20 (by decide) ?_
    cases h
    exact g_iret (pc := 24) C hP rfl rfl dX7_here_24

theorem dX7_number_0 : decode cX7_number 0 = .ok (.aload_n 0, 1) := by decide +kernel
theorem dX7_number_1 : decode cX7_number 1 = .ok (.invokevirtual 133, 3) := by decide +kernel
theorem dX7_number_4 : decode cX7_number 4 = .ok (.bipush 48, 2) := by decide +kernel
theorem dX7_number_6 : decode cX7_number 6 = .ok (.bipush 57, 2) := by decide +kernel
theorem dX7_number_8 : decode cX7_number 8 = .ok (.invokestatic 123, 3) := by decide +kernel
theorem dX7_number_11 : decode cX7_number 11 = .ok (.ifCond .ne 5, 3) := by decide +kernel
theorem dX7_number_14 : decode cX7_number 14 = .ok (.iconst (-1), 1) := by decide +kernel
theorem dX7_number_15 : decode cX7_number 15 = .ok (.ireturn, 1) := by decide +kernel
theorem dX7_number_16 : decode cX7_number 16 = .ok (.aload_n 0, 1) := by decide +kernel
theorem dX7_number_17 : decode cX7_number 17 = .ok (.invokevirtual 133, 3) := by decide +kernel
theorem dX7_number_20 : decode cX7_number 20 = .ok (.bipush 48, 2) := by decide +kernel
theorem dX7_number_22 : decode cX7_number 22 = .ok (.isub, 1) := by decide +kernel
theorem dX7_number_23 : decode cX7_number 23 = .ok (.istore_n 2, 1) := by decide +kernel
theorem dX7_number_24 : decode cX7_number 24 = .ok (.aload_n 0, 1) := by decide +kernel
theorem dX7_number_25 : decode cX7_number 25 = .ok (.dup, 1) := by decide +kernel
theorem dX7_number_26 : decode cX7_number 26 = .ok (.getfield 130, 3) := by decide +kernel
theorem dX7_number_29 : decode cX7_number 29 = .ok (.iconst 1, 1) := by decide +kernel
theorem dX7_number_30 : decode cX7_number 30 = .ok (.iadd, 1) := by decide +kernel
theorem dX7_number_31 : decode cX7_number 31 = .ok (.putfield 130, 3) := by decide +kernel
theorem dX7_number_34 : decode cX7_number 34 = .ok (.aload_n 0, 1) := by decide +kernel
theorem dX7_number_35 : decode cX7_number 35 = .ok (.invokevirtual 133, 3) := by decide +kernel
theorem dX7_number_38 : decode cX7_number 38 = .ok (.bipush 48, 2) := by decide +kernel
theorem dX7_number_40 : decode cX7_number 40 = .ok (.bipush 57, 2) := by decide +kernel
theorem dX7_number_42 : decode cX7_number 42 = .ok (.invokestatic 123, 3) := by decide +kernel
theorem dX7_number_45 : decode cX7_number 45 = .ok (.ifCond .eq 26, 3) := by decide +kernel
theorem dX7_number_48 : decode cX7_number 48 = .ok (.bipush 10, 2) := by decide +kernel
theorem dX7_number_50 : decode cX7_number 50 = .ok (.iload_n 2, 1) := by decide +kernel
theorem dX7_number_51 : decode cX7_number 51 = .ok (.imul, 1) := by decide +kernel
theorem dX7_number_52 : decode cX7_number 52 = .ok (.aload_n 0, 1) := by decide +kernel
theorem dX7_number_53 : decode cX7_number 53 = .ok (.invokevirtual 133, 3) := by decide +kernel
theorem dX7_number_56 : decode cX7_number 56 = .ok (.iadd, 1) := by decide +kernel
theorem dX7_number_57 : decode cX7_number 57 = .ok (.bipush 48, 2) := by decide +kernel
theorem dX7_number_59 : decode cX7_number 59 = .ok (.isub, 1) := by decide +kernel
theorem dX7_number_60 : decode cX7_number 60 = .ok (.istore_n 2, 1) := by decide +kernel
theorem dX7_number_61 : decode cX7_number 61 = .ok (.aload_n 0, 1) := by decide +kernel
theorem dX7_number_62 : decode cX7_number 62 = .ok (.dup, 1) := by decide +kernel
theorem dX7_number_63 : decode cX7_number 63 = .ok (.getfield 130, 3) := by decide +kernel
theorem dX7_number_66 : decode cX7_number 66 = .ok (.iconst 1, 1) := by decide +kernel
theorem dX7_number_67 : decode cX7_number 67 = .ok (.iadd, 1) := by decide +kernel
theorem dX7_number_68 : decode cX7_number 68 = .ok (.putfield 130, 3) := by decide +kernel
theorem dX7_number_71 : decode cX7_number 71 = .ok (.iload_n 2, 1) := by decide +kernel
theorem dX7_number_72 : decode cX7_number 72 = .ok (.iload_n 1, 1) := by decide +kernel
theorem dX7_number_73 : decode cX7_number 73 = .ok (.if_icmp .gt 7, 3) := by decide +kernel
theorem dX7_number_76 : decode cX7_number 76 = .ok (.iload_n 2, 1) := by decide +kernel
theorem dX7_number_77 : decode cX7_number 77 = .ok (.goto 4, 3) := by decide +kernel
theorem dX7_number_80 : decode cX7_number 80 = .ok (.iconst (-1), 1) := by decide +kernel
theorem dX7_number_81 : decode cX7_number 81 = .ok (.ireturn, 1) := by decide +kernel
noncomputable def f_X7_number_j71 (l1 : Int32) (l2 : Int32) (mem : Mem) : Option (Int32 × Mem) :=
  if l1 < l2 then (some ((-1), mem)) else (some (l2, mem))
noncomputable def f_X7_number (l1 : Int32) (mem : Mem) : Option (Int32 × Mem) :=
  ob (f_X7_here mem) fun r1 => ob (f_X7_in r1 48 57) fun r8 => if r8 = 0 then (some ((-1), mem)) else (ob (f_X7_here mem) fun r17 => lt' (r17 - 48) fun v23 => lt' (mset mem 62 2 ((mem 62 2) + 1)) fun m31 => ob (f_X7_here m31) fun r35 => ob (f_X7_in r35 48 57) fun r42 => if r42 = 0 then (f_X7_number_j71 l1 v23 m31) else (ob (f_X7_here m31) fun r53 => lt' (((10 * v23) + r53) - 48) fun v60 => lt' (mset m31 62 2 ((m31 62 2) + 1)) fun m68 => f_X7_number_j71 l1 v60 m68))
set_option maxRecDepth 100000 in
set_option maxHeartbeats 4000000 in
theorem j_X7_number_71 {E : Ex} {κ : Kx} {ad : Nat → Nat} {sh sp : Nat} {d : Nat} (C : Cx E κ cX7_number RX7 3 (some .int) d) (hd : 1 ≤ d)  {l1 : Int32} {l2 : Int32} {mem : Mem} {x : Int32 × Mem} (h : f_X7_number_j71 l1 l2 mem = some x) (hP : Qr E κ (some (.int x.1)) ad (LC sh sp ++ LM) x.2) : Gw E κ 3 0 0 71 [none, some (.int l1), some (.int l2)] [] ad (LC sh sp ++ LM) mem := by
  unfold f_X7_number_j71 at h
  refine g_iload_n (pc := 71) (i := 2) (x := l2) C dX7_number_71 rfl rfl ?_
  refine g_iload_n (pc := 72) (i := 1) (x := l1) C dX7_number_72 rfl rfl ?_
  rcases ite_some' h with ⟨hc73, h⟩ | ⟨hc73, h⟩
  · refine g_icmp_gt_t (pc := 73) C 80 dX7_number_73 (by decide) hc73 ?_
    refine g_iconst (pc := 80) (v := (-1)) C dX7_number_80 rfl ?_
    cases h
    exact g_iret (pc := 81) C hP rfl rfl dX7_number_81
  · refine g_icmp_gt_f (pc := 73) C 80 dX7_number_73 (by decide) hc73 ?_
    refine g_iload_n (pc := 76) (i := 2) (x := l2) C dX7_number_76 rfl rfl ?_
    refine g_goto (pc := 77) C 81 dX7_number_77 (by decide) ?_
    cases h
    exact g_iret (pc := 81) C hP rfl rfl dX7_number_81
set_option maxRecDepth 100000 in
set_option maxHeartbeats 4000000 in
theorem m_X7_number {E : Ex} {ad : Nat → Nat} {sh sp : Nat} {d : Nat} (hd : 1 ≤ d)  {l1 : Int32} {mem : Mem} {r : Int32 × Mem} (h : f_X7_number l1 mem = some r) : Cl E yX7_number cX7_number 3 (some .int) d [.ref (ad 62), .int l1] (some (.int r.1)) ad (LC sh sp ++ LM) mem (LC sh sp ++ LM) r.2 := by
  refine Cl.of [some (.ref (ad 62)), some (.int l1), none] (by decide +kernel) rfl (Nat.le_of_ble_eq_true rfl) (fun κ C hP => ?_)
  have C : Cx E κ cX7_number RX7 3 (some .int) d := C
  unfold f_X7_number at h
  refine g_aload_n (pc := 0) (i := 0) (x := ad 62) C dX7_number_0 rfl rfl ?_
  obtain ⟨r1, hcall1, h⟩ := ob_some h
  refine g_callV (pc := 1) C ce0 mi_X7_here mv_X7_here wm_X7_133 dX7_number_1 ok_X7 [] [] la_62 (by omega) rfl rfl (Nat.le_of_ble_eq_true rfl) (m_X7_here (d := d - 1) (by omega)  hcall1) ?_
  show Gw E κ 3 0 0 4 [some (.ref (ad 62)), some (.int l1), none] [.int r1] ad (LC sh sp ++ LM) mem
  refine g_bipush (pc := 4) (v := 48) C dX7_number_4 rfl ?_
  refine g_bipush (pc := 6) (v := 57) C dX7_number_6 rfl ?_
  obtain ⟨r8, hcall8, h⟩ := ob_some h
  refine g_callS (pc := 8) C ce0 mi_X7_in ms_X7_in wm_X7_123 dX7_number_8 [.int r1, .int 48, .int 57] [] (by omega) rfl rfl (Nat.le_of_ble_eq_true rfl) (m_X7_in (d := d - 1) (by omega)  hcall8) ?_
  show Gw E κ 3 0 0 11 [some (.ref (ad 62)), some (.int l1), none] [.int r8] ad (LC sh sp ++ LM) mem
  rcases ite_some' h with ⟨hc11, h⟩ | ⟨hc11, h⟩
  · refine g_if_ne_f (pc := 11) C 16 dX7_number_11 (by decide) hc11 ?_
    refine g_iconst (pc := 14) (v := (-1)) C dX7_number_14 rfl ?_
    cases h
    exact g_iret (pc := 15) C hP rfl rfl dX7_number_15
  · refine g_if_ne_t (pc := 11) C 16 dX7_number_11 (by decide) hc11 ?_
    refine g_aload_n (pc := 16) (i := 0) (x := ad 62) C dX7_number_16 rfl rfl ?_
    obtain ⟨r17, hcall17, h⟩ := ob_some h
    refine g_callV (pc := 17) C ce0 mi_X7_here mv_X7_here wm_X7_133 dX7_number_17 ok_X7 [] [] la_62 (by omega) rfl rfl (Nat.le_of_ble_eq_true rfl) (m_X7_here (d := d - 1) (by omega)  hcall17) ?_
    show Gw E κ 3 0 0 20 [some (.ref (ad 62)), some (.int l1), none] [.int r17] ad (LC sh sp ++ LM) mem
    refine g_bipush (pc := 20) (v := 48) C dX7_number_20 rfl ?_
    refine g_isub (pc := 22) C dX7_number_22 ?_
    obtain ⟨v23, hv23, h⟩ := lt_some h
    refine g_topi hv23 ?_
    refine g_istore_n (pc := 23) (i := 2) (lv' := [some (.ref (ad 62)), some (.int l1), some (.int v23)]) C dX7_number_23 rfl (by decide) rfl rfl ?_
    refine g_aload_n (pc := 24) (i := 0) (x := ad 62) C dX7_number_24 rfl rfl ?_
    refine g_dup (pc := 25) C dX7_number_25 rfl ?_
    refine g_get (pc := 26) (v := .int (mem 62 2)) C ok_X7 2 (by decide) wf_X7_130 dX7_number_26 la_62 rfl ?_
    refine g_iconst (pc := 29) (v := 1) C dX7_number_29 rfl ?_
    refine g_iadd (pc := 30) C dX7_number_30 ?_
    obtain ⟨m31, hm31, h⟩ := lt_some h
    refine g_put (pc := 31) C ok_X7 2 (by decide) wf_X7_130 dX7_number_31 rfl rfl la_62 ?_
    refine g_mem hm31 ?_
    refine g_aload_n (pc := 34) (i := 0) (x := ad 62) C dX7_number_34 rfl rfl ?_
    obtain ⟨r35, hcall35, h⟩ := ob_some h
    refine g_callV (pc := 35) C ce0 mi_X7_here mv_X7_here wm_X7_133 dX7_number_35 ok_X7 [] [] la_62 (by omega) rfl rfl (Nat.le_of_ble_eq_true rfl) (m_X7_here (d := d - 1) (by omega)  hcall35) ?_
    show Gw E κ 3 0 0 38 [some (.ref (ad 62)), some (.int l1), some (.int v23)] [.int r35] ad (LC sh sp ++ LM) m31
    refine g_bipush (pc := 38) (v := 48) C dX7_number_38 rfl ?_
    refine g_bipush (pc := 40) (v := 57) C dX7_number_40 rfl ?_
    obtain ⟨r42, hcall42, h⟩ := ob_some h
    refine g_callS (pc := 42) C ce0 mi_X7_in ms_X7_in wm_X7_123 dX7_number_42 [.int r35, .int 48, .int 57] [] (by omega) rfl rfl (Nat.le_of_ble_eq_true rfl) (m_X7_in (d := d - 1) (by omega)  hcall42) ?_
    show Gw E κ 3 0 0 45 [some (.ref (ad 62)), some (.int l1), some (.int v23)] [.int r42] ad (LC sh sp ++ LM) m31
    rcases ite_some' h with ⟨hc45, h⟩ | ⟨hc45, h⟩
    · refine g_if_eq_t (pc := 45) C 71 dX7_number_45 (by decide) hc45 ?_
      refine g_mask (lv' := [none, some (.int l1), some (.int v23)]) [false, true, true] rfl ?_
      exact j_X7_number_71 C hd h hP
    · refine g_if_eq_f (pc := 45) C 71 dX7_number_45 (by decide) hc45 ?_
      refine g_bipush (pc := 48) (v := 10) C dX7_number_48 rfl ?_
      refine g_iload_n (pc := 50) (i := 2) (x := v23) C dX7_number_50 rfl rfl ?_
      refine g_imul (pc := 51) C dX7_number_51 ?_
      refine g_aload_n (pc := 52) (i := 0) (x := ad 62) C dX7_number_52 rfl rfl ?_
      obtain ⟨r53, hcall53, h⟩ := ob_some h
      refine g_callV (pc := 53) C ce0 mi_X7_here mv_X7_here wm_X7_133 dX7_number_53 ok_X7 [] [.int (10 * v23)] la_62 (by omega) rfl rfl (Nat.le_of_ble_eq_true rfl) (m_X7_here (d := d - 1) (by omega)  hcall53) ?_
      show Gw E κ 3 0 0 56 [some (.ref (ad 62)), some (.int l1), some (.int v23)] [.int r53, .int (10 * v23)] ad (LC sh sp ++ LM) m31
      refine g_iadd (pc := 56) C dX7_number_56 ?_
      refine g_bipush (pc := 57) (v := 48) C dX7_number_57 rfl ?_
      refine g_isub (pc := 59) C dX7_number_59 ?_
      obtain ⟨v60, hv60, h⟩ := lt_some h
      refine g_topi hv60 ?_
      refine g_istore_n (pc := 60) (i := 2) (lv' := [some (.ref (ad 62)), some (.int l1), some (.int v60)]) C dX7_number_60 rfl (by decide) rfl rfl ?_
      refine g_aload_n (pc := 61) (i := 0) (x := ad 62) C dX7_number_61 rfl rfl ?_
      refine g_dup (pc := 62) C dX7_number_62 rfl ?_
      refine g_get (pc := 63) (v := .int (m31 62 2)) C ok_X7 2 (by decide) wf_X7_130 dX7_number_63 la_62 rfl ?_
      refine g_iconst (pc := 66) (v := 1) C dX7_number_66 rfl ?_
      refine g_iadd (pc := 67) C dX7_number_67 ?_
      obtain ⟨m68, hm68, h⟩ := lt_some h
      refine g_put (pc := 68) C ok_X7 2 (by decide) wf_X7_130 dX7_number_68 rfl rfl la_62 ?_
      refine g_mem hm68 ?_
      refine g_mask (lv' := [none, some (.int l1), some (.int v60)]) [false, true, true] rfl ?_
      exact j_X7_number_71 C hd h hP

theorem dX7_sign_0 : decode cX7_sign 0 = .ok (.aload_n 0, 1) := by decide +kernel
theorem dX7_sign_1 : decode cX7_sign 1 = .ok (.invokevirtual 133, 3) := by decide +kernel
theorem dX7_sign_4 : decode cX7_sign 4 = .ok (.iload_n 1, 1) := by decide +kernel
theorem dX7_sign_5 : decode cX7_sign 5 = .ok (.if_icmp .ne 7, 3) := by decide +kernel
theorem dX7_sign_8 : decode cX7_sign 8 = .ok (.iconst 1, 1) := by decide +kernel
theorem dX7_sign_9 : decode cX7_sign 9 = .ok (.goto 4, 3) := by decide +kernel
theorem dX7_sign_12 : decode cX7_sign 12 = .ok (.iconst 0, 1) := by decide +kernel
theorem dX7_sign_13 : decode cX7_sign 13 = .ok (.istore_n 2, 1) := by decide +kernel
theorem dX7_sign_14 : decode cX7_sign 14 = .ok (.aload_n 0, 1) := by decide +kernel
theorem dX7_sign_15 : decode cX7_sign 15 = .ok (.dup, 1) := by decide +kernel
theorem dX7_sign_16 : decode cX7_sign 16 = .ok (.getfield 130, 3) := by decide +kernel
theorem dX7_sign_19 : decode cX7_sign 19 = .ok (.iload_n 2, 1) := by decide +kernel
theorem dX7_sign_20 : decode cX7_sign 20 = .ok (.ifCond .eq 7, 3) := by decide +kernel
theorem dX7_sign_23 : decode cX7_sign 23 = .ok (.iconst 1, 1) := by decide +kernel
theorem dX7_sign_24 : decode cX7_sign 24 = .ok (.goto 4, 3) := by decide +kernel
theorem dX7_sign_27 : decode cX7_sign 27 = .ok (.iconst 0, 1) := by decide +kernel
theorem dX7_sign_28 : decode cX7_sign 28 = .ok (.iadd, 1) := by decide +kernel
theorem dX7_sign_29 : decode cX7_sign 29 = .ok (.putfield 130, 3) := by decide +kernel
theorem dX7_sign_32 : decode cX7_sign 32 = .ok (.iload_n 2, 1) := by decide +kernel
theorem dX7_sign_33 : decode cX7_sign 33 = .ok (.ireturn, 1) := by decide +kernel
noncomputable def f_X7_sign_j13 (w0 : Int32) (mem : Mem) : Option (Int32 × Mem) :=
  if w0 = 0 then (lt' (mset mem 62 2 ((mem 62 2) + 0)) fun m29 => bk w0 (some (w0, m29))) else (lt' (mset mem 62 2 ((mem 62 2) + 1)) fun m29 => bk w0 (some (w0, m29)))
noncomputable def f_X7_sign (l1 : Int32) (mem : Mem) : Option (Int32 × Mem) :=
  ob (f_X7_here mem) fun r1 => if r1 = l1 then (f_X7_sign_j13 1 mem) else (f_X7_sign_j13 0 mem)
set_option maxRecDepth 100000 in
set_option maxHeartbeats 4000000 in
theorem j_X7_sign_13 {E : Ex} {κ : Kx} {ad : Nat → Nat} {sh sp : Nat} {d : Nat} (C : Cx E κ cX7_sign RX7 3 (some .boolean) d) (hd : 1 ≤ d)  {w0 : Int32} {mem : Mem} {x : Int32 × Mem} (h : f_X7_sign_j13 w0 mem = some x) (hP : Qr E κ (some (.int x.1)) ad (LC sh sp ++ LM) x.2) : Gw E κ 3 0 0 13 [some (.ref (ad 62)), none, none] [.int w0] ad (LC sh sp ++ LM) mem := by
  unfold f_X7_sign_j13 at h
  refine g_istore_n (pc := 13) (i := 2) (lv' := [some (.ref (ad 62)), none, some (.int w0)]) C dX7_sign_13 rfl (by decide) rfl rfl ?_
  refine g_aload_n (pc := 14) (i := 0) (x := ad 62) C dX7_sign_14 rfl rfl ?_
  refine g_dup (pc := 15) C dX7_sign_15 rfl ?_
  refine g_get (pc := 16) (v := .int (mem 62 2)) C ok_X7 2 (by decide) wf_X7_130 dX7_sign_16 la_62 rfl ?_
  refine g_iload_n (pc := 19) (i := 2) (x := w0) C dX7_sign_19 rfl rfl ?_
  rcases ite_some' h with ⟨hc20, h⟩ | ⟨hc20, h⟩
  · refine g_if_eq_t (pc := 20) C 27 dX7_sign_20 (by decide) hc20 ?_
    refine g_iconst (pc := 27) (v := 0) C dX7_sign_27 rfl ?_
    refine g_iadd (pc := 28) C dX7_sign_28 ?_
    obtain ⟨m29, hm29, h⟩ := lt_some h
    refine g_put (pc := 29) C ok_X7 2 (by decide) wf_X7_130 dX7_sign_29 rfl rfl la_62 ?_
    refine g_mem hm29 ?_
    refine g_iload_n (pc := 32) (i := 2) (x := w0) C dX7_sign_32 rfl rfl ?_
    obtain ⟨hb33, h⟩ := bk_some h
    cases h
    exact g_iret (pc := 33) C hP rfl (nb01 hb33).1 dX7_sign_33
  · refine g_if_eq_f (pc := 20) C 27 dX7_sign_20 (by decide) hc20 ?_
    refine g_iconst (pc := 23) (v := 1) C dX7_sign_23 rfl ?_
    refine g_goto (pc := 24) C 28 dX7_sign_24 (by decide) ?_
    refine g_iadd (pc := 28) C dX7_sign_28 ?_
    obtain ⟨m29, hm29, h⟩ := lt_some h
    refine g_put (pc := 29) C ok_X7 2 (by decide) wf_X7_130 dX7_sign_29 rfl rfl la_62 ?_
    refine g_mem hm29 ?_
    refine g_iload_n (pc := 32) (i := 2) (x := w0) C dX7_sign_32 rfl rfl ?_
    obtain ⟨hb33, h⟩ := bk_some h
    cases h
    exact g_iret (pc := 33) C hP rfl (nb01 hb33).1 dX7_sign_33
set_option maxRecDepth 100000 in
set_option maxHeartbeats 4000000 in
theorem m_X7_sign {E : Ex} {ad : Nat → Nat} {sh sp : Nat} {d : Nat} (hd : 1 ≤ d)  {l1 : Int32} {mem : Mem} {r : Int32 × Mem} (h : f_X7_sign l1 mem = some r) : Cl E yX7_sign cX7_sign 3 (some .boolean) d [.ref (ad 62), .int l1] (some (.int r.1)) ad (LC sh sp ++ LM) mem (LC sh sp ++ LM) r.2 := by
  refine Cl.of [some (.ref (ad 62)), some (.int l1), none] (by decide +kernel) rfl (Nat.le_of_ble_eq_true rfl) (fun κ C hP => ?_)
  have C : Cx E κ cX7_sign RX7 3 (some .boolean) d := C
  unfold f_X7_sign at h
  refine g_aload_n (pc := 0) (i := 0) (x := ad 62) C dX7_sign_0 rfl rfl ?_
  obtain ⟨r1, hcall1, h⟩ := ob_some h
  refine g_callV (pc := 1) C ce0 mi_X7_here mv_X7_here wm_X7_133 dX7_sign_1 ok_X7 [] [] la_62 (by omega) rfl rfl (Nat.le_of_ble_eq_true rfl) (m_X7_here (d := d - 1) (by omega)  hcall1) ?_
  show Gw E κ 3 0 0 4 [some (.ref (ad 62)), some (.int l1), none] [.int r1] ad (LC sh sp ++ LM) mem
  refine g_iload_n (pc := 4) (i := 1) (x := l1) C dX7_sign_4 rfl rfl ?_
  rcases ite_some' h with ⟨hc5, h⟩ | ⟨hc5, h⟩
  · refine g_icmp_ne_f (pc := 5) C 12 dX7_sign_5 (by decide) hc5 ?_
    refine g_iconst (pc := 8) (v := 1) C dX7_sign_8 rfl ?_
    refine g_goto (pc := 9) C 13 dX7_sign_9 (by decide) ?_
    refine g_mask (lv' := [some (.ref (ad 62)), none, none]) [true, false, false] rfl ?_
    exact j_X7_sign_13 C hd h hP
  · refine g_icmp_ne_t (pc := 5) C 12 dX7_sign_5 (by decide) hc5 ?_
    refine g_iconst (pc := 12) (v := 0) C dX7_sign_12 rfl ?_
    refine g_mask (lv' := [some (.ref (ad 62)), none, none]) [true, false, false] rfl ?_
    exact j_X7_sign_13 C hd h hP

theorem dX7_readsGrid_0 : decode cX7_readsGrid 0 = .ok (.aload_n 0, 1) := by decide +kernel
theorem dX7_readsGrid_1 : decode cX7_readsGrid 1 = .ok (.getfield 119, 3) := by decide +kernel
theorem dX7_readsGrid_4 : decode cX7_readsGrid 4 = .ok (.ifCond .eq 7, 3) := by decide +kernel
theorem dX7_readsGrid_7 : decode cX7_readsGrid 7 = .ok (.iconst (-1), 1) := by decide +kernel
theorem dX7_readsGrid_8 : decode cX7_readsGrid 8 = .ok (.goto 8, 3) := by decide +kernel
theorem dX7_readsGrid_11 : decode cX7_readsGrid 11 = .ok (.aload_n 0, 1) := by decide +kernel
theorem dX7_readsGrid_12 : decode cX7_readsGrid 12 = .ok (.iconst 4, 1) := by decide +kernel
theorem dX7_readsGrid_13 : decode cX7_readsGrid 13 = .ok (.invokevirtual 137, 3) := by decide +kernel
theorem dX7_readsGrid_16 : decode cX7_readsGrid 16 = .ok (.istore_n 1, 1) := by decide +kernel
theorem dX7_readsGrid_17 : decode cX7_readsGrid 17 = .ok (.iload_n 1, 1) := by decide +kernel
theorem dX7_readsGrid_18 : decode cX7_readsGrid 18 = .ok (.iconst 2, 1) := by decide +kernel
theorem dX7_readsGrid_19 : decode cX7_readsGrid 19 = .ok (.if_icmp .lt 16, 3) := by decide +kernel
theorem dX7_readsGrid_22 : decode cX7_readsGrid 22 = .ok (.aload_n 0, 1) := by decide +kernel
theorem dX7_readsGrid_23 : decode cX7_readsGrid 23 = .ok (.bipush 44, 2) := by decide +kernel
theorem dX7_readsGrid_25 : decode cX7_readsGrid 25 = .ok (.invokevirtual 141, 3) := by decide +kernel
theorem dX7_readsGrid_28 : decode cX7_readsGrid 28 = .ok (.ifCond .eq 7, 3) := by decide +kernel
theorem dX7_readsGrid_31 : decode cX7_readsGrid 31 = .ok (.iconst 1, 1) := by decide +kernel
theorem dX7_readsGrid_32 : decode cX7_readsGrid 32 = .ok (.goto 4, 3) := by decide +kernel
theorem dX7_readsGrid_35 : decode cX7_readsGrid 35 = .ok (.iconst 0, 1) := by decide +kernel
theorem dX7_readsGrid_36 : decode cX7_readsGrid 36 = .ok (.istore_n 2, 1) := by decide +kernel
theorem dX7_readsGrid_37 : decode cX7_readsGrid 37 = .ok (.iload_n 2, 1) := by decide +kernel
theorem dX7_readsGrid_38 : decode cX7_readsGrid 38 = .ok (.ifCond .eq 11, 3) := by decide +kernel
theorem dX7_readsGrid_41 : decode cX7_readsGrid 41 = .ok (.aload_n 0, 1) := by decide +kernel
theorem dX7_readsGrid_42 : decode cX7_readsGrid 42 = .ok (.iconst 4, 1) := by decide +kernel
theorem dX7_readsGrid_43 : decode cX7_readsGrid 43 = .ok (.invokevirtual 137, 3) := by decide +kernel
theorem dX7_readsGrid_46 : decode cX7_readsGrid 46 = .ok (.goto 4, 3) := by decide +kernel
theorem dX7_readsGrid_49 : decode cX7_readsGrid 49 = .ok (.iconst (-1), 1) := by decide +kernel
theorem dX7_readsGrid_50 : decode cX7_readsGrid 50 = .ok (.istore_n 3, 1) := by decide +kernel
theorem dX7_readsGrid_51 : decode cX7_readsGrid 51 = .ok (.iload_n 3, 1) := by decide +kernel
theorem dX7_readsGrid_52 : decode cX7_readsGrid 52 = .ok (.iconst 2, 1) := by decide +kernel
theorem dX7_readsGrid_53 : decode cX7_readsGrid 53 = .ok (.if_icmp .ge 5, 3) := by decide +kernel
theorem dX7_readsGrid_56 : decode cX7_readsGrid 56 = .ok (.iconst 0, 1) := by decide +kernel
theorem dX7_readsGrid_57 : decode cX7_readsGrid 57 = .ok (.ireturn, 1) := by decide +kernel
theorem dX7_readsGrid_58 : decode cX7_readsGrid 58 = .ok (.aload_n 0, 1) := by decide +kernel
theorem dX7_readsGrid_59 : decode cX7_readsGrid 59 = .ok (.iload_n 1, 1) := by decide +kernel
theorem dX7_readsGrid_60 : decode cX7_readsGrid 60 = .ok (.putfield 106, 3) := by decide +kernel
theorem dX7_readsGrid_63 : decode cX7_readsGrid 63 = .ok (.aload_n 0, 1) := by decide +kernel
theorem dX7_readsGrid_64 : decode cX7_readsGrid 64 = .ok (.iload_n 3, 1) := by decide +kernel
theorem dX7_readsGrid_65 : decode cX7_readsGrid 65 = .ok (.putfield 110, 3) := by decide +kernel
theorem dX7_readsGrid_68 : decode cX7_readsGrid 68 = .ok (.iconst 1, 1) := by decide +kernel
theorem dX7_readsGrid_69 : decode cX7_readsGrid 69 = .ok (.ireturn, 1) := by decide +kernel
noncomputable def f_X7_readsGrid_j50 (l1 : Int32) (w0 : Int32) (mem : Mem) : Option (Int32 × Mem) :=
  if 2 ≤ w0 then (lt' (mset mem 62 3 l1) fun m60 => lt' (mset m60 62 4 w0) fun m65 => some (1, m65)) else (some (0, mem))
noncomputable def f_X7_readsGrid_j36 (l1 : Int32) (w0 : Int32) (mem : Mem) : Option (Int32 × Mem) :=
  if w0 = 0 then (f_X7_readsGrid_j50 l1 ((-1)) mem) else (ob2 (f_X7_number 4 mem) fun r43 m43 => f_X7_readsGrid_j50 l1 r43 m43)
noncomputable def f_X7_readsGrid_j35 (l1 : Int32) (mem : Mem) : Option (Int32 × Mem) :=
  f_X7_readsGrid_j36 l1 0 mem
noncomputable def f_X7_readsGrid_j16 (w0 : Int32) (mem : Mem) : Option (Int32 × Mem) :=
  if w0 < 2 then (f_X7_readsGrid_j35 w0 mem) else (ob2 (f_X7_sign 44 mem) fun r25 m25 => if r25 = 0 then (f_X7_readsGrid_j35 w0 m25) else (f_X7_readsGrid_j36 w0 1 m25))
noncomputable def f_X7_readsGrid  (mem : Mem) : Option (Int32 × Mem) :=
  if (mem 62 7) = 0 then (ob2 (f_X7_number 4 mem) fun r13 m13 => f_X7_readsGrid_j16 r13 m13) else (f_X7_readsGrid_j16 ((-1)) mem)
set_option maxRecDepth 100000 in
set_option maxHeartbeats 4000000 in
theorem j_X7_readsGrid_50 {E : Ex} {κ : Kx} {ad : Nat → Nat} {sh sp : Nat} {d : Nat} (C : Cx E κ cX7_readsGrid RX7 4 (some .boolean) d) (hd : 2 ≤ d)  {l1 : Int32} {w0 : Int32} {mem : Mem} {x : Int32 × Mem} (h : f_X7_readsGrid_j50 l1 w0 mem = some x) (hP : Qr E κ (some (.int x.1)) ad (LC sh sp ++ LM) x.2) : Gw E κ 4 0 0 50 [some (.ref (ad 62)), some (.int l1), none, none] [.int w0] ad (LC sh sp ++ LM) mem := by
  unfold f_X7_readsGrid_j50 at h
  refine g_istore_n (pc := 50) (i := 3) (lv' := [some (.ref (ad 62)), some (.int l1), none, some (.int w0)]) C dX7_readsGrid_50 rfl (by decide) rfl rfl ?_
  refine g_iload_n (pc := 51) (i := 3) (x := w0) C dX7_readsGrid_51 rfl rfl ?_
  refine g_iconst (pc := 52) (v := 2) C dX7_readsGrid_52 rfl ?_
  rcases ite_some' h with ⟨hc53, h⟩ | ⟨hc53, h⟩
  · refine g_icmp_ge_t (pc := 53) C 58 dX7_readsGrid_53 (by decide) hc53 ?_
    refine g_aload_n (pc := 58) (i := 0) (x := ad 62) C dX7_readsGrid_58 rfl rfl ?_
    refine g_iload_n (pc := 59) (i := 1) (x := l1) C dX7_readsGrid_59 rfl rfl ?_
    obtain ⟨m60, hm60, h⟩ := lt_some h
    refine g_put (pc := 60) C ok_X7 3 (by decide) wf_X7_106 dX7_readsGrid_60 rfl rfl la_62 ?_
    refine g_mem hm60 ?_
    refine g_aload_n (pc := 63) (i := 0) (x := ad 62) C dX7_readsGrid_63 rfl rfl ?_
    refine g_iload_n (pc := 64) (i := 3) (x := w0) C dX7_readsGrid_64 rfl rfl ?_
    obtain ⟨m65, hm65, h⟩ := lt_some h
    refine g_put (pc := 65) C ok_X7 4 (by decide) wf_X7_110 dX7_readsGrid_65 rfl rfl la_62 ?_
    refine g_mem hm65 ?_
    refine g_iconst (pc := 68) (v := 1) C dX7_readsGrid_68 rfl ?_
    cases h
    exact g_iret (pc := 69) C hP rfl rfl dX7_readsGrid_69
  · refine g_icmp_ge_f (pc := 53) C 58 dX7_readsGrid_53 (by decide) hc53 ?_
    refine g_iconst (pc := 56) (v := 0) C dX7_readsGrid_56 rfl ?_
    cases h
    exact g_iret (pc := 57) C hP rfl rfl dX7_readsGrid_57
set_option maxRecDepth 100000 in
set_option maxHeartbeats 4000000 in
theorem j_X7_readsGrid_36 {E : Ex} {κ : Kx} {ad : Nat → Nat} {sh sp : Nat} {d : Nat} (C : Cx E κ cX7_readsGrid RX7 4 (some .boolean) d) (hd : 2 ≤ d)  {l1 : Int32} {w0 : Int32} {mem : Mem} {x : Int32 × Mem} (h : f_X7_readsGrid_j36 l1 w0 mem = some x) (hP : Qr E κ (some (.int x.1)) ad (LC sh sp ++ LM) x.2) : Gw E κ 4 0 0 36 [some (.ref (ad 62)), some (.int l1), none, none] [.int w0] ad (LC sh sp ++ LM) mem := by
  unfold f_X7_readsGrid_j36 at h
  refine g_istore_n (pc := 36) (i := 2) (lv' := [some (.ref (ad 62)), some (.int l1), some (.int w0), none]) C dX7_readsGrid_36 rfl (by decide) rfl rfl ?_
  refine g_iload_n (pc := 37) (i := 2) (x := w0) C dX7_readsGrid_37 rfl rfl ?_
  rcases ite_some' h with ⟨hc38, h⟩ | ⟨hc38, h⟩
  · refine g_if_eq_t (pc := 38) C 49 dX7_readsGrid_38 (by decide) hc38 ?_
    refine g_iconst (pc := 49) (v := (-1)) C dX7_readsGrid_49 rfl ?_
    refine g_mask (lv' := [some (.ref (ad 62)), some (.int l1), none, none]) [true, true, false, false] rfl ?_
    exact j_X7_readsGrid_50 C hd h hP
  · refine g_if_eq_f (pc := 38) C 49 dX7_readsGrid_38 (by decide) hc38 ?_
    refine g_aload_n (pc := 41) (i := 0) (x := ad 62) C dX7_readsGrid_41 rfl rfl ?_
    refine g_iconst (pc := 42) (v := 4) C dX7_readsGrid_42 rfl ?_
    obtain ⟨r43, m43, hcall43, h⟩ := ob2_some h
    refine g_callV (pc := 43) C ce0 mi_X7_number mv_X7_number wm_X7_137 dX7_readsGrid_43 ok_X7 [.int 4] [] la_62 (by omega) rfl rfl (Nat.le_of_ble_eq_true rfl) (m_X7_number (d := d - 1) (by omega)  hcall43) ?_
    show Gw E κ 4 0 0 46 [some (.ref (ad 62)), some (.int l1), some (.int w0), none] [.int r43] ad (LC sh sp ++ LM) m43
    refine g_goto (pc := 46) C 50 dX7_readsGrid_46 (by decide) ?_
    refine g_mask (lv' := [some (.ref (ad 62)), some (.int l1), none, none]) [true, true, false, false] rfl ?_
    exact j_X7_readsGrid_50 C hd h hP
set_option maxRecDepth 100000 in
set_option maxHeartbeats 4000000 in
theorem j_X7_readsGrid_35 {E : Ex} {κ : Kx} {ad : Nat → Nat} {sh sp : Nat} {d : Nat} (C : Cx E κ cX7_readsGrid RX7 4 (some .boolean) d) (hd : 2 ≤ d)  {l1 : Int32} {mem : Mem} {x : Int32 × Mem} (h : f_X7_readsGrid_j35 l1 mem = some x) (hP : Qr E κ (some (.int x.1)) ad (LC sh sp ++ LM) x.2) : Gw E κ 4 0 0 35 [some (.ref (ad 62)), some (.int l1), none, none] [] ad (LC sh sp ++ LM) mem := by
  unfold f_X7_readsGrid_j35 at h
  refine g_iconst (pc := 35) (v := 0) C dX7_readsGrid_35 rfl ?_
  exact j_X7_readsGrid_36 C hd h hP
set_option maxRecDepth 100000 in
set_option maxHeartbeats 4000000 in
theorem j_X7_readsGrid_16 {E : Ex} {κ : Kx} {ad : Nat → Nat} {sh sp : Nat} {d : Nat} (C : Cx E κ cX7_readsGrid RX7 4 (some .boolean) d) (hd : 2 ≤ d)  {w0 : Int32} {mem : Mem} {x : Int32 × Mem} (h : f_X7_readsGrid_j16 w0 mem = some x) (hP : Qr E κ (some (.int x.1)) ad (LC sh sp ++ LM) x.2) : Gw E κ 4 0 0 16 [some (.ref (ad 62)), none, none, none] [.int w0] ad (LC sh sp ++ LM) mem := by
  unfold f_X7_readsGrid_j16 at h
  refine g_istore_n (pc := 16) (i := 1) (lv' := [some (.ref (ad 62)), some (.int w0), none, none]) C dX7_readsGrid_16 rfl (by decide) rfl rfl ?_
  refine g_iload_n (pc := 17) (i := 1) (x := w0) C dX7_readsGrid_17 rfl rfl ?_
  refine g_iconst (pc := 18) (v := 2) C dX7_readsGrid_18 rfl ?_
  rcases ite_some' h with ⟨hc19, h⟩ | ⟨hc19, h⟩
  · refine g_icmp_lt_t (pc := 19) C 35 dX7_readsGrid_19 (by decide) hc19 ?_
    exact j_X7_readsGrid_35 C hd h hP
  · refine g_icmp_lt_f (pc := 19) C 35 dX7_readsGrid_19 (by decide) hc19 ?_
    refine g_aload_n (pc := 22) (i := 0) (x := ad 62) C dX7_readsGrid_22 rfl rfl ?_
    refine g_bipush (pc := 23) (v := 44) C dX7_readsGrid_23 rfl ?_
    obtain ⟨r25, m25, hcall25, h⟩ := ob2_some h
    refine g_callV (pc := 25) C ce0 mi_X7_sign mv_X7_sign wm_X7_141 dX7_readsGrid_25 ok_X7 [.int 44] [] la_62 (by omega) rfl rfl (Nat.le_of_ble_eq_true rfl) (m_X7_sign (d := d - 1) (by omega)  hcall25) ?_
    show Gw E κ 4 0 0 28 [some (.ref (ad 62)), some (.int w0), none, none] [.int r25] ad (LC sh sp ++ LM) m25
    rcases ite_some' h with ⟨hc28, h⟩ | ⟨hc28, h⟩
    · refine g_if_eq_t (pc := 28) C 35 dX7_readsGrid_28 (by decide) hc28 ?_
      exact j_X7_readsGrid_35 C hd h hP
    · refine g_if_eq_f (pc := 28) C 35 dX7_readsGrid_28 (by decide) hc28 ?_
      refine g_iconst (pc := 31) (v := 1) C dX7_readsGrid_31 rfl ?_
      refine g_goto (pc := 32) C 36 dX7_readsGrid_32 (by decide) ?_
      exact j_X7_readsGrid_36 C hd h hP
set_option maxRecDepth 100000 in
set_option maxHeartbeats 4000000 in
theorem m_X7_readsGrid {E : Ex} {ad : Nat → Nat} {sh sp : Nat} {d : Nat} (hd : 2 ≤ d)   {mem : Mem} {r : Int32 × Mem} (h : f_X7_readsGrid mem = some r) : Cl E yX7_readsGrid cX7_readsGrid 4 (some .boolean) d [.ref (ad 62)] (some (.int r.1)) ad (LC sh sp ++ LM) mem (LC sh sp ++ LM) r.2 := by
  refine Cl.of [some (.ref (ad 62)), none, none, none] (by decide +kernel) rfl (Nat.le_of_ble_eq_true rfl) (fun κ C hP => ?_)
  have C : Cx E κ cX7_readsGrid RX7 4 (some .boolean) d := C
  unfold f_X7_readsGrid at h
  refine g_aload_n (pc := 0) (i := 0) (x := ad 62) C dX7_readsGrid_0 rfl rfl ?_
  refine g_get (pc := 1) (v := .int (mem 62 7)) C ok_X7 7 (by decide) wf_X7_119 dX7_readsGrid_1 la_62 rfl ?_
  rcases ite_some' h with ⟨hc4, h⟩ | ⟨hc4, h⟩
  · refine g_if_eq_t (pc := 4) C 11 dX7_readsGrid_4 (by decide) hc4 ?_
    refine g_aload_n (pc := 11) (i := 0) (x := ad 62) C dX7_readsGrid_11 rfl rfl ?_
    refine g_iconst (pc := 12) (v := 4) C dX7_readsGrid_12 rfl ?_
    obtain ⟨r13, m13, hcall13, h⟩ := ob2_some h
    refine g_callV (pc := 13) C ce0 mi_X7_number mv_X7_number wm_X7_137 dX7_readsGrid_13 ok_X7 [.int 4] [] la_62 (by omega) rfl rfl (Nat.le_of_ble_eq_true rfl) (m_X7_number (d := d - 1) (by omega)  hcall13) ?_
    show Gw E κ 4 0 0 16 [some (.ref (ad 62)), none, none, none] [.int r13] ad (LC sh sp ++ LM) m13
    exact j_X7_readsGrid_16 C hd h hP
  · refine g_if_eq_f (pc := 4) C 11 dX7_readsGrid_4 (by decide) hc4 ?_
    refine g_iconst (pc := 7) (v := (-1)) C dX7_readsGrid_7 rfl ?_
    refine g_goto (pc := 8) C 16 dX7_readsGrid_8 (by decide) ?_
    exact j_X7_readsGrid_16 C hd h hP
