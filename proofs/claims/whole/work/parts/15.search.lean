theorem dX4_record_0 : decode cX4_record 0 = .ok (.iconst 0, 1) := by decide +kernel
theorem dX4_record_1 : decode cX4_record 1 = .ok (.istore_n 1, 1) := by decide +kernel
theorem dX4_record_2 : decode cX4_record 2 = .ok (.iconst 0, 1) := by decide +kernel
theorem dX4_record_3 : decode cX4_record 3 = .ok (.istore_n 2, 1) := by decide +kernel
theorem dX4_record_4 : decode cX4_record 4 = .ok (.iload_n 2, 1) := by decide +kernel
theorem dX4_record_5 : decode cX4_record 5 = .ok (.bipush 16, 2) := by decide +kernel
theorem dX4_record_7 : decode cX4_record 7 = .ok (.if_icmp .ge 57, 3) := by decide +kernel
theorem dX4_record_10 : decode cX4_record 10 = .ok (.aload_n 0, 1) := by decide +kernel
theorem dX4_record_11 : decode cX4_record 11 = .ok (.getfield 12, 3) := by decide +kernel
theorem dX4_record_14 : decode cX4_record 14 = .ok (.getfield 72, 3) := by decide +kernel
theorem dX4_record_17 : decode cX4_record 17 = .ok (.iload_n 2, 1) := by decide +kernel
theorem dX4_record_18 : decode cX4_record 18 = .ok (.iaload, 1) := by decide +kernel
theorem dX4_record_19 : decode cX4_record 19 = .ok (.istore_n 3, 1) := by decide +kernel
theorem dX4_record_20 : decode cX4_record 20 = .ok (.iload_n 1, 1) := by decide +kernel
theorem dX4_record_21 : decode cX4_record 21 = .ok (.iload_n 3, 1) := by decide +kernel
theorem dX4_record_22 : decode cX4_record 22 = .ok (.iadd, 1) := by decide +kernel
theorem dX4_record_23 : decode cX4_record 23 = .ok (.istore_n 1, 1) := by decide +kernel
theorem dX4_record_24 : decode cX4_record 24 = .ok (.aload_n 0, 1) := by decide +kernel
theorem dX4_record_25 : decode cX4_record 25 = .ok (.getfield 32, 3) := by decide +kernel
theorem dX4_record_28 : decode cX4_record 28 = .ok (.ifCond .ne 13, 3) := by decide +kernel
theorem dX4_record_31 : decode cX4_record 31 = .ok (.aload_n 0, 1) := by decide +kernel
theorem dX4_record_32 : decode cX4_record 32 = .ok (.getfield 25, 3) := by decide +kernel
theorem dX4_record_35 : decode cX4_record 35 = .ok (.iload_n 2, 1) := by decide +kernel
theorem dX4_record_36 : decode cX4_record 36 = .ok (.iload_n 3, 1) := by decide +kernel
theorem dX4_record_37 : decode cX4_record 37 = .ok (.iastore, 1) := by decide +kernel
theorem dX4_record_38 : decode cX4_record 38 = .ok (.goto 20, 3) := by decide +kernel
theorem dX4_record_41 : decode cX4_record 41 = .ok (.aload_n 0, 1) := by decide +kernel
theorem dX4_record_42 : decode cX4_record 42 = .ok (.getfield 25, 3) := by decide +kernel
theorem dX4_record_45 : decode cX4_record 45 = .ok (.iload_n 2, 1) := by decide +kernel
theorem dX4_record_46 : decode cX4_record 46 = .ok (.iaload, 1) := by decide +kernel
theorem dX4_record_47 : decode cX4_record 47 = .ok (.iload_n 3, 1) := by decide +kernel
theorem dX4_record_48 : decode cX4_record 48 = .ok (.if_icmp .eq 10, 3) := by decide +kernel
theorem dX4_record_51 : decode cX4_record 51 = .ok (.aload_n 0, 1) := by decide +kernel
theorem dX4_record_52 : decode cX4_record 52 = .ok (.getfield 25, 3) := by decide +kernel
theorem dX4_record_55 : decode cX4_record 55 = .ok (.iload_n 2, 1) := by decide +kernel
theorem dX4_record_56 : decode cX4_record 56 = .ok (.iconst 0, 1) := by decide +kernel
theorem dX4_record_57 : decode cX4_record 57 = .ok (.iastore, 1) := by decide +kernel
theorem dX4_record_58 : decode cX4_record 58 = .ok (.iinc 2 1, 3) := by decide +kernel
theorem dX4_record_61 : decode cX4_record 61 = .ok (.goto (-57), 3) := by decide +kernel
theorem dX4_record_64 : decode cX4_record 64 = .ok (.aload_n 0, 1) := by decide +kernel
theorem dX4_record_65 : decode cX4_record 65 = .ok (.getfield 32, 3) := by decide +kernel
theorem dX4_record_68 : decode cX4_record 68 = .ok (.ifCond .ne 18, 3) := by decide +kernel
theorem dX4_record_71 : decode cX4_record 71 = .ok (.aload_n 0, 1) := by decide +kernel
theorem dX4_record_72 : decode cX4_record 72 = .ok (.getfield 18, 3) := by decide +kernel
theorem dX4_record_75 : decode cX4_record 75 = .ok (.iconst 0, 1) := by decide +kernel
theorem dX4_record_76 : decode cX4_record 76 = .ok (.aload_n 0, 1) := by decide +kernel
theorem dX4_record_77 : decode cX4_record 77 = .ok (.getfield 22, 3) := by decide +kernel
theorem dX4_record_80 : decode cX4_record 80 = .ok (.iconst 0, 1) := by decide +kernel
theorem dX4_record_81 : decode cX4_record 81 = .ok (.bipush 8, 2) := by decide +kernel
theorem dX4_record_83 : decode cX4_record 83 = .ok (.invokestatic 75, 3) := by decide +kernel
theorem dX4_record_86 : decode cX4_record 86 = .ok (.iload_n 1, 1) := by decide +kernel
theorem dX4_record_87 : decode cX4_record 87 = .ok (.aload_n 0, 1) := by decide +kernel
theorem dX4_record_88 : decode cX4_record 88 = .ok (.getfield 36, 3) := by decide +kernel
theorem dX4_record_91 : decode cX4_record 91 = .ok (.if_icmp .le 8, 3) := by decide +kernel
theorem dX4_record_94 : decode cX4_record 94 = .ok (.aload_n 0, 1) := by decide +kernel
theorem dX4_record_95 : decode cX4_record 95 = .ok (.iload_n 1, 1) := by decide +kernel
theorem dX4_record_96 : decode cX4_record 96 = .ok (.putfield 36, 3) := by decide +kernel
theorem dX4_record_99 : decode cX4_record 99 = .ok (.aload_n 0, 1) := by decide +kernel
theorem dX4_record_100 : decode cX4_record 100 = .ok (.dup, 1) := by decide +kernel
theorem dX4_record_101 : decode cX4_record 101 = .ok (.getfield 32, 3) := by decide +kernel
theorem dX4_record_104 : decode cX4_record 104 = .ok (.iconst 1, 1) := by decide +kernel
theorem dX4_record_105 : decode cX4_record 105 = .ok (.iadd, 1) := by decide +kernel
theorem dX4_record_106 : decode cX4_record 106 = .ok (.putfield 32, 3) := by decide +kernel
theorem dX4_record_109 : decode cX4_record 109 = .ok (.return_, 1) := by decide +kernel
noncomputable def f_X4_record_b4 (q : Int32 × Int32 × Mem) : Option ((Int32 × Int32 × Mem) ⊕ (Int32 × Int32 × Mem)) :=
  if 16 ≤ q.2.1 then (some (.inr (q.1, q.2.1, q.2.2))) else (rd (q.2.2 46) 16 q.2.1 fun v18 => lt' (q.1 + v18) fun v23 => if (q.2.2 44 4) = 0 then (wr q.2.2 51 16 q.2.1 v18 fun m37 => lt' (q.2.1 + 1) fun v58 => some (.inl (v23, v58, m37))) else (rd (q.2.2 51) 16 q.2.1 fun v46 => if v46 = v18 then (lt' (q.2.1 + 1) fun v58 => some (.inl (v23, v58, q.2.2))) else (wr q.2.2 51 16 q.2.1 0 fun m57 => lt' (q.2.1 + 1) fun v58 => some (.inl (v23, v58, m57)))))
noncomputable def f_X4_record_j86 (l1 : Int32) (mem : Mem) : Option (Mem) :=
  if l1 ≤ (mem 44 5) then (lt' (mset mem 44 4 ((mem 44 4) + 1)) fun m106 => some m106) else (lt' (mset mem 44 5 l1) fun m96 => lt' (mset m96 44 4 ((m96 44 4) + 1)) fun m106 => some m106)
noncomputable def f_X4_record  (mem : Mem) : Option (Mem) :=
  ob (lp f_X4_record_b4 FU (0, 0, mem)) fun q4 => if (q4.2.2 44 4) = 0 then (acp q4.2.2 49 8 50 8 0 0 8 fun m83 => f_X4_record_j86 q4.1 m83) else (f_X4_record_j86 q4.1 q4.2.2)
def P_X4_record_4 (E : Ex) (κ : Kx) (ad : Nat → Nat) (lay : List Ent) : (Int32 × Int32 × Mem) ⊕ (Int32 × Int32 × Mem) → Prop
  | .inl q => Gw E κ 4 0 0 4 [some (.ref (ad 44)), some (.int q.1), some (.int q.2.1), none] [] ad lay q.2.2
  | .inr q => Gw E κ 4 0 0 64 [some (.ref (ad 44)), some (.int q.1), none, none] [] ad lay q.2.2
set_option maxRecDepth 100000 in
set_option maxHeartbeats 4000000 in
theorem b_X4_record_4 {E : Ex} {κ : Kx} {ad : Nat → Nat} {sh sp : Nat} {tl : List Ent} {d : Nat} (C : Cx E κ cX4_record RX4 4 none d) (hd : 2 ≤ d)  {q : Int32 × Int32 × Mem} {x : (Int32 × Int32 × Mem) ⊕ (Int32 × Int32 × Mem)} (h : f_X4_record_b4  q = some x) (hP : (P_X4_record_4 E κ ad (LC sh sp ++ tl) ) x) : Gw E κ 4 0 0 4 [some (.ref (ad 44)), some (.int q.1), some (.int q.2.1), none] [] ad (LC sh sp ++ tl) q.2.2 := by
  unfold f_X4_record_b4 at h
  refine g_iload_n (pc := 4) (i := 2) (x := q.2.1) C dX4_record_4 rfl rfl ?_
  refine g_bipush (pc := 5) (v := 16) C dX4_record_5 rfl ?_
  rcases ite_some' h with ⟨hc7, h⟩ | ⟨hc7, h⟩
  · refine g_icmp_ge_t (pc := 7) C 64 dX4_record_7 (by decide) hc7 ?_
    refine g_mask (lv' := [some (.ref (ad 44)), some (.int q.1), none, none]) [true, true, false, false] rfl ?_
    cases h
    exact hP
  · refine g_icmp_ge_f (pc := 7) C 64 dX4_record_7 (by decide) hc7 ?_
    refine g_aload_n (pc := 10) (i := 0) (x := ad 44) C dX4_record_10 rfl rfl ?_
    refine g_get (pc := 11) (v := .ref (ad 45)) C ok_X4 0 (by decide) wf_X4_12 dX4_record_11 la_44 rfl ?_
    refine g_getN (pc := 14) (v := .ref (ad 46)) C ok_X0 0 (by decide) nf_X4_72 dX4_record_14 la_45 rfl ?_
    refine g_iload_n (pc := 17) (i := 2) (x := q.2.1) C dX4_record_17 rfl rfl ?_
    obtain ⟨v18, hv18, hi18, h⟩ := rd_some h
    refine g_iald (pc := 18) C dX4_record_18 la_46 hi18 ?_
    refine g_topi hv18 ?_
    refine g_istore_n (pc := 19) (i := 3) (lv' := [some (.ref (ad 44)), some (.int q.1), some (.int q.2.1), some (.int v18)]) C dX4_record_19 rfl (by decide) rfl rfl ?_
    refine g_iload_n (pc := 20) (i := 1) (x := q.1) C dX4_record_20 rfl rfl ?_
    refine g_iload_n (pc := 21) (i := 3) (x := v18) C dX4_record_21 rfl rfl ?_
    refine g_iadd (pc := 22) C dX4_record_22 ?_
    obtain ⟨v23, hv23, h⟩ := lt_some h
    refine g_topi hv23 ?_
    refine g_istore_n (pc := 23) (i := 1) (lv' := [some (.ref (ad 44)), some (.int v23), some (.int q.2.1), some (.int v18)]) C dX4_record_23 rfl (by decide) rfl rfl ?_
    refine g_aload_n (pc := 24) (i := 0) (x := ad 44) C dX4_record_24 rfl rfl ?_
    refine g_get (pc := 25) (v := .int (q.2.2 44 4)) C ok_X4 4 (by decide) wf_X4_32 dX4_record_25 la_44 rfl ?_
    rcases ite_some' h with ⟨hc28, h⟩ | ⟨hc28, h⟩
    · refine g_if_ne_f (pc := 28) C 41 dX4_record_28 (by decide) hc28 ?_
      refine g_aload_n (pc := 31) (i := 0) (x := ad 44) C dX4_record_31 rfl rfl ?_
      refine g_get (pc := 32) (v := .ref (ad 51)) C ok_X4 3 (by decide) wf_X4_25 dX4_record_32 la_44 rfl ?_
      refine g_iload_n (pc := 35) (i := 2) (x := q.2.1) C dX4_record_35 rfl rfl ?_
      refine g_iload_n (pc := 36) (i := 3) (x := v18) C dX4_record_36 rfl rfl ?_
      obtain ⟨m37, hm37, hi37, h⟩ := wr_some h
      refine g_iast (pc := 37) C dX4_record_37 la_51 hi37 ?_
      refine g_mem hm37 ?_
      refine g_goto (pc := 38) C 58 dX4_record_38 (by decide) ?_
      obtain ⟨v58, hv58, h⟩ := lt_some h
      refine g_iinc (pc := 58) (i := 2) (x := q.2.1) (v := v58) (lv' := [some (.ref (ad 44)), some (.int v23), some (.int v58), some (.int v18)]) C dX4_record_58 rfl hv58.symm (by decide) rfl rfl ?_
      refine g_goto (pc := 61) C 4 dX4_record_61 (by decide) ?_
      refine g_mask (lv' := [some (.ref (ad 44)), some (.int v23), some (.int v58), none]) [true, true, true, false] rfl ?_
      cases h
      exact hP
    · refine g_if_ne_t (pc := 28) C 41 dX4_record_28 (by decide) hc28 ?_
      refine g_aload_n (pc := 41) (i := 0) (x := ad 44) C dX4_record_41 rfl rfl ?_
      refine g_get (pc := 42) (v := .ref (ad 51)) C ok_X4 3 (by decide) wf_X4_25 dX4_record_42 la_44 rfl ?_
      refine g_iload_n (pc := 45) (i := 2) (x := q.2.1) C dX4_record_45 rfl rfl ?_
      obtain ⟨v46, hv46, hi46, h⟩ := rd_some h
      refine g_iald (pc := 46) C dX4_record_46 la_51 hi46 ?_
      refine g_topi hv46 ?_
      refine g_iload_n (pc := 47) (i := 3) (x := v18) C dX4_record_47 rfl rfl ?_
      rcases ite_some' h with ⟨hc48, h⟩ | ⟨hc48, h⟩
      · refine g_icmp_eq_t (pc := 48) C 58 dX4_record_48 (by decide) hc48 ?_
        obtain ⟨v58, hv58, h⟩ := lt_some h
        refine g_iinc (pc := 58) (i := 2) (x := q.2.1) (v := v58) (lv' := [some (.ref (ad 44)), some (.int v23), some (.int v58), some (.int v18)]) C dX4_record_58 rfl hv58.symm (by decide) rfl rfl ?_
        refine g_goto (pc := 61) C 4 dX4_record_61 (by decide) ?_
        refine g_mask (lv' := [some (.ref (ad 44)), some (.int v23), some (.int v58), none]) [true, true, true, false] rfl ?_
        cases h
        exact hP
      · refine g_icmp_eq_f (pc := 48) C 58 dX4_record_48 (by decide) hc48 ?_
        refine g_aload_n (pc := 51) (i := 0) (x := ad 44) C dX4_record_51 rfl rfl ?_
        refine g_get (pc := 52) (v := .ref (ad 51)) C ok_X4 3 (by decide) wf_X4_25 dX4_record_52 la_44 rfl ?_
        refine g_iload_n (pc := 55) (i := 2) (x := q.2.1) C dX4_record_55 rfl rfl ?_
        refine g_iconst (pc := 56) (v := 0) C dX4_record_56 rfl ?_
        obtain ⟨m57, hm57, hi57, h⟩ := wr_some h
        refine g_iast (pc := 57) C dX4_record_57 la_51 hi57 ?_
        refine g_mem hm57 ?_
        obtain ⟨v58, hv58, h⟩ := lt_some h
        refine g_iinc (pc := 58) (i := 2) (x := q.2.1) (v := v58) (lv' := [some (.ref (ad 44)), some (.int v23), some (.int v58), some (.int v18)]) C dX4_record_58 rfl hv58.symm (by decide) rfl rfl ?_
        refine g_goto (pc := 61) C 4 dX4_record_61 (by decide) ?_
        refine g_mask (lv' := [some (.ref (ad 44)), some (.int v23), some (.int v58), none]) [true, true, true, false] rfl ?_
        cases h
        exact hP
set_option maxRecDepth 100000 in
set_option maxHeartbeats 4000000 in
theorem j_X4_record_86 {E : Ex} {κ : Kx} {ad : Nat → Nat} {sh sp : Nat} {tl : List Ent} {d : Nat} (C : Cx E κ cX4_record RX4 4 none d) (hd : 2 ≤ d)  {l1 : Int32} {mem : Mem} {x : Mem} (h : f_X4_record_j86 l1 mem = some x) (hP : Qr E κ none ad (LC sh sp ++ tl) x) : Gw E κ 4 0 0 86 [some (.ref (ad 44)), some (.int l1), none, none] [] ad (LC sh sp ++ tl) mem := by
  unfold f_X4_record_j86 at h
  refine g_iload_n (pc := 86) (i := 1) (x := l1) C dX4_record_86 rfl rfl ?_
  refine g_aload_n (pc := 87) (i := 0) (x := ad 44) C dX4_record_87 rfl rfl ?_
  refine g_get (pc := 88) (v := .int (mem 44 5)) C ok_X4 5 (by decide) wf_X4_36 dX4_record_88 la_44 rfl ?_
  rcases ite_some' h with ⟨hc91, h⟩ | ⟨hc91, h⟩
  · refine g_icmp_le_t (pc := 91) C 99 dX4_record_91 (by decide) hc91 ?_
    refine g_aload_n (pc := 99) (i := 0) (x := ad 44) C dX4_record_99 rfl rfl ?_
    refine g_dup (pc := 100) C dX4_record_100 rfl ?_
    refine g_get (pc := 101) (v := .int (mem 44 4)) C ok_X4 4 (by decide) wf_X4_32 dX4_record_101 la_44 rfl ?_
    refine g_iconst (pc := 104) (v := 1) C dX4_record_104 rfl ?_
    refine g_iadd (pc := 105) C dX4_record_105 ?_
    obtain ⟨m106, hm106, h⟩ := lt_some h
    refine g_put (pc := 106) C ok_X4 4 (by decide) wf_X4_32 dX4_record_106 rfl rfl la_44 ?_
    refine g_mem hm106 ?_
    cases h
    exact g_vret (pc := 109) C hP rfl dX4_record_109
  · refine g_icmp_le_f (pc := 91) C 99 dX4_record_91 (by decide) hc91 ?_
    refine g_aload_n (pc := 94) (i := 0) (x := ad 44) C dX4_record_94 rfl rfl ?_
    refine g_iload_n (pc := 95) (i := 1) (x := l1) C dX4_record_95 rfl rfl ?_
    obtain ⟨m96, hm96, h⟩ := lt_some h
    refine g_put (pc := 96) C ok_X4 5 (by decide) wf_X4_36 dX4_record_96 rfl rfl la_44 ?_
    refine g_mem hm96 ?_
    refine g_aload_n (pc := 99) (i := 0) (x := ad 44) C dX4_record_99 rfl rfl ?_
    refine g_dup (pc := 100) C dX4_record_100 rfl ?_
    refine g_get (pc := 101) (v := .int (m96 44 4)) C ok_X4 4 (by decide) wf_X4_32 dX4_record_101 la_44 rfl ?_
    refine g_iconst (pc := 104) (v := 1) C dX4_record_104 rfl ?_
    refine g_iadd (pc := 105) C dX4_record_105 ?_
    obtain ⟨m106, hm106, h⟩ := lt_some h
    refine g_put (pc := 106) C ok_X4 4 (by decide) wf_X4_32 dX4_record_106 rfl rfl la_44 ?_
    refine g_mem hm106 ?_
    cases h
    exact g_vret (pc := 109) C hP rfl dX4_record_109
set_option maxRecDepth 100000 in
set_option maxHeartbeats 4000000 in
theorem m_X4_record {E : Ex} {ad : Nat → Nat} {sh sp : Nat} {tl : List Ent} {d : Nat} (hd : 2 ≤ d)   {mem : Mem} {r : Mem} (h : f_X4_record mem = some r) : Cl E yX4_record cX4_record 4 none d [.ref (ad 44)] none ad (LC sh sp ++ tl) mem (LC sh sp ++ tl) r := by
  refine Cl.of [some (.ref (ad 44)), none, none, none] (by decide +kernel) rfl (Nat.le_of_ble_eq_true rfl) (fun κ C hP => ?_)
  have C : Cx E κ cX4_record RX4 4 none d := C
  unfold f_X4_record at h
  refine g_iconst (pc := 0) (v := 0) C dX4_record_0 rfl ?_
  refine g_istore_n (pc := 1) (i := 1) (lv' := [some (.ref (ad 44)), some (.int 0), none, none]) C dX4_record_1 rfl (by decide) rfl rfl ?_
  refine g_iconst (pc := 2) (v := 0) C dX4_record_2 rfl ?_
  refine g_istore_n (pc := 3) (i := 2) (lv' := [some (.ref (ad 44)), some (.int 0), some (.int 0), none]) C dX4_record_3 rfl (by decide) rfl rfl ?_
  obtain ⟨q4, hq, h⟩ := ob_some h
  refine lp_gw (P_X4_record_4 E κ ad (LC sh sp ++ tl) ) (fun q x hb hp => b_X4_record_4 C hd hb hp) _ (0, 0, mem) _ hq ?_
  show Gw E κ 4 0 0 64 [some (.ref (ad 44)), some (.int q4.1), none, none] [] ad (LC sh sp ++ tl) q4.2.2
  refine g_aload_n (pc := 64) (i := 0) (x := ad 44) C dX4_record_64 rfl rfl ?_
  refine g_get (pc := 65) (v := .int (q4.2.2 44 4)) C ok_X4 4 (by decide) wf_X4_32 dX4_record_65 la_44 rfl ?_
  rcases ite_some' h with ⟨hc68, h⟩ | ⟨hc68, h⟩
  · refine g_if_ne_f (pc := 68) C 86 dX4_record_68 (by decide) hc68 ?_
    refine g_aload_n (pc := 71) (i := 0) (x := ad 44) C dX4_record_71 rfl rfl ?_
    refine g_get (pc := 72) (v := .ref (ad 49)) C ok_X4 1 (by decide) wf_X4_18 dX4_record_72 la_44 rfl ?_
    refine g_iconst (pc := 75) (v := 0) C dX4_record_75 rfl ?_
    refine g_aload_n (pc := 76) (i := 0) (x := ad 44) C dX4_record_76 rfl rfl ?_
    refine g_get (pc := 77) (v := .ref (ad 50)) C ok_X4 2 (by decide) wf_X4_22 dX4_record_77 la_44 rfl ?_
    refine g_iconst (pc := 80) (v := 0) C dX4_record_80 rfl ?_
    refine g_bipush (pc := 81) (v := 8) C dX4_record_81 rfl ?_
    obtain ⟨m83, hm83, hcp83, h⟩ := acp_some h
    refine g_copy (pc := 83) C (by omega) wm_X4_75 wn_native wn_static wn_init dX4_record_83 la_49 la_50 (Nat.le_of_ble_eq_true rfl) hcp83 ?_
    refine g_mem hm83 ?_
    exact j_X4_record_86 C hd h hP
  · refine g_if_ne_t (pc := 68) C 86 dX4_record_68 (by decide) hc68 ?_
    exact j_X4_record_86 C hd h hP

theorem dX4_canGoOn_0 : decode cX4_canGoOn 0 = .ok (.iload_n 2, 1) := by decide +kernel
theorem dX4_canGoOn_1 : decode cX4_canGoOn 1 = .ok (.istore_n 3, 1) := by decide +kernel
theorem dX4_canGoOn_2 : decode cX4_canGoOn 2 = .ok (.iload_n 3, 1) := by decide +kernel
theorem dX4_canGoOn_3 : decode cX4_canGoOn 3 = .ok (.aload_n 1, 1) := by decide +kernel
theorem dX4_canGoOn_4 : decode cX4_canGoOn 4 = .ok (.getfield 43, 3) := by decide +kernel
theorem dX4_canGoOn_7 : decode cX4_canGoOn 7 = .ok (.if_icmp .ge 23, 3) := by decide +kernel
theorem dX4_canGoOn_10 : decode cX4_canGoOn 10 = .ok (.aload_n 1, 1) := by decide +kernel
theorem dX4_canGoOn_11 : decode cX4_canGoOn 11 = .ok (.aload_n 0, 1) := by decide +kernel
theorem dX4_canGoOn_12 : decode cX4_canGoOn 12 = .ok (.getfield 12, 3) := by decide +kernel
theorem dX4_canGoOn_15 : decode cX4_canGoOn 15 = .ok (.iload_n 3, 1) := by decide +kernel
theorem dX4_canGoOn_16 : decode cX4_canGoOn 16 = .ok (.invokevirtual 55, 3) := by decide +kernel
theorem dX4_canGoOn_19 : decode cX4_canGoOn 19 = .ok (.ifCond .ne 5, 3) := by decide +kernel
theorem dX4_canGoOn_22 : decode cX4_canGoOn 22 = .ok (.iconst 0, 1) := by decide +kernel
theorem dX4_canGoOn_23 : decode cX4_canGoOn 23 = .ok (.ireturn, 1) := by decide +kernel
theorem dX4_canGoOn_24 : decode cX4_canGoOn 24 = .ok (.iinc 3 1, 3) := by decide +kernel
theorem dX4_canGoOn_27 : decode cX4_canGoOn 27 = .ok (.goto (-25), 3) := by decide +kernel
theorem dX4_canGoOn_30 : decode cX4_canGoOn 30 = .ok (.iconst 1, 1) := by decide +kernel
theorem dX4_canGoOn_31 : decode cX4_canGoOn 31 = .ok (.ireturn, 1) := by decide +kernel
noncomputable def f_X4_canGoOn_b2 (s : Nat) (mem : Mem) (q : Int32) : Option ((Int32) ⊕ ((Int32) ⊕ (Int32))) :=
  if (mem s 3) ≤ q then (some (.inr (.inl q))) else (ob (f_X5_agreeing s 45 q mem) fun r16 => if r16 = 0 then (some (.inr (.inr 0))) else (lt' (q + 1) fun v24 => some (.inl v24)))
noncomputable def f_X4_canGoOn (s : Nat) (l2 : Int32) (mem : Mem) : Option (Int32) :=
  obs (lp (f_X4_canGoOn_b2 s mem) FU l2) (fun q2 => some 1) (fun r => some r)
def P_X4_canGoOn_2 (E : Ex) (κ : Kx) (ad : Nat → Nat) (lay : List Ent) (s : Nat) (mem : Mem) : (Int32) ⊕ ((Int32) ⊕ (Int32)) → Prop
  | .inl q => Gw E κ 4 0 0 2 [some (.ref (ad 44)), some (.ref (ad s)), none, some (.int q)] [] ad lay mem
  | .inr (.inl q) => Gw E κ 4 0 0 30 [none, none, none, none] [] ad lay mem
  | .inr (.inr r) => Qr E κ (some (.int r)) ad lay mem
set_option maxRecDepth 100000 in
set_option maxHeartbeats 4000000 in
theorem b_X4_canGoOn_2 {E : Ex} {κ : Kx} {ad : Nat → Nat} {sh sp : Nat} {tl : List Ent} {d : Nat} {s : Nat} (C : Cx E κ cX4_canGoOn RX4 4 (some .boolean) d) (hd : 1 ≤ d) (hs : isS s) {mem : Mem} {q : Int32} {x : (Int32) ⊕ ((Int32) ⊕ (Int32))} (h : f_X4_canGoOn_b2 s mem q = some x) (hP : (P_X4_canGoOn_2 E κ ad (LC sh sp ++ tl) s mem) x) : Gw E κ 4 0 0 2 [some (.ref (ad 44)), some (.ref (ad s)), none, some (.int q)] [] ad (LC sh sp ++ tl) mem := by
  unfold f_X4_canGoOn_b2 at h
  refine g_iload_n (pc := 2) (i := 3) (x := q) C dX4_canGoOn_2 rfl rfl ?_
  refine g_aload_n (pc := 3) (i := 1) (x := ad s) C dX4_canGoOn_3 rfl rfl ?_
  refine g_getN (pc := 4) (v := .int (mem s 3)) C ok_X5 3 (by decide) nf_X4_43 dX4_canGoOn_4 (lz_0 hs) rfl ?_
  rcases ite_some' h with ⟨hc7, h⟩ | ⟨hc7, h⟩
  · refine g_icmp_ge_t (pc := 7) C 30 dX4_canGoOn_7 (by decide) hc7 ?_
    refine g_mask (lv' := [none, none, none, none]) [false, false, false, false] rfl ?_
    cases h
    exact hP
  · refine g_icmp_ge_f (pc := 7) C 30 dX4_canGoOn_7 (by decide) hc7 ?_
    refine g_aload_n (pc := 10) (i := 1) (x := ad s) C dX4_canGoOn_10 rfl rfl ?_
    refine g_aload_n (pc := 11) (i := 0) (x := ad 44) C dX4_canGoOn_11 rfl rfl ?_
    refine g_get (pc := 12) (v := .ref (ad 45)) C ok_X4 0 (by decide) wf_X4_12 dX4_canGoOn_12 la_44 rfl ?_
    refine g_iload_n (pc := 15) (i := 3) (x := q) C dX4_canGoOn_15 rfl rfl ?_
    obtain ⟨r16, hcall16, h⟩ := ob_some h
    refine g_callN (pc := 16) C ce0 mi_X5_agreeing mv_X5_agreeing nm_X4_55 dX4_canGoOn_16 ok_X5 [.ref (ad 45), .int q] [] (lz_0 hs) (by omega) rfl rfl (Nat.le_of_ble_eq_true rfl) (m_X5_agreeing (d := d - 1) (by omega) hs t_45 hcall16) ?_
    show Gw E κ 4 0 0 19 [some (.ref (ad 44)), some (.ref (ad s)), none, some (.int q)] [.int r16] ad (LC sh sp ++ tl) mem
    rcases ite_some' h with ⟨hc19, h⟩ | ⟨hc19, h⟩
    · refine g_if_ne_f (pc := 19) C 24 dX4_canGoOn_19 (by decide) hc19 ?_
      refine g_iconst (pc := 22) (v := 0) C dX4_canGoOn_22 rfl ?_
      cases h
      exact g_iret (pc := 23) C hP rfl rfl dX4_canGoOn_23
    · refine g_if_ne_t (pc := 19) C 24 dX4_canGoOn_19 (by decide) hc19 ?_
      obtain ⟨v24, hv24, h⟩ := lt_some h
      refine g_iinc (pc := 24) (i := 3) (x := q) (v := v24) (lv' := [some (.ref (ad 44)), some (.ref (ad s)), none, some (.int v24)]) C dX4_canGoOn_24 rfl hv24.symm (by decide) rfl rfl ?_
      refine g_goto (pc := 27) C 2 dX4_canGoOn_27 (by decide) ?_
      cases h
      exact hP
set_option maxRecDepth 100000 in
set_option maxHeartbeats 4000000 in
theorem m_X4_canGoOn {E : Ex} {ad : Nat → Nat} {sh sp : Nat} {tl : List Ent} {d : Nat} (hd : 1 ≤ d) {s : Nat} (hs : isS s) {l2 : Int32} {mem : Mem} {r : Int32} (h : f_X4_canGoOn s l2 mem = some r) : Cl E yX4_canGoOn cX4_canGoOn 4 (some .boolean) d [.ref (ad 44), .ref (ad s), .int l2] (some (.int r)) ad (LC sh sp ++ tl) mem (LC sh sp ++ tl) mem := by
  refine Cl.of [some (.ref (ad 44)), some (.ref (ad s)), some (.int l2), none] (by decide +kernel) rfl (Nat.le_of_ble_eq_true rfl) (fun κ C hP => ?_)
  have C : Cx E κ cX4_canGoOn RX4 4 (some .boolean) d := C
  unfold f_X4_canGoOn at h
  refine g_iload_n (pc := 0) (i := 2) (x := l2) C dX4_canGoOn_0 rfl rfl ?_
  refine g_istore_n (pc := 1) (i := 3) (lv' := [some (.ref (ad 44)), some (.ref (ad s)), some (.int l2), some (.int l2)]) C dX4_canGoOn_1 rfl (by decide) rfl rfl ?_
  refine g_mask (lv' := [some (.ref (ad 44)), some (.ref (ad s)), none, some (.int l2)]) [true, true, false, true] rfl ?_
  rcases obs_some h with ⟨q2, hq, h⟩ | ⟨r, hq, h⟩
  · refine lp_gw (P_X4_canGoOn_2 E κ ad (LC sh sp ++ tl) s mem) (fun q x hb hp => b_X4_canGoOn_2 C hd hs hb hp) _ l2 _ hq ?_
    show Gw E κ 4 0 0 30 [none, none, none, none] [] ad (LC sh sp ++ tl) mem
    refine g_iconst (pc := 30) (v := 1) C dX4_canGoOn_30 rfl ?_
    cases h
    exact g_iret (pc := 31) C hP rfl rfl dX4_canGoOn_31
  · refine lp_gw (P_X4_canGoOn_2 E κ ad (LC sh sp ++ tl) s mem) (fun q x hb hp => b_X4_canGoOn_2 C hd hs hb hp) _ l2 _ hq ?_
    cases h
    exact hP
