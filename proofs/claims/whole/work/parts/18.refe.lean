theorem dX7_vowels_0 : decode cX7_vowels 0 = .ok (.iconst 0, 1) := by decide +kernel
theorem dX7_vowels_1 : decode cX7_vowels 1 = .ok (.istore_n 2, 1) := by decide +kernel
theorem dX7_vowels_2 : decode cX7_vowels 2 = .ok (.iconst 0, 1) := by decide +kernel
theorem dX7_vowels_3 : decode cX7_vowels 3 = .ok (.istore_n 3, 1) := by decide +kernel
theorem dX7_vowels_4 : decode cX7_vowels 4 = .ok (.iload_n 3, 1) := by decide +kernel
theorem dX7_vowels_5 : decode cX7_vowels 5 = .ok (.aload_n 0, 1) := by decide +kernel
theorem dX7_vowels_6 : decode cX7_vowels 6 = .ok (.getfield 34, 3) := by decide +kernel
theorem dX7_vowels_9 : decode cX7_vowels 9 = .ok (.iload_n 1, 1) := by decide +kernel
theorem dX7_vowels_10 : decode cX7_vowels 10 = .ok (.iaload, 1) := by decide +kernel
theorem dX7_vowels_11 : decode cX7_vowels 11 = .ok (.if_icmp .ge 45, 3) := by decide +kernel
theorem dX7_vowels_14 : decode cX7_vowels 14 = .ok (.iload_n 2, 1) := by decide +kernel
theorem dX7_vowels_15 : decode cX7_vowels 15 = .ok (.aload_n 0, 1) := by decide +kernel
theorem dX7_vowels_16 : decode cX7_vowels 16 = .ok (.getfield 37, 3) := by decide +kernel
theorem dX7_vowels_19 : decode cX7_vowels 19 = .ok (.iconst 4, 1) := by decide +kernel
theorem dX7_vowels_20 : decode cX7_vowels 20 = .ok (.iload_n 1, 1) := by decide +kernel
theorem dX7_vowels_21 : decode cX7_vowels 21 = .ok (.imul, 1) := by decide +kernel
theorem dX7_vowels_22 : decode cX7_vowels 22 = .ok (.iload_n 3, 1) := by decide +kernel
theorem dX7_vowels_23 : decode cX7_vowels 23 = .ok (.iadd, 1) := by decide +kernel
theorem dX7_vowels_24 : decode cX7_vowels 24 = .ok (.iaload, 1) := by decide +kernel
theorem dX7_vowels_25 : decode cX7_vowels 25 = .ok (.iconst 1, 1) := by decide +kernel
theorem dX7_vowels_26 : decode cX7_vowels 26 = .ok (.if_icmp .eq 17, 3) := by decide +kernel
theorem dX7_vowels_29 : decode cX7_vowels 29 = .ok (.aload_n 0, 1) := by decide +kernel
theorem dX7_vowels_30 : decode cX7_vowels 30 = .ok (.getfield 37, 3) := by decide +kernel
theorem dX7_vowels_33 : decode cX7_vowels 33 = .ok (.iconst 4, 1) := by decide +kernel
theorem dX7_vowels_34 : decode cX7_vowels 34 = .ok (.iload_n 1, 1) := by decide +kernel
theorem dX7_vowels_35 : decode cX7_vowels 35 = .ok (.imul, 1) := by decide +kernel
theorem dX7_vowels_36 : decode cX7_vowels 36 = .ok (.iload_n 3, 1) := by decide +kernel
theorem dX7_vowels_37 : decode cX7_vowels 37 = .ok (.iadd, 1) := by decide +kernel
theorem dX7_vowels_38 : decode cX7_vowels 38 = .ok (.iaload, 1) := by decide +kernel
theorem dX7_vowels_39 : decode cX7_vowels 39 = .ok (.iconst 5, 1) := by decide +kernel
theorem dX7_vowels_40 : decode cX7_vowels 40 = .ok (.if_icmp .ne 7, 3) := by decide +kernel
theorem dX7_vowels_43 : decode cX7_vowels 43 = .ok (.iconst 1, 1) := by decide +kernel
theorem dX7_vowels_44 : decode cX7_vowels 44 = .ok (.goto 4, 3) := by decide +kernel
theorem dX7_vowels_47 : decode cX7_vowels 47 = .ok (.iconst 0, 1) := by decide +kernel
theorem dX7_vowels_48 : decode cX7_vowels 48 = .ok (.iadd, 1) := by decide +kernel
theorem dX7_vowels_49 : decode cX7_vowels 49 = .ok (.istore_n 2, 1) := by decide +kernel
theorem dX7_vowels_50 : decode cX7_vowels 50 = .ok (.iinc 3 1, 3) := by decide +kernel
theorem dX7_vowels_53 : decode cX7_vowels 53 = .ok (.goto (-49), 3) := by decide +kernel
theorem dX7_vowels_56 : decode cX7_vowels 56 = .ok (.iload_n 2, 1) := by decide +kernel
theorem dX7_vowels_57 : decode cX7_vowels 57 = .ok (.ireturn, 1) := by decide +kernel
noncomputable def f_X7_vowels_b4 (l1 : Int32) (mem : Mem) (q : Int32 × Int32) : Option ((Int32 × Int32) ⊕ (Int32 × Int32)) :=
  rd (mem 71) 9 l1 fun v10 => if v10 ≤ q.2 then (some (.inr (q.1, q.2))) else (rd (mem 72) 36 ((4 * l1) + q.2) fun v24 => if v24 = 1 then (lt' (q.1 + 1) fun v49 => lt' (q.2 + 1) fun v50 => some (.inl (v49, v50))) else (rd (mem 72) 36 ((4 * l1) + q.2) fun v38 => if v38 = 5 then (lt' (q.1 + 1) fun v49 => lt' (q.2 + 1) fun v50 => some (.inl (v49, v50))) else (lt' (q.1 + 0) fun v49 => lt' (q.2 + 1) fun v50 => some (.inl (v49, v50)))))
noncomputable def f_X7_vowels (l1 : Int32) (mem : Mem) : Option (Int32) :=
  ob (lp (f_X7_vowels_b4 l1 mem) FU (0, 0)) fun q4 => some q4.1
def P_X7_vowels_4 (E : Ex) (κ : Kx) (ad : Nat → Nat) (lay : List Ent) (l1 : Int32) (mem : Mem) : (Int32 × Int32) ⊕ (Int32 × Int32) → Prop
  | .inl q => Gw E κ 4 0 0 4 [some (.ref (ad 62)), some (.int l1), some (.int q.1), some (.int q.2)] [] ad lay mem
  | .inr q => Gw E κ 4 0 0 56 [none, none, some (.int q.1), none] [] ad lay mem
set_option maxRecDepth 100000 in
set_option maxHeartbeats 4000000 in
theorem b_X7_vowels_4 {E : Ex} {κ : Kx} {ad : Nat → Nat} {sh sp : Nat} {d : Nat} (C : Cx E κ cX7_vowels RX7 4 (some .int) d) (hd : 0 ≤ d)  {l1 : Int32} {mem : Mem} {q : Int32 × Int32} {x : (Int32 × Int32) ⊕ (Int32 × Int32)} (h : f_X7_vowels_b4 l1 mem q = some x) (hP : (P_X7_vowels_4 E κ ad (LC sh sp ++ LM) l1 mem) x) : Gw E κ 4 0 0 4 [some (.ref (ad 62)), some (.int l1), some (.int q.1), some (.int q.2)] [] ad (LC sh sp ++ LM) mem := by
  unfold f_X7_vowels_b4 at h
  refine g_iload_n (pc := 4) (i := 3) (x := q.2) C dX7_vowels_4 rfl rfl ?_
  refine g_aload_n (pc := 5) (i := 0) (x := ad 62) C dX7_vowels_5 rfl rfl ?_
  refine g_get (pc := 6) (v := .ref (ad 71)) C ok_X7 20 (by decide) wf_X7_34 dX7_vowels_6 la_62 rfl ?_
  refine g_iload_n (pc := 9) (i := 1) (x := l1) C dX7_vowels_9 rfl rfl ?_
  obtain ⟨v10, hv10, hi10, h⟩ := rd_some h
  refine g_iald (pc := 10) C dX7_vowels_10 la_71 hi10 ?_
  refine g_topi hv10 ?_
  rcases ite_some' h with ⟨hc11, h⟩ | ⟨hc11, h⟩
  · refine g_icmp_ge_t (pc := 11) C 56 dX7_vowels_11 (by decide) hc11 ?_
    refine g_mask (lv' := [none, none, some (.int q.1), none]) [false, false, true, false] rfl ?_
    cases h
    exact hP
  · refine g_icmp_ge_f (pc := 11) C 56 dX7_vowels_11 (by decide) hc11 ?_
    refine g_iload_n (pc := 14) (i := 2) (x := q.1) C dX7_vowels_14 rfl rfl ?_
    refine g_aload_n (pc := 15) (i := 0) (x := ad 62) C dX7_vowels_15 rfl rfl ?_
    refine g_get (pc := 16) (v := .ref (ad 72)) C ok_X7 21 (by decide) wf_X7_37 dX7_vowels_16 la_62 rfl ?_
    refine g_iconst (pc := 19) (v := 4) C dX7_vowels_19 rfl ?_
    refine g_iload_n (pc := 20) (i := 1) (x := l1) C dX7_vowels_20 rfl rfl ?_
    refine g_imul (pc := 21) C dX7_vowels_21 ?_
    refine g_iload_n (pc := 22) (i := 3) (x := q.2) C dX7_vowels_22 rfl rfl ?_
    refine g_iadd (pc := 23) C dX7_vowels_23 ?_
    obtain ⟨v24, hv24, hi24, h⟩ := rd_some h
    refine g_iald (pc := 24) C dX7_vowels_24 la_72 hi24 ?_
    refine g_topi hv24 ?_
    refine g_iconst (pc := 25) (v := 1) C dX7_vowels_25 rfl ?_
    rcases ite_some' h with ⟨hc26, h⟩ | ⟨hc26, h⟩
    · refine g_icmp_eq_t (pc := 26) C 43 dX7_vowels_26 (by decide) hc26 ?_
      refine g_iconst (pc := 43) (v := 1) C dX7_vowels_43 rfl ?_
      refine g_goto (pc := 44) C 48 dX7_vowels_44 (by decide) ?_
      refine g_iadd (pc := 48) C dX7_vowels_48 ?_
      obtain ⟨v49, hv49, h⟩ := lt_some h
      refine g_topi hv49 ?_
      refine g_istore_n (pc := 49) (i := 2) (lv' := [some (.ref (ad 62)), some (.int l1), some (.int v49), some (.int q.2)]) C dX7_vowels_49 rfl (by decide) rfl rfl ?_
      obtain ⟨v50, hv50, h⟩ := lt_some h
      refine g_iinc (pc := 50) (i := 3) (x := q.2) (v := v50) (lv' := [some (.ref (ad 62)), some (.int l1), some (.int v49), some (.int v50)]) C dX7_vowels_50 rfl hv50.symm (by decide) rfl rfl ?_
      refine g_goto (pc := 53) C 4 dX7_vowels_53 (by decide) ?_
      cases h
      exact hP
    · refine g_icmp_eq_f (pc := 26) C 43 dX7_vowels_26 (by decide) hc26 ?_
      refine g_aload_n (pc := 29) (i := 0) (x := ad 62) C dX7_vowels_29 rfl rfl ?_
      refine g_get (pc := 30) (v := .ref (ad 72)) C ok_X7 21 (by decide) wf_X7_37 dX7_vowels_30 la_62 rfl ?_
      refine g_iconst (pc := 33) (v := 4) C dX7_vowels_33 rfl ?_
      refine g_iload_n (pc := 34) (i := 1) (x := l1) C dX7_vowels_34 rfl rfl ?_
      refine g_imul (pc := 35) C dX7_vowels_35 ?_
      refine g_iload_n (pc := 36) (i := 3) (x := q.2) C dX7_vowels_36 rfl rfl ?_
      refine g_iadd (pc := 37) C dX7_vowels_37 ?_
      obtain ⟨v38, hv38, hi38, h⟩ := rd_some h
      refine g_iald (pc := 38) C dX7_vowels_38 la_72 hi38 ?_
      refine g_topi hv38 ?_
      refine g_iconst (pc := 39) (v := 5) C dX7_vowels_39 rfl ?_
      rcases ite_some' h with ⟨hc40, h⟩ | ⟨hc40, h⟩
      · refine g_icmp_ne_f (pc := 40) C 47 dX7_vowels_40 (by decide) hc40 ?_
        refine g_iconst (pc := 43) (v := 1) C dX7_vowels_43 rfl ?_
        refine g_goto (pc := 44) C 48 dX7_vowels_44 (by decide) ?_
        refine g_iadd (pc := 48) C dX7_vowels_48 ?_
        obtain ⟨v49, hv49, h⟩ := lt_some h
        refine g_topi hv49 ?_
        refine g_istore_n (pc := 49) (i := 2) (lv' := [some (.ref (ad 62)), some (.int l1), some (.int v49), some (.int q.2)]) C dX7_vowels_49 rfl (by decide) rfl rfl ?_
        obtain ⟨v50, hv50, h⟩ := lt_some h
        refine g_iinc (pc := 50) (i := 3) (x := q.2) (v := v50) (lv' := [some (.ref (ad 62)), some (.int l1), some (.int v49), some (.int v50)]) C dX7_vowels_50 rfl hv50.symm (by decide) rfl rfl ?_
        refine g_goto (pc := 53) C 4 dX7_vowels_53 (by decide) ?_
        cases h
        exact hP
      · refine g_icmp_ne_t (pc := 40) C 47 dX7_vowels_40 (by decide) hc40 ?_
        refine g_iconst (pc := 47) (v := 0) C dX7_vowels_47 rfl ?_
        refine g_iadd (pc := 48) C dX7_vowels_48 ?_
        obtain ⟨v49, hv49, h⟩ := lt_some h
        refine g_topi hv49 ?_
        refine g_istore_n (pc := 49) (i := 2) (lv' := [some (.ref (ad 62)), some (.int l1), some (.int v49), some (.int q.2)]) C dX7_vowels_49 rfl (by decide) rfl rfl ?_
        obtain ⟨v50, hv50, h⟩ := lt_some h
        refine g_iinc (pc := 50) (i := 3) (x := q.2) (v := v50) (lv' := [some (.ref (ad 62)), some (.int l1), some (.int v49), some (.int v50)]) C dX7_vowels_50 rfl hv50.symm (by decide) rfl rfl ?_
        refine g_goto (pc := 53) C 4 dX7_vowels_53 (by decide) ?_
        cases h
        exact hP
set_option maxRecDepth 100000 in
set_option maxHeartbeats 4000000 in
theorem m_X7_vowels {E : Ex} {ad : Nat → Nat} {sh sp : Nat} {d : Nat} (hd : 0 ≤ d)  {l1 : Int32} {mem : Mem} {r : Int32} (h : f_X7_vowels l1 mem = some r) : Cl E yX7_vowels cX7_vowels 4 (some .int) d [.ref (ad 62), .int l1] (some (.int r)) ad (LC sh sp ++ LM) mem (LC sh sp ++ LM) mem := by
  refine Cl.of [some (.ref (ad 62)), some (.int l1), none, none] (by decide +kernel) rfl (Nat.le_of_ble_eq_true rfl) (fun κ C hP => ?_)
  have C : Cx E κ cX7_vowels RX7 4 (some .int) d := C
  unfold f_X7_vowels at h
  refine g_iconst (pc := 0) (v := 0) C dX7_vowels_0 rfl ?_
  refine g_istore_n (pc := 1) (i := 2) (lv' := [some (.ref (ad 62)), some (.int l1), some (.int 0), none]) C dX7_vowels_1 rfl (by decide) rfl rfl ?_
  refine g_iconst (pc := 2) (v := 0) C dX7_vowels_2 rfl ?_
  refine g_istore_n (pc := 3) (i := 3) (lv' := [some (.ref (ad 62)), some (.int l1), some (.int 0), some (.int 0)]) C dX7_vowels_3 rfl (by decide) rfl rfl ?_
  obtain ⟨q4, hq, h⟩ := ob_some h
  refine lp_gw (P_X7_vowels_4 E κ ad (LC sh sp ++ LM) l1 mem) (fun q x hb hp => b_X7_vowels_4 C hd hb hp) _ (0, 0) _ hq ?_
  show Gw E κ 4 0 0 56 [none, none, some (.int q4.1), none] [] ad (LC sh sp ++ LM) mem
  refine g_iload_n (pc := 56) (i := 2) (x := q4.1) C dX7_vowels_56 rfl rfl ?_
  cases h
  exact g_iret (pc := 57) C hP rfl rfl dX7_vowels_57

theorem dX7_layCounted_0 : decode cX7_layCounted 0 = .ok (.iconst 0, 1) := by decide +kernel
theorem dX7_layCounted_1 : decode cX7_layCounted 1 = .ok (.istore_n 3, 1) := by decide +kernel
theorem dX7_layCounted_2 : decode cX7_layCounted 2 = .ok (.iload_n 3, 1) := by decide +kernel
theorem dX7_layCounted_3 : decode cX7_layCounted 3 = .ok (.aload_n 0, 1) := by decide +kernel
theorem dX7_layCounted_4 : decode cX7_layCounted 4 = .ok (.getfield 183, 3) := by decide +kernel
theorem dX7_layCounted_7 : decode cX7_layCounted 7 = .ok (.if_icmp .ge 228, 3) := by decide +kernel
theorem dX7_layCounted_10 : decode cX7_layCounted 10 = .ok (.aload_n 0, 1) := by decide +kernel
theorem dX7_layCounted_11 : decode cX7_layCounted 11 = .ok (.getfield 58, 3) := by decide +kernel
theorem dX7_layCounted_14 : decode cX7_layCounted 14 = .ok (.iload_n 3, 1) := by decide +kernel
theorem dX7_layCounted_15 : decode cX7_layCounted 15 = .ok (.iconst 0, 1) := by decide +kernel
theorem dX7_layCounted_16 : decode cX7_layCounted 16 = .ok (.iastore, 1) := by decide +kernel
theorem dX7_layCounted_17 : decode cX7_layCounted 17 = .ok (.iload_n 2, 1) := by decide +kernel
theorem dX7_layCounted_18 : decode cX7_layCounted 18 = .ok (.iload_n 3, 1) := by decide +kernel
theorem dX7_layCounted_19 : decode cX7_layCounted 19 = .ok (.invokestatic 232, 3) := by decide +kernel
theorem dX7_layCounted_22 : decode cX7_layCounted 22 = .ok (.ifCond .eq 207, 3) := by decide +kernel
theorem dX7_layCounted_25 : decode cX7_layCounted 25 = .ok (.aload_n 0, 1) := by decide +kernel
theorem dX7_layCounted_26 : decode cX7_layCounted 26 = .ok (.aload_n 1, 1) := by decide +kernel
theorem dX7_layCounted_27 : decode cX7_layCounted 27 = .ok (.iload_n 3, 1) := by decide +kernel
theorem dX7_layCounted_28 : decode cX7_layCounted 28 = .ok (.invokevirtual 236, 3) := by decide +kernel
theorem dX7_layCounted_31 : decode cX7_layCounted 31 = .ok (.ifCond .eq 198, 3) := by decide +kernel
theorem dX7_layCounted_34 : decode cX7_layCounted 34 = .ok (.iconst 0, 1) := by decide +kernel
theorem dX7_layCounted_35 : decode cX7_layCounted 35 = .ok (.istore 4, 2) := by decide +kernel
theorem dX7_layCounted_37 : decode cX7_layCounted 37 = .ok (.iconst 0, 1) := by decide +kernel
theorem dX7_layCounted_38 : decode cX7_layCounted 38 = .ok (.istore 5, 2) := by decide +kernel
theorem dX7_layCounted_40 : decode cX7_layCounted 40 = .ok (.iload 5, 2) := by decide +kernel
theorem dX7_layCounted_42 : decode cX7_layCounted 42 = .ok (.iload_n 3, 1) := by decide +kernel
theorem dX7_layCounted_43 : decode cX7_layCounted 43 = .ok (.if_icmp .ge 85, 3) := by decide +kernel
theorem dX7_layCounted_46 : decode cX7_layCounted 46 = .ok (.aload_n 1, 1) := by decide +kernel
theorem dX7_layCounted_47 : decode cX7_layCounted 47 = .ok (.bipush 16, 2) := by decide +kernel
theorem dX7_layCounted_49 : decode cX7_layCounted 49 = .ok (.iconst 2, 1) := by decide +kernel
theorem dX7_layCounted_50 : decode cX7_layCounted 50 = .ok (.iload 5, 2) := by decide +kernel
theorem dX7_layCounted_52 : decode cX7_layCounted 52 = .ok (.imul, 1) := by decide +kernel
theorem dX7_layCounted_53 : decode cX7_layCounted 53 = .ok (.iadd, 1) := by decide +kernel
theorem dX7_layCounted_54 : decode cX7_layCounted 54 = .ok (.iaload, 1) := by decide +kernel
theorem dX7_layCounted_55 : decode cX7_layCounted 55 = .ok (.aload_n 1, 1) := by decide +kernel
theorem dX7_layCounted_56 : decode cX7_layCounted 56 = .ok (.bipush 16, 2) := by decide +kernel
theorem dX7_layCounted_58 : decode cX7_layCounted 58 = .ok (.iconst 2, 1) := by decide +kernel
theorem dX7_layCounted_59 : decode cX7_layCounted 59 = .ok (.iload_n 3, 1) := by decide +kernel
theorem dX7_layCounted_60 : decode cX7_layCounted 60 = .ok (.imul, 1) := by decide +kernel
theorem dX7_layCounted_61 : decode cX7_layCounted 61 = .ok (.iadd, 1) := by decide +kernel
theorem dX7_layCounted_62 : decode cX7_layCounted 62 = .ok (.iaload, 1) := by decide +kernel
theorem dX7_layCounted_63 : decode cX7_layCounted 63 = .ok (.if_icmp .ne 31, 3) := by decide +kernel
theorem dX7_layCounted_66 : decode cX7_layCounted 66 = .ok (.aload_n 1, 1) := by decide +kernel
theorem dX7_layCounted_67 : decode cX7_layCounted 67 = .ok (.bipush 16, 2) := by decide +kernel
theorem dX7_layCounted_69 : decode cX7_layCounted 69 = .ok (.iconst 2, 1) := by decide +kernel
theorem dX7_layCounted_70 : decode cX7_layCounted 70 = .ok (.iload 5, 2) := by decide +kernel
theorem dX7_layCounted_72 : decode cX7_layCounted 72 = .ok (.imul, 1) := by decide +kernel
theorem dX7_layCounted_73 : decode cX7_layCounted 73 = .ok (.iadd, 1) := by decide +kernel
theorem dX7_layCounted_74 : decode cX7_layCounted 74 = .ok (.iconst 1, 1) := by decide +kernel
theorem dX7_layCounted_75 : decode cX7_layCounted 75 = .ok (.iadd, 1) := by decide +kernel
theorem dX7_layCounted_76 : decode cX7_layCounted 76 = .ok (.iaload, 1) := by decide +kernel
theorem dX7_layCounted_77 : decode cX7_layCounted 77 = .ok (.aload_n 1, 1) := by decide +kernel
theorem dX7_layCounted_78 : decode cX7_layCounted 78 = .ok (.bipush 16, 2) := by decide +kernel
theorem dX7_layCounted_80 : decode cX7_layCounted 80 = .ok (.iconst 2, 1) := by decide +kernel
theorem dX7_layCounted_81 : decode cX7_layCounted 81 = .ok (.iload_n 3, 1) := by decide +kernel
theorem dX7_layCounted_82 : decode cX7_layCounted 82 = .ok (.imul, 1) := by decide +kernel
theorem dX7_layCounted_83 : decode cX7_layCounted 83 = .ok (.iadd, 1) := by decide +kernel
theorem dX7_layCounted_84 : decode cX7_layCounted 84 = .ok (.iconst 1, 1) := by decide +kernel
theorem dX7_layCounted_85 : decode cX7_layCounted 85 = .ok (.iadd, 1) := by decide +kernel
theorem dX7_layCounted_86 : decode cX7_layCounted 86 = .ok (.iaload, 1) := by decide +kernel
theorem dX7_layCounted_87 : decode cX7_layCounted 87 = .ok (.if_icmp .ne 7, 3) := by decide +kernel
theorem dX7_layCounted_90 : decode cX7_layCounted 90 = .ok (.iconst 1, 1) := by decide +kernel
theorem dX7_layCounted_91 : decode cX7_layCounted 91 = .ok (.goto 4, 3) := by decide +kernel
theorem dX7_layCounted_94 : decode cX7_layCounted 94 = .ok (.iconst 0, 1) := by decide +kernel
theorem dX7_layCounted_95 : decode cX7_layCounted 95 = .ok (.istore 6, 2) := by decide +kernel
theorem dX7_layCounted_97 : decode cX7_layCounted 97 = .ok (.iload 4, 2) := by decide +kernel
theorem dX7_layCounted_99 : decode cX7_layCounted 99 = .ok (.aload_n 0, 1) := by decide +kernel
theorem dX7_layCounted_100 : decode cX7_layCounted 100 = .ok (.getfield 58, 3) := by decide +kernel
theorem dX7_layCounted_103 : decode cX7_layCounted 103 = .ok (.iload 5, 2) := by decide +kernel
theorem dX7_layCounted_105 : decode cX7_layCounted 105 = .ok (.iaload, 1) := by decide +kernel
theorem dX7_layCounted_106 : decode cX7_layCounted 106 = .ok (.ifCond .le 12, 3) := by decide +kernel
theorem dX7_layCounted_109 : decode cX7_layCounted 109 = .ok (.iload 6, 2) := by decide +kernel
theorem dX7_layCounted_111 : decode cX7_layCounted 111 = .ok (.ifCond .eq 7, 3) := by decide +kernel
theorem dX7_layCounted_114 : decode cX7_layCounted 114 = .ok (.iconst 1, 1) := by decide +kernel
theorem dX7_layCounted_115 : decode cX7_layCounted 115 = .ok (.goto 4, 3) := by decide +kernel
theorem dX7_layCounted_118 : decode cX7_layCounted 118 = .ok (.iconst 0, 1) := by decide +kernel
theorem dX7_layCounted_119 : decode cX7_layCounted 119 = .ok (.iadd, 1) := by decide +kernel
theorem dX7_layCounted_120 : decode cX7_layCounted 120 = .ok (.istore 4, 2) := by decide +kernel
theorem dX7_layCounted_122 : decode cX7_layCounted 122 = .ok (.iinc 5 1, 3) := by decide +kernel
theorem dX7_layCounted_125 : decode cX7_layCounted 125 = .ok (.goto (-85), 3) := by decide +kernel
theorem dX7_layCounted_128 : decode cX7_layCounted 128 = .ok (.aload_n 0, 1) := by decide +kernel
theorem dX7_layCounted_129 : decode cX7_layCounted 129 = .ok (.getfield 40, 3) := by decide +kernel
theorem dX7_layCounted_132 : decode cX7_layCounted 132 = .ok (.iload_n 3, 1) := by decide +kernel
theorem dX7_layCounted_133 : decode cX7_layCounted 133 = .ok (.iaload, 1) := by decide +kernel
theorem dX7_layCounted_134 : decode cX7_layCounted 134 = .ok (.tableswitch 88 1 4 #[30, 40, 65, 75], 30) := by decide +kernel
theorem dX7_layCounted_164 : decode cX7_layCounted 164 = .ok (.aload_n 0, 1) := by decide +kernel
theorem dX7_layCounted_165 : decode cX7_layCounted 165 = .ok (.getfield 58, 3) := by decide +kernel
theorem dX7_layCounted_168 : decode cX7_layCounted 168 = .ok (.iload_n 3, 1) := by decide +kernel
theorem dX7_layCounted_169 : decode cX7_layCounted 169 = .ok (.iconst 2, 1) := by decide +kernel
theorem dX7_layCounted_170 : decode cX7_layCounted 170 = .ok (.iastore, 1) := by decide +kernel
theorem dX7_layCounted_171 : decode cX7_layCounted 171 = .ok (.goto 58, 3) := by decide +kernel
theorem dX7_layCounted_174 : decode cX7_layCounted 174 = .ok (.aload_n 0, 1) := by decide +kernel
theorem dX7_layCounted_175 : decode cX7_layCounted 175 = .ok (.getfield 58, 3) := by decide +kernel
theorem dX7_layCounted_178 : decode cX7_layCounted 178 = .ok (.iload_n 3, 1) := by decide +kernel
theorem dX7_layCounted_179 : decode cX7_layCounted 179 = .ok (.iconst 1, 1) := by decide +kernel
theorem dX7_layCounted_180 : decode cX7_layCounted 180 = .ok (.aload_n 0, 1) := by decide +kernel
theorem dX7_layCounted_181 : decode cX7_layCounted 181 = .ok (.aload_n 1, 1) := by decide +kernel
theorem dX7_layCounted_182 : decode cX7_layCounted 182 = .ok (.bipush 16, 2) := by decide +kernel
theorem dX7_layCounted_184 : decode cX7_layCounted 184 = .ok (.iconst 2, 1) := by decide +kernel
theorem dX7_layCounted_185 : decode cX7_layCounted 185 = .ok (.iload_n 3, 1) := by decide +kernel
theorem dX7_layCounted_186 : decode cX7_layCounted 186 = .ok (.imul, 1) := by decide +kernel
theorem dX7_layCounted_187 : decode cX7_layCounted 187 = .ok (.iadd, 1) := by decide +kernel
theorem dX7_layCounted_188 : decode cX7_layCounted 188 = .ok (.iconst 1, 1) := by decide +kernel
theorem dX7_layCounted_189 : decode cX7_layCounted 189 = .ok (.iadd, 1) := by decide +kernel
theorem dX7_layCounted_190 : decode cX7_layCounted 190 = .ok (.iaload, 1) := by decide +kernel
theorem dX7_layCounted_191 : decode cX7_layCounted 191 = .ok (.invokevirtual 240, 3) := by decide +kernel
theorem dX7_layCounted_194 : decode cX7_layCounted 194 = .ok (.iadd, 1) := by decide +kernel
theorem dX7_layCounted_195 : decode cX7_layCounted 195 = .ok (.iastore, 1) := by decide +kernel
theorem dX7_layCounted_196 : decode cX7_layCounted 196 = .ok (.goto 33, 3) := by decide +kernel
theorem dX7_layCounted_199 : decode cX7_layCounted 199 = .ok (.aload_n 0, 1) := by decide +kernel
theorem dX7_layCounted_200 : decode cX7_layCounted 200 = .ok (.getfield 58, 3) := by decide +kernel
theorem dX7_layCounted_203 : decode cX7_layCounted 203 = .ok (.iload_n 3, 1) := by decide +kernel
theorem dX7_layCounted_204 : decode cX7_layCounted 204 = .ok (.iconst 3, 1) := by decide +kernel
theorem dX7_layCounted_205 : decode cX7_layCounted 205 = .ok (.iastore, 1) := by decide +kernel
theorem dX7_layCounted_206 : decode cX7_layCounted 206 = .ok (.goto 23, 3) := by decide +kernel
theorem dX7_layCounted_209 : decode cX7_layCounted 209 = .ok (.aload_n 0, 1) := by decide +kernel
theorem dX7_layCounted_210 : decode cX7_layCounted 210 = .ok (.getfield 58, 3) := by decide +kernel
theorem dX7_layCounted_213 : decode cX7_layCounted 213 = .ok (.iload_n 3, 1) := by decide +kernel
theorem dX7_layCounted_214 : decode cX7_layCounted 214 = .ok (.iload 4, 2) := by decide +kernel
theorem dX7_layCounted_216 : decode cX7_layCounted 216 = .ok (.iconst 1, 1) := by decide +kernel
theorem dX7_layCounted_217 : decode cX7_layCounted 217 = .ok (.iadd, 1) := by decide +kernel
theorem dX7_layCounted_218 : decode cX7_layCounted 218 = .ok (.iastore, 1) := by decide +kernel
theorem dX7_layCounted_219 : decode cX7_layCounted 219 = .ok (.goto 10, 3) := by decide +kernel
theorem dX7_layCounted_222 : decode cX7_layCounted 222 = .ok (.aload_n 0, 1) := by decide +kernel
theorem dX7_layCounted_223 : decode cX7_layCounted 223 = .ok (.getfield 58, 3) := by decide +kernel
theorem dX7_layCounted_226 : decode cX7_layCounted 226 = .ok (.iload_n 3, 1) := by decide +kernel
theorem dX7_layCounted_227 : decode cX7_layCounted 227 = .ok (.iconst 1, 1) := by decide +kernel
theorem dX7_layCounted_228 : decode cX7_layCounted 228 = .ok (.iastore, 1) := by decide +kernel
theorem dX7_layCounted_229 : decode cX7_layCounted 229 = .ok (.iinc 3 1, 3) := by decide +kernel
theorem dX7_layCounted_232 : decode cX7_layCounted 232 = .ok (.goto (-230), 3) := by decide +kernel
theorem dX7_layCounted_235 : decode cX7_layCounted 235 = .ok (.return_, 1) := by decide +kernel
noncomputable def f_X7_layCounted_j95 (o : Nat) (l2 : Int32) (l3 : Int32) (l4 : Int32) (l5 : Int32) (w0 : Int32) (mem : Mem) : Option ((Int32 × Int32) ⊕ (Int32 × Int32)) :=
  rd (mem 79) 6 l5 fun v105 => if v105 ≤ 0 then (lt' (l4 + 0) fun v120 => lt' (l5 + 1) fun v122 => some (.inl (v120, v122))) else (if w0 = 0 then (lt' (l4 + 0) fun v120 => lt' (l5 + 1) fun v122 => some (.inl (v120, v122))) else (lt' (l4 + 1) fun v120 => lt' (l5 + 1) fun v122 => some (.inl (v120, v122))))
noncomputable def f_X7_layCounted_j94 (o : Nat) (l2 : Int32) (l3 : Int32) (l4 : Int32) (l5 : Int32) (mem : Mem) : Option ((Int32 × Int32) ⊕ (Int32 × Int32)) :=
  f_X7_layCounted_j95 o l2 l3 l4 l5 0 mem
noncomputable def f_X7_layCounted_b40 (o : Nat) (l2 : Int32) (l3 : Int32) (mem : Mem) (q : Int32 × Int32) : Option ((Int32 × Int32) ⊕ (Int32 × Int32)) :=
  if l3 ≤ q.2 then (some (.inr (q.1, q.2))) else (rd (mem o) 28 (16 + (2 * q.2)) fun v54 => rd (mem o) 28 (16 + (2 * l3)) fun v62 => if v54 = v62 then (rd (mem o) 28 ((16 + (2 * q.2)) + 1) fun v76 => rd (mem o) 28 ((16 + (2 * l3)) + 1) fun v86 => if v76 = v86 then (f_X7_layCounted_j95 o l2 l3 q.1 q.2 1 mem) else (f_X7_layCounted_j94 o l2 l3 q.1 q.2 mem)) else (f_X7_layCounted_j94 o l2 l3 q.1 q.2 mem))
noncomputable def f_X7_layCounted_b2 (o : Nat) (l2 : Int32) (q : Int32 × Mem) : Option ((Int32 × Mem) ⊕ (Int32 × Mem)) :=
  if (q.2 62 18) ≤ q.1 then (some (.inr (q.1, q.2))) else (wr q.2 79 6 q.1 0 fun m16 => ob (f_X7_has l2 q.1) fun r19 => if r19 = 0 then (lt' (q.1 + 1) fun v229 => some (.inl (v229, m16))) else (ob (f_X7_isSending o q.1 m16) fun r28 => if r28 = 0 then (lt' (q.1 + 1) fun v229 => some (.inl (v229, m16))) else (ob (lp (f_X7_layCounted_b40 o l2 q.1 m16) FU (0, 0)) fun q40 => rd (m16 73) 6 q.1 fun v133 => if v133 = 1 then (wr m16 79 6 q.1 2 fun m170 => lt' (q.1 + 1) fun v229 => some (.inl (v229, m170))) else (if v133 = 2 then (rd (m16 o) 28 ((16 + (2 * q.1)) + 1) fun v190 => ob (f_X7_vowels v190 m16) fun r191 => wr m16 79 6 q.1 (1 + r191) fun m195 => lt' (q.1 + 1) fun v229 => some (.inl (v229, m195))) else (if v133 = 3 then (wr m16 79 6 q.1 3 fun m205 => lt' (q.1 + 1) fun v229 => some (.inl (v229, m205))) else (if v133 = 4 then (wr m16 79 6 q.1 (q40.1 + 1) fun m218 => lt' (q.1 + 1) fun v229 => some (.inl (v229, m218))) else (wr m16 79 6 q.1 1 fun m228 => lt' (q.1 + 1) fun v229 => some (.inl (v229, m228)))))))))
noncomputable def f_X7_layCounted (o : Nat) (l2 : Int32) (mem : Mem) : Option (Mem) :=
  ob (lp (f_X7_layCounted_b2 o l2) FU (0, mem)) fun q2 => some q2.2
def P_X7_layCounted_40 (E : Ex) (κ : Kx) (ad : Nat → Nat) (lay : List Ent) (o : Nat) (l2 : Int32) (l3 : Int32) (mem : Mem) : (Int32 × Int32) ⊕ (Int32 × Int32) → Prop
  | .inl q => Gw E κ 7 0 0 40 [some (.ref (ad 62)), some (.ref (ad o)), some (.int l2), some (.int l3), some (.int q.1), some (.int q.2), none] [] ad lay mem
  | .inr q => Gw E κ 7 0 0 128 [some (.ref (ad 62)), some (.ref (ad o)), some (.int l2), some (.int l3), some (.int q.1), none, none] [] ad lay mem
def P_X7_layCounted_2 (E : Ex) (κ : Kx) (ad : Nat → Nat) (lay : List Ent) (o : Nat) (l2 : Int32) : (Int32 × Mem) ⊕ (Int32 × Mem) → Prop
  | .inl q => Gw E κ 7 0 0 2 [some (.ref (ad 62)), some (.ref (ad o)), some (.int l2), some (.int q.1), none, none, none] [] ad lay q.2
  | .inr q => Gw E κ 7 0 0 235 [none, none, none, none, none, none, none] [] ad lay q.2
set_option maxRecDepth 100000 in
set_option maxHeartbeats 4000000 in
theorem j_X7_layCounted_95 {E : Ex} {κ : Kx} {ad : Nat → Nat} {sh sp : Nat} {d : Nat} {o : Nat} (C : Cx E κ cX7_layCounted RX7 7 none d) (hd : 4 ≤ d) (ho : isO o) {l2 : Int32} {l3 : Int32} {l4 : Int32} {l5 : Int32} {w0 : Int32} {mem : Mem} {x : (Int32 × Int32) ⊕ (Int32 × Int32)} (h : f_X7_layCounted_j95 o l2 l3 l4 l5 w0 mem = some x) (hP : (P_X7_layCounted_40 E κ ad (LC sh sp ++ LM) o l2 l3 mem) x) : Gw E κ 7 0 0 95 [some (.ref (ad 62)), some (.ref (ad o)), some (.int l2), some (.int l3), some (.int l4), some (.int l5), none] [.int w0] ad (LC sh sp ++ LM) mem := by
  unfold f_X7_layCounted_j95 at h
  refine g_istore (pc := 95) (i := 6) (lv' := [some (.ref (ad 62)), some (.ref (ad o)), some (.int l2), some (.int l3), some (.int l4), some (.int l5), some (.int w0)]) C dX7_layCounted_95 (by decide) rfl rfl ?_
  refine g_iload (pc := 97) (i := 4) (x := l4) C dX7_layCounted_97 rfl ?_
  refine g_aload_n (pc := 99) (i := 0) (x := ad 62) C dX7_layCounted_99 rfl rfl ?_
  refine g_get (pc := 100) (v := .ref (ad 79)) C ok_X7 28 (by decide) wf_X7_58 dX7_layCounted_100 la_62 rfl ?_
  refine g_iload (pc := 103) (i := 5) (x := l5) C dX7_layCounted_103 rfl ?_
  obtain ⟨v105, hv105, hi105, h⟩ := rd_some h
  refine g_iald (pc := 105) C dX7_layCounted_105 la_79 hi105 ?_
  refine g_topi hv105 ?_
  rcases ite_some' h with ⟨hc106, h⟩ | ⟨hc106, h⟩
  · refine g_if_le_t (pc := 106) C 118 dX7_layCounted_106 (by decide) hc106 ?_
    refine g_iconst (pc := 118) (v := 0) C dX7_layCounted_118 rfl ?_
    refine g_iadd (pc := 119) C dX7_layCounted_119 ?_
    obtain ⟨v120, hv120, h⟩ := lt_some h
    refine g_topi hv120 ?_
    refine g_istore (pc := 120) (i := 4) (lv' := [some (.ref (ad 62)), some (.ref (ad o)), some (.int l2), some (.int l3), some (.int v120), some (.int l5), some (.int w0)]) C dX7_layCounted_120 (by decide) rfl rfl ?_
    obtain ⟨v122, hv122, h⟩ := lt_some h
    refine g_iinc (pc := 122) (i := 5) (x := l5) (v := v122) (lv' := [some (.ref (ad 62)), some (.ref (ad o)), some (.int l2), some (.int l3), some (.int v120), some (.int v122), some (.int w0)]) C dX7_layCounted_122 rfl hv122.symm (by decide) rfl rfl ?_
    refine g_goto (pc := 125) C 40 dX7_layCounted_125 (by decide) ?_
    refine g_mask (lv' := [some (.ref (ad 62)), some (.ref (ad o)), some (.int l2), some (.int l3), some (.int v120), some (.int v122), none]) [true, true, true, true, true, true, false] rfl ?_
    cases h
    exact hP
  · refine g_if_le_f (pc := 106) C 118 dX7_layCounted_106 (by decide) hc106 ?_
    refine g_iload (pc := 109) (i := 6) (x := w0) C dX7_layCounted_109 rfl ?_
    rcases ite_some' h with ⟨hc111, h⟩ | ⟨hc111, h⟩
    · refine g_if_eq_t (pc := 111) C 118 dX7_layCounted_111 (by decide) hc111 ?_
      refine g_iconst (pc := 118) (v := 0) C dX7_layCounted_118 rfl ?_
      refine g_iadd (pc := 119) C dX7_layCounted_119 ?_
      obtain ⟨v120, hv120, h⟩ := lt_some h
      refine g_topi hv120 ?_
      refine g_istore (pc := 120) (i := 4) (lv' := [some (.ref (ad 62)), some (.ref (ad o)), some (.int l2), some (.int l3), some (.int v120), some (.int l5), some (.int w0)]) C dX7_layCounted_120 (by decide) rfl rfl ?_
      obtain ⟨v122, hv122, h⟩ := lt_some h
      refine g_iinc (pc := 122) (i := 5) (x := l5) (v := v122) (lv' := [some (.ref (ad 62)), some (.ref (ad o)), some (.int l2), some (.int l3), some (.int v120), some (.int v122), some (.int w0)]) C dX7_layCounted_122 rfl hv122.symm (by decide) rfl rfl ?_
      refine g_goto (pc := 125) C 40 dX7_layCounted_125 (by decide) ?_
      refine g_mask (lv' := [some (.ref (ad 62)), some (.ref (ad o)), some (.int l2), some (.int l3), some (.int v120), some (.int v122), none]) [true, true, true, true, true, true, false] rfl ?_
      cases h
      exact hP
    · refine g_if_eq_f (pc := 111) C 118 dX7_layCounted_111 (by decide) hc111 ?_
      refine g_iconst (pc := 114) (v := 1) C dX7_layCounted_114 rfl ?_
      refine g_goto (pc := 115) C 119 dX7_layCounted_115 (by decide) ?_
      refine g_iadd (pc := 119) C dX7_layCounted_119 ?_
      obtain ⟨v120, hv120, h⟩ := lt_some h
      refine g_topi hv120 ?_
      refine g_istore (pc := 120) (i := 4) (lv' := [some (.ref (ad 62)), some (.ref (ad o)), some (.int l2), some (.int l3), some (.int v120), some (.int l5), some (.int w0)]) C dX7_layCounted_120 (by decide) rfl rfl ?_
      obtain ⟨v122, hv122, h⟩ := lt_some h
      refine g_iinc (pc := 122) (i := 5) (x := l5) (v := v122) (lv' := [some (.ref (ad 62)), some (.ref (ad o)), some (.int l2), some (.int l3), some (.int v120), some (.int v122), some (.int w0)]) C dX7_layCounted_122 rfl hv122.symm (by decide) rfl rfl ?_
      refine g_goto (pc := 125) C 40 dX7_layCounted_125 (by decide) ?_
      refine g_mask (lv' := [some (.ref (ad 62)), some (.ref (ad o)), some (.int l2), some (.int l3), some (.int v120), some (.int v122), none]) [true, true, true, true, true, true, false] rfl ?_
      cases h
      exact hP
set_option maxRecDepth 100000 in
set_option maxHeartbeats 4000000 in
theorem j_X7_layCounted_94 {E : Ex} {κ : Kx} {ad : Nat → Nat} {sh sp : Nat} {d : Nat} {o : Nat} (C : Cx E κ cX7_layCounted RX7 7 none d) (hd : 4 ≤ d) (ho : isO o) {l2 : Int32} {l3 : Int32} {l4 : Int32} {l5 : Int32} {mem : Mem} {x : (Int32 × Int32) ⊕ (Int32 × Int32)} (h : f_X7_layCounted_j94 o l2 l3 l4 l5 mem = some x) (hP : (P_X7_layCounted_40 E κ ad (LC sh sp ++ LM) o l2 l3 mem) x) : Gw E κ 7 0 0 94 [some (.ref (ad 62)), some (.ref (ad o)), some (.int l2), some (.int l3), some (.int l4), some (.int l5), none] [] ad (LC sh sp ++ LM) mem := by
  unfold f_X7_layCounted_j94 at h
  refine g_iconst (pc := 94) (v := 0) C dX7_layCounted_94 rfl ?_
  exact j_X7_layCounted_95 C hd ho h hP
set_option maxRecDepth 100000 in
set_option maxHeartbeats 4000000 in
theorem b_X7_layCounted_40 {E : Ex} {κ : Kx} {ad : Nat → Nat} {sh sp : Nat} {d : Nat} {o : Nat} (C : Cx E κ cX7_layCounted RX7 7 none d) (hd : 4 ≤ d) (ho : isO o) {l2 : Int32} {l3 : Int32} {mem : Mem} {q : Int32 × Int32} {x : (Int32 × Int32) ⊕ (Int32 × Int32)} (h : f_X7_layCounted_b40 o l2 l3 mem q = some x) (hP : (P_X7_layCounted_40 E κ ad (LC sh sp ++ LM) o l2 l3 mem) x) : Gw E κ 7 0 0 40 [some (.ref (ad 62)), some (.ref (ad o)), some (.int l2), some (.int l3), some (.int q.1), some (.int q.2), none] [] ad (LC sh sp ++ LM) mem := by
  unfold f_X7_layCounted_b40 at h
  refine g_iload (pc := 40) (i := 5) (x := q.2) C dX7_layCounted_40 rfl ?_
  refine g_iload_n (pc := 42) (i := 3) (x := l3) C dX7_layCounted_42 rfl rfl ?_
  rcases ite_some' h with ⟨hc43, h⟩ | ⟨hc43, h⟩
  · refine g_icmp_ge_t (pc := 43) C 128 dX7_layCounted_43 (by decide) hc43 ?_
    refine g_mask (lv' := [some (.ref (ad 62)), some (.ref (ad o)), some (.int l2), some (.int l3), some (.int q.1), none, none]) [true, true, true, true, true, false, false] rfl ?_
    cases h
    exact hP
  · refine g_icmp_ge_f (pc := 43) C 128 dX7_layCounted_43 (by decide) hc43 ?_
    refine g_aload_n (pc := 46) (i := 1) (x := ad o) C dX7_layCounted_46 rfl rfl ?_
    refine g_bipush (pc := 47) (v := 16) C dX7_layCounted_47 rfl ?_
    refine g_iconst (pc := 49) (v := 2) C dX7_layCounted_49 rfl ?_
    refine g_iload (pc := 50) (i := 5) (x := q.2) C dX7_layCounted_50 rfl ?_
    refine g_imul (pc := 52) C dX7_layCounted_52 ?_
    refine g_iadd (pc := 53) C dX7_layCounted_53 ?_
    obtain ⟨v54, hv54, hi54, h⟩ := rd_some h
    refine g_iald (pc := 54) C dX7_layCounted_54 (lq_0 ho) hi54 ?_
    refine g_topi hv54 ?_
    refine g_aload_n (pc := 55) (i := 1) (x := ad o) C dX7_layCounted_55 rfl rfl ?_
    refine g_bipush (pc := 56) (v := 16) C dX7_layCounted_56 rfl ?_
    refine g_iconst (pc := 58) (v := 2) C dX7_layCounted_58 rfl ?_
    refine g_iload_n (pc := 59) (i := 3) (x := l3) C dX7_layCounted_59 rfl rfl ?_
    refine g_imul (pc := 60) C dX7_layCounted_60 ?_
    refine g_iadd (pc := 61) C dX7_layCounted_61 ?_
    obtain ⟨v62, hv62, hi62, h⟩ := rd_some h
    refine g_iald (pc := 62) C dX7_layCounted_62 (lq_0 ho) hi62 ?_
    refine g_topi hv62 ?_
    rcases ite_some' h with ⟨hc63, h⟩ | ⟨hc63, h⟩
    · refine g_icmp_ne_f (pc := 63) C 94 dX7_layCounted_63 (by decide) hc63 ?_
      refine g_aload_n (pc := 66) (i := 1) (x := ad o) C dX7_layCounted_66 rfl rfl ?_
      refine g_bipush (pc := 67) (v := 16) C dX7_layCounted_67 rfl ?_
      refine g_iconst (pc := 69) (v := 2) C dX7_layCounted_69 rfl ?_
      refine g_iload (pc := 70) (i := 5) (x := q.2) C dX7_layCounted_70 rfl ?_
      refine g_imul (pc := 72) C dX7_layCounted_72 ?_
      refine g_iadd (pc := 73) C dX7_layCounted_73 ?_
      refine g_iconst (pc := 74) (v := 1) C dX7_layCounted_74 rfl ?_
      refine g_iadd (pc := 75) C dX7_layCounted_75 ?_
      obtain ⟨v76, hv76, hi76, h⟩ := rd_some h
      refine g_iald (pc := 76) C dX7_layCounted_76 (lq_0 ho) hi76 ?_
      refine g_topi hv76 ?_
      refine g_aload_n (pc := 77) (i := 1) (x := ad o) C dX7_layCounted_77 rfl rfl ?_
      refine g_bipush (pc := 78) (v := 16) C dX7_layCounted_78 rfl ?_
      refine g_iconst (pc := 80) (v := 2) C dX7_layCounted_80 rfl ?_
      refine g_iload_n (pc := 81) (i := 3) (x := l3) C dX7_layCounted_81 rfl rfl ?_
      refine g_imul (pc := 82) C dX7_layCounted_82 ?_
      refine g_iadd (pc := 83) C dX7_layCounted_83 ?_
      refine g_iconst (pc := 84) (v := 1) C dX7_layCounted_84 rfl ?_
      refine g_iadd (pc := 85) C dX7_layCounted_85 ?_
      obtain ⟨v86, hv86, hi86, h⟩ := rd_some h
      refine g_iald (pc := 86) C dX7_layCounted_86 (lq_0 ho) hi86 ?_
      refine g_topi hv86 ?_
      rcases ite_some' h with ⟨hc87, h⟩ | ⟨hc87, h⟩
      · refine g_icmp_ne_f (pc := 87) C 94 dX7_layCounted_87 (by decide) hc87 ?_
        refine g_iconst (pc := 90) (v := 1) C dX7_layCounted_90 rfl ?_
        refine g_goto (pc := 91) C 95 dX7_layCounted_91 (by decide) ?_
        exact j_X7_layCounted_95 C hd ho h hP
      · refine g_icmp_ne_t (pc := 87) C 94 dX7_layCounted_87 (by decide) hc87 ?_
        exact j_X7_layCounted_94 C hd ho h hP
    · refine g_icmp_ne_t (pc := 63) C 94 dX7_layCounted_63 (by decide) hc63 ?_
      exact j_X7_layCounted_94 C hd ho h hP
set_option maxRecDepth 100000 in
set_option maxHeartbeats 4000000 in
theorem b_X7_layCounted_2 {E : Ex} {κ : Kx} {ad : Nat → Nat} {sh sp : Nat} {d : Nat} {o : Nat} (C : Cx E κ cX7_layCounted RX7 7 none d) (hd : 4 ≤ d) (ho : isO o) {l2 : Int32} {q : Int32 × Mem} {x : (Int32 × Mem) ⊕ (Int32 × Mem)} (h : f_X7_layCounted_b2 o l2 q = some x) (hP : (P_X7_layCounted_2 E κ ad (LC sh sp ++ LM) o l2) x) : Gw E κ 7 0 0 2 [some (.ref (ad 62)), some (.ref (ad o)), some (.int l2), some (.int q.1), none, none, none] [] ad (LC sh sp ++ LM) q.2 := by
  unfold f_X7_layCounted_b2 at h
  refine g_iload_n (pc := 2) (i := 3) (x := q.1) C dX7_layCounted_2 rfl rfl ?_
  refine g_aload_n (pc := 3) (i := 0) (x := ad 62) C dX7_layCounted_3 rfl rfl ?_
  refine g_get (pc := 4) (v := .int (q.2 62 18)) C ok_X7 18 (by decide) wf_X7_183 dX7_layCounted_4 la_62 rfl ?_
  rcases ite_some' h with ⟨hc7, h⟩ | ⟨hc7, h⟩
  · refine g_icmp_ge_t (pc := 7) C 235 dX7_layCounted_7 (by decide) hc7 ?_
    refine g_mask (lv' := [none, none, none, none, none, none, none]) [false, false, false, false, false, false, false] rfl ?_
    cases h
    exact hP
  · refine g_icmp_ge_f (pc := 7) C 235 dX7_layCounted_7 (by decide) hc7 ?_
    refine g_aload_n (pc := 10) (i := 0) (x := ad 62) C dX7_layCounted_10 rfl rfl ?_
    refine g_get (pc := 11) (v := .ref (ad 79)) C ok_X7 28 (by decide) wf_X7_58 dX7_layCounted_11 la_62 rfl ?_
    refine g_iload_n (pc := 14) (i := 3) (x := q.1) C dX7_layCounted_14 rfl rfl ?_
    refine g_iconst (pc := 15) (v := 0) C dX7_layCounted_15 rfl ?_
    obtain ⟨m16, hm16, hi16, h⟩ := wr_some h
    refine g_iast (pc := 16) C dX7_layCounted_16 la_79 hi16 ?_
    refine g_mem hm16 ?_
    refine g_iload_n (pc := 17) (i := 2) (x := l2) C dX7_layCounted_17 rfl rfl ?_
    refine g_iload_n (pc := 18) (i := 3) (x := q.1) C dX7_layCounted_18 rfl rfl ?_
    obtain ⟨r19, hcall19, h⟩ := ob_some h
    refine g_callS (pc := 19) C ce0 mi_X7_has ms_X7_has wm_X7_232 dX7_layCounted_19 [.int l2, .int q.1] [] (by omega) rfl rfl (Nat.le_of_ble_eq_true rfl) (m_X7_has (d := d - 1) (by omega)  hcall19) ?_
    show Gw E κ 7 0 0 22 [some (.ref (ad 62)), some (.ref (ad o)), some (.int l2), some (.int q.1), none, none, none] [.int r19] ad (LC sh sp ++ LM) m16
    rcases ite_some' h with ⟨hc22, h⟩ | ⟨hc22, h⟩
    · refine g_if_eq_t (pc := 22) C 229 dX7_layCounted_22 (by decide) hc22 ?_
      obtain ⟨v229, hv229, h⟩ := lt_some h
      refine g_iinc (pc := 229) (i := 3) (x := q.1) (v := v229) (lv' := [some (.ref (ad 62)), some (.ref (ad o)), some (.int l2), some (.int v229), none, none, none]) C dX7_layCounted_229 rfl hv229.symm (by decide) rfl rfl ?_
      refine g_goto (pc := 232) C 2 dX7_layCounted_232 (by decide) ?_
      cases h
      exact hP
    · refine g_if_eq_f (pc := 22) C 229 dX7_layCounted_22 (by decide) hc22 ?_
      refine g_aload_n (pc := 25) (i := 0) (x := ad 62) C dX7_layCounted_25 rfl rfl ?_
      refine g_aload_n (pc := 26) (i := 1) (x := ad o) C dX7_layCounted_26 rfl rfl ?_
      refine g_iload_n (pc := 27) (i := 3) (x := q.1) C dX7_layCounted_27 rfl rfl ?_
      obtain ⟨r28, hcall28, h⟩ := ob_some h
      refine g_callV (pc := 28) C ce0 mi_X7_isSending mv_X7_isSending wm_X7_236 dX7_layCounted_28 ok_X7 [.ref (ad o), .int q.1] [] la_62 (by omega) rfl rfl (Nat.le_of_ble_eq_true rfl) (m_X7_isSending (d := d - 1) (by omega) ho hcall28) ?_
      show Gw E κ 7 0 0 31 [some (.ref (ad 62)), some (.ref (ad o)), some (.int l2), some (.int q.1), none, none, none] [.int r28] ad (LC sh sp ++ LM) m16
      rcases ite_some' h with ⟨hc31, h⟩ | ⟨hc31, h⟩
      · refine g_if_eq_t (pc := 31) C 229 dX7_layCounted_31 (by decide) hc31 ?_
        obtain ⟨v229, hv229, h⟩ := lt_some h
        refine g_iinc (pc := 229) (i := 3) (x := q.1) (v := v229) (lv' := [some (.ref (ad 62)), some (.ref (ad o)), some (.int l2), some (.int v229), none, none, none]) C dX7_layCounted_229 rfl hv229.symm (by decide) rfl rfl ?_
        refine g_goto (pc := 232) C 2 dX7_layCounted_232 (by decide) ?_
        cases h
        exact hP
      · refine g_if_eq_f (pc := 31) C 229 dX7_layCounted_31 (by decide) hc31 ?_
        refine g_iconst (pc := 34) (v := 0) C dX7_layCounted_34 rfl ?_
        refine g_istore (pc := 35) (i := 4) (lv' := [some (.ref (ad 62)), some (.ref (ad o)), some (.int l2), some (.int q.1), some (.int 0), none, none]) C dX7_layCounted_35 (by decide) rfl rfl ?_
        refine g_iconst (pc := 37) (v := 0) C dX7_layCounted_37 rfl ?_
        refine g_istore (pc := 38) (i := 5) (lv' := [some (.ref (ad 62)), some (.ref (ad o)), some (.int l2), some (.int q.1), some (.int 0), some (.int 0), none]) C dX7_layCounted_38 (by decide) rfl rfl ?_
        obtain ⟨q40, hq, h⟩ := ob_some h
        refine lp_gw (P_X7_layCounted_40 E κ ad (LC sh sp ++ LM) o l2 q.1 m16) (fun q x hb hp => b_X7_layCounted_40 C hd ho hb hp) _ (0, 0) _ hq ?_
        show Gw E κ 7 0 0 128 [some (.ref (ad 62)), some (.ref (ad o)), some (.int l2), some (.int q.1), some (.int q40.1), none, none] [] ad (LC sh sp ++ LM) m16
        refine g_aload_n (pc := 128) (i := 0) (x := ad 62) C dX7_layCounted_128 rfl rfl ?_
        refine g_get (pc := 129) (v := .ref (ad 73)) C ok_X7 22 (by decide) wf_X7_40 dX7_layCounted_129 la_62 rfl ?_
        refine g_iload_n (pc := 132) (i := 3) (x := q.1) C dX7_layCounted_132 rfl rfl ?_
        obtain ⟨v133, hv133, hi133, h⟩ := rd_some h
        refine g_iald (pc := 133) C dX7_layCounted_133 la_73 hi133 ?_
        refine g_topi hv133 ?_
        rcases ite_some' h with ⟨hc134_0, h⟩ | ⟨hc134_0, h⟩
        · refine g_tsw (pc := 134) (n := 1) C 1 164 hc134_0 rfl dX7_layCounted_134 (by decide) (by decide) rfl (by decide) ?_
          refine g_aload_n (pc := 164) (i := 0) (x := ad 62) C dX7_layCounted_164 rfl rfl ?_
          refine g_get (pc := 165) (v := .ref (ad 79)) C ok_X7 28 (by decide) wf_X7_58 dX7_layCounted_165 la_62 rfl ?_
          refine g_iload_n (pc := 168) (i := 3) (x := q.1) C dX7_layCounted_168 rfl rfl ?_
          refine g_iconst (pc := 169) (v := 2) C dX7_layCounted_169 rfl ?_
          obtain ⟨m170, hm170, hi170, h⟩ := wr_some h
          refine g_iast (pc := 170) C dX7_layCounted_170 la_79 hi170 ?_
          refine g_mem hm170 ?_
          refine g_goto (pc := 171) C 229 dX7_layCounted_171 (by decide) ?_
          obtain ⟨v229, hv229, h⟩ := lt_some h
          refine g_iinc (pc := 229) (i := 3) (x := q.1) (v := v229) (lv' := [some (.ref (ad 62)), some (.ref (ad o)), some (.int l2), some (.int v229), some (.int q40.1), none, none]) C dX7_layCounted_229 rfl hv229.symm (by decide) rfl rfl ?_
          refine g_goto (pc := 232) C 2 dX7_layCounted_232 (by decide) ?_
          refine g_mask (lv' := [some (.ref (ad 62)), some (.ref (ad o)), some (.int l2), some (.int v229), none, none, none]) [true, true, true, true, false, false, false] rfl ?_
          cases h
          exact hP
        · skip
          rcases ite_some' h with ⟨hc134_1, h⟩ | ⟨hc134_1, h⟩
          · refine g_tsw (pc := 134) (n := 2) C 2 174 hc134_1 rfl dX7_layCounted_134 (by decide) (by decide) rfl (by decide) ?_
            refine g_aload_n (pc := 174) (i := 0) (x := ad 62) C dX7_layCounted_174 rfl rfl ?_
            refine g_get (pc := 175) (v := .ref (ad 79)) C ok_X7 28 (by decide) wf_X7_58 dX7_layCounted_175 la_62 rfl ?_
            refine g_iload_n (pc := 178) (i := 3) (x := q.1) C dX7_layCounted_178 rfl rfl ?_
            refine g_iconst (pc := 179) (v := 1) C dX7_layCounted_179 rfl ?_
            refine g_aload_n (pc := 180) (i := 0) (x := ad 62) C dX7_layCounted_180 rfl rfl ?_
            refine g_aload_n (pc := 181) (i := 1) (x := ad o) C dX7_layCounted_181 rfl rfl ?_
            refine g_bipush (pc := 182) (v := 16) C dX7_layCounted_182 rfl ?_
            refine g_iconst (pc := 184) (v := 2) C dX7_layCounted_184 rfl ?_
            refine g_iload_n (pc := 185) (i := 3) (x := q.1) C dX7_layCounted_185 rfl rfl ?_
            refine g_imul (pc := 186) C dX7_layCounted_186 ?_
            refine g_iadd (pc := 187) C dX7_layCounted_187 ?_
            refine g_iconst (pc := 188) (v := 1) C dX7_layCounted_188 rfl ?_
            refine g_iadd (pc := 189) C dX7_layCounted_189 ?_
            obtain ⟨v190, hv190, hi190, h⟩ := rd_some h
            refine g_iald (pc := 190) C dX7_layCounted_190 (lq_0 ho) hi190 ?_
            refine g_topi hv190 ?_
            obtain ⟨r191, hcall191, h⟩ := ob_some h
            refine g_callV (pc := 191) C ce0 mi_X7_vowels mv_X7_vowels wm_X7_240 dX7_layCounted_191 ok_X7 [.int v190] [.int 1, .int q.1, .ref (ad 79)] la_62 (by omega) rfl rfl (Nat.le_of_ble_eq_true rfl) (m_X7_vowels (d := d - 1) (by omega)  hcall191) ?_
            show Gw E κ 7 0 0 194 [some (.ref (ad 62)), some (.ref (ad o)), some (.int l2), some (.int q.1), some (.int q40.1), none, none] [.int r191, .int 1, .int q.1, .ref (ad 79)] ad (LC sh sp ++ LM) m16
            refine g_iadd (pc := 194) C dX7_layCounted_194 ?_
            obtain ⟨m195, hm195, hi195, h⟩ := wr_some h
            refine g_iast (pc := 195) C dX7_layCounted_195 la_79 hi195 ?_
            refine g_mem hm195 ?_
            refine g_goto (pc := 196) C 229 dX7_layCounted_196 (by decide) ?_
            obtain ⟨v229, hv229, h⟩ := lt_some h
            refine g_iinc (pc := 229) (i := 3) (x := q.1) (v := v229) (lv' := [some (.ref (ad 62)), some (.ref (ad o)), some (.int l2), some (.int v229), some (.int q40.1), none, none]) C dX7_layCounted_229 rfl hv229.symm (by decide) rfl rfl ?_
            refine g_goto (pc := 232) C 2 dX7_layCounted_232 (by decide) ?_
            refine g_mask (lv' := [some (.ref (ad 62)), some (.ref (ad o)), some (.int l2), some (.int v229), none, none, none]) [true, true, true, true, false, false, false] rfl ?_
            cases h
            exact hP
          · skip
            rcases ite_some' h with ⟨hc134_2, h⟩ | ⟨hc134_2, h⟩
            · refine g_tsw (pc := 134) (n := 3) C 3 199 hc134_2 rfl dX7_layCounted_134 (by decide) (by decide) rfl (by decide) ?_
              refine g_aload_n (pc := 199) (i := 0) (x := ad 62) C dX7_layCounted_199 rfl rfl ?_
              refine g_get (pc := 200) (v := .ref (ad 79)) C ok_X7 28 (by decide) wf_X7_58 dX7_layCounted_200 la_62 rfl ?_
              refine g_iload_n (pc := 203) (i := 3) (x := q.1) C dX7_layCounted_203 rfl rfl ?_
              refine g_iconst (pc := 204) (v := 3) C dX7_layCounted_204 rfl ?_
              obtain ⟨m205, hm205, hi205, h⟩ := wr_some h
              refine g_iast (pc := 205) C dX7_layCounted_205 la_79 hi205 ?_
              refine g_mem hm205 ?_
              refine g_goto (pc := 206) C 229 dX7_layCounted_206 (by decide) ?_
              obtain ⟨v229, hv229, h⟩ := lt_some h
              refine g_iinc (pc := 229) (i := 3) (x := q.1) (v := v229) (lv' := [some (.ref (ad 62)), some (.ref (ad o)), some (.int l2), some (.int v229), some (.int q40.1), none, none]) C dX7_layCounted_229 rfl hv229.symm (by decide) rfl rfl ?_
              refine g_goto (pc := 232) C 2 dX7_layCounted_232 (by decide) ?_
              refine g_mask (lv' := [some (.ref (ad 62)), some (.ref (ad o)), some (.int l2), some (.int v229), none, none, none]) [true, true, true, true, false, false, false] rfl ?_
              cases h
              exact hP
            · skip
              rcases ite_some' h with ⟨hc134_3, h⟩ | ⟨hc134_3, h⟩
              · refine g_tsw (pc := 134) (n := 4) C 4 209 hc134_3 rfl dX7_layCounted_134 (by decide) (by decide) rfl (by decide) ?_
                refine g_aload_n (pc := 209) (i := 0) (x := ad 62) C dX7_layCounted_209 rfl rfl ?_
                refine g_get (pc := 210) (v := .ref (ad 79)) C ok_X7 28 (by decide) wf_X7_58 dX7_layCounted_210 la_62 rfl ?_
                refine g_iload_n (pc := 213) (i := 3) (x := q.1) C dX7_layCounted_213 rfl rfl ?_
                refine g_iload (pc := 214) (i := 4) (x := q40.1) C dX7_layCounted_214 rfl ?_
                refine g_iconst (pc := 216) (v := 1) C dX7_layCounted_216 rfl ?_
                refine g_iadd (pc := 217) C dX7_layCounted_217 ?_
                obtain ⟨m218, hm218, hi218, h⟩ := wr_some h
                refine g_iast (pc := 218) C dX7_layCounted_218 la_79 hi218 ?_
                refine g_mem hm218 ?_
                refine g_goto (pc := 219) C 229 dX7_layCounted_219 (by decide) ?_
                obtain ⟨v229, hv229, h⟩ := lt_some h
                refine g_iinc (pc := 229) (i := 3) (x := q.1) (v := v229) (lv' := [some (.ref (ad 62)), some (.ref (ad o)), some (.int l2), some (.int v229), some (.int q40.1), none, none]) C dX7_layCounted_229 rfl hv229.symm (by decide) rfl rfl ?_
                refine g_goto (pc := 232) C 2 dX7_layCounted_232 (by decide) ?_
                refine g_mask (lv' := [some (.ref (ad 62)), some (.ref (ad o)), some (.int l2), some (.int v229), none, none, none]) [true, true, true, true, false, false, false] rfl ?_
                cases h
                exact hP
              · skip
                refine g_tswD (pc := 134) C 222 dX7_layCounted_134 (by have z0 := i32_ne 1 hc134_0 (n := 1) rfl; have z1 := i32_ne 2 hc134_1 (n := 2) rfl; have z2 := i32_ne 3 hc134_2 (n := 3) rfl; have z3 := i32_ne 4 hc134_3 (n := 4) rfl; omega) (by decide) ?_
                refine g_aload_n (pc := 222) (i := 0) (x := ad 62) C dX7_layCounted_222 rfl rfl ?_
                refine g_get (pc := 223) (v := .ref (ad 79)) C ok_X7 28 (by decide) wf_X7_58 dX7_layCounted_223 la_62 rfl ?_
                refine g_iload_n (pc := 226) (i := 3) (x := q.1) C dX7_layCounted_226 rfl rfl ?_
                refine g_iconst (pc := 227) (v := 1) C dX7_layCounted_227 rfl ?_
                obtain ⟨m228, hm228, hi228, h⟩ := wr_some h
                refine g_iast (pc := 228) C dX7_layCounted_228 la_79 hi228 ?_
                refine g_mem hm228 ?_
                obtain ⟨v229, hv229, h⟩ := lt_some h
                refine g_iinc (pc := 229) (i := 3) (x := q.1) (v := v229) (lv' := [some (.ref (ad 62)), some (.ref (ad o)), some (.int l2), some (.int v229), some (.int q40.1), none, none]) C dX7_layCounted_229 rfl hv229.symm (by decide) rfl rfl ?_
                refine g_goto (pc := 232) C 2 dX7_layCounted_232 (by decide) ?_
                refine g_mask (lv' := [some (.ref (ad 62)), some (.ref (ad o)), some (.int l2), some (.int v229), none, none, none]) [true, true, true, true, false, false, false] rfl ?_
                cases h
                exact hP
set_option maxRecDepth 100000 in
set_option maxHeartbeats 4000000 in
theorem m_X7_layCounted {E : Ex} {ad : Nat → Nat} {sh sp : Nat} {d : Nat} (hd : 4 ≤ d) {o : Nat} (ho : isO o) {l2 : Int32} {mem : Mem} {r : Mem} (h : f_X7_layCounted o l2 mem = some r) : Cl E yX7_layCounted cX7_layCounted 7 none d [.ref (ad 62), .ref (ad o), .int l2] none ad (LC sh sp ++ LM) mem (LC sh sp ++ LM) r := by
  refine Cl.of [some (.ref (ad 62)), some (.ref (ad o)), some (.int l2), none, none, none, none] (by decide +kernel) rfl (Nat.le_of_ble_eq_true rfl) (fun κ C hP => ?_)
  have C : Cx E κ cX7_layCounted RX7 7 none d := C
  unfold f_X7_layCounted at h
  refine g_iconst (pc := 0) (v := 0) C dX7_layCounted_0 rfl ?_
  refine g_istore_n (pc := 1) (i := 3) (lv' := [some (.ref (ad 62)), some (.ref (ad o)), some (.int l2), some (.int 0), none, none, none]) C dX7_layCounted_1 rfl (by decide) rfl rfl ?_
  obtain ⟨q2, hq, h⟩ := ob_some h
  refine lp_gw (P_X7_layCounted_2 E κ ad (LC sh sp ++ LM) o l2) (fun q x hb hp => b_X7_layCounted_2 C hd ho hb hp) _ (0, mem) _ hq ?_
  show Gw E κ 7 0 0 235 [none, none, none, none, none, none, none] [] ad (LC sh sp ++ LM) q2.2
  cases h
  exact g_vret (pc := 235) C hP rfl dX7_layCounted_235

theorem dX7_solver_0 : decode cX7_solver 0 = .ok (.aload_n 0, 1) := by decide +kernel
theorem dX7_solver_1 : decode cX7_solver 1 = .ok (.iload_n 1, 1) := by decide +kernel
theorem dX7_solver_2 : decode cX7_solver 2 = .ok (.invokevirtual 243, 3) := by decide +kernel
theorem dX7_solver_5 : decode cX7_solver 5 = .ok (.ifCond .eq 12, 3) := by decide +kernel
theorem dX7_solver_8 : decode cX7_solver 8 = .ok (.iload_n 2, 1) := by decide +kernel
theorem dX7_solver_9 : decode cX7_solver 9 = .ok (.iconst 0, 1) := by decide +kernel
theorem dX7_solver_10 : decode cX7_solver 10 = .ok (.iconst 3, 1) := by decide +kernel
theorem dX7_solver_11 : decode cX7_solver 11 = .ok (.invokestatic 123, 3) := by decide +kernel
theorem dX7_solver_14 : decode cX7_solver 14 = .ok (.ifCond .ne 5, 3) := by decide +kernel
theorem dX7_solver_17 : decode cX7_solver 17 = .ok (.iconst (-1), 1) := by decide +kernel
theorem dX7_solver_18 : decode cX7_solver 18 = .ok (.ireturn, 1) := by decide +kernel
theorem dX7_solver_19 : decode cX7_solver 19 = .ok (.aload_n 0, 1) := by decide +kernel
theorem dX7_solver_20 : decode cX7_solver 20 = .ok (.aload_n 0, 1) := by decide +kernel
theorem dX7_solver_21 : decode cX7_solver 21 = .ok (.getfield 52, 3) := by decide +kernel
theorem dX7_solver_24 : decode cX7_solver 24 = .ok (.iconst (-1), 1) := by decide +kernel
theorem dX7_solver_25 : decode cX7_solver 25 = .ok (.invokevirtual 246, 3) := by decide +kernel
theorem dX7_solver_28 : decode cX7_solver 28 = .ok (.iload_n 2, 1) := by decide +kernel
theorem dX7_solver_29 : decode cX7_solver 29 = .ok (.ifCond .ne 12, 3) := by decide +kernel
theorem dX7_solver_32 : decode cX7_solver 32 = .ok (.aload_n 0, 1) := by decide +kernel
theorem dX7_solver_33 : decode cX7_solver 33 = .ok (.getfield 40, 3) := by decide +kernel
theorem dX7_solver_36 : decode cX7_solver 36 = .ok (.iload_n 1, 1) := by decide +kernel
theorem dX7_solver_37 : decode cX7_solver 37 = .ok (.iaload, 1) := by decide +kernel
theorem dX7_solver_38 : decode cX7_solver 38 = .ok (.goto 32, 3) := by decide +kernel
theorem dX7_solver_41 : decode cX7_solver 41 = .ok (.iload_n 2, 1) := by decide +kernel
theorem dX7_solver_42 : decode cX7_solver 42 = .ok (.iconst 3, 1) := by decide +kernel
theorem dX7_solver_43 : decode cX7_solver 43 = .ok (.if_icmp .ne 12, 3) := by decide +kernel
theorem dX7_solver_46 : decode cX7_solver 46 = .ok (.aload_n 0, 1) := by decide +kernel
theorem dX7_solver_47 : decode cX7_solver 47 = .ok (.getfield 58, 3) := by decide +kernel
theorem dX7_solver_50 : decode cX7_solver 50 = .ok (.iload_n 1, 1) := by decide +kernel
theorem dX7_solver_51 : decode cX7_solver 51 = .ok (.iaload, 1) := by decide +kernel
theorem dX7_solver_52 : decode cX7_solver 52 = .ok (.goto 18, 3) := by decide +kernel
theorem dX7_solver_55 : decode cX7_solver 55 = .ok (.aload_n 0, 1) := by decide +kernel
theorem dX7_solver_56 : decode cX7_solver 56 = .ok (.getfield 52, 3) := by decide +kernel
theorem dX7_solver_59 : decode cX7_solver 59 = .ok (.bipush 16, 2) := by decide +kernel
theorem dX7_solver_61 : decode cX7_solver 61 = .ok (.iconst 2, 1) := by decide +kernel
theorem dX7_solver_62 : decode cX7_solver 62 = .ok (.iload_n 1, 1) := by decide +kernel
theorem dX7_solver_63 : decode cX7_solver 63 = .ok (.imul, 1) := by decide +kernel
theorem dX7_solver_64 : decode cX7_solver 64 = .ok (.iadd, 1) := by decide +kernel
theorem dX7_solver_65 : decode cX7_solver 65 = .ok (.iload_n 2, 1) := by decide +kernel
theorem dX7_solver_66 : decode cX7_solver 66 = .ok (.iadd, 1) := by decide +kernel
theorem dX7_solver_67 : decode cX7_solver 67 = .ok (.iconst 1, 1) := by decide +kernel
theorem dX7_solver_68 : decode cX7_solver 68 = .ok (.isub, 1) := by decide +kernel
theorem dX7_solver_69 : decode cX7_solver 69 = .ok (.iaload, 1) := by decide +kernel
theorem dX7_solver_70 : decode cX7_solver 70 = .ok (.ireturn, 1) := by decide +kernel
noncomputable def f_X7_solver (l1 : Int32) (l2 : Int32) (mem : Mem) : Option (Int32 × Mem) :=
  ob (f_X7_isSolver l1 mem) fun r2 => if r2 = 0 then (some ((-1), mem)) else (ob (f_X7_in l2 0 3) fun r11 => if r11 = 0 then (some ((-1), mem)) else (ob (f_X7_layCounted 77 (-1) mem) fun m25 => if l2 = 0 then (rd (m25 73) 6 l1 fun v37 => some (v37, m25)) else (if l2 = 3 then (rd (m25 79) 6 l1 fun v51 => some (v51, m25)) else (rd (m25 77) 28 (((16 + (2 * l1)) + l2) - 1) fun v69 => some (v69, m25)))))
set_option maxRecDepth 100000 in
set_option maxHeartbeats 4000000 in
theorem m_X7_solver {E : Ex} {ad : Nat → Nat} {sh sp : Nat} {d : Nat} (hd : 5 ≤ d)  {l1 : Int32} {l2 : Int32} {mem : Mem} {r : Int32 × Mem} (h : f_X7_solver l1 l2 mem = some r) : Cl E yX7_solver cX7_solver 3 (some .int) d [.ref (ad 62), .int l1, .int l2] (some (.int r.1)) ad (LC sh sp ++ LM) mem (LC sh sp ++ LM) r.2 := by
  refine Cl.of [some (.ref (ad 62)), some (.int l1), some (.int l2)] (by decide +kernel) rfl (Nat.le_of_ble_eq_true rfl) (fun κ C hP => ?_)
  have C : Cx E κ cX7_solver RX7 3 (some .int) d := C
  unfold f_X7_solver at h
  refine g_aload_n (pc := 0) (i := 0) (x := ad 62) C dX7_solver_0 rfl rfl ?_
  refine g_iload_n (pc := 1) (i := 1) (x := l1) C dX7_solver_1 rfl rfl ?_
  obtain ⟨r2, hcall2, h⟩ := ob_some h
  refine g_callV (pc := 2) C ce0 mi_X7_isSolver mv_X7_isSolver wm_X7_243 dX7_solver_2 ok_X7 [.int l1] [] la_62 (by omega) rfl rfl (Nat.le_of_ble_eq_true rfl) (m_X7_isSolver (d := d - 1) (by omega)  hcall2) ?_
  show Gw E κ 3 0 0 5 [some (.ref (ad 62)), some (.int l1), some (.int l2)] [.int r2] ad (LC sh sp ++ LM) mem
  rcases ite_some' h with ⟨hc5, h⟩ | ⟨hc5, h⟩
  · refine g_if_eq_t (pc := 5) C 17 dX7_solver_5 (by decide) hc5 ?_
    refine g_iconst (pc := 17) (v := (-1)) C dX7_solver_17 rfl ?_
    cases h
    exact g_iret (pc := 18) C hP rfl rfl dX7_solver_18
  · refine g_if_eq_f (pc := 5) C 17 dX7_solver_5 (by decide) hc5 ?_
    refine g_iload_n (pc := 8) (i := 2) (x := l2) C dX7_solver_8 rfl rfl ?_
    refine g_iconst (pc := 9) (v := 0) C dX7_solver_9 rfl ?_
    refine g_iconst (pc := 10) (v := 3) C dX7_solver_10 rfl ?_
    obtain ⟨r11, hcall11, h⟩ := ob_some h
    refine g_callS (pc := 11) C ce0 mi_X7_in ms_X7_in wm_X7_123 dX7_solver_11 [.int l2, .int 0, .int 3] [] (by omega) rfl rfl (Nat.le_of_ble_eq_true rfl) (m_X7_in (d := d - 1) (by omega)  hcall11) ?_
    show Gw E κ 3 0 0 14 [some (.ref (ad 62)), some (.int l1), some (.int l2)] [.int r11] ad (LC sh sp ++ LM) mem
    rcases ite_some' h with ⟨hc14, h⟩ | ⟨hc14, h⟩
    · refine g_if_ne_f (pc := 14) C 19 dX7_solver_14 (by decide) hc14 ?_
      refine g_iconst (pc := 17) (v := (-1)) C dX7_solver_17 rfl ?_
      cases h
      exact g_iret (pc := 18) C hP rfl rfl dX7_solver_18
    · refine g_if_ne_t (pc := 14) C 19 dX7_solver_14 (by decide) hc14 ?_
      refine g_aload_n (pc := 19) (i := 0) (x := ad 62) C dX7_solver_19 rfl rfl ?_
      refine g_aload_n (pc := 20) (i := 0) (x := ad 62) C dX7_solver_20 rfl rfl ?_
      refine g_get (pc := 21) (v := .ref (ad 77)) C ok_X7 26 (by decide) wf_X7_52 dX7_solver_21 la_62 rfl ?_
      refine g_iconst (pc := 24) (v := (-1)) C dX7_solver_24 rfl ?_
      obtain ⟨m25, hcall25, h⟩ := ob_some h
      refine g_callV (pc := 25) C ce0 mi_X7_layCounted mv_X7_layCounted wm_X7_246 dX7_solver_25 ok_X7 [.ref (ad 77), .int (-1)] [] la_62 (by omega) rfl rfl (Nat.le_of_ble_eq_true rfl) (m_X7_layCounted (d := d - 1) (by omega) o_77 hcall25) ?_
      show Gw E κ 3 0 0 28 [some (.ref (ad 62)), some (.int l1), some (.int l2)] [] ad (LC sh sp ++ LM) m25
      refine g_iload_n (pc := 28) (i := 2) (x := l2) C dX7_solver_28 rfl rfl ?_
      rcases ite_some' h with ⟨hc29, h⟩ | ⟨hc29, h⟩
      · refine g_if_ne_f (pc := 29) C 41 dX7_solver_29 (by decide) hc29 ?_
        refine g_aload_n (pc := 32) (i := 0) (x := ad 62) C dX7_solver_32 rfl rfl ?_
        refine g_get (pc := 33) (v := .ref (ad 73)) C ok_X7 22 (by decide) wf_X7_40 dX7_solver_33 la_62 rfl ?_
        refine g_iload_n (pc := 36) (i := 1) (x := l1) C dX7_solver_36 rfl rfl ?_
        obtain ⟨v37, hv37, hi37, h⟩ := rd_some h
        refine g_iald (pc := 37) C dX7_solver_37 la_73 hi37 ?_
        refine g_topi hv37 ?_
        refine g_goto (pc := 38) C 70 dX7_solver_38 (by decide) ?_
        cases h
        exact g_iret (pc := 70) C hP rfl rfl dX7_solver_70
      · refine g_if_ne_t (pc := 29) C 41 dX7_solver_29 (by decide) hc29 ?_
        refine g_iload_n (pc := 41) (i := 2) (x := l2) C dX7_solver_41 rfl rfl ?_
        refine g_iconst (pc := 42) (v := 3) C dX7_solver_42 rfl ?_
        rcases ite_some' h with ⟨hc43, h⟩ | ⟨hc43, h⟩
        · refine g_icmp_ne_f (pc := 43) C 55 dX7_solver_43 (by decide) hc43 ?_
          refine g_aload_n (pc := 46) (i := 0) (x := ad 62) C dX7_solver_46 rfl rfl ?_
          refine g_get (pc := 47) (v := .ref (ad 79)) C ok_X7 28 (by decide) wf_X7_58 dX7_solver_47 la_62 rfl ?_
          refine g_iload_n (pc := 50) (i := 1) (x := l1) C dX7_solver_50 rfl rfl ?_
          obtain ⟨v51, hv51, hi51, h⟩ := rd_some h
          refine g_iald (pc := 51) C dX7_solver_51 la_79 hi51 ?_
          refine g_topi hv51 ?_
          refine g_goto (pc := 52) C 70 dX7_solver_52 (by decide) ?_
          cases h
          exact g_iret (pc := 70) C hP rfl rfl dX7_solver_70
        · refine g_icmp_ne_t (pc := 43) C 55 dX7_solver_43 (by decide) hc43 ?_
          refine g_aload_n (pc := 55) (i := 0) (x := ad 62) C dX7_solver_55 rfl rfl ?_
          refine g_get (pc := 56) (v := .ref (ad 77)) C ok_X7 26 (by decide) wf_X7_52 dX7_solver_56 la_62 rfl ?_
          refine g_bipush (pc := 59) (v := 16) C dX7_solver_59 rfl ?_
          refine g_iconst (pc := 61) (v := 2) C dX7_solver_61 rfl ?_
          refine g_iload_n (pc := 62) (i := 1) (x := l1) C dX7_solver_62 rfl rfl ?_
          refine g_imul (pc := 63) C dX7_solver_63 ?_
          refine g_iadd (pc := 64) C dX7_solver_64 ?_
          refine g_iload_n (pc := 65) (i := 2) (x := l2) C dX7_solver_65 rfl rfl ?_
          refine g_iadd (pc := 66) C dX7_solver_66 ?_
          refine g_iconst (pc := 67) (v := 1) C dX7_solver_67 rfl ?_
          refine g_isub (pc := 68) C dX7_solver_68 ?_
          obtain ⟨v69, hv69, hi69, h⟩ := rd_some h
          refine g_iald (pc := 69) C dX7_solver_69 la_77 hi69 ?_
          refine g_topi hv69 ?_
          cases h
          exact g_iret (pc := 70) C hP rfl rfl dX7_solver_70
