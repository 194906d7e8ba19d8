theorem dX7_readsBlack_0 : decode cX7_readsBlack 0 = .ok (.aload_n 0, 1) := by decide +kernel
theorem dX7_readsBlack_1 : decode cX7_readsBlack 1 = .ok (.aload_n 0, 1) := by decide +kernel
theorem dX7_readsBlack_2 : decode cX7_readsBlack 2 = .ok (.getfield 106, 3) := by decide +kernel
theorem dX7_readsBlack_5 : decode cX7_readsBlack 5 = .ok (.aload_n 0, 1) := by decide +kernel
theorem dX7_readsBlack_6 : decode cX7_readsBlack 6 = .ok (.getfield 110, 3) := by decide +kernel
theorem dX7_readsBlack_9 : decode cX7_readsBlack 9 = .ok (.imul, 1) := by decide +kernel
theorem dX7_readsBlack_10 : decode cX7_readsBlack 10 = .ok (.iconst 1, 1) := by decide +kernel
theorem dX7_readsBlack_11 : decode cX7_readsBlack 11 = .ok (.isub, 1) := by decide +kernel
theorem dX7_readsBlack_12 : decode cX7_readsBlack 12 = .ok (.invokevirtual 137, 3) := by decide +kernel
theorem dX7_readsBlack_15 : decode cX7_readsBlack 15 = .ok (.istore_n 1, 1) := by decide +kernel
theorem dX7_readsBlack_16 : decode cX7_readsBlack 16 = .ok (.iload_n 1, 1) := by decide +kernel
theorem dX7_readsBlack_17 : decode cX7_readsBlack 17 = .ok (.ifCond .ge 5, 3) := by decide +kernel
theorem dX7_readsBlack_20 : decode cX7_readsBlack 20 = .ok (.iconst 0, 1) := by decide +kernel
theorem dX7_readsBlack_21 : decode cX7_readsBlack 21 = .ok (.ireturn, 1) := by decide +kernel
theorem dX7_readsBlack_22 : decode cX7_readsBlack 22 = .ok (.aload_n 0, 1) := by decide +kernel
theorem dX7_readsBlack_23 : decode cX7_readsBlack 23 = .ok (.getfield 13, 3) := by decide +kernel
theorem dX7_readsBlack_26 : decode cX7_readsBlack 26 = .ok (.iload_n 1, 1) := by decide +kernel
theorem dX7_readsBlack_27 : decode cX7_readsBlack 27 = .ok (.iconst 1, 1) := by decide +kernel
theorem dX7_readsBlack_28 : decode cX7_readsBlack 28 = .ok (.iastore, 1) := by decide +kernel
theorem dX7_readsBlack_29 : decode cX7_readsBlack 29 = .ok (.iconst 1, 1) := by decide +kernel
theorem dX7_readsBlack_30 : decode cX7_readsBlack 30 = .ok (.ireturn, 1) := by decide +kernel
noncomputable def f_X7_readsBlack  (mem : Mem) : Option (Int32 × Mem) :=
  ob2 (f_X7_number (((mem 62 3) * (mem 62 4)) - 1) mem) fun r12 m12 => if 0 ≤ r12 then (wr m12 64 16 r12 1 fun m28 => some (1, m28)) else (some (0, m12))
set_option maxRecDepth 100000 in
set_option maxHeartbeats 4000000 in
theorem m_X7_readsBlack {E : Ex} {ad : Nat → Nat} {sh sp : Nat} {d : Nat} (hd : 2 ≤ d)   {mem : Mem} {r : Int32 × Mem} (h : f_X7_readsBlack mem = some r) : Cl E yX7_readsBlack cX7_readsBlack 2 (some .boolean) d [.ref (ad 62)] (some (.int r.1)) ad (LC sh sp ++ LM) mem (LC sh sp ++ LM) r.2 := by
  refine Cl.of [some (.ref (ad 62)), none] (by decide +kernel) rfl (Nat.le_of_ble_eq_true rfl) (fun κ C hP => ?_)
  have C : Cx E κ cX7_readsBlack RX7 2 (some .boolean) d := C
  unfold f_X7_readsBlack at h
  refine g_aload_n (pc := 0) (i := 0) (x := ad 62) C dX7_readsBlack_0 rfl rfl ?_
  refine g_aload_n (pc := 1) (i := 0) (x := ad 62) C dX7_readsBlack_1 rfl rfl ?_
  refine g_get (pc := 2) (v := .int (mem 62 3)) C ok_X7 3 (by decide) wf_X7_106 dX7_readsBlack_2 la_62 rfl ?_
  refine g_aload_n (pc := 5) (i := 0) (x := ad 62) C dX7_readsBlack_5 rfl rfl ?_
  refine g_get (pc := 6) (v := .int (mem 62 4)) C ok_X7 4 (by decide) wf_X7_110 dX7_readsBlack_6 la_62 rfl ?_
  refine g_imul (pc := 9) C dX7_readsBlack_9 ?_
  refine g_iconst (pc := 10) (v := 1) C dX7_readsBlack_10 rfl ?_
  refine g_isub (pc := 11) C dX7_readsBlack_11 ?_
  obtain ⟨r12, m12, hcall12, h⟩ := ob2_some h
  refine g_callV (pc := 12) C ce0 mi_X7_number mv_X7_number wm_X7_137 dX7_readsBlack_12 ok_X7 [.int (((mem 62 3) * (mem 62 4)) - 1)] [] la_62 (by omega) rfl rfl (Nat.le_of_ble_eq_true rfl) (m_X7_number (d := d - 1) (by omega)  hcall12) ?_
  show Gw E κ 2 0 0 15 [some (.ref (ad 62)), none] [.int r12] ad (LC sh sp ++ LM) m12
  refine g_istore_n (pc := 15) (i := 1) (lv' := [some (.ref (ad 62)), some (.int r12)]) C dX7_readsBlack_15 rfl (by decide) rfl rfl ?_
  refine g_iload_n (pc := 16) (i := 1) (x := r12) C dX7_readsBlack_16 rfl rfl ?_
  rcases ite_some' h with ⟨hc17, h⟩ | ⟨hc17, h⟩
  · refine g_if_ge_t (pc := 17) C 22 dX7_readsBlack_17 (by decide) hc17 ?_
    refine g_aload_n (pc := 22) (i := 0) (x := ad 62) C dX7_readsBlack_22 rfl rfl ?_
    refine g_get (pc := 23) (v := .ref (ad 64)) C ok_X7 8 (by decide) wf_X7_13 dX7_readsBlack_23 la_62 rfl ?_
    refine g_iload_n (pc := 26) (i := 1) (x := r12) C dX7_readsBlack_26 rfl rfl ?_
    refine g_iconst (pc := 27) (v := 1) C dX7_readsBlack_27 rfl ?_
    obtain ⟨m28, hm28, hi28, h⟩ := wr_some h
    refine g_iast (pc := 28) C dX7_readsBlack_28 la_64 hi28 ?_
    refine g_mem hm28 ?_
    refine g_iconst (pc := 29) (v := 1) C dX7_readsBlack_29 rfl ?_
    cases h
    exact g_iret (pc := 30) C hP rfl rfl dX7_readsBlack_30
  · refine g_if_ge_f (pc := 17) C 22 dX7_readsBlack_17 (by decide) hc17 ?_
    refine g_iconst (pc := 20) (v := 0) C dX7_readsBlack_20 rfl ?_
    cases h
    exact g_iret (pc := 21) C hP rfl rfl dX7_readsBlack_21

theorem dX7_isTold_0 : decode cX7_isTold 0 = .ok (.iconst 0, 1) := by decide +kernel
theorem dX7_isTold_1 : decode cX7_isTold 1 = .ok (.istore 5, 2) := by decide +kernel
theorem dX7_isTold_3 : decode cX7_isTold 3 = .ok (.iconst 0, 1) := by decide +kernel
theorem dX7_isTold_4 : decode cX7_isTold 4 = .ok (.istore 6, 2) := by decide +kernel
theorem dX7_isTold_6 : decode cX7_isTold 6 = .ok (.iload 6, 2) := by decide +kernel
theorem dX7_isTold_8 : decode cX7_isTold 8 = .ok (.aload_n 0, 1) := by decide +kernel
theorem dX7_isTold_9 : decode cX7_isTold 9 = .ok (.getfield 113, 3) := by decide +kernel
theorem dX7_isTold_12 : decode cX7_isTold 12 = .ok (.if_icmp .ge 80, 3) := by decide +kernel
theorem dX7_isTold_15 : decode cX7_isTold 15 = .ok (.iload 5, 2) := by decide +kernel
theorem dX7_isTold_17 : decode cX7_isTold 17 = .ok (.ifCond .ne 62, 3) := by decide +kernel
theorem dX7_isTold_20 : decode cX7_isTold 20 = .ok (.aload_n 0, 1) := by decide +kernel
theorem dX7_isTold_21 : decode cX7_isTold 21 = .ok (.getfield 22, 3) := by decide +kernel
theorem dX7_isTold_24 : decode cX7_isTold 24 = .ok (.iconst 4, 1) := by decide +kernel
theorem dX7_isTold_25 : decode cX7_isTold 25 = .ok (.iload 6, 2) := by decide +kernel
theorem dX7_isTold_27 : decode cX7_isTold 27 = .ok (.imul, 1) := by decide +kernel
theorem dX7_isTold_28 : decode cX7_isTold 28 = .ok (.iaload, 1) := by decide +kernel
theorem dX7_isTold_29 : decode cX7_isTold 29 = .ok (.iload_n 1, 1) := by decide +kernel
theorem dX7_isTold_30 : decode cX7_isTold 30 = .ok (.if_icmp .ne 53, 3) := by decide +kernel
theorem dX7_isTold_33 : decode cX7_isTold 33 = .ok (.aload_n 0, 1) := by decide +kernel
theorem dX7_isTold_34 : decode cX7_isTold 34 = .ok (.getfield 22, 3) := by decide +kernel
theorem dX7_isTold_37 : decode cX7_isTold 37 = .ok (.iconst 4, 1) := by decide +kernel
theorem dX7_isTold_38 : decode cX7_isTold 38 = .ok (.iload 6, 2) := by decide +kernel
theorem dX7_isTold_40 : decode cX7_isTold 40 = .ok (.imul, 1) := by decide +kernel
theorem dX7_isTold_41 : decode cX7_isTold 41 = .ok (.iconst 1, 1) := by decide +kernel
theorem dX7_isTold_42 : decode cX7_isTold 42 = .ok (.iadd, 1) := by decide +kernel
theorem dX7_isTold_43 : decode cX7_isTold 43 = .ok (.iaload, 1) := by decide +kernel
theorem dX7_isTold_44 : decode cX7_isTold 44 = .ok (.iload_n 2, 1) := by decide +kernel
theorem dX7_isTold_45 : decode cX7_isTold 45 = .ok (.if_icmp .ne 38, 3) := by decide +kernel
theorem dX7_isTold_48 : decode cX7_isTold 48 = .ok (.aload_n 0, 1) := by decide +kernel
theorem dX7_isTold_49 : decode cX7_isTold 49 = .ok (.getfield 22, 3) := by decide +kernel
theorem dX7_isTold_52 : decode cX7_isTold 52 = .ok (.iconst 4, 1) := by decide +kernel
theorem dX7_isTold_53 : decode cX7_isTold 53 = .ok (.iload 6, 2) := by decide +kernel
theorem dX7_isTold_55 : decode cX7_isTold 55 = .ok (.imul, 1) := by decide +kernel
theorem dX7_isTold_56 : decode cX7_isTold 56 = .ok (.iconst 2, 1) := by decide +kernel
theorem dX7_isTold_57 : decode cX7_isTold 57 = .ok (.iadd, 1) := by decide +kernel
theorem dX7_isTold_58 : decode cX7_isTold 58 = .ok (.iaload, 1) := by decide +kernel
theorem dX7_isTold_59 : decode cX7_isTold 59 = .ok (.iload_n 3, 1) := by decide +kernel
theorem dX7_isTold_60 : decode cX7_isTold 60 = .ok (.if_icmp .ne 23, 3) := by decide +kernel
theorem dX7_isTold_63 : decode cX7_isTold 63 = .ok (.aload_n 0, 1) := by decide +kernel
theorem dX7_isTold_64 : decode cX7_isTold 64 = .ok (.getfield 22, 3) := by decide +kernel
theorem dX7_isTold_67 : decode cX7_isTold 67 = .ok (.iconst 4, 1) := by decide +kernel
theorem dX7_isTold_68 : decode cX7_isTold 68 = .ok (.iload 6, 2) := by decide +kernel
theorem dX7_isTold_70 : decode cX7_isTold 70 = .ok (.imul, 1) := by decide +kernel
theorem dX7_isTold_71 : decode cX7_isTold 71 = .ok (.iconst 3, 1) := by decide +kernel
theorem dX7_isTold_72 : decode cX7_isTold 72 = .ok (.iadd, 1) := by decide +kernel
theorem dX7_isTold_73 : decode cX7_isTold 73 = .ok (.iaload, 1) := by decide +kernel
theorem dX7_isTold_74 : decode cX7_isTold 74 = .ok (.iload 4, 2) := by decide +kernel
theorem dX7_isTold_76 : decode cX7_isTold 76 = .ok (.if_icmp .ne 7, 3) := by decide +kernel
theorem dX7_isTold_79 : decode cX7_isTold 79 = .ok (.iconst 1, 1) := by decide +kernel
theorem dX7_isTold_80 : decode cX7_isTold 80 = .ok (.goto 4, 3) := by decide +kernel
theorem dX7_isTold_83 : decode cX7_isTold 83 = .ok (.iconst 0, 1) := by decide +kernel
theorem dX7_isTold_84 : decode cX7_isTold 84 = .ok (.istore 5, 2) := by decide +kernel
theorem dX7_isTold_86 : decode cX7_isTold 86 = .ok (.iinc 6 1, 3) := by decide +kernel
theorem dX7_isTold_89 : decode cX7_isTold 89 = .ok (.goto (-83), 3) := by decide +kernel
theorem dX7_isTold_92 : decode cX7_isTold 92 = .ok (.iload 5, 2) := by decide +kernel
theorem dX7_isTold_94 : decode cX7_isTold 94 = .ok (.ireturn, 1) := by decide +kernel
noncomputable def f_X7_isTold_b6 (l1 : Int32) (l2 : Int32) (l3 : Int32) (l4 : Int32) (mem : Mem) (q : Int32 × Int32) : Option ((Int32 × Int32) ⊕ (Int32 × Int32)) :=
  if (mem 62 5) ≤ q.2 then (some (.inr (q.1, q.2))) else (if q.1 = 0 then (rd (mem 67) 36 (4 * q.2) fun v28 => if v28 = l1 then (rd (mem 67) 36 ((4 * q.2) + 1) fun v43 => if v43 = l2 then (rd (mem 67) 36 ((4 * q.2) + 2) fun v58 => if v58 = l3 then (rd (mem 67) 36 ((4 * q.2) + 3) fun v73 => if v73 = l4 then (lt' (q.2 + 1) fun v86 => some (.inl (1, v86))) else (lt' (q.2 + 1) fun v86 => some (.inl (0, v86)))) else (lt' (q.2 + 1) fun v86 => some (.inl (0, v86)))) else (lt' (q.2 + 1) fun v86 => some (.inl (0, v86)))) else (lt' (q.2 + 1) fun v86 => some (.inl (0, v86)))) else (lt' (q.2 + 1) fun v86 => some (.inl (1, v86))))
noncomputable def f_X7_isTold (l1 : Int32) (l2 : Int32) (l3 : Int32) (l4 : Int32) (mem : Mem) : Option (Int32) :=
  ob (lp (f_X7_isTold_b6 l1 l2 l3 l4 mem) FU (0, 0)) fun q6 => bk q6.1 (some q6.1)
def P_X7_isTold_6 (E : Ex) (κ : Kx) (ad : Nat → Nat) (lay : List Ent) (l1 : Int32) (l2 : Int32) (l3 : Int32) (l4 : Int32) (mem : Mem) : (Int32 × Int32) ⊕ (Int32 × Int32) → Prop
  | .inl q => Gw E κ 7 0 0 6 [some (.ref (ad 62)), some (.int l1), some (.int l2), some (.int l3), some (.int l4), some (.int q.1), some (.int q.2)] [] ad lay mem
  | .inr q => Gw E κ 7 0 0 92 [none, none, none, none, none, some (.int q.1), none] [] ad lay mem
set_option maxRecDepth 100000 in
set_option maxHeartbeats 4000000 in
theorem b_X7_isTold_6 {E : Ex} {κ : Kx} {ad : Nat → Nat} {sh sp : Nat} {d : Nat} (C : Cx E κ cX7_isTold RX7 7 (some .boolean) d) (hd : 0 ≤ d)  {l1 : Int32} {l2 : Int32} {l3 : Int32} {l4 : Int32} {mem : Mem} {q : Int32 × Int32} {x : (Int32 × Int32) ⊕ (Int32 × Int32)} (h : f_X7_isTold_b6 l1 l2 l3 l4 mem q = some x) (hP : (P_X7_isTold_6 E κ ad (LC sh sp ++ LM) l1 l2 l3 l4 mem) x) : Gw E κ 7 0 0 6 [some (.ref (ad 62)), some (.int l1), some (.int l2), some (.int l3), some (.int l4), some (.int q.1), some (.int q.2)] [] ad (LC sh sp ++ LM) mem := by
  unfold f_X7_isTold_b6 at h
  refine g_iload (pc := 6) (i := 6) (x := q.2) C dX7_isTold_6 rfl ?_
  refine g_aload_n (pc := 8) (i := 0) (x := ad 62) C dX7_isTold_8 rfl rfl ?_
  refine g_get (pc := 9) (v := .int (mem 62 5)) C ok_X7 5 (by decide) wf_X7_113 dX7_isTold_9 la_62 rfl ?_
  rcases ite_some' h with ⟨hc12, h⟩ | ⟨hc12, h⟩
  · refine g_icmp_ge_t (pc := 12) C 92 dX7_isTold_12 (by decide) hc12 ?_
    refine g_mask (lv' := [none, none, none, none, none, some (.int q.1), none]) [false, false, false, false, false, true, false] rfl ?_
    cases h
    exact hP
  · refine g_icmp_ge_f (pc := 12) C 92 dX7_isTold_12 (by decide) hc12 ?_
    refine g_iload (pc := 15) (i := 5) (x := q.1) C dX7_isTold_15 rfl ?_
    rcases ite_some' h with ⟨hc17, h⟩ | ⟨hc17, h⟩
    · refine g_if_ne_f (pc := 17) C 79 dX7_isTold_17 (by decide) hc17 ?_
      refine g_aload_n (pc := 20) (i := 0) (x := ad 62) C dX7_isTold_20 rfl rfl ?_
      refine g_get (pc := 21) (v := .ref (ad 67)) C ok_X7 11 (by decide) wf_X7_22 dX7_isTold_21 la_62 rfl ?_
      refine g_iconst (pc := 24) (v := 4) C dX7_isTold_24 rfl ?_
      refine g_iload (pc := 25) (i := 6) (x := q.2) C dX7_isTold_25 rfl ?_
      refine g_imul (pc := 27) C dX7_isTold_27 ?_
      obtain ⟨v28, hv28, hi28, h⟩ := rd_some h
      refine g_iald (pc := 28) C dX7_isTold_28 la_67 hi28 ?_
      refine g_topi hv28 ?_
      refine g_iload_n (pc := 29) (i := 1) (x := l1) C dX7_isTold_29 rfl rfl ?_
      rcases ite_some' h with ⟨hc30, h⟩ | ⟨hc30, h⟩
      · refine g_icmp_ne_f (pc := 30) C 83 dX7_isTold_30 (by decide) hc30 ?_
        refine g_aload_n (pc := 33) (i := 0) (x := ad 62) C dX7_isTold_33 rfl rfl ?_
        refine g_get (pc := 34) (v := .ref (ad 67)) C ok_X7 11 (by decide) wf_X7_22 dX7_isTold_34 la_62 rfl ?_
        refine g_iconst (pc := 37) (v := 4) C dX7_isTold_37 rfl ?_
        refine g_iload (pc := 38) (i := 6) (x := q.2) C dX7_isTold_38 rfl ?_
        refine g_imul (pc := 40) C dX7_isTold_40 ?_
        refine g_iconst (pc := 41) (v := 1) C dX7_isTold_41 rfl ?_
        refine g_iadd (pc := 42) C dX7_isTold_42 ?_
        obtain ⟨v43, hv43, hi43, h⟩ := rd_some h
        refine g_iald (pc := 43) C dX7_isTold_43 la_67 hi43 ?_
        refine g_topi hv43 ?_
        refine g_iload_n (pc := 44) (i := 2) (x := l2) C dX7_isTold_44 rfl rfl ?_
        rcases ite_some' h with ⟨hc45, h⟩ | ⟨hc45, h⟩
        · refine g_icmp_ne_f (pc := 45) C 83 dX7_isTold_45 (by decide) hc45 ?_
          refine g_aload_n (pc := 48) (i := 0) (x := ad 62) C dX7_isTold_48 rfl rfl ?_
          refine g_get (pc := 49) (v := .ref (ad 67)) C ok_X7 11 (by decide) wf_X7_22 dX7_isTold_49 la_62 rfl ?_
          refine g_iconst (pc := 52) (v := 4) C dX7_isTold_52 rfl ?_
          refine g_iload (pc := 53) (i := 6) (x := q.2) C dX7_isTold_53 rfl ?_
          refine g_imul (pc := 55) C dX7_isTold_55 ?_
          refine g_iconst (pc := 56) (v := 2) C dX7_isTold_56 rfl ?_
          refine g_iadd (pc := 57) C dX7_isTold_57 ?_
          obtain ⟨v58, hv58, hi58, h⟩ := rd_some h
          refine g_iald (pc := 58) C dX7_isTold_58 la_67 hi58 ?_
          refine g_topi hv58 ?_
          refine g_iload_n (pc := 59) (i := 3) (x := l3) C dX7_isTold_59 rfl rfl ?_
          rcases ite_some' h with ⟨hc60, h⟩ | ⟨hc60, h⟩
          · refine g_icmp_ne_f (pc := 60) C 83 dX7_isTold_60 (by decide) hc60 ?_
            refine g_aload_n (pc := 63) (i := 0) (x := ad 62) C dX7_isTold_63 rfl rfl ?_
            refine g_get (pc := 64) (v := .ref (ad 67)) C ok_X7 11 (by decide) wf_X7_22 dX7_isTold_64 la_62 rfl ?_
            refine g_iconst (pc := 67) (v := 4) C dX7_isTold_67 rfl ?_
            refine g_iload (pc := 68) (i := 6) (x := q.2) C dX7_isTold_68 rfl ?_
            refine g_imul (pc := 70) C dX7_isTold_70 ?_
            refine g_iconst (pc := 71) (v := 3) C dX7_isTold_71 rfl ?_
            refine g_iadd (pc := 72) C dX7_isTold_72 ?_
            obtain ⟨v73, hv73, hi73, h⟩ := rd_some h
            refine g_iald (pc := 73) C dX7_isTold_73 la_67 hi73 ?_
            refine g_topi hv73 ?_
            refine g_iload (pc := 74) (i := 4) (x := l4) C dX7_isTold_74 rfl ?_
            rcases ite_some' h with ⟨hc76, h⟩ | ⟨hc76, h⟩
            · refine g_icmp_ne_f (pc := 76) C 83 dX7_isTold_76 (by decide) hc76 ?_
              refine g_iconst (pc := 79) (v := 1) C dX7_isTold_79 rfl ?_
              refine g_goto (pc := 80) C 84 dX7_isTold_80 (by decide) ?_
              refine g_istore (pc := 84) (i := 5) (lv' := [some (.ref (ad 62)), some (.int l1), some (.int l2), some (.int l3), some (.int l4), some (.int 1), some (.int q.2)]) C dX7_isTold_84 (by decide) rfl rfl ?_
              obtain ⟨v86, hv86, h⟩ := lt_some h
              refine g_iinc (pc := 86) (i := 6) (x := q.2) (v := v86) (lv' := [some (.ref (ad 62)), some (.int l1), some (.int l2), some (.int l3), some (.int l4), some (.int 1), some (.int v86)]) C dX7_isTold_86 rfl hv86.symm (by decide) rfl rfl ?_
              refine g_goto (pc := 89) C 6 dX7_isTold_89 (by decide) ?_
              cases h
              exact hP
            · refine g_icmp_ne_t (pc := 76) C 83 dX7_isTold_76 (by decide) hc76 ?_
              refine g_iconst (pc := 83) (v := 0) C dX7_isTold_83 rfl ?_
              refine g_istore (pc := 84) (i := 5) (lv' := [some (.ref (ad 62)), some (.int l1), some (.int l2), some (.int l3), some (.int l4), some (.int 0), some (.int q.2)]) C dX7_isTold_84 (by decide) rfl rfl ?_
              obtain ⟨v86, hv86, h⟩ := lt_some h
              refine g_iinc (pc := 86) (i := 6) (x := q.2) (v := v86) (lv' := [some (.ref (ad 62)), some (.int l1), some (.int l2), some (.int l3), some (.int l4), some (.int 0), some (.int v86)]) C dX7_isTold_86 rfl hv86.symm (by decide) rfl rfl ?_
              refine g_goto (pc := 89) C 6 dX7_isTold_89 (by decide) ?_
              cases h
              exact hP
          · refine g_icmp_ne_t (pc := 60) C 83 dX7_isTold_60 (by decide) hc60 ?_
            refine g_iconst (pc := 83) (v := 0) C dX7_isTold_83 rfl ?_
            refine g_istore (pc := 84) (i := 5) (lv' := [some (.ref (ad 62)), some (.int l1), some (.int l2), some (.int l3), some (.int l4), some (.int 0), some (.int q.2)]) C dX7_isTold_84 (by decide) rfl rfl ?_
            obtain ⟨v86, hv86, h⟩ := lt_some h
            refine g_iinc (pc := 86) (i := 6) (x := q.2) (v := v86) (lv' := [some (.ref (ad 62)), some (.int l1), some (.int l2), some (.int l3), some (.int l4), some (.int 0), some (.int v86)]) C dX7_isTold_86 rfl hv86.symm (by decide) rfl rfl ?_
            refine g_goto (pc := 89) C 6 dX7_isTold_89 (by decide) ?_
            cases h
            exact hP
        · refine g_icmp_ne_t (pc := 45) C 83 dX7_isTold_45 (by decide) hc45 ?_
          refine g_iconst (pc := 83) (v := 0) C dX7_isTold_83 rfl ?_
          refine g_istore (pc := 84) (i := 5) (lv' := [some (.ref (ad 62)), some (.int l1), some (.int l2), some (.int l3), some (.int l4), some (.int 0), some (.int q.2)]) C dX7_isTold_84 (by decide) rfl rfl ?_
          obtain ⟨v86, hv86, h⟩ := lt_some h
          refine g_iinc (pc := 86) (i := 6) (x := q.2) (v := v86) (lv' := [some (.ref (ad 62)), some (.int l1), some (.int l2), some (.int l3), some (.int l4), some (.int 0), some (.int v86)]) C dX7_isTold_86 rfl hv86.symm (by decide) rfl rfl ?_
          refine g_goto (pc := 89) C 6 dX7_isTold_89 (by decide) ?_
          cases h
          exact hP
      · refine g_icmp_ne_t (pc := 30) C 83 dX7_isTold_30 (by decide) hc30 ?_
        refine g_iconst (pc := 83) (v := 0) C dX7_isTold_83 rfl ?_
        refine g_istore (pc := 84) (i := 5) (lv' := [some (.ref (ad 62)), some (.int l1), some (.int l2), some (.int l3), some (.int l4), some (.int 0), some (.int q.2)]) C dX7_isTold_84 (by decide) rfl rfl ?_
        obtain ⟨v86, hv86, h⟩ := lt_some h
        refine g_iinc (pc := 86) (i := 6) (x := q.2) (v := v86) (lv' := [some (.ref (ad 62)), some (.int l1), some (.int l2), some (.int l3), some (.int l4), some (.int 0), some (.int v86)]) C dX7_isTold_86 rfl hv86.symm (by decide) rfl rfl ?_
        refine g_goto (pc := 89) C 6 dX7_isTold_89 (by decide) ?_
        cases h
        exact hP
    · refine g_if_ne_t (pc := 17) C 79 dX7_isTold_17 (by decide) hc17 ?_
      refine g_iconst (pc := 79) (v := 1) C dX7_isTold_79 rfl ?_
      refine g_goto (pc := 80) C 84 dX7_isTold_80 (by decide) ?_
      refine g_istore (pc := 84) (i := 5) (lv' := [some (.ref (ad 62)), some (.int l1), some (.int l2), some (.int l3), some (.int l4), some (.int 1), some (.int q.2)]) C dX7_isTold_84 (by decide) rfl rfl ?_
      obtain ⟨v86, hv86, h⟩ := lt_some h
      refine g_iinc (pc := 86) (i := 6) (x := q.2) (v := v86) (lv' := [some (.ref (ad 62)), some (.int l1), some (.int l2), some (.int l3), some (.int l4), some (.int 1), some (.int v86)]) C dX7_isTold_86 rfl hv86.symm (by decide) rfl rfl ?_
      refine g_goto (pc := 89) C 6 dX7_isTold_89 (by decide) ?_
      cases h
      exact hP
set_option maxRecDepth 100000 in
set_option maxHeartbeats 4000000 in
theorem m_X7_isTold {E : Ex} {ad : Nat → Nat} {sh sp : Nat} {d : Nat} (hd : 0 ≤ d)  {l1 : Int32} {l2 : Int32} {l3 : Int32} {l4 : Int32} {mem : Mem} {r : Int32} (h : f_X7_isTold l1 l2 l3 l4 mem = some r) : Cl E yX7_isTold cX7_isTold 7 (some .boolean) d [.ref (ad 62), .int l1, .int l2, .int l3, .int l4] (some (.int r)) ad (LC sh sp ++ LM) mem (LC sh sp ++ LM) mem := by
  refine Cl.of [some (.ref (ad 62)), some (.int l1), some (.int l2), some (.int l3), some (.int l4), none, none] (by decide +kernel) rfl (Nat.le_of_ble_eq_true rfl) (fun κ C hP => ?_)
  have C : Cx E κ cX7_isTold RX7 7 (some .boolean) d := C
  unfold f_X7_isTold at h
  refine g_iconst (pc := 0) (v := 0) C dX7_isTold_0 rfl ?_
  refine g_istore (pc := 1) (i := 5) (lv' := [some (.ref (ad 62)), some (.int l1), some (.int l2), some (.int l3), some (.int l4), some (.int 0), none]) C dX7_isTold_1 (by decide) rfl rfl ?_
  refine g_iconst (pc := 3) (v := 0) C dX7_isTold_3 rfl ?_
  refine g_istore (pc := 4) (i := 6) (lv' := [some (.ref (ad 62)), some (.int l1), some (.int l2), some (.int l3), some (.int l4), some (.int 0), some (.int 0)]) C dX7_isTold_4 (by decide) rfl rfl ?_
  obtain ⟨q6, hq, h⟩ := ob_some h
  refine lp_gw (P_X7_isTold_6 E κ ad (LC sh sp ++ LM) l1 l2 l3 l4 mem) (fun q x hb hp => b_X7_isTold_6 C hd hb hp) _ (0, 0) _ hq ?_
  show Gw E κ 7 0 0 92 [none, none, none, none, none, some (.int q6.1), none] [] ad (LC sh sp ++ LM) mem
  refine g_iload (pc := 92) (i := 5) (x := q6.1) C dX7_isTold_92 rfl ?_
  obtain ⟨hb94, h⟩ := bk_some h
  cases h
  exact g_iret (pc := 94) C hP rfl (nb01 hb94).1 dX7_isTold_94

theorem dX7_readsWord_0 : decode cX7_readsWord 0 = .ok (.iconst 0, 1) := by decide +kernel
theorem dX7_readsWord_1 : decode cX7_readsWord 1 = .ok (.istore_n 1, 1) := by decide +kernel
theorem dX7_readsWord_2 : decode cX7_readsWord 2 = .ok (.iconst 0, 1) := by decide +kernel
theorem dX7_readsWord_3 : decode cX7_readsWord 3 = .ok (.istore_n 2, 1) := by decide +kernel
theorem dX7_readsWord_4 : decode cX7_readsWord 4 = .ok (.iload_n 2, 1) := by decide +kernel
theorem dX7_readsWord_5 : decode cX7_readsWord 5 = .ok (.iconst 4, 1) := by decide +kernel
theorem dX7_readsWord_6 : decode cX7_readsWord 6 = .ok (.if_icmp .ge 16, 3) := by decide +kernel
theorem dX7_readsWord_9 : decode cX7_readsWord 9 = .ok (.aload_n 0, 1) := by decide +kernel
theorem dX7_readsWord_10 : decode cX7_readsWord 10 = .ok (.getfield 28, 3) := by decide +kernel
theorem dX7_readsWord_13 : decode cX7_readsWord 13 = .ok (.iload_n 2, 1) := by decide +kernel
theorem dX7_readsWord_14 : decode cX7_readsWord 14 = .ok (.iconst 0, 1) := by decide +kernel
theorem dX7_readsWord_15 : decode cX7_readsWord 15 = .ok (.iastore, 1) := by decide +kernel
theorem dX7_readsWord_16 : decode cX7_readsWord 16 = .ok (.iinc 2 1, 3) := by decide +kernel
theorem dX7_readsWord_19 : decode cX7_readsWord 19 = .ok (.goto (-15), 3) := by decide +kernel
theorem dX7_readsWord_22 : decode cX7_readsWord 22 = .ok (.aload_n 0, 1) := by decide +kernel
theorem dX7_readsWord_23 : decode cX7_readsWord 23 = .ok (.invokevirtual 133, 3) := by decide +kernel
theorem dX7_readsWord_26 : decode cX7_readsWord 26 = .ok (.bipush 97, 2) := by decide +kernel
theorem dX7_readsWord_28 : decode cX7_readsWord 28 = .ok (.bipush 102, 2) := by decide +kernel
theorem dX7_readsWord_30 : decode cX7_readsWord 30 = .ok (.invokestatic 123, 3) := by decide +kernel
theorem dX7_readsWord_33 : decode cX7_readsWord 33 = .ok (.ifCond .eq 39, 3) := by decide +kernel
theorem dX7_readsWord_36 : decode cX7_readsWord 36 = .ok (.iload_n 1, 1) := by decide +kernel
theorem dX7_readsWord_37 : decode cX7_readsWord 37 = .ok (.iconst 4, 1) := by decide +kernel
theorem dX7_readsWord_38 : decode cX7_readsWord 38 = .ok (.if_icmp .ge 34, 3) := by decide +kernel
theorem dX7_readsWord_41 : decode cX7_readsWord 41 = .ok (.aload_n 0, 1) := by decide +kernel
theorem dX7_readsWord_42 : decode cX7_readsWord 42 = .ok (.getfield 28, 3) := by decide +kernel
theorem dX7_readsWord_45 : decode cX7_readsWord 45 = .ok (.iload_n 1, 1) := by decide +kernel
theorem dX7_readsWord_46 : decode cX7_readsWord 46 = .ok (.aload_n 0, 1) := by decide +kernel
theorem dX7_readsWord_47 : decode cX7_readsWord 47 = .ok (.invokevirtual 133, 3) := by decide +kernel
theorem dX7_readsWord_50 : decode cX7_readsWord 50 = .ok (.bipush 97, 2) := by decide +kernel
theorem dX7_readsWord_52 : decode cX7_readsWord 52 = .ok (.isub, 1) := by decide +kernel
theorem dX7_readsWord_53 : decode cX7_readsWord 53 = .ok (.iconst 1, 1) := by decide +kernel
theorem dX7_readsWord_54 : decode cX7_readsWord 54 = .ok (.iadd, 1) := by decide +kernel
theorem dX7_readsWord_55 : decode cX7_readsWord 55 = .ok (.iastore, 1) := by decide +kernel
theorem dX7_readsWord_56 : decode cX7_readsWord 56 = .ok (.iinc 1 1, 3) := by decide +kernel
theorem dX7_readsWord_59 : decode cX7_readsWord 59 = .ok (.aload_n 0, 1) := by decide +kernel
theorem dX7_readsWord_60 : decode cX7_readsWord 60 = .ok (.dup, 1) := by decide +kernel
theorem dX7_readsWord_61 : decode cX7_readsWord 61 = .ok (.getfield 130, 3) := by decide +kernel
theorem dX7_readsWord_64 : decode cX7_readsWord 64 = .ok (.iconst 1, 1) := by decide +kernel
theorem dX7_readsWord_65 : decode cX7_readsWord 65 = .ok (.iadd, 1) := by decide +kernel
theorem dX7_readsWord_66 : decode cX7_readsWord 66 = .ok (.putfield 130, 3) := by decide +kernel
theorem dX7_readsWord_69 : decode cX7_readsWord 69 = .ok (.goto (-47), 3) := by decide +kernel
theorem dX7_readsWord_72 : decode cX7_readsWord 72 = .ok (.iload_n 1, 1) := by decide +kernel
theorem dX7_readsWord_73 : decode cX7_readsWord 73 = .ok (.iconst 2, 1) := by decide +kernel
theorem dX7_readsWord_74 : decode cX7_readsWord 74 = .ok (.if_icmp .lt 43, 3) := by decide +kernel
theorem dX7_readsWord_77 : decode cX7_readsWord 77 = .ok (.aload_n 0, 1) := by decide +kernel
theorem dX7_readsWord_78 : decode cX7_readsWord 78 = .ok (.getfield 113, 3) := by decide +kernel
theorem dX7_readsWord_81 : decode cX7_readsWord 81 = .ok (.bipush 9, 2) := by decide +kernel
theorem dX7_readsWord_83 : decode cX7_readsWord 83 = .ok (.if_icmp .eq 34, 3) := by decide +kernel
theorem dX7_readsWord_86 : decode cX7_readsWord 86 = .ok (.aload_n 0, 1) := by decide +kernel
theorem dX7_readsWord_87 : decode cX7_readsWord 87 = .ok (.aload_n 0, 1) := by decide +kernel
theorem dX7_readsWord_88 : decode cX7_readsWord 88 = .ok (.getfield 28, 3) := by decide +kernel
theorem dX7_readsWord_91 : decode cX7_readsWord 91 = .ok (.iconst 0, 1) := by decide +kernel
theorem dX7_readsWord_92 : decode cX7_readsWord 92 = .ok (.iaload, 1) := by decide +kernel
theorem dX7_readsWord_93 : decode cX7_readsWord 93 = .ok (.aload_n 0, 1) := by decide +kernel
theorem dX7_readsWord_94 : decode cX7_readsWord 94 = .ok (.getfield 28, 3) := by decide +kernel
theorem dX7_readsWord_97 : decode cX7_readsWord 97 = .ok (.iconst 1, 1) := by decide +kernel
theorem dX7_readsWord_98 : decode cX7_readsWord 98 = .ok (.iaload, 1) := by decide +kernel
theorem dX7_readsWord_99 : decode cX7_readsWord 99 = .ok (.aload_n 0, 1) := by decide +kernel
theorem dX7_readsWord_100 : decode cX7_readsWord 100 = .ok (.getfield 28, 3) := by decide +kernel
theorem dX7_readsWord_103 : decode cX7_readsWord 103 = .ok (.iconst 2, 1) := by decide +kernel
theorem dX7_readsWord_104 : decode cX7_readsWord 104 = .ok (.iaload, 1) := by decide +kernel
theorem dX7_readsWord_105 : decode cX7_readsWord 105 = .ok (.aload_n 0, 1) := by decide +kernel
theorem dX7_readsWord_106 : decode cX7_readsWord 106 = .ok (.getfield 28, 3) := by decide +kernel
theorem dX7_readsWord_109 : decode cX7_readsWord 109 = .ok (.iconst 3, 1) := by decide +kernel
theorem dX7_readsWord_110 : decode cX7_readsWord 110 = .ok (.iaload, 1) := by decide +kernel
theorem dX7_readsWord_111 : decode cX7_readsWord 111 = .ok (.invokevirtual 145, 3) := by decide +kernel
theorem dX7_readsWord_114 : decode cX7_readsWord 114 = .ok (.ifCond .eq 5, 3) := by decide +kernel
theorem dX7_readsWord_117 : decode cX7_readsWord 117 = .ok (.iconst 0, 1) := by decide +kernel
theorem dX7_readsWord_118 : decode cX7_readsWord 118 = .ok (.ireturn, 1) := by decide +kernel
theorem dX7_readsWord_119 : decode cX7_readsWord 119 = .ok (.aload_n 0, 1) := by decide +kernel
theorem dX7_readsWord_120 : decode cX7_readsWord 120 = .ok (.aload_n 0, 1) := by decide +kernel
theorem dX7_readsWord_121 : decode cX7_readsWord 121 = .ok (.getfield 28, 3) := by decide +kernel
theorem dX7_readsWord_124 : decode cX7_readsWord 124 = .ok (.iconst 0, 1) := by decide +kernel
theorem dX7_readsWord_125 : decode cX7_readsWord 125 = .ok (.iaload, 1) := by decide +kernel
theorem dX7_readsWord_126 : decode cX7_readsWord 126 = .ok (.aload_n 0, 1) := by decide +kernel
theorem dX7_readsWord_127 : decode cX7_readsWord 127 = .ok (.getfield 28, 3) := by decide +kernel
theorem dX7_readsWord_130 : decode cX7_readsWord 130 = .ok (.iconst 1, 1) := by decide +kernel
theorem dX7_readsWord_131 : decode cX7_readsWord 131 = .ok (.iaload, 1) := by decide +kernel
theorem dX7_readsWord_132 : decode cX7_readsWord 132 = .ok (.aload_n 0, 1) := by decide +kernel
theorem dX7_readsWord_133 : decode cX7_readsWord 133 = .ok (.getfield 28, 3) := by decide +kernel
theorem dX7_readsWord_136 : decode cX7_readsWord 136 = .ok (.iconst 2, 1) := by decide +kernel
theorem dX7_readsWord_137 : decode cX7_readsWord 137 = .ok (.iaload, 1) := by decide +kernel
theorem dX7_readsWord_138 : decode cX7_readsWord 138 = .ok (.aload_n 0, 1) := by decide +kernel
theorem dX7_readsWord_139 : decode cX7_readsWord 139 = .ok (.getfield 28, 3) := by decide +kernel
theorem dX7_readsWord_142 : decode cX7_readsWord 142 = .ok (.iconst 3, 1) := by decide +kernel
theorem dX7_readsWord_143 : decode cX7_readsWord 143 = .ok (.iaload, 1) := by decide +kernel
theorem dX7_readsWord_144 : decode cX7_readsWord 144 = .ok (.invokevirtual 95, 3) := by decide +kernel
theorem dX7_readsWord_147 : decode cX7_readsWord 147 = .ok (.iconst 1, 1) := by decide +kernel
theorem dX7_readsWord_148 : decode cX7_readsWord 148 = .ok (.ireturn, 1) := by decide +kernel
noncomputable def f_X7_readsWord_b4 (l1 : Int32) (q : Int32 × Mem) : Option ((Int32 × Mem) ⊕ (Int32 × Mem)) :=
  if 4 ≤ q.1 then (some (.inr (q.1, q.2))) else (wr q.2 69 4 q.1 0 fun m15 => lt' (q.1 + 1) fun v16 => some (.inl (v16, m15)))
noncomputable def f_X7_readsWord_b22 (q : Int32 × Mem) : Option ((Int32 × Mem) ⊕ (Int32 × Mem)) :=
  ob (f_X7_here q.2) fun r23 => ob (f_X7_in r23 97 102) fun r30 => if r30 = 0 then (some (.inr (q.1, q.2))) else (if 4 ≤ q.1 then (some (.inr (q.1, q.2))) else (ob (f_X7_here q.2) fun r47 => wr q.2 69 4 q.1 ((r47 - 97) + 1) fun m55 => lt' (q.1 + 1) fun v56 => lt' (mset m55 62 2 ((m55 62 2) + 1)) fun m66 => some (.inl (v56, m66))))
noncomputable def f_X7_readsWord_j72 (l1 : Int32) (mem : Mem) : Option (Int32 × Mem) :=
  if l1 < 2 then (some (0, mem)) else (if (mem 62 5) = 9 then (some (0, mem)) else (rd (mem 69) 4 0 fun v92 => rd (mem 69) 4 1 fun v98 => rd (mem 69) 4 2 fun v104 => rd (mem 69) 4 3 fun v110 => ob (f_X7_isTold v92 v98 v104 v110 mem) fun r111 => if r111 = 0 then (rd (mem 69) 4 0 fun v125 => rd (mem 69) 4 1 fun v131 => rd (mem 69) 4 2 fun v137 => rd (mem 69) 4 3 fun v143 => ob (f_X7_spells v125 v131 v137 v143 mem) fun m144 => some (1, m144)) else (some (0, mem))))
noncomputable def f_X7_readsWord  (mem : Mem) : Option (Int32 × Mem) :=
  ob (lp (f_X7_readsWord_b4 0) FU (0, mem)) fun q4 => ob (lp f_X7_readsWord_b22 FU (0, q4.2)) fun q22 => f_X7_readsWord_j72 q22.1 q22.2
def P_X7_readsWord_4 (E : Ex) (κ : Kx) (ad : Nat → Nat) (lay : List Ent) (l1 : Int32) : (Int32 × Mem) ⊕ (Int32 × Mem) → Prop
  | .inl q => Gw E κ 3 0 0 4 [some (.ref (ad 62)), some (.int l1), some (.int q.1)] [] ad lay q.2
  | .inr q => Gw E κ 3 0 0 22 [some (.ref (ad 62)), some (.int l1), none] [] ad lay q.2
def P_X7_readsWord_22 (E : Ex) (κ : Kx) (ad : Nat → Nat) (lay : List Ent) : (Int32 × Mem) ⊕ (Int32 × Mem) → Prop
  | .inl q => Gw E κ 3 0 0 22 [some (.ref (ad 62)), some (.int q.1), none] [] ad lay q.2
  | .inr q => Gw E κ 3 0 0 72 [some (.ref (ad 62)), some (.int q.1), none] [] ad lay q.2
set_option maxRecDepth 100000 in
set_option maxHeartbeats 4000000 in
theorem b_X7_readsWord_4 {E : Ex} {κ : Kx} {ad : Nat → Nat} {sh sp : Nat} {d : Nat} (C : Cx E κ cX7_readsWord RX7 3 (some .boolean) d) (hd : 1 ≤ d)  {l1 : Int32} {q : Int32 × Mem} {x : (Int32 × Mem) ⊕ (Int32 × Mem)} (h : f_X7_readsWord_b4 l1 q = some x) (hP : (P_X7_readsWord_4 E κ ad (LC sh sp ++ LM) l1) x) : Gw E κ 3 0 0 4 [some (.ref (ad 62)), some (.int l1), some (.int q.1)] [] ad (LC sh sp ++ LM) q.2 := by
  unfold f_X7_readsWord_b4 at h
  refine g_iload_n (pc := 4) (i := 2) (x := q.1) C dX7_readsWord_4 rfl rfl ?_
  refine g_iconst (pc := 5) (v := 4) C dX7_readsWord_5 rfl ?_
  rcases ite_some' h with ⟨hc6, h⟩ | ⟨hc6, h⟩
  · refine g_icmp_ge_t (pc := 6) C 22 dX7_readsWord_6 (by decide) hc6 ?_
    refine g_mask (lv' := [some (.ref (ad 62)), some (.int l1), none]) [true, true, false] rfl ?_
    cases h
    exact hP
  · refine g_icmp_ge_f (pc := 6) C 22 dX7_readsWord_6 (by decide) hc6 ?_
    refine g_aload_n (pc := 9) (i := 0) (x := ad 62) C dX7_readsWord_9 rfl rfl ?_
    refine g_get (pc := 10) (v := .ref (ad 69)) C ok_X7 13 (by decide) wf_X7_28 dX7_readsWord_10 la_62 rfl ?_
    refine g_iload_n (pc := 13) (i := 2) (x := q.1) C dX7_readsWord_13 rfl rfl ?_
    refine g_iconst (pc := 14) (v := 0) C dX7_readsWord_14 rfl ?_
    obtain ⟨m15, hm15, hi15, h⟩ := wr_some h
    refine g_iast (pc := 15) C dX7_readsWord_15 la_69 hi15 ?_
    refine g_mem hm15 ?_
    obtain ⟨v16, hv16, h⟩ := lt_some h
    refine g_iinc (pc := 16) (i := 2) (x := q.1) (v := v16) (lv' := [some (.ref (ad 62)), some (.int l1), some (.int v16)]) C dX7_readsWord_16 rfl hv16.symm (by decide) rfl rfl ?_
    refine g_goto (pc := 19) C 4 dX7_readsWord_19 (by decide) ?_
    cases h
    exact hP
set_option maxRecDepth 100000 in
set_option maxHeartbeats 4000000 in
theorem b_X7_readsWord_22 {E : Ex} {κ : Kx} {ad : Nat → Nat} {sh sp : Nat} {d : Nat} (C : Cx E κ cX7_readsWord RX7 3 (some .boolean) d) (hd : 1 ≤ d)  {q : Int32 × Mem} {x : (Int32 × Mem) ⊕ (Int32 × Mem)} (h : f_X7_readsWord_b22  q = some x) (hP : (P_X7_readsWord_22 E κ ad (LC sh sp ++ LM) ) x) : Gw E κ 3 0 0 22 [some (.ref (ad 62)), some (.int q.1), none] [] ad (LC sh sp ++ LM) q.2 := by
  unfold f_X7_readsWord_b22 at h
  refine g_aload_n (pc := 22) (i := 0) (x := ad 62) C dX7_readsWord_22 rfl rfl ?_
  obtain ⟨r23, hcall23, h⟩ := ob_some h
  refine g_callV (pc := 23) C ce0 mi_X7_here mv_X7_here wm_X7_133 dX7_readsWord_23 ok_X7 [] [] la_62 (by omega) rfl rfl (Nat.le_of_ble_eq_true rfl) (m_X7_here (d := d - 1) (by omega)  hcall23) ?_
  show Gw E κ 3 0 0 26 [some (.ref (ad 62)), some (.int q.1), none] [.int r23] ad (LC sh sp ++ LM) q.2
  refine g_bipush (pc := 26) (v := 97) C dX7_readsWord_26 rfl ?_
  refine g_bipush (pc := 28) (v := 102) C dX7_readsWord_28 rfl ?_
  obtain ⟨r30, hcall30, h⟩ := ob_some h
  refine g_callS (pc := 30) C ce0 mi_X7_in ms_X7_in wm_X7_123 dX7_readsWord_30 [.int r23, .int 97, .int 102] [] (by omega) rfl rfl (Nat.le_of_ble_eq_true rfl) (m_X7_in (d := d - 1) (by omega)  hcall30) ?_
  show Gw E κ 3 0 0 33 [some (.ref (ad 62)), some (.int q.1), none] [.int r30] ad (LC sh sp ++ LM) q.2
  rcases ite_some' h with ⟨hc33, h⟩ | ⟨hc33, h⟩
  · refine g_if_eq_t (pc := 33) C 72 dX7_readsWord_33 (by decide) hc33 ?_
    cases h
    exact hP
  · refine g_if_eq_f (pc := 33) C 72 dX7_readsWord_33 (by decide) hc33 ?_
    refine g_iload_n (pc := 36) (i := 1) (x := q.1) C dX7_readsWord_36 rfl rfl ?_
    refine g_iconst (pc := 37) (v := 4) C dX7_readsWord_37 rfl ?_
    rcases ite_some' h with ⟨hc38, h⟩ | ⟨hc38, h⟩
    · refine g_icmp_ge_t (pc := 38) C 72 dX7_readsWord_38 (by decide) hc38 ?_
      cases h
      exact hP
    · refine g_icmp_ge_f (pc := 38) C 72 dX7_readsWord_38 (by decide) hc38 ?_
      refine g_aload_n (pc := 41) (i := 0) (x := ad 62) C dX7_readsWord_41 rfl rfl ?_
      refine g_get (pc := 42) (v := .ref (ad 69)) C ok_X7 13 (by decide) wf_X7_28 dX7_readsWord_42 la_62 rfl ?_
      refine g_iload_n (pc := 45) (i := 1) (x := q.1) C dX7_readsWord_45 rfl rfl ?_
      refine g_aload_n (pc := 46) (i := 0) (x := ad 62) C dX7_readsWord_46 rfl rfl ?_
      obtain ⟨r47, hcall47, h⟩ := ob_some h
      refine g_callV (pc := 47) C ce0 mi_X7_here mv_X7_here wm_X7_133 dX7_readsWord_47 ok_X7 [] [.int q.1, .ref (ad 69)] la_62 (by omega) rfl rfl (Nat.le_of_ble_eq_true rfl) (m_X7_here (d := d - 1) (by omega)  hcall47) ?_
      show Gw E κ 3 0 0 50 [some (.ref (ad 62)), some (.int q.1), none] [.int r47, .int q.1, .ref (ad 69)] ad (LC sh sp ++ LM) q.2
      refine g_bipush (pc := 50) (v := 97) C dX7_readsWord_50 rfl ?_
      refine g_isub (pc := 52) C dX7_readsWord_52 ?_
      refine g_iconst (pc := 53) (v := 1) C dX7_readsWord_53 rfl ?_
      refine g_iadd (pc := 54) C dX7_readsWord_54 ?_
      obtain ⟨m55, hm55, hi55, h⟩ := wr_some h
      refine g_iast (pc := 55) C dX7_readsWord_55 la_69 hi55 ?_
      refine g_mem hm55 ?_
      obtain ⟨v56, hv56, h⟩ := lt_some h
      refine g_iinc (pc := 56) (i := 1) (x := q.1) (v := v56) (lv' := [some (.ref (ad 62)), some (.int v56), none]) C dX7_readsWord_56 rfl hv56.symm (by decide) rfl rfl ?_
      refine g_aload_n (pc := 59) (i := 0) (x := ad 62) C dX7_readsWord_59 rfl rfl ?_
      refine g_dup (pc := 60) C dX7_readsWord_60 rfl ?_
      refine g_get (pc := 61) (v := .int (m55 62 2)) C ok_X7 2 (by decide) wf_X7_130 dX7_readsWord_61 la_62 rfl ?_
      refine g_iconst (pc := 64) (v := 1) C dX7_readsWord_64 rfl ?_
      refine g_iadd (pc := 65) C dX7_readsWord_65 ?_
      obtain ⟨m66, hm66, h⟩ := lt_some h
      refine g_put (pc := 66) C ok_X7 2 (by decide) wf_X7_130 dX7_readsWord_66 rfl rfl la_62 ?_
      refine g_mem hm66 ?_
      refine g_goto (pc := 69) C 22 dX7_readsWord_69 (by decide) ?_
      cases h
      exact hP
set_option maxRecDepth 100000 in
set_option maxHeartbeats 4000000 in
theorem j_X7_readsWord_72 {E : Ex} {κ : Kx} {ad : Nat → Nat} {sh sp : Nat} {d : Nat} (C : Cx E κ cX7_readsWord RX7 3 (some .boolean) d) (hd : 1 ≤ d)  {l1 : Int32} {mem : Mem} {x : Int32 × Mem} (h : f_X7_readsWord_j72 l1 mem = some x) (hP : Qr E κ (some (.int x.1)) ad (LC sh sp ++ LM) x.2) : Gw E κ 3 0 0 72 [some (.ref (ad 62)), some (.int l1), none] [] ad (LC sh sp ++ LM) mem := by
  unfold f_X7_readsWord_j72 at h
  refine g_iload_n (pc := 72) (i := 1) (x := l1) C dX7_readsWord_72 rfl rfl ?_
  refine g_iconst (pc := 73) (v := 2) C dX7_readsWord_73 rfl ?_
  rcases ite_some' h with ⟨hc74, h⟩ | ⟨hc74, h⟩
  · refine g_icmp_lt_t (pc := 74) C 117 dX7_readsWord_74 (by decide) hc74 ?_
    refine g_iconst (pc := 117) (v := 0) C dX7_readsWord_117 rfl ?_
    cases h
    exact g_iret (pc := 118) C hP rfl rfl dX7_readsWord_118
  · refine g_icmp_lt_f (pc := 74) C 117 dX7_readsWord_74 (by decide) hc74 ?_
    refine g_aload_n (pc := 77) (i := 0) (x := ad 62) C dX7_readsWord_77 rfl rfl ?_
    refine g_get (pc := 78) (v := .int (mem 62 5)) C ok_X7 5 (by decide) wf_X7_113 dX7_readsWord_78 la_62 rfl ?_
    refine g_bipush (pc := 81) (v := 9) C dX7_readsWord_81 rfl ?_
    rcases ite_some' h with ⟨hc83, h⟩ | ⟨hc83, h⟩
    · refine g_icmp_eq_t (pc := 83) C 117 dX7_readsWord_83 (by decide) hc83 ?_
      refine g_iconst (pc := 117) (v := 0) C dX7_readsWord_117 rfl ?_
      cases h
      exact g_iret (pc := 118) C hP rfl rfl dX7_readsWord_118
    · refine g_icmp_eq_f (pc := 83) C 117 dX7_readsWord_83 (by decide) hc83 ?_
      refine g_aload_n (pc := 86) (i := 0) (x := ad 62) C dX7_readsWord_86 rfl rfl ?_
      refine g_aload_n (pc := 87) (i := 0) (x := ad 62) C dX7_readsWord_87 rfl rfl ?_
      refine g_get (pc := 88) (v := .ref (ad 69)) C ok_X7 13 (by decide) wf_X7_28 dX7_readsWord_88 la_62 rfl ?_
      refine g_iconst (pc := 91) (v := 0) C dX7_readsWord_91 rfl ?_
      obtain ⟨v92, hv92, hi92, h⟩ := rd_some h
      refine g_iald (pc := 92) C dX7_readsWord_92 la_69 hi92 ?_
      refine g_topi hv92 ?_
      refine g_aload_n (pc := 93) (i := 0) (x := ad 62) C dX7_readsWord_93 rfl rfl ?_
      refine g_get (pc := 94) (v := .ref (ad 69)) C ok_X7 13 (by decide) wf_X7_28 dX7_readsWord_94 la_62 rfl ?_
      refine g_iconst (pc := 97) (v := 1) C dX7_readsWord_97 rfl ?_
      obtain ⟨v98, hv98, hi98, h⟩ := rd_some h
      refine g_iald (pc := 98) C dX7_readsWord_98 la_69 hi98 ?_
      refine g_topi hv98 ?_
      refine g_aload_n (pc := 99) (i := 0) (x := ad 62) C dX7_readsWord_99 rfl rfl ?_
      refine g_get (pc := 100) (v := .ref (ad 69)) C ok_X7 13 (by decide) wf_X7_28 dX7_readsWord_100 la_62 rfl ?_
      refine g_iconst (pc := 103) (v := 2) C dX7_readsWord_103 rfl ?_
      obtain ⟨v104, hv104, hi104, h⟩ := rd_some h
      refine g_iald (pc := 104) C dX7_readsWord_104 la_69 hi104 ?_
      refine g_topi hv104 ?_
      refine g_aload_n (pc := 105) (i := 0) (x := ad 62) C dX7_readsWord_105 rfl rfl ?_
      refine g_get (pc := 106) (v := .ref (ad 69)) C ok_X7 13 (by decide) wf_X7_28 dX7_readsWord_106 la_62 rfl ?_
      refine g_iconst (pc := 109) (v := 3) C dX7_readsWord_109 rfl ?_
      obtain ⟨v110, hv110, hi110, h⟩ := rd_some h
      refine g_iald (pc := 110) C dX7_readsWord_110 la_69 hi110 ?_
      refine g_topi hv110 ?_
      obtain ⟨r111, hcall111, h⟩ := ob_some h
      refine g_callV (pc := 111) C ce0 mi_X7_isTold mv_X7_isTold wm_X7_145 dX7_readsWord_111 ok_X7 [.int v92, .int v98, .int v104, .int v110] [] la_62 (by omega) rfl rfl (Nat.le_of_ble_eq_true rfl) (m_X7_isTold (d := d - 1) (by omega)  hcall111) ?_
      show Gw E κ 3 0 0 114 [some (.ref (ad 62)), some (.int l1), none] [.int r111] ad (LC sh sp ++ LM) mem
      rcases ite_some' h with ⟨hc114, h⟩ | ⟨hc114, h⟩
      · refine g_if_eq_t (pc := 114) C 119 dX7_readsWord_114 (by decide) hc114 ?_
        refine g_aload_n (pc := 119) (i := 0) (x := ad 62) C dX7_readsWord_119 rfl rfl ?_
        refine g_aload_n (pc := 120) (i := 0) (x := ad 62) C dX7_readsWord_120 rfl rfl ?_
        refine g_get (pc := 121) (v := .ref (ad 69)) C ok_X7 13 (by decide) wf_X7_28 dX7_readsWord_121 la_62 rfl ?_
        refine g_iconst (pc := 124) (v := 0) C dX7_readsWord_124 rfl ?_
        obtain ⟨v125, hv125, hi125, h⟩ := rd_some h
        refine g_iald (pc := 125) C dX7_readsWord_125 la_69 hi125 ?_
        refine g_topi hv125 ?_
        refine g_aload_n (pc := 126) (i := 0) (x := ad 62) C dX7_readsWord_126 rfl rfl ?_
        refine g_get (pc := 127) (v := .ref (ad 69)) C ok_X7 13 (by decide) wf_X7_28 dX7_readsWord_127 la_62 rfl ?_
        refine g_iconst (pc := 130) (v := 1) C dX7_readsWord_130 rfl ?_
        obtain ⟨v131, hv131, hi131, h⟩ := rd_some h
        refine g_iald (pc := 131) C dX7_readsWord_131 la_69 hi131 ?_
        refine g_topi hv131 ?_
        refine g_aload_n (pc := 132) (i := 0) (x := ad 62) C dX7_readsWord_132 rfl rfl ?_
        refine g_get (pc := 133) (v := .ref (ad 69)) C ok_X7 13 (by decide) wf_X7_28 dX7_readsWord_133 la_62 rfl ?_
        refine g_iconst (pc := 136) (v := 2) C dX7_readsWord_136 rfl ?_
        obtain ⟨v137, hv137, hi137, h⟩ := rd_some h
        refine g_iald (pc := 137) C dX7_readsWord_137 la_69 hi137 ?_
        refine g_topi hv137 ?_
        refine g_aload_n (pc := 138) (i := 0) (x := ad 62) C dX7_readsWord_138 rfl rfl ?_
        refine g_get (pc := 139) (v := .ref (ad 69)) C ok_X7 13 (by decide) wf_X7_28 dX7_readsWord_139 la_62 rfl ?_
        refine g_iconst (pc := 142) (v := 3) C dX7_readsWord_142 rfl ?_
        obtain ⟨v143, hv143, hi143, h⟩ := rd_some h
        refine g_iald (pc := 143) C dX7_readsWord_143 la_69 hi143 ?_
        refine g_topi hv143 ?_
        obtain ⟨m144, hcall144, h⟩ := ob_some h
        refine g_callV (pc := 144) C ce0 mi_X7_spells mv_X7_spells wm_X7_95 dX7_readsWord_144 ok_X7 [.int v125, .int v131, .int v137, .int v143] [] la_62 (by omega) rfl rfl (Nat.le_of_ble_eq_true rfl) (m_X7_spells (d := d - 1) (by omega)  hcall144) ?_
        show Gw E κ 3 0 0 147 [some (.ref (ad 62)), some (.int l1), none] [] ad (LC sh sp ++ LM) m144
        refine g_iconst (pc := 147) (v := 1) C dX7_readsWord_147 rfl ?_
        cases h
        exact g_iret (pc := 148) C hP rfl rfl dX7_readsWord_148
      · refine g_if_eq_f (pc := 114) C 119 dX7_readsWord_114 (by decide) hc114 ?_
        refine g_iconst (pc := 117) (v := 0) C dX7_readsWord_117 rfl ?_
        cases h
        exact g_iret (pc := 118) C hP rfl rfl dX7_readsWord_118
set_option maxRecDepth 100000 in
set_option maxHeartbeats 4000000 in
theorem m_X7_readsWord {E : Ex} {ad : Nat → Nat} {sh sp : Nat} {d : Nat} (hd : 1 ≤ d)   {mem : Mem} {r : Int32 × Mem} (h : f_X7_readsWord mem = some r) : Cl E yX7_readsWord cX7_readsWord 3 (some .boolean) d [.ref (ad 62)] (some (.int r.1)) ad (LC sh sp ++ LM) mem (LC sh sp ++ LM) r.2 := by
  refine Cl.of [some (.ref (ad 62)), none, none] (by decide +kernel) rfl (Nat.le_of_ble_eq_true rfl) (fun κ C hP => ?_)
  have C : Cx E κ cX7_readsWord RX7 3 (some .boolean) d := C
  unfold f_X7_readsWord at h
  refine g_iconst (pc := 0) (v := 0) C dX7_readsWord_0 rfl ?_
  refine g_istore_n (pc := 1) (i := 1) (lv' := [some (.ref (ad 62)), some (.int 0), none]) C dX7_readsWord_1 rfl (by decide) rfl rfl ?_
  refine g_iconst (pc := 2) (v := 0) C dX7_readsWord_2 rfl ?_
  refine g_istore_n (pc := 3) (i := 2) (lv' := [some (.ref (ad 62)), some (.int 0), some (.int 0)]) C dX7_readsWord_3 rfl (by decide) rfl rfl ?_
  obtain ⟨q4, hq, h⟩ := ob_some h
  refine lp_gw (P_X7_readsWord_4 E κ ad (LC sh sp ++ LM) 0) (fun q x hb hp => b_X7_readsWord_4 C hd hb hp) _ (0, mem) _ hq ?_
  show Gw E κ 3 0 0 22 [some (.ref (ad 62)), some (.int 0), none] [] ad (LC sh sp ++ LM) q4.2
  obtain ⟨q22, hq, h⟩ := ob_some h
  refine lp_gw (P_X7_readsWord_22 E κ ad (LC sh sp ++ LM) ) (fun q x hb hp => b_X7_readsWord_22 C hd hb hp) _ (0, q4.2) _ hq ?_
  show Gw E κ 3 0 0 72 [some (.ref (ad 62)), some (.int q22.1), none] [] ad (LC sh sp ++ LM) q22.2
  exact j_X7_readsWord_72 C hd h hP

theorem dX7_readsLetter_0 : decode cX7_readsLetter 0 = .ok (.aload_n 0, 1) := by decide +kernel
theorem dX7_readsLetter_1 : decode cX7_readsLetter 1 = .ok (.aload_n 0, 1) := by decide +kernel
theorem dX7_readsLetter_2 : decode cX7_readsLetter 2 = .ok (.getfield 106, 3) := by decide +kernel
theorem dX7_readsLetter_5 : decode cX7_readsLetter 5 = .ok (.aload_n 0, 1) := by decide +kernel
theorem dX7_readsLetter_6 : decode cX7_readsLetter 6 = .ok (.getfield 110, 3) := by decide +kernel
theorem dX7_readsLetter_9 : decode cX7_readsLetter 9 = .ok (.imul, 1) := by decide +kernel
theorem dX7_readsLetter_10 : decode cX7_readsLetter 10 = .ok (.iconst 1, 1) := by decide +kernel
theorem dX7_readsLetter_11 : decode cX7_readsLetter 11 = .ok (.isub, 1) := by decide +kernel
theorem dX7_readsLetter_12 : decode cX7_readsLetter 12 = .ok (.invokevirtual 137, 3) := by decide +kernel
theorem dX7_readsLetter_15 : decode cX7_readsLetter 15 = .ok (.istore_n 1, 1) := by decide +kernel
theorem dX7_readsLetter_16 : decode cX7_readsLetter 16 = .ok (.iload_n 1, 1) := by decide +kernel
theorem dX7_readsLetter_17 : decode cX7_readsLetter 17 = .ok (.ifCond .lt 17, 3) := by decide +kernel
theorem dX7_readsLetter_20 : decode cX7_readsLetter 20 = .ok (.aload_n 0, 1) := by decide +kernel
theorem dX7_readsLetter_21 : decode cX7_readsLetter 21 = .ok (.invokevirtual 133, 3) := by decide +kernel
theorem dX7_readsLetter_24 : decode cX7_readsLetter 24 = .ok (.bipush 97, 2) := by decide +kernel
theorem dX7_readsLetter_26 : decode cX7_readsLetter 26 = .ok (.bipush 102, 2) := by decide +kernel
theorem dX7_readsLetter_28 : decode cX7_readsLetter 28 = .ok (.invokestatic 123, 3) := by decide +kernel
theorem dX7_readsLetter_31 : decode cX7_readsLetter 31 = .ok (.ifCond .ne 5, 3) := by decide +kernel
theorem dX7_readsLetter_34 : decode cX7_readsLetter 34 = .ok (.iconst 0, 1) := by decide +kernel
theorem dX7_readsLetter_35 : decode cX7_readsLetter 35 = .ok (.ireturn, 1) := by decide +kernel
theorem dX7_readsLetter_36 : decode cX7_readsLetter 36 = .ok (.aload_n 0, 1) := by decide +kernel
theorem dX7_readsLetter_37 : decode cX7_readsLetter 37 = .ok (.getfield 16, 3) := by decide +kernel
theorem dX7_readsLetter_40 : decode cX7_readsLetter 40 = .ok (.iload_n 1, 1) := by decide +kernel
theorem dX7_readsLetter_41 : decode cX7_readsLetter 41 = .ok (.aload_n 0, 1) := by decide +kernel
theorem dX7_readsLetter_42 : decode cX7_readsLetter 42 = .ok (.invokevirtual 133, 3) := by decide +kernel
theorem dX7_readsLetter_45 : decode cX7_readsLetter 45 = .ok (.bipush 97, 2) := by decide +kernel
theorem dX7_readsLetter_47 : decode cX7_readsLetter 47 = .ok (.isub, 1) := by decide +kernel
theorem dX7_readsLetter_48 : decode cX7_readsLetter 48 = .ok (.iconst 1, 1) := by decide +kernel
theorem dX7_readsLetter_49 : decode cX7_readsLetter 49 = .ok (.iadd, 1) := by decide +kernel
theorem dX7_readsLetter_50 : decode cX7_readsLetter 50 = .ok (.iastore, 1) := by decide +kernel
theorem dX7_readsLetter_51 : decode cX7_readsLetter 51 = .ok (.aload_n 0, 1) := by decide +kernel
theorem dX7_readsLetter_52 : decode cX7_readsLetter 52 = .ok (.dup, 1) := by decide +kernel
theorem dX7_readsLetter_53 : decode cX7_readsLetter 53 = .ok (.getfield 130, 3) := by decide +kernel
theorem dX7_readsLetter_56 : decode cX7_readsLetter 56 = .ok (.iconst 1, 1) := by decide +kernel
theorem dX7_readsLetter_57 : decode cX7_readsLetter 57 = .ok (.iadd, 1) := by decide +kernel
theorem dX7_readsLetter_58 : decode cX7_readsLetter 58 = .ok (.putfield 130, 3) := by decide +kernel
theorem dX7_readsLetter_61 : decode cX7_readsLetter 61 = .ok (.iconst 1, 1) := by decide +kernel
theorem dX7_readsLetter_62 : decode cX7_readsLetter 62 = .ok (.ireturn, 1) := by decide +kernel
noncomputable def f_X7_readsLetter  (mem : Mem) : Option (Int32 × Mem) :=
  ob2 (f_X7_number (((mem 62 3) * (mem 62 4)) - 1) mem) fun r12 m12 => if r12 < 0 then (some (0, m12)) else (ob (f_X7_here m12) fun r21 => ob (f_X7_in r21 97 102) fun r28 => if r28 = 0 then (some (0, m12)) else (ob (f_X7_here m12) fun r42 => wr m12 65 16 r12 ((r42 - 97) + 1) fun m50 => lt' (mset m50 62 2 ((m50 62 2) + 1)) fun m58 => some (1, m58)))
set_option maxRecDepth 100000 in
set_option maxHeartbeats 4000000 in
theorem m_X7_readsLetter {E : Ex} {ad : Nat → Nat} {sh sp : Nat} {d : Nat} (hd : 2 ≤ d)   {mem : Mem} {r : Int32 × Mem} (h : f_X7_readsLetter mem = some r) : Cl E yX7_readsLetter cX7_readsLetter 2 (some .boolean) d [.ref (ad 62)] (some (.int r.1)) ad (LC sh sp ++ LM) mem (LC sh sp ++ LM) r.2 := by
  refine Cl.of [some (.ref (ad 62)), none] (by decide +kernel) rfl (Nat.le_of_ble_eq_true rfl) (fun κ C hP => ?_)
  have C : Cx E κ cX7_readsLetter RX7 2 (some .boolean) d := C
  unfold f_X7_readsLetter at h
  refine g_aload_n (pc := 0) (i := 0) (x := ad 62) C dX7_readsLetter_0 rfl rfl ?_
  refine g_aload_n (pc := 1) (i := 0) (x := ad 62) C dX7_readsLetter_1 rfl rfl ?_
  refine g_get (pc := 2) (v := .int (mem 62 3)) C ok_X7 3 (by decide) wf_X7_106 dX7_readsLetter_2 la_62 rfl ?_
  refine g_aload_n (pc := 5) (i := 0) (x := ad 62) C dX7_readsLetter_5 rfl rfl ?_
  refine g_get (pc := 6) (v := .int (mem 62 4)) C ok_X7 4 (by decide) wf_X7_110 dX7_readsLetter_6 la_62 rfl ?_
  refine g_imul (pc := 9) C dX7_readsLetter_9 ?_
  refine g_iconst (pc := 10) (v := 1) C dX7_readsLetter_10 rfl ?_
  refine g_isub (pc := 11) C dX7_readsLetter_11 ?_
  obtain ⟨r12, m12, hcall12, h⟩ := ob2_some h
  refine g_callV (pc := 12) C ce0 mi_X7_number mv_X7_number wm_X7_137 dX7_readsLetter_12 ok_X7 [.int (((mem 62 3) * (mem 62 4)) - 1)] [] la_62 (by omega) rfl rfl (Nat.le_of_ble_eq_true rfl) (m_X7_number (d := d - 1) (by omega)  hcall12) ?_
  show Gw E κ 2 0 0 15 [some (.ref (ad 62)), none] [.int r12] ad (LC sh sp ++ LM) m12
  refine g_istore_n (pc := 15) (i := 1) (lv' := [some (.ref (ad 62)), some (.int r12)]) C dX7_readsLetter_15 rfl (by decide) rfl rfl ?_
  refine g_iload_n (pc := 16) (i := 1) (x := r12) C dX7_readsLetter_16 rfl rfl ?_
  rcases ite_some' h with ⟨hc17, h⟩ | ⟨hc17, h⟩
  · refine g_if_lt_t (pc := 17) C 34 dX7_readsLetter_17 (by decide) hc17 ?_
    refine g_iconst (pc := 34) (v := 0) C dX7_readsLetter_34 rfl ?_
    cases h
    exact g_iret (pc := 35) C hP rfl rfl dX7_readsLetter_35
  · refine g_if_lt_f (pc := 17) C 34 dX7_readsLetter_17 (by decide) hc17 ?_
    refine g_aload_n (pc := 20) (i := 0) (x := ad 62) C dX7_readsLetter_20 rfl rfl ?_
    obtain ⟨r21, hcall21, h⟩ := ob_some h
    refine g_callV (pc := 21) C ce0 mi_X7_here mv_X7_here wm_X7_133 dX7_readsLetter_21 ok_X7 [] [] la_62 (by omega) rfl rfl (Nat.le_of_ble_eq_true rfl) (m_X7_here (d := d - 1) (by omega)  hcall21) ?_
    show Gw E κ 2 0 0 24 [some (.ref (ad 62)), some (.int r12)] [.int r21] ad (LC sh sp ++ LM) m12
    refine g_bipush (pc := 24) (v := 97) C dX7_readsLetter_24 rfl ?_
    refine g_bipush (pc := 26) (v := 102) C dX7_readsLetter_26 rfl ?_
    obtain ⟨r28, hcall28, h⟩ := ob_some h
    refine g_callS (pc := 28) C ce0 mi_X7_in ms_X7_in wm_X7_123 dX7_readsLetter_28 [.int r21, .int 97, .int 102] [] (by omega) rfl rfl (Nat.le_of_ble_eq_true rfl) (m_X7_in (d := d - 1) (by omega)  hcall28) ?_
    show Gw E κ 2 0 0 31 [some (.ref (ad 62)), some (.int r12)] [.int r28] ad (LC sh sp ++ LM) m12
    rcases ite_some' h with ⟨hc31, h⟩ | ⟨hc31, h⟩
    · refine g_if_ne_f (pc := 31) C 36 dX7_readsLetter_31 (by decide) hc31 ?_
      refine g_iconst (pc := 34) (v := 0) C dX7_readsLetter_34 rfl ?_
      cases h
      exact g_iret (pc := 35) C hP rfl rfl dX7_readsLetter_35
    · refine g_if_ne_t (pc := 31) C 36 dX7_readsLetter_31 (by decide) hc31 ?_
      refine g_aload_n (pc := 36) (i := 0) (x := ad 62) C dX7_readsLetter_36 rfl rfl ?_
      refine g_get (pc := 37) (v := .ref (ad 65)) C ok_X7 9 (by decide) wf_X7_16 dX7_readsLetter_37 la_62 rfl ?_
      refine g_iload_n (pc := 40) (i := 1) (x := r12) C dX7_readsLetter_40 rfl rfl ?_
      refine g_aload_n (pc := 41) (i := 0) (x := ad 62) C dX7_readsLetter_41 rfl rfl ?_
      obtain ⟨r42, hcall42, h⟩ := ob_some h
      refine g_callV (pc := 42) C ce0 mi_X7_here mv_X7_here wm_X7_133 dX7_readsLetter_42 ok_X7 [] [.int r12, .ref (ad 65)] la_62 (by omega) rfl rfl (Nat.le_of_ble_eq_true rfl) (m_X7_here (d := d - 1) (by omega)  hcall42) ?_
      show Gw E κ 2 0 0 45 [some (.ref (ad 62)), some (.int r12)] [.int r42, .int r12, .ref (ad 65)] ad (LC sh sp ++ LM) m12
      refine g_bipush (pc := 45) (v := 97) C dX7_readsLetter_45 rfl ?_
      refine g_isub (pc := 47) C dX7_readsLetter_47 ?_
      refine g_iconst (pc := 48) (v := 1) C dX7_readsLetter_48 rfl ?_
      refine g_iadd (pc := 49) C dX7_readsLetter_49 ?_
      obtain ⟨m50, hm50, hi50, h⟩ := wr_some h
      refine g_iast (pc := 50) C dX7_readsLetter_50 la_65 hi50 ?_
      refine g_mem hm50 ?_
      refine g_aload_n (pc := 51) (i := 0) (x := ad 62) C dX7_readsLetter_51 rfl rfl ?_
      refine g_dup (pc := 52) C dX7_readsLetter_52 rfl ?_
      refine g_get (pc := 53) (v := .int (m50 62 2)) C ok_X7 2 (by decide) wf_X7_130 dX7_readsLetter_53 la_62 rfl ?_
      refine g_iconst (pc := 56) (v := 1) C dX7_readsLetter_56 rfl ?_
      refine g_iadd (pc := 57) C dX7_readsLetter_57 ?_
      obtain ⟨m58, hm58, h⟩ := lt_some h
      refine g_put (pc := 58) C ok_X7 2 (by decide) wf_X7_130 dX7_readsLetter_58 rfl rfl la_62 ?_
      refine g_mem hm58 ?_
      refine g_iconst (pc := 61) (v := 1) C dX7_readsLetter_61 rfl ?_
      cases h
      exact g_iret (pc := 62) C hP rfl rfl dX7_readsLetter_62

theorem dX7_readsSolver_0 : decode cX7_readsSolver 0 = .ok (.aload_n 0, 1) := by decide +kernel
theorem dX7_readsSolver_1 : decode cX7_readsSolver 1 = .ok (.getfield 116, 3) := by decide +kernel
theorem dX7_readsSolver_4 : decode cX7_readsSolver 4 = .ok (.bipush 6, 2) := by decide +kernel
theorem dX7_readsSolver_6 : decode cX7_readsSolver 6 = .ok (.if_icmp .ne 7, 3) := by decide +kernel
theorem dX7_readsSolver_9 : decode cX7_readsSolver 9 = .ok (.iconst (-1), 1) := by decide +kernel
theorem dX7_readsSolver_10 : decode cX7_readsSolver 10 = .ok (.goto 8, 3) := by decide +kernel
theorem dX7_readsSolver_13 : decode cX7_readsSolver 13 = .ok (.aload_n 0, 1) := by decide +kernel
theorem dX7_readsSolver_14 : decode cX7_readsSolver 14 = .ok (.iconst 4, 1) := by decide +kernel
theorem dX7_readsSolver_15 : decode cX7_readsSolver 15 = .ok (.invokevirtual 137, 3) := by decide +kernel
theorem dX7_readsSolver_18 : decode cX7_readsSolver 18 = .ok (.istore_n 1, 1) := by decide +kernel
theorem dX7_readsSolver_19 : decode cX7_readsSolver 19 = .ok (.iload_n 1, 1) := by decide +kernel
theorem dX7_readsSolver_20 : decode cX7_readsSolver 20 = .ok (.ifCond .lt 16, 3) := by decide +kernel
theorem dX7_readsSolver_23 : decode cX7_readsSolver 23 = .ok (.aload_n 0, 1) := by decide +kernel
theorem dX7_readsSolver_24 : decode cX7_readsSolver 24 = .ok (.bipush 44, 2) := by decide +kernel
theorem dX7_readsSolver_26 : decode cX7_readsSolver 26 = .ok (.invokevirtual 141, 3) := by decide +kernel
theorem dX7_readsSolver_29 : decode cX7_readsSolver 29 = .ok (.ifCond .eq 7, 3) := by decide +kernel
theorem dX7_readsSolver_32 : decode cX7_readsSolver 32 = .ok (.iconst 1, 1) := by decide +kernel
theorem dX7_readsSolver_33 : decode cX7_readsSolver 33 = .ok (.goto 4, 3) := by decide +kernel
theorem dX7_readsSolver_36 : decode cX7_readsSolver 36 = .ok (.iconst 0, 1) := by decide +kernel
theorem dX7_readsSolver_37 : decode cX7_readsSolver 37 = .ok (.istore_n 2, 1) := by decide +kernel
theorem dX7_readsSolver_38 : decode cX7_readsSolver 38 = .ok (.iload_n 2, 1) := by decide +kernel
theorem dX7_readsSolver_39 : decode cX7_readsSolver 39 = .ok (.ifCond .eq 12, 3) := by decide +kernel
theorem dX7_readsSolver_42 : decode cX7_readsSolver 42 = .ok (.aload_n 0, 1) := by decide +kernel
theorem dX7_readsSolver_43 : decode cX7_readsSolver 43 = .ok (.bipush 7, 2) := by decide +kernel
theorem dX7_readsSolver_45 : decode cX7_readsSolver 45 = .ok (.invokevirtual 137, 3) := by decide +kernel
theorem dX7_readsSolver_48 : decode cX7_readsSolver 48 = .ok (.goto 4, 3) := by decide +kernel
theorem dX7_readsSolver_51 : decode cX7_readsSolver 51 = .ok (.iconst (-1), 1) := by decide +kernel
theorem dX7_readsSolver_52 : decode cX7_readsSolver 52 = .ok (.istore_n 3, 1) := by decide +kernel
theorem dX7_readsSolver_53 : decode cX7_readsSolver 53 = .ok (.iload_n 3, 1) := by decide +kernel
theorem dX7_readsSolver_54 : decode cX7_readsSolver 54 = .ok (.ifCond .lt 16, 3) := by decide +kernel
theorem dX7_readsSolver_57 : decode cX7_readsSolver 57 = .ok (.aload_n 0, 1) := by decide +kernel
theorem dX7_readsSolver_58 : decode cX7_readsSolver 58 = .ok (.bipush 44, 2) := by decide +kernel
theorem dX7_readsSolver_60 : decode cX7_readsSolver 60 = .ok (.invokevirtual 141, 3) := by decide +kernel
theorem dX7_readsSolver_63 : decode cX7_readsSolver 63 = .ok (.ifCond .eq 7, 3) := by decide +kernel
theorem dX7_readsSolver_66 : decode cX7_readsSolver 66 = .ok (.iconst 1, 1) := by decide +kernel
theorem dX7_readsSolver_67 : decode cX7_readsSolver 67 = .ok (.goto 4, 3) := by decide +kernel
theorem dX7_readsSolver_70 : decode cX7_readsSolver 70 = .ok (.iconst 0, 1) := by decide +kernel
theorem dX7_readsSolver_71 : decode cX7_readsSolver 71 = .ok (.istore_n 2, 1) := by decide +kernel
theorem dX7_readsSolver_72 : decode cX7_readsSolver 72 = .ok (.iload_n 2, 1) := by decide +kernel
theorem dX7_readsSolver_73 : decode cX7_readsSolver 73 = .ok (.ifCond .eq 16, 3) := by decide +kernel
theorem dX7_readsSolver_76 : decode cX7_readsSolver 76 = .ok (.aload_n 0, 1) := by decide +kernel
theorem dX7_readsSolver_77 : decode cX7_readsSolver 77 = .ok (.aload_n 0, 1) := by decide +kernel
theorem dX7_readsSolver_78 : decode cX7_readsSolver 78 = .ok (.getfield 113, 3) := by decide +kernel
theorem dX7_readsSolver_81 : decode cX7_readsSolver 81 = .ok (.iconst 1, 1) := by decide +kernel
theorem dX7_readsSolver_82 : decode cX7_readsSolver 82 = .ok (.isub, 1) := by decide +kernel
theorem dX7_readsSolver_83 : decode cX7_readsSolver 83 = .ok (.invokevirtual 137, 3) := by decide +kernel
theorem dX7_readsSolver_86 : decode cX7_readsSolver 86 = .ok (.goto 4, 3) := by decide +kernel
theorem dX7_readsSolver_89 : decode cX7_readsSolver 89 = .ok (.iconst (-1), 1) := by decide +kernel
theorem dX7_readsSolver_90 : decode cX7_readsSolver 90 = .ok (.istore 4, 2) := by decide +kernel
theorem dX7_readsSolver_92 : decode cX7_readsSolver 92 = .ok (.iload 4, 2) := by decide +kernel
theorem dX7_readsSolver_94 : decode cX7_readsSolver 94 = .ok (.ifCond .ge 5, 3) := by decide +kernel
theorem dX7_readsSolver_97 : decode cX7_readsSolver 97 = .ok (.iconst 0, 1) := by decide +kernel
theorem dX7_readsSolver_98 : decode cX7_readsSolver 98 = .ok (.ireturn, 1) := by decide +kernel
theorem dX7_readsSolver_99 : decode cX7_readsSolver 99 = .ok (.aload_n 0, 1) := by decide +kernel
theorem dX7_readsSolver_100 : decode cX7_readsSolver 100 = .ok (.iload_n 1, 1) := by decide +kernel
theorem dX7_readsSolver_101 : decode cX7_readsSolver 101 = .ok (.iload_n 3, 1) := by decide +kernel
theorem dX7_readsSolver_102 : decode cX7_readsSolver 102 = .ok (.iload 4, 2) := by decide +kernel
theorem dX7_readsSolver_104 : decode cX7_readsSolver 104 = .ok (.invokevirtual 99, 3) := by decide +kernel
theorem dX7_readsSolver_107 : decode cX7_readsSolver 107 = .ok (.iconst 1, 1) := by decide +kernel
theorem dX7_readsSolver_108 : decode cX7_readsSolver 108 = .ok (.ireturn, 1) := by decide +kernel
noncomputable def f_X7_readsSolver_j90 (l1 : Int32) (l3 : Int32) (w0 : Int32) (mem : Mem) : Option (Int32 × Mem) :=
  if 0 ≤ w0 then (ob (f_X7_comes l1 l3 w0 mem) fun m104 => some (1, m104)) else (some (0, mem))
noncomputable def f_X7_readsSolver_j71 (l1 : Int32) (l3 : Int32) (w0 : Int32) (mem : Mem) : Option (Int32 × Mem) :=
  if w0 = 0 then (f_X7_readsSolver_j90 l1 l3 ((-1)) mem) else (ob2 (f_X7_number ((mem 62 5) - 1) mem) fun r83 m83 => f_X7_readsSolver_j90 l1 l3 r83 m83)
noncomputable def f_X7_readsSolver_j70 (l1 : Int32) (l3 : Int32) (mem : Mem) : Option (Int32 × Mem) :=
  f_X7_readsSolver_j71 l1 l3 0 mem
noncomputable def f_X7_readsSolver_j52 (l1 : Int32) (w0 : Int32) (mem : Mem) : Option (Int32 × Mem) :=
  if w0 < 0 then (f_X7_readsSolver_j70 l1 w0 mem) else (ob2 (f_X7_sign 44 mem) fun r60 m60 => if r60 = 0 then (f_X7_readsSolver_j70 l1 w0 m60) else (f_X7_readsSolver_j71 l1 w0 1 m60))
noncomputable def f_X7_readsSolver_j37 (l1 : Int32) (w0 : Int32) (mem : Mem) : Option (Int32 × Mem) :=
  if w0 = 0 then (f_X7_readsSolver_j52 l1 ((-1)) mem) else (ob2 (f_X7_number 7 mem) fun r45 m45 => f_X7_readsSolver_j52 l1 r45 m45)
noncomputable def f_X7_readsSolver_j36 (l1 : Int32) (mem : Mem) : Option (Int32 × Mem) :=
  f_X7_readsSolver_j37 l1 0 mem
noncomputable def f_X7_readsSolver_j18 (w0 : Int32) (mem : Mem) : Option (Int32 × Mem) :=
  if w0 < 0 then (f_X7_readsSolver_j36 w0 mem) else (ob2 (f_X7_sign 44 mem) fun r26 m26 => if r26 = 0 then (f_X7_readsSolver_j36 w0 m26) else (f_X7_readsSolver_j37 w0 1 m26))
noncomputable def f_X7_readsSolver  (mem : Mem) : Option (Int32 × Mem) :=
  if (mem 62 6) = 6 then (f_X7_readsSolver_j18 ((-1)) mem) else (ob2 (f_X7_number 4 mem) fun r15 m15 => f_X7_readsSolver_j18 r15 m15)
set_option maxRecDepth 100000 in
set_option maxHeartbeats 4000000 in
theorem j_X7_readsSolver_90 {E : Ex} {κ : Kx} {ad : Nat → Nat} {sh sp : Nat} {d : Nat} (C : Cx E κ cX7_readsSolver RX7 5 (some .boolean) d) (hd : 2 ≤ d)  {l1 : Int32} {l3 : Int32} {w0 : Int32} {mem : Mem} {x : Int32 × Mem} (h : f_X7_readsSolver_j90 l1 l3 w0 mem = some x) (hP : Qr E κ (some (.int x.1)) ad (LC sh sp ++ LM) x.2) : Gw E κ 5 0 0 90 [some (.ref (ad 62)), some (.int l1), none, some (.int l3), none] [.int w0] ad (LC sh sp ++ LM) mem := by
  unfold f_X7_readsSolver_j90 at h
  refine g_istore (pc := 90) (i := 4) (lv' := [some (.ref (ad 62)), some (.int l1), none, some (.int l3), some (.int w0)]) C dX7_readsSolver_90 (by decide) rfl rfl ?_
  refine g_iload (pc := 92) (i := 4) (x := w0) C dX7_readsSolver_92 rfl ?_
  rcases ite_some' h with ⟨hc94, h⟩ | ⟨hc94, h⟩
  · refine g_if_ge_t (pc := 94) C 99 dX7_readsSolver_94 (by decide) hc94 ?_
    refine g_aload_n (pc := 99) (i := 0) (x := ad 62) C dX7_readsSolver_99 rfl rfl ?_
    refine g_iload_n (pc := 100) (i := 1) (x := l1) C dX7_readsSolver_100 rfl rfl ?_
    refine g_iload_n (pc := 101) (i := 3) (x := l3) C dX7_readsSolver_101 rfl rfl ?_
    refine g_iload (pc := 102) (i := 4) (x := w0) C dX7_readsSolver_102 rfl ?_
    obtain ⟨m104, hcall104, h⟩ := ob_some h
    refine g_callV (pc := 104) C ce0 mi_X7_comes mv_X7_comes wm_X7_99 dX7_readsSolver_104 ok_X7 [.int l1, .int l3, .int w0] [] la_62 (by omega) rfl rfl (Nat.le_of_ble_eq_true rfl) (m_X7_comes (d := d - 1) (by omega)  hcall104) ?_
    show Gw E κ 5 0 0 107 [some (.ref (ad 62)), some (.int l1), none, some (.int l3), some (.int w0)] [] ad (LC sh sp ++ LM) m104
    refine g_iconst (pc := 107) (v := 1) C dX7_readsSolver_107 rfl ?_
    cases h
    exact g_iret (pc := 108) C hP rfl rfl dX7_readsSolver_108
  · refine g_if_ge_f (pc := 94) C 99 dX7_readsSolver_94 (by decide) hc94 ?_
    refine g_iconst (pc := 97) (v := 0) C dX7_readsSolver_97 rfl ?_
    cases h
    exact g_iret (pc := 98) C hP rfl rfl dX7_readsSolver_98
set_option maxRecDepth 100000 in
set_option maxHeartbeats 4000000 in
theorem j_X7_readsSolver_71 {E : Ex} {κ : Kx} {ad : Nat → Nat} {sh sp : Nat} {d : Nat} (C : Cx E κ cX7_readsSolver RX7 5 (some .boolean) d) (hd : 2 ≤ d)  {l1 : Int32} {l3 : Int32} {w0 : Int32} {mem : Mem} {x : Int32 × Mem} (h : f_X7_readsSolver_j71 l1 l3 w0 mem = some x) (hP : Qr E κ (some (.int x.1)) ad (LC sh sp ++ LM) x.2) : Gw E κ 5 0 0 71 [some (.ref (ad 62)), some (.int l1), none, some (.int l3), none] [.int w0] ad (LC sh sp ++ LM) mem := by
  unfold f_X7_readsSolver_j71 at h
  refine g_istore_n (pc := 71) (i := 2) (lv' := [some (.ref (ad 62)), some (.int l1), some (.int w0), some (.int l3), none]) C dX7_readsSolver_71 rfl (by decide) rfl rfl ?_
  refine g_iload_n (pc := 72) (i := 2) (x := w0) C dX7_readsSolver_72 rfl rfl ?_
  rcases ite_some' h with ⟨hc73, h⟩ | ⟨hc73, h⟩
  · refine g_if_eq_t (pc := 73) C 89 dX7_readsSolver_73 (by decide) hc73 ?_
    refine g_iconst (pc := 89) (v := (-1)) C dX7_readsSolver_89 rfl ?_
    refine g_mask (lv' := [some (.ref (ad 62)), some (.int l1), none, some (.int l3), none]) [true, true, false, true, false] rfl ?_
    exact j_X7_readsSolver_90 C hd h hP
  · refine g_if_eq_f (pc := 73) C 89 dX7_readsSolver_73 (by decide) hc73 ?_
    refine g_aload_n (pc := 76) (i := 0) (x := ad 62) C dX7_readsSolver_76 rfl rfl ?_
    refine g_aload_n (pc := 77) (i := 0) (x := ad 62) C dX7_readsSolver_77 rfl rfl ?_
    refine g_get (pc := 78) (v := .int (mem 62 5)) C ok_X7 5 (by decide) wf_X7_113 dX7_readsSolver_78 la_62 rfl ?_
    refine g_iconst (pc := 81) (v := 1) C dX7_readsSolver_81 rfl ?_
    refine g_isub (pc := 82) C dX7_readsSolver_82 ?_
    obtain ⟨r83, m83, hcall83, h⟩ := ob2_some h
    refine g_callV (pc := 83) C ce0 mi_X7_number mv_X7_number wm_X7_137 dX7_readsSolver_83 ok_X7 [.int ((mem 62 5) - 1)] [] la_62 (by omega) rfl rfl (Nat.le_of_ble_eq_true rfl) (m_X7_number (d := d - 1) (by omega)  hcall83) ?_
    show Gw E κ 5 0 0 86 [some (.ref (ad 62)), some (.int l1), some (.int w0), some (.int l3), none] [.int r83] ad (LC sh sp ++ LM) m83
    refine g_goto (pc := 86) C 90 dX7_readsSolver_86 (by decide) ?_
    refine g_mask (lv' := [some (.ref (ad 62)), some (.int l1), none, some (.int l3), none]) [true, true, false, true, false] rfl ?_
    exact j_X7_readsSolver_90 C hd h hP
set_option maxRecDepth 100000 in
set_option maxHeartbeats 4000000 in
theorem j_X7_readsSolver_70 {E : Ex} {κ : Kx} {ad : Nat → Nat} {sh sp : Nat} {d : Nat} (C : Cx E κ cX7_readsSolver RX7 5 (some .boolean) d) (hd : 2 ≤ d)  {l1 : Int32} {l3 : Int32} {mem : Mem} {x : Int32 × Mem} (h : f_X7_readsSolver_j70 l1 l3 mem = some x) (hP : Qr E κ (some (.int x.1)) ad (LC sh sp ++ LM) x.2) : Gw E κ 5 0 0 70 [some (.ref (ad 62)), some (.int l1), none, some (.int l3), none] [] ad (LC sh sp ++ LM) mem := by
  unfold f_X7_readsSolver_j70 at h
  refine g_iconst (pc := 70) (v := 0) C dX7_readsSolver_70 rfl ?_
  exact j_X7_readsSolver_71 C hd h hP
set_option maxRecDepth 100000 in
set_option maxHeartbeats 4000000 in
theorem j_X7_readsSolver_52 {E : Ex} {κ : Kx} {ad : Nat → Nat} {sh sp : Nat} {d : Nat} (C : Cx E κ cX7_readsSolver RX7 5 (some .boolean) d) (hd : 2 ≤ d)  {l1 : Int32} {w0 : Int32} {mem : Mem} {x : Int32 × Mem} (h : f_X7_readsSolver_j52 l1 w0 mem = some x) (hP : Qr E κ (some (.int x.1)) ad (LC sh sp ++ LM) x.2) : Gw E κ 5 0 0 52 [some (.ref (ad 62)), some (.int l1), none, none, none] [.int w0] ad (LC sh sp ++ LM) mem := by
  unfold f_X7_readsSolver_j52 at h
  refine g_istore_n (pc := 52) (i := 3) (lv' := [some (.ref (ad 62)), some (.int l1), none, some (.int w0), none]) C dX7_readsSolver_52 rfl (by decide) rfl rfl ?_
  refine g_iload_n (pc := 53) (i := 3) (x := w0) C dX7_readsSolver_53 rfl rfl ?_
  rcases ite_some' h with ⟨hc54, h⟩ | ⟨hc54, h⟩
  · refine g_if_lt_t (pc := 54) C 70 dX7_readsSolver_54 (by decide) hc54 ?_
    exact j_X7_readsSolver_70 C hd h hP
  · refine g_if_lt_f (pc := 54) C 70 dX7_readsSolver_54 (by decide) hc54 ?_
    refine g_aload_n (pc := 57) (i := 0) (x := ad 62) C dX7_readsSolver_57 rfl rfl ?_
    refine g_bipush (pc := 58) (v := 44) C dX7_readsSolver_58 rfl ?_
    obtain ⟨r60, m60, hcall60, h⟩ := ob2_some h
    refine g_callV (pc := 60) C ce0 mi_X7_sign mv_X7_sign wm_X7_141 dX7_readsSolver_60 ok_X7 [.int 44] [] la_62 (by omega) rfl rfl (Nat.le_of_ble_eq_true rfl) (m_X7_sign (d := d - 1) (by omega)  hcall60) ?_
    show Gw E κ 5 0 0 63 [some (.ref (ad 62)), some (.int l1), none, some (.int w0), none] [.int r60] ad (LC sh sp ++ LM) m60
    rcases ite_some' h with ⟨hc63, h⟩ | ⟨hc63, h⟩
    · refine g_if_eq_t (pc := 63) C 70 dX7_readsSolver_63 (by decide) hc63 ?_
      exact j_X7_readsSolver_70 C hd h hP
    · refine g_if_eq_f (pc := 63) C 70 dX7_readsSolver_63 (by decide) hc63 ?_
      refine g_iconst (pc := 66) (v := 1) C dX7_readsSolver_66 rfl ?_
      refine g_goto (pc := 67) C 71 dX7_readsSolver_67 (by decide) ?_
      exact j_X7_readsSolver_71 C hd h hP
set_option maxRecDepth 100000 in
set_option maxHeartbeats 4000000 in
theorem j_X7_readsSolver_37 {E : Ex} {κ : Kx} {ad : Nat → Nat} {sh sp : Nat} {d : Nat} (C : Cx E κ cX7_readsSolver RX7 5 (some .boolean) d) (hd : 2 ≤ d)  {l1 : Int32} {w0 : Int32} {mem : Mem} {x : Int32 × Mem} (h : f_X7_readsSolver_j37 l1 w0 mem = some x) (hP : Qr E κ (some (.int x.1)) ad (LC sh sp ++ LM) x.2) : Gw E κ 5 0 0 37 [some (.ref (ad 62)), some (.int l1), none, none, none] [.int w0] ad (LC sh sp ++ LM) mem := by
  unfold f_X7_readsSolver_j37 at h
  refine g_istore_n (pc := 37) (i := 2) (lv' := [some (.ref (ad 62)), some (.int l1), some (.int w0), none, none]) C dX7_readsSolver_37 rfl (by decide) rfl rfl ?_
  refine g_iload_n (pc := 38) (i := 2) (x := w0) C dX7_readsSolver_38 rfl rfl ?_
  rcases ite_some' h with ⟨hc39, h⟩ | ⟨hc39, h⟩
  · refine g_if_eq_t (pc := 39) C 51 dX7_readsSolver_39 (by decide) hc39 ?_
    refine g_iconst (pc := 51) (v := (-1)) C dX7_readsSolver_51 rfl ?_
    refine g_mask (lv' := [some (.ref (ad 62)), some (.int l1), none, none, none]) [true, true, false, false, false] rfl ?_
    exact j_X7_readsSolver_52 C hd h hP
  · refine g_if_eq_f (pc := 39) C 51 dX7_readsSolver_39 (by decide) hc39 ?_
    refine g_aload_n (pc := 42) (i := 0) (x := ad 62) C dX7_readsSolver_42 rfl rfl ?_
    refine g_bipush (pc := 43) (v := 7) C dX7_readsSolver_43 rfl ?_
    obtain ⟨r45, m45, hcall45, h⟩ := ob2_some h
    refine g_callV (pc := 45) C ce0 mi_X7_number mv_X7_number wm_X7_137 dX7_readsSolver_45 ok_X7 [.int 7] [] la_62 (by omega) rfl rfl (Nat.le_of_ble_eq_true rfl) (m_X7_number (d := d - 1) (by omega)  hcall45) ?_
    show Gw E κ 5 0 0 48 [some (.ref (ad 62)), some (.int l1), some (.int w0), none, none] [.int r45] ad (LC sh sp ++ LM) m45
    refine g_goto (pc := 48) C 52 dX7_readsSolver_48 (by decide) ?_
    refine g_mask (lv' := [some (.ref (ad 62)), some (.int l1), none, none, none]) [true, true, false, false, false] rfl ?_
    exact j_X7_readsSolver_52 C hd h hP
set_option maxRecDepth 100000 in
set_option maxHeartbeats 4000000 in
theorem j_X7_readsSolver_36 {E : Ex} {κ : Kx} {ad : Nat → Nat} {sh sp : Nat} {d : Nat} (C : Cx E κ cX7_readsSolver RX7 5 (some .boolean) d) (hd : 2 ≤ d)  {l1 : Int32} {mem : Mem} {x : Int32 × Mem} (h : f_X7_readsSolver_j36 l1 mem = some x) (hP : Qr E κ (some (.int x.1)) ad (LC sh sp ++ LM) x.2) : Gw E κ 5 0 0 36 [some (.ref (ad 62)), some (.int l1), none, none, none] [] ad (LC sh sp ++ LM) mem := by
  unfold f_X7_readsSolver_j36 at h
  refine g_iconst (pc := 36) (v := 0) C dX7_readsSolver_36 rfl ?_
  exact j_X7_readsSolver_37 C hd h hP
set_option maxRecDepth 100000 in
set_option maxHeartbeats 4000000 in
theorem j_X7_readsSolver_18 {E : Ex} {κ : Kx} {ad : Nat → Nat} {sh sp : Nat} {d : Nat} (C : Cx E κ cX7_readsSolver RX7 5 (some .boolean) d) (hd : 2 ≤ d)  {w0 : Int32} {mem : Mem} {x : Int32 × Mem} (h : f_X7_readsSolver_j18 w0 mem = some x) (hP : Qr E κ (some (.int x.1)) ad (LC sh sp ++ LM) x.2) : Gw E κ 5 0 0 18 [some (.ref (ad 62)), none, none, none, none] [.int w0] ad (LC sh sp ++ LM) mem := by
  unfold f_X7_readsSolver_j18 at h
  refine g_istore_n (pc := 18) (i := 1) (lv' := [some (.ref (ad 62)), some (.int w0), none, none, none]) C dX7_readsSolver_18 rfl (by decide) rfl rfl ?_
  refine g_iload_n (pc := 19) (i := 1) (x := w0) C dX7_readsSolver_19 rfl rfl ?_
  rcases ite_some' h with ⟨hc20, h⟩ | ⟨hc20, h⟩
  · refine g_if_lt_t (pc := 20) C 36 dX7_readsSolver_20 (by decide) hc20 ?_
    exact j_X7_readsSolver_36 C hd h hP
  · refine g_if_lt_f (pc := 20) C 36 dX7_readsSolver_20 (by decide) hc20 ?_
    refine g_aload_n (pc := 23) (i := 0) (x := ad 62) C dX7_readsSolver_23 rfl rfl ?_
    refine g_bipush (pc := 24) (v := 44) C dX7_readsSolver_24 rfl ?_
    obtain ⟨r26, m26, hcall26, h⟩ := ob2_some h
    refine g_callV (pc := 26) C ce0 mi_X7_sign mv_X7_sign wm_X7_141 dX7_readsSolver_26 ok_X7 [.int 44] [] la_62 (by omega) rfl rfl (Nat.le_of_ble_eq_true rfl) (m_X7_sign (d := d - 1) (by omega)  hcall26) ?_
    show Gw E κ 5 0 0 29 [some (.ref (ad 62)), some (.int w0), none, none, none] [.int r26] ad (LC sh sp ++ LM) m26
    rcases ite_some' h with ⟨hc29, h⟩ | ⟨hc29, h⟩
    · refine g_if_eq_t (pc := 29) C 36 dX7_readsSolver_29 (by decide) hc29 ?_
      exact j_X7_readsSolver_36 C hd h hP
    · refine g_if_eq_f (pc := 29) C 36 dX7_readsSolver_29 (by decide) hc29 ?_
      refine g_iconst (pc := 32) (v := 1) C dX7_readsSolver_32 rfl ?_
      refine g_goto (pc := 33) C 37 dX7_readsSolver_33 (by decide) ?_
      exact j_X7_readsSolver_37 C hd h hP
set_option maxRecDepth 100000 in
set_option maxHeartbeats 4000000 in
theorem m_X7_readsSolver {E : Ex} {ad : Nat → Nat} {sh sp : Nat} {d : Nat} (hd : 2 ≤ d)   {mem : Mem} {r : Int32 × Mem} (h : f_X7_readsSolver mem = some r) : Cl E yX7_readsSolver cX7_readsSolver 5 (some .boolean) d [.ref (ad 62)] (some (.int r.1)) ad (LC sh sp ++ LM) mem (LC sh sp ++ LM) r.2 := by
  refine Cl.of [some (.ref (ad 62)), none, none, none, none] (by decide +kernel) rfl (Nat.le_of_ble_eq_true rfl) (fun κ C hP => ?_)
  have C : Cx E κ cX7_readsSolver RX7 5 (some .boolean) d := C
  unfold f_X7_readsSolver at h
  refine g_aload_n (pc := 0) (i := 0) (x := ad 62) C dX7_readsSolver_0 rfl rfl ?_
  refine g_get (pc := 1) (v := .int (mem 62 6)) C ok_X7 6 (by decide) wf_X7_116 dX7_readsSolver_1 la_62 rfl ?_
  refine g_bipush (pc := 4) (v := 6) C dX7_readsSolver_4 rfl ?_
  rcases ite_some' h with ⟨hc6, h⟩ | ⟨hc6, h⟩
  · refine g_icmp_ne_f (pc := 6) C 13 dX7_readsSolver_6 (by decide) hc6 ?_
    refine g_iconst (pc := 9) (v := (-1)) C dX7_readsSolver_9 rfl ?_
    refine g_goto (pc := 10) C 18 dX7_readsSolver_10 (by decide) ?_
    exact j_X7_readsSolver_18 C hd h hP
  · refine g_icmp_ne_t (pc := 6) C 13 dX7_readsSolver_6 (by decide) hc6 ?_
    refine g_aload_n (pc := 13) (i := 0) (x := ad 62) C dX7_readsSolver_13 rfl rfl ?_
    refine g_iconst (pc := 14) (v := 4) C dX7_readsSolver_14 rfl ?_
    obtain ⟨r15, m15, hcall15, h⟩ := ob2_some h
    refine g_callV (pc := 15) C ce0 mi_X7_number mv_X7_number wm_X7_137 dX7_readsSolver_15 ok_X7 [.int 4] [] la_62 (by omega) rfl rfl (Nat.le_of_ble_eq_true rfl) (m_X7_number (d := d - 1) (by omega)  hcall15) ?_
    show Gw E κ 5 0 0 18 [some (.ref (ad 62)), none, none, none, none] [.int r15] ad (LC sh sp ++ LM) m15
    exact j_X7_readsSolver_18 C hd h hP

theorem dX7_readsItem_0 : decode cX7_readsItem 0 = .ok (.aload_n 0, 1) := by decide +kernel
theorem dX7_readsItem_1 : decode cX7_readsItem 1 = .ok (.invokevirtual 133, 3) := by decide +kernel
theorem dX7_readsItem_4 : decode cX7_readsItem 4 = .ok (.istore_n 1, 1) := by decide +kernel
theorem dX7_readsItem_5 : decode cX7_readsItem 5 = .ok (.aload_n 0, 1) := by decide +kernel
theorem dX7_readsItem_6 : decode cX7_readsItem 6 = .ok (.dup, 1) := by decide +kernel
theorem dX7_readsItem_7 : decode cX7_readsItem 7 = .ok (.getfield 130, 3) := by decide +kernel
theorem dX7_readsItem_10 : decode cX7_readsItem 10 = .ok (.iconst 1, 1) := by decide +kernel
theorem dX7_readsItem_11 : decode cX7_readsItem 11 = .ok (.iadd, 1) := by decide +kernel
theorem dX7_readsItem_12 : decode cX7_readsItem 12 = .ok (.putfield 130, 3) := by decide +kernel
theorem dX7_readsItem_15 : decode cX7_readsItem 15 = .ok (.iconst 0, 1) := by decide +kernel
theorem dX7_readsItem_16 : decode cX7_readsItem 16 = .ok (.istore_n 2, 1) := by decide +kernel
theorem dX7_readsItem_17 : decode cX7_readsItem 17 = .ok (.iload_n 1, 1) := by decide +kernel
theorem dX7_readsItem_18 : decode cX7_readsItem 18 = .ok (.lookupswitch 90 #[(98, 58), (103, 50), (108, 74), (115, 82), (119, 66)], 50) := by decide +kernel
theorem dX7_readsItem_68 : decode cX7_readsItem 68 = .ok (.aload_n 0, 1) := by decide +kernel
theorem dX7_readsItem_69 : decode cX7_readsItem 69 = .ok (.invokevirtual 149, 3) := by decide +kernel
theorem dX7_readsItem_72 : decode cX7_readsItem 72 = .ok (.istore_n 2, 1) := by decide +kernel
theorem dX7_readsItem_73 : decode cX7_readsItem 73 = .ok (.goto 35, 3) := by decide +kernel
theorem dX7_readsItem_76 : decode cX7_readsItem 76 = .ok (.aload_n 0, 1) := by decide +kernel
theorem dX7_readsItem_77 : decode cX7_readsItem 77 = .ok (.invokevirtual 153, 3) := by decide +kernel
theorem dX7_readsItem_80 : decode cX7_readsItem 80 = .ok (.istore_n 2, 1) := by decide +kernel
theorem dX7_readsItem_81 : decode cX7_readsItem 81 = .ok (.goto 27, 3) := by decide +kernel
theorem dX7_readsItem_84 : decode cX7_readsItem 84 = .ok (.aload_n 0, 1) := by decide +kernel
theorem dX7_readsItem_85 : decode cX7_readsItem 85 = .ok (.invokevirtual 156, 3) := by decide +kernel
theorem dX7_readsItem_88 : decode cX7_readsItem 88 = .ok (.istore_n 2, 1) := by decide +kernel
theorem dX7_readsItem_89 : decode cX7_readsItem 89 = .ok (.goto 19, 3) := by decide +kernel
theorem dX7_readsItem_92 : decode cX7_readsItem 92 = .ok (.aload_n 0, 1) := by decide +kernel
theorem dX7_readsItem_93 : decode cX7_readsItem 93 = .ok (.invokevirtual 159, 3) := by decide +kernel
theorem dX7_readsItem_96 : decode cX7_readsItem 96 = .ok (.istore_n 2, 1) := by decide +kernel
theorem dX7_readsItem_97 : decode cX7_readsItem 97 = .ok (.goto 11, 3) := by decide +kernel
theorem dX7_readsItem_100 : decode cX7_readsItem 100 = .ok (.aload_n 0, 1) := by decide +kernel
theorem dX7_readsItem_101 : decode cX7_readsItem 101 = .ok (.invokevirtual 162, 3) := by decide +kernel
theorem dX7_readsItem_104 : decode cX7_readsItem 104 = .ok (.istore_n 2, 1) := by decide +kernel
theorem dX7_readsItem_105 : decode cX7_readsItem 105 = .ok (.goto 3, 3) := by decide +kernel
theorem dX7_readsItem_108 : decode cX7_readsItem 108 = .ok (.aload_n 0, 1) := by decide +kernel
theorem dX7_readsItem_109 : decode cX7_readsItem 109 = .ok (.aload_n 0, 1) := by decide +kernel
theorem dX7_readsItem_110 : decode cX7_readsItem 110 = .ok (.getfield 119, 3) := by decide +kernel
theorem dX7_readsItem_113 : decode cX7_readsItem 113 = .ok (.ifCond .ne 9, 3) := by decide +kernel
theorem dX7_readsItem_116 : decode cX7_readsItem 116 = .ok (.iload_n 1, 1) := by decide +kernel
theorem dX7_readsItem_117 : decode cX7_readsItem 117 = .ok (.bipush 103, 2) := by decide +kernel
theorem dX7_readsItem_119 : decode cX7_readsItem 119 = .ok (.if_icmp .eq 7, 3) := by decide +kernel
theorem dX7_readsItem_122 : decode cX7_readsItem 122 = .ok (.iconst 1, 1) := by decide +kernel
theorem dX7_readsItem_123 : decode cX7_readsItem 123 = .ok (.goto 4, 3) := by decide +kernel
theorem dX7_readsItem_126 : decode cX7_readsItem 126 = .ok (.iconst 0, 1) := by decide +kernel
theorem dX7_readsItem_127 : decode cX7_readsItem 127 = .ok (.putfield 119, 3) := by decide +kernel
theorem dX7_readsItem_130 : decode cX7_readsItem 130 = .ok (.iload_n 2, 1) := by decide +kernel
theorem dX7_readsItem_131 : decode cX7_readsItem 131 = .ok (.ifCond .eq 16, 3) := by decide +kernel
theorem dX7_readsItem_134 : decode cX7_readsItem 134 = .ok (.aload_n 0, 1) := by decide +kernel
theorem dX7_readsItem_135 : decode cX7_readsItem 135 = .ok (.bipush 59, 2) := by decide +kernel
theorem dX7_readsItem_137 : decode cX7_readsItem 137 = .ok (.invokevirtual 141, 3) := by decide +kernel
theorem dX7_readsItem_140 : decode cX7_readsItem 140 = .ok (.ifCond .eq 7, 3) := by decide +kernel
theorem dX7_readsItem_143 : decode cX7_readsItem 143 = .ok (.iconst 1, 1) := by decide +kernel
theorem dX7_readsItem_144 : decode cX7_readsItem 144 = .ok (.goto 4, 3) := by decide +kernel
theorem dX7_readsItem_147 : decode cX7_readsItem 147 = .ok (.iconst 0, 1) := by decide +kernel
theorem dX7_readsItem_148 : decode cX7_readsItem 148 = .ok (.ireturn, 1) := by decide +kernel
noncomputable def f_X7_readsItem_j127 (l2 : Int32) (w1 : Int32) (mem : Mem) : Option (Int32 × Mem) :=
  bk w1 <| lt' (mset mem 62 7 w1) fun m127 => if l2 = 0 then (some (0, m127)) else (ob2 (f_X7_sign 59 m127) fun r137 m137 => if r137 = 0 then (some (0, m137)) else (some (1, m137)))
noncomputable def f_X7_readsItem_j122 (l2 : Int32) (mem : Mem) : Option (Int32 × Mem) :=
  f_X7_readsItem_j127 l2 1 mem
noncomputable def f_X7_readsItem_j108 (l1 : Int32) (l2 : Int32) (mem : Mem) : Option (Int32 × Mem) :=
  if (mem 62 7) = 0 then (if l1 = 103 then (f_X7_readsItem_j127 l2 0 mem) else (f_X7_readsItem_j122 l2 mem)) else (f_X7_readsItem_j122 l2 mem)
noncomputable def f_X7_readsItem  (mem : Mem) : Option (Int32 × Mem) :=
  ob (f_X7_here mem) fun r1 => lt' (mset mem 62 2 ((mem 62 2) + 1)) fun m12 => if r1 = 98 then (ob2 (f_X7_readsBlack m12) fun r77 m77 => f_X7_readsItem_j108 r1 r77 m77) else (if r1 = 103 then (ob2 (f_X7_readsGrid m12) fun r69 m69 => f_X7_readsItem_j108 r1 r69 m69) else (if r1 = 108 then (ob2 (f_X7_readsLetter m12) fun r93 m93 => f_X7_readsItem_j108 r1 r93 m93) else (if r1 = 115 then (ob2 (f_X7_readsSolver m12) fun r101 m101 => f_X7_readsItem_j108 r1 r101 m101) else (if r1 = 119 then (ob2 (f_X7_readsWord m12) fun r85 m85 => f_X7_readsItem_j108 r1 r85 m85) else (f_X7_readsItem_j108 r1 0 m12)))))
set_option maxRecDepth 100000 in
set_option maxHeartbeats 4000000 in
theorem j_X7_readsItem_127 {E : Ex} {κ : Kx} {ad : Nat → Nat} {sh sp : Nat} {d : Nat} (C : Cx E κ cX7_readsItem RX7 3 (some .boolean) d) (hd : 3 ≤ d)  {l2 : Int32} {w1 : Int32} {mem : Mem} {x : Int32 × Mem} (h : f_X7_readsItem_j127 l2 w1 mem = some x) (hP : Qr E κ (some (.int x.1)) ad (LC sh sp ++ LM) x.2) : Gw E κ 3 0 0 127 [some (.ref (ad 62)), none, some (.int l2)] [.int w1, .ref (ad 62)] ad (LC sh sp ++ LM) mem := by
  unfold f_X7_readsItem_j127 at h
  obtain ⟨hb127, h⟩ := bk_some h
  obtain ⟨m127, hm127, h⟩ := lt_some h
  refine g_putZ (pc := 127) C ok_X7 7 (by decide) wf_X7_119 dX7_readsItem_127 rfl rfl hb127 la_62 ?_
  refine g_mem hm127 ?_
  refine g_iload_n (pc := 130) (i := 2) (x := l2) C dX7_readsItem_130 rfl rfl ?_
  rcases ite_some' h with ⟨hc131, h⟩ | ⟨hc131, h⟩
  · refine g_if_eq_t (pc := 131) C 147 dX7_readsItem_131 (by decide) hc131 ?_
    refine g_iconst (pc := 147) (v := 0) C dX7_readsItem_147 rfl ?_
    cases h
    exact g_iret (pc := 148) C hP rfl rfl dX7_readsItem_148
  · refine g_if_eq_f (pc := 131) C 147 dX7_readsItem_131 (by decide) hc131 ?_
    refine g_aload_n (pc := 134) (i := 0) (x := ad 62) C dX7_readsItem_134 rfl rfl ?_
    refine g_bipush (pc := 135) (v := 59) C dX7_readsItem_135 rfl ?_
    obtain ⟨r137, m137, hcall137, h⟩ := ob2_some h
    refine g_callV (pc := 137) C ce0 mi_X7_sign mv_X7_sign wm_X7_141 dX7_readsItem_137 ok_X7 [.int 59] [] la_62 (by omega) rfl rfl (Nat.le_of_ble_eq_true rfl) (m_X7_sign (d := d - 1) (by omega)  hcall137) ?_
    show Gw E κ 3 0 0 140 [some (.ref (ad 62)), none, some (.int l2)] [.int r137] ad (LC sh sp ++ LM) m137
    rcases ite_some' h with ⟨hc140, h⟩ | ⟨hc140, h⟩
    · refine g_if_eq_t (pc := 140) C 147 dX7_readsItem_140 (by decide) hc140 ?_
      refine g_iconst (pc := 147) (v := 0) C dX7_readsItem_147 rfl ?_
      cases h
      exact g_iret (pc := 148) C hP rfl rfl dX7_readsItem_148
    · refine g_if_eq_f (pc := 140) C 147 dX7_readsItem_140 (by decide) hc140 ?_
      refine g_iconst (pc := 143) (v := 1) C dX7_readsItem_143 rfl ?_
      refine g_goto (pc := 144) C 148 dX7_readsItem_144 (by decide) ?_
      cases h
      exact g_iret (pc := 148) C hP rfl rfl dX7_readsItem_148
set_option maxRecDepth 100000 in
set_option maxHeartbeats 4000000 in
theorem j_X7_readsItem_122 {E : Ex} {κ : Kx} {ad : Nat → Nat} {sh sp : Nat} {d : Nat} (C : Cx E κ cX7_readsItem RX7 3 (some .boolean) d) (hd : 3 ≤ d)  {l2 : Int32} {mem : Mem} {x : Int32 × Mem} (h : f_X7_readsItem_j122 l2 mem = some x) (hP : Qr E κ (some (.int x.1)) ad (LC sh sp ++ LM) x.2) : Gw E κ 3 0 0 122 [some (.ref (ad 62)), none, some (.int l2)] [.ref (ad 62)] ad (LC sh sp ++ LM) mem := by
  unfold f_X7_readsItem_j122 at h
  refine g_iconst (pc := 122) (v := 1) C dX7_readsItem_122 rfl ?_
  refine g_goto (pc := 123) C 127 dX7_readsItem_123 (by decide) ?_
  exact j_X7_readsItem_127 C hd h hP
set_option maxRecDepth 100000 in
set_option maxHeartbeats 4000000 in
theorem j_X7_readsItem_108 {E : Ex} {κ : Kx} {ad : Nat → Nat} {sh sp : Nat} {d : Nat} (C : Cx E κ cX7_readsItem RX7 3 (some .boolean) d) (hd : 3 ≤ d)  {l1 : Int32} {l2 : Int32} {mem : Mem} {x : Int32 × Mem} (h : f_X7_readsItem_j108 l1 l2 mem = some x) (hP : Qr E κ (some (.int x.1)) ad (LC sh sp ++ LM) x.2) : Gw E κ 3 0 0 108 [some (.ref (ad 62)), some (.int l1), some (.int l2)] [] ad (LC sh sp ++ LM) mem := by
  unfold f_X7_readsItem_j108 at h
  refine g_aload_n (pc := 108) (i := 0) (x := ad 62) C dX7_readsItem_108 rfl rfl ?_
  refine g_aload_n (pc := 109) (i := 0) (x := ad 62) C dX7_readsItem_109 rfl rfl ?_
  refine g_get (pc := 110) (v := .int (mem 62 7)) C ok_X7 7 (by decide) wf_X7_119 dX7_readsItem_110 la_62 rfl ?_
  rcases ite_some' h with ⟨hc113, h⟩ | ⟨hc113, h⟩
  · refine g_if_ne_f (pc := 113) C 122 dX7_readsItem_113 (by decide) hc113 ?_
    refine g_iload_n (pc := 116) (i := 1) (x := l1) C dX7_readsItem_116 rfl rfl ?_
    refine g_bipush (pc := 117) (v := 103) C dX7_readsItem_117 rfl ?_
    rcases ite_some' h with ⟨hc119, h⟩ | ⟨hc119, h⟩
    · refine g_icmp_eq_t (pc := 119) C 126 dX7_readsItem_119 (by decide) hc119 ?_
      refine g_iconst (pc := 126) (v := 0) C dX7_readsItem_126 rfl ?_
      refine g_mask (lv' := [some (.ref (ad 62)), none, some (.int l2)]) [true, false, true] rfl ?_
      exact j_X7_readsItem_127 C hd h hP
    · refine g_icmp_eq_f (pc := 119) C 126 dX7_readsItem_119 (by decide) hc119 ?_
      refine g_mask (lv' := [some (.ref (ad 62)), none, some (.int l2)]) [true, false, true] rfl ?_
      exact j_X7_readsItem_122 C hd h hP
  · refine g_if_ne_t (pc := 113) C 122 dX7_readsItem_113 (by decide) hc113 ?_
    refine g_mask (lv' := [some (.ref (ad 62)), none, some (.int l2)]) [true, false, true] rfl ?_
    exact j_X7_readsItem_122 C hd h hP
set_option maxRecDepth 100000 in
set_option maxHeartbeats 4000000 in
theorem m_X7_readsItem {E : Ex} {ad : Nat → Nat} {sh sp : Nat} {d : Nat} (hd : 3 ≤ d)   {mem : Mem} {r : Int32 × Mem} (h : f_X7_readsItem mem = some r) : Cl E yX7_readsItem cX7_readsItem 3 (some .boolean) d [.ref (ad 62)] (some (.int r.1)) ad (LC sh sp ++ LM) mem (LC sh sp ++ LM) r.2 := by
  refine Cl.of [some (.ref (ad 62)), none, none] (by decide +kernel) rfl (Nat.le_of_ble_eq_true rfl) (fun κ C hP => ?_)
  have C : Cx E κ cX7_readsItem RX7 3 (some .boolean) d := C
  unfold f_X7_readsItem at h
  refine g_aload_n (pc := 0) (i := 0) (x := ad 62) C dX7_readsItem_0 rfl rfl ?_
  obtain ⟨r1, hcall1, h⟩ := ob_some h
  refine g_callV (pc := 1) C ce0 mi_X7_here mv_X7_here wm_X7_133 dX7_readsItem_1 ok_X7 [] [] la_62 (by omega) rfl rfl (Nat.le_of_ble_eq_true rfl) (m_X7_here (d := d - 1) (by omega)  hcall1) ?_
  show Gw E κ 3 0 0 4 [some (.ref (ad 62)), none, none] [.int r1] ad (LC sh sp ++ LM) mem
  refine g_istore_n (pc := 4) (i := 1) (lv' := [some (.ref (ad 62)), some (.int r1), none]) C dX7_readsItem_4 rfl (by decide) rfl rfl ?_
  refine g_aload_n (pc := 5) (i := 0) (x := ad 62) C dX7_readsItem_5 rfl rfl ?_
  refine g_dup (pc := 6) C dX7_readsItem_6 rfl ?_
  refine g_get (pc := 7) (v := .int (mem 62 2)) C ok_X7 2 (by decide) wf_X7_130 dX7_readsItem_7 la_62 rfl ?_
  refine g_iconst (pc := 10) (v := 1) C dX7_readsItem_10 rfl ?_
  refine g_iadd (pc := 11) C dX7_readsItem_11 ?_
  obtain ⟨m12, hm12, h⟩ := lt_some h
  refine g_put (pc := 12) C ok_X7 2 (by decide) wf_X7_130 dX7_readsItem_12 rfl rfl la_62 ?_
  refine g_mem hm12 ?_
  refine g_iconst (pc := 15) (v := 0) C dX7_readsItem_15 rfl ?_
  refine g_istore_n (pc := 16) (i := 2) (lv' := [some (.ref (ad 62)), some (.int r1), some (.int 0)]) C dX7_readsItem_16 rfl (by decide) rfl rfl ?_
  refine g_iload_n (pc := 17) (i := 1) (x := r1) C dX7_readsItem_17 rfl rfl ?_
  rcases ite_some' h with ⟨hc18_0, h⟩ | ⟨hc18_0, h⟩
  · refine g_lsw (pc := 18) (n := 98) C 98 76 hc18_0 rfl dX7_readsItem_18 (by decide) rfl (by decide) ?_
    refine g_aload_n (pc := 76) (i := 0) (x := ad 62) C dX7_readsItem_76 rfl rfl ?_
    obtain ⟨r77, m77, hcall77, h⟩ := ob2_some h
    refine g_callV (pc := 77) C ce0 mi_X7_readsBlack mv_X7_readsBlack wm_X7_153 dX7_readsItem_77 ok_X7 [] [] la_62 (by omega) rfl rfl (Nat.le_of_ble_eq_true rfl) (m_X7_readsBlack (d := d - 1) (by omega)  hcall77) ?_
    show Gw E κ 3 0 0 80 [some (.ref (ad 62)), some (.int r1), some (.int 0)] [.int r77] ad (LC sh sp ++ LM) m77
    refine g_istore_n (pc := 80) (i := 2) (lv' := [some (.ref (ad 62)), some (.int r1), some (.int r77)]) C dX7_readsItem_80 rfl (by decide) rfl rfl ?_
    refine g_goto (pc := 81) C 108 dX7_readsItem_81 (by decide) ?_
    exact j_X7_readsItem_108 C hd h hP
  · skip
    rcases ite_some' h with ⟨hc18_1, h⟩ | ⟨hc18_1, h⟩
    · refine g_lsw (pc := 18) (n := 103) C 103 68 hc18_1 rfl dX7_readsItem_18 (by decide) rfl (by decide) ?_
      refine g_aload_n (pc := 68) (i := 0) (x := ad 62) C dX7_readsItem_68 rfl rfl ?_
      obtain ⟨r69, m69, hcall69, h⟩ := ob2_some h
      refine g_callV (pc := 69) C ce0 mi_X7_readsGrid mv_X7_readsGrid wm_X7_149 dX7_readsItem_69 ok_X7 [] [] la_62 (by omega) rfl rfl (Nat.le_of_ble_eq_true rfl) (m_X7_readsGrid (d := d - 1) (by omega)  hcall69) ?_
      show Gw E κ 3 0 0 72 [some (.ref (ad 62)), some (.int r1), some (.int 0)] [.int r69] ad (LC sh sp ++ LM) m69
      refine g_istore_n (pc := 72) (i := 2) (lv' := [some (.ref (ad 62)), some (.int r1), some (.int r69)]) C dX7_readsItem_72 rfl (by decide) rfl rfl ?_
      refine g_goto (pc := 73) C 108 dX7_readsItem_73 (by decide) ?_
      exact j_X7_readsItem_108 C hd h hP
    · skip
      rcases ite_some' h with ⟨hc18_2, h⟩ | ⟨hc18_2, h⟩
      · refine g_lsw (pc := 18) (n := 108) C 108 92 hc18_2 rfl dX7_readsItem_18 (by decide) rfl (by decide) ?_
        refine g_aload_n (pc := 92) (i := 0) (x := ad 62) C dX7_readsItem_92 rfl rfl ?_
        obtain ⟨r93, m93, hcall93, h⟩ := ob2_some h
        refine g_callV (pc := 93) C ce0 mi_X7_readsLetter mv_X7_readsLetter wm_X7_159 dX7_readsItem_93 ok_X7 [] [] la_62 (by omega) rfl rfl (Nat.le_of_ble_eq_true rfl) (m_X7_readsLetter (d := d - 1) (by omega)  hcall93) ?_
        show Gw E κ 3 0 0 96 [some (.ref (ad 62)), some (.int r1), some (.int 0)] [.int r93] ad (LC sh sp ++ LM) m93
        refine g_istore_n (pc := 96) (i := 2) (lv' := [some (.ref (ad 62)), some (.int r1), some (.int r93)]) C dX7_readsItem_96 rfl (by decide) rfl rfl ?_
        refine g_goto (pc := 97) C 108 dX7_readsItem_97 (by decide) ?_
        exact j_X7_readsItem_108 C hd h hP
      · skip
        rcases ite_some' h with ⟨hc18_3, h⟩ | ⟨hc18_3, h⟩
        · refine g_lsw (pc := 18) (n := 115) C 115 100 hc18_3 rfl dX7_readsItem_18 (by decide) rfl (by decide) ?_
          refine g_aload_n (pc := 100) (i := 0) (x := ad 62) C dX7_readsItem_100 rfl rfl ?_
          obtain ⟨r101, m101, hcall101, h⟩ := ob2_some h
          refine g_callV (pc := 101) C ce0 mi_X7_readsSolver mv_X7_readsSolver wm_X7_162 dX7_readsItem_101 ok_X7 [] [] la_62 (by omega) rfl rfl (Nat.le_of_ble_eq_true rfl) (m_X7_readsSolver (d := d - 1) (by omega)  hcall101) ?_
          show Gw E κ 3 0 0 104 [some (.ref (ad 62)), some (.int r1), some (.int 0)] [.int r101] ad (LC sh sp ++ LM) m101
          refine g_istore_n (pc := 104) (i := 2) (lv' := [some (.ref (ad 62)), some (.int r1), some (.int r101)]) C dX7_readsItem_104 rfl (by decide) rfl rfl ?_
          refine g_goto (pc := 105) C 108 dX7_readsItem_105 (by decide) ?_
          exact j_X7_readsItem_108 C hd h hP
        · skip
          rcases ite_some' h with ⟨hc18_4, h⟩ | ⟨hc18_4, h⟩
          · refine g_lsw (pc := 18) (n := 119) C 119 84 hc18_4 rfl dX7_readsItem_18 (by decide) rfl (by decide) ?_
            refine g_aload_n (pc := 84) (i := 0) (x := ad 62) C dX7_readsItem_84 rfl rfl ?_
            obtain ⟨r85, m85, hcall85, h⟩ := ob2_some h
            refine g_callV (pc := 85) C ce0 mi_X7_readsWord mv_X7_readsWord wm_X7_156 dX7_readsItem_85 ok_X7 [] [] la_62 (by omega) rfl rfl (Nat.le_of_ble_eq_true rfl) (m_X7_readsWord (d := d - 1) (by omega)  hcall85) ?_
            show Gw E κ 3 0 0 88 [some (.ref (ad 62)), some (.int r1), some (.int 0)] [.int r85] ad (LC sh sp ++ LM) m85
            refine g_istore_n (pc := 88) (i := 2) (lv' := [some (.ref (ad 62)), some (.int r1), some (.int r85)]) C dX7_readsItem_88 rfl (by decide) rfl rfl ?_
            refine g_goto (pc := 89) C 108 dX7_readsItem_89 (by decide) ?_
            exact j_X7_readsItem_108 C hd h hP
          · skip
            refine g_lswD (pc := 18) C 108 dX7_readsItem_18 (by decide) (by intro z hz; simp only [List.mem_cons, List.not_mem_nil, or_false] at hz; rcases hz with rfl | rfl | rfl | rfl | rfl; exact i32_ne 98 hc18_0 rfl; exact i32_ne 103 hc18_1 rfl; exact i32_ne 108 hc18_2 rfl; exact i32_ne 115 hc18_3 rfl; exact i32_ne 119 hc18_4 rfl) (by decide) ?_
            exact j_X7_readsItem_108 C hd h hP
