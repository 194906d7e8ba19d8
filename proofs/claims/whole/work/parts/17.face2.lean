theorem dX6_counts_0 : decode cX6_counts 0 = .ok (.aload_n 0, 1) := by decide +kernel
theorem dX6_counts_1 : decode cX6_counts 1 = .ok (.iload_n 1, 1) := by decide +kernel
theorem dX6_counts_2 : decode cX6_counts 2 = .ok (.invokevirtual 107, 3) := by decide +kernel
theorem dX6_counts_5 : decode cX6_counts 5 = .ok (.ifCond .eq 20, 3) := by decide +kernel
theorem dX6_counts_8 : decode cX6_counts 8 = .ok (.aload_n 0, 1) := by decide +kernel
theorem dX6_counts_9 : decode cX6_counts 9 = .ok (.iload_n 2, 1) := by decide +kernel
theorem dX6_counts_10 : decode cX6_counts 10 = .ok (.invokevirtual 126, 3) := by decide +kernel
theorem dX6_counts_13 : decode cX6_counts 13 = .ok (.ifCond .eq 12, 3) := by decide +kernel
theorem dX6_counts_16 : decode cX6_counts 16 = .ok (.iload_n 3, 1) := by decide +kernel
theorem dX6_counts_17 : decode cX6_counts 17 = .ok (.ifCond .lt 8, 3) := by decide +kernel
theorem dX6_counts_20 : decode cX6_counts 20 = .ok (.iload_n 3, 1) := by decide +kernel
theorem dX6_counts_21 : decode cX6_counts 21 = .ok (.iconst 1, 1) := by decide +kernel
theorem dX6_counts_22 : decode cX6_counts 22 = .ok (.if_icmp .le 5, 3) := by decide +kernel
theorem dX6_counts_25 : decode cX6_counts 25 = .ok (.iconst (-1), 1) := by decide +kernel
theorem dX6_counts_26 : decode cX6_counts 26 = .ok (.ireturn, 1) := by decide +kernel
theorem dX6_counts_27 : decode cX6_counts 27 = .ok (.aload_n 0, 1) := by decide +kernel
theorem dX6_counts_28 : decode cX6_counts 28 = .ok (.getfield 33, 3) := by decide +kernel
theorem dX6_counts_31 : decode cX6_counts 31 = .ok (.aload_n 0, 1) := by decide +kernel
theorem dX6_counts_32 : decode cX6_counts 32 = .ok (.getfield 29, 3) := by decide +kernel
theorem dX6_counts_35 : decode cX6_counts 35 = .ok (.invokevirtual 188, 3) := by decide +kernel
theorem dX6_counts_38 : decode cX6_counts 38 = .ok (.aload_n 0, 1) := by decide +kernel
theorem dX6_counts_39 : decode cX6_counts 39 = .ok (.getfield 39, 3) := by decide +kernel
theorem dX6_counts_42 : decode cX6_counts 42 = .ok (.aload_n 0, 1) := by decide +kernel
theorem dX6_counts_43 : decode cX6_counts 43 = .ok (.getfield 19, 3) := by decide +kernel
theorem dX6_counts_46 : decode cX6_counts 46 = .ok (.aload_n 0, 1) := by decide +kernel
theorem dX6_counts_47 : decode cX6_counts 47 = .ok (.getfield 33, 3) := by decide +kernel
theorem dX6_counts_50 : decode cX6_counts 50 = .ok (.bipush 63, 2) := by decide +kernel
theorem dX6_counts_52 : decode cX6_counts 52 = .ok (.invokevirtual 162, 3) := by decide +kernel
theorem dX6_counts_55 : decode cX6_counts 55 = .ok (.pop, 1) := by decide +kernel
theorem dX6_counts_56 : decode cX6_counts 56 = .ok (.iload_n 3, 1) := by decide +kernel
theorem dX6_counts_57 : decode cX6_counts 57 = .ok (.ifCond .ne 21, 3) := by decide +kernel
theorem dX6_counts_60 : decode cX6_counts 60 = .ok (.aload_n 0, 1) := by decide +kernel
theorem dX6_counts_61 : decode cX6_counts 61 = .ok (.getfield 39, 3) := by decide +kernel
theorem dX6_counts_64 : decode cX6_counts 64 = .ok (.aload_n 0, 1) := by decide +kernel
theorem dX6_counts_65 : decode cX6_counts 65 = .ok (.getfield 19, 3) := by decide +kernel
theorem dX6_counts_68 : decode cX6_counts 68 = .ok (.aload_n 0, 1) := by decide +kernel
theorem dX6_counts_69 : decode cX6_counts 69 = .ok (.getfield 33, 3) := by decide +kernel
theorem dX6_counts_72 : decode cX6_counts 72 = .ok (.iload_n 1, 1) := by decide +kernel
theorem dX6_counts_73 : decode cX6_counts 73 = .ok (.iload_n 2, 1) := by decide +kernel
theorem dX6_counts_74 : decode cX6_counts 74 = .ok (.invokevirtual 207, 3) := by decide +kernel
theorem dX6_counts_77 : decode cX6_counts 77 = .ok (.ireturn, 1) := by decide +kernel
theorem dX6_counts_78 : decode cX6_counts 78 = .ok (.aload_n 0, 1) := by decide +kernel
theorem dX6_counts_79 : decode cX6_counts 79 = .ok (.getfield 39, 3) := by decide +kernel
theorem dX6_counts_82 : decode cX6_counts 82 = .ok (.aload_n 0, 1) := by decide +kernel
theorem dX6_counts_83 : decode cX6_counts 83 = .ok (.getfield 19, 3) := by decide +kernel
theorem dX6_counts_86 : decode cX6_counts 86 = .ok (.aload_n 0, 1) := by decide +kernel
theorem dX6_counts_87 : decode cX6_counts 87 = .ok (.getfield 33, 3) := by decide +kernel
theorem dX6_counts_90 : decode cX6_counts 90 = .ok (.iload_n 1, 1) := by decide +kernel
theorem dX6_counts_91 : decode cX6_counts 91 = .ok (.iload_n 2, 1) := by decide +kernel
theorem dX6_counts_92 : decode cX6_counts 92 = .ok (.invokevirtual 211, 3) := by decide +kernel
theorem dX6_counts_95 : decode cX6_counts 95 = .ok (.ifCond .eq 7, 3) := by decide +kernel
theorem dX6_counts_98 : decode cX6_counts 98 = .ok (.iconst 1, 1) := by decide +kernel
theorem dX6_counts_99 : decode cX6_counts 99 = .ok (.goto 4, 3) := by decide +kernel
theorem dX6_counts_102 : decode cX6_counts 102 = .ok (.iconst 0, 1) := by decide +kernel
theorem dX6_counts_103 : decode cX6_counts 103 = .ok (.ireturn, 1) := by decide +kernel
noncomputable def f_X6_counts (sh : Nat) (l1 : Int32) (l2 : Int32) (l3 : Int32) (mem : Mem) : Option (Int32 × Mem) :=
  ob (f_X6_isPlace sh l1 mem) fun r2 => if r2 = 0 then (some ((-1), mem)) else (ob (f_X6_isWord sh l2 mem) fun r10 => if r10 = 0 then (some ((-1), mem)) else (if l3 < 0 then (some ((-1), mem)) else (if l3 ≤ 1 then (ob (f_X0_copy 35 31 mem) fun m35 => ob2 (f_X3_hold sh 35 63 m35) fun r52 m52 => if l3 = 0 then (ob (f_X3_totalOf sh 35 l1 l2 m52) fun r74 => some (r74, m52)) else (ob (f_X3_hasPrinted sh 35 l1 l2 m52) fun r92 => if r92 = 0 then (some (0, m52)) else (some (1, m52)))) else (some ((-1), mem)))))
set_option maxRecDepth 100000 in
set_option maxHeartbeats 4000000 in
theorem m_X6_counts {E : Ex} {ad : Nat → Nat} {sh sp : Nat} {tl : List Ent} {d : Nat} (hd : 5 ≤ d) (hsh : isS sh) (hsp : isS sp) {l1 : Int32} {l2 : Int32} {l3 : Int32} {mem : Mem} {r : Int32 × Mem} (h : f_X6_counts sh l1 l2 l3 mem = some r) : Cl E yX6_counts cX6_counts 4 (some .int) d [.ref (ad 0), .int l1, .int l2, .int l3] (some (.int r.1)) ad (LC sh sp ++ tl) mem (LC sh sp ++ tl) r.2 := by
  refine Cl.of [some (.ref (ad 0)), some (.int l1), some (.int l2), some (.int l3)] (by decide +kernel) rfl (Nat.le_of_ble_eq_true rfl) (fun κ C hP => ?_)
  have C : Cx E κ cX6_counts RX6 4 (some .int) d := C
  unfold f_X6_counts at h
  refine g_aload_n (pc := 0) (i := 0) (x := ad 0) C dX6_counts_0 rfl rfl ?_
  refine g_iload_n (pc := 1) (i := 1) (x := l1) C dX6_counts_1 rfl rfl ?_
  obtain ⟨r2, hcall2, h⟩ := ob_some h
  refine g_callV (pc := 2) C ce0 mi_X6_isPlace mv_X6_isPlace wm_X6_107 dX6_counts_2 ok_X6 [.int l1] [] la_0 (by omega) rfl rfl (Nat.le_of_ble_eq_true rfl) (m_X6_isPlace (d := d - 1) (by omega) hsh hsp hcall2) ?_
  show Gw E κ 4 0 0 5 [some (.ref (ad 0)), some (.int l1), some (.int l2), some (.int l3)] [.int r2] ad (LC sh sp ++ tl) mem
  rcases ite_some' h with ⟨hc5, h⟩ | ⟨hc5, h⟩
  · refine g_if_eq_t (pc := 5) C 25 dX6_counts_5 (by decide) hc5 ?_
    refine g_iconst (pc := 25) (v := (-1)) C dX6_counts_25 rfl ?_
    cases h
    exact g_iret (pc := 26) C hP rfl rfl dX6_counts_26
  · refine g_if_eq_f (pc := 5) C 25 dX6_counts_5 (by decide) hc5 ?_
    refine g_aload_n (pc := 8) (i := 0) (x := ad 0) C dX6_counts_8 rfl rfl ?_
    refine g_iload_n (pc := 9) (i := 2) (x := l2) C dX6_counts_9 rfl rfl ?_
    obtain ⟨r10, hcall10, h⟩ := ob_some h
    refine g_callV (pc := 10) C ce0 mi_X6_isWord mv_X6_isWord wm_X6_126 dX6_counts_10 ok_X6 [.int l2] [] la_0 (by omega) rfl rfl (Nat.le_of_ble_eq_true rfl) (m_X6_isWord (d := d - 1) (by omega) hsh hsp hcall10) ?_
    show Gw E κ 4 0 0 13 [some (.ref (ad 0)), some (.int l1), some (.int l2), some (.int l3)] [.int r10] ad (LC sh sp ++ tl) mem
    rcases ite_some' h with ⟨hc13, h⟩ | ⟨hc13, h⟩
    · refine g_if_eq_t (pc := 13) C 25 dX6_counts_13 (by decide) hc13 ?_
      refine g_iconst (pc := 25) (v := (-1)) C dX6_counts_25 rfl ?_
      cases h
      exact g_iret (pc := 26) C hP rfl rfl dX6_counts_26
    · refine g_if_eq_f (pc := 13) C 25 dX6_counts_13 (by decide) hc13 ?_
      refine g_iload_n (pc := 16) (i := 3) (x := l3) C dX6_counts_16 rfl rfl ?_
      rcases ite_some' h with ⟨hc17, h⟩ | ⟨hc17, h⟩
      · refine g_if_lt_t (pc := 17) C 25 dX6_counts_17 (by decide) hc17 ?_
        refine g_iconst (pc := 25) (v := (-1)) C dX6_counts_25 rfl ?_
        cases h
        exact g_iret (pc := 26) C hP rfl rfl dX6_counts_26
      · refine g_if_lt_f (pc := 17) C 25 dX6_counts_17 (by decide) hc17 ?_
        refine g_iload_n (pc := 20) (i := 3) (x := l3) C dX6_counts_20 rfl rfl ?_
        refine g_iconst (pc := 21) (v := 1) C dX6_counts_21 rfl ?_
        rcases ite_some' h with ⟨hc22, h⟩ | ⟨hc22, h⟩
        · refine g_icmp_le_t (pc := 22) C 27 dX6_counts_22 (by decide) hc22 ?_
          refine g_aload_n (pc := 27) (i := 0) (x := ad 0) C dX6_counts_27 rfl rfl ?_
          refine g_get (pc := 28) (v := .ref (ad 35)) C ok_X6 4 (by decide) wf_X6_33 dX6_counts_28 la_0 rfl ?_
          refine g_aload_n (pc := 31) (i := 0) (x := ad 0) C dX6_counts_31 rfl rfl ?_
          refine g_get (pc := 32) (v := .ref (ad 31)) C ok_X6 3 (by decide) wf_X6_29 dX6_counts_32 la_0 rfl ?_
          obtain ⟨m35, hcall35, h⟩ := ob_some h
          refine g_callN (pc := 35) C ce0 mi_X0_copy mv_X0_copy nm_X6_188 dX6_counts_35 ok_X0 [.ref (ad 31)] [] la_35 (by omega) rfl rfl (Nat.le_of_ble_eq_true rfl) (m_X0_copy (d := d - 1) (by omega) t_35 t_31 hcall35) ?_
          show Gw E κ 4 0 0 38 [some (.ref (ad 0)), some (.int l1), some (.int l2), some (.int l3)] [] ad (LC sh sp ++ tl) m35
          refine g_aload_n (pc := 38) (i := 0) (x := ad 0) C dX6_counts_38 rfl rfl ?_
          refine g_get (pc := 39) (v := .ref (ad 39)) C ok_X6 5 (by decide) wf_X6_39 dX6_counts_39 la_0 rfl ?_
          refine g_aload_n (pc := 42) (i := 0) (x := ad 0) C dX6_counts_42 rfl rfl ?_
          refine g_get (pc := 43) (v := .ref (ad sh)) C ok_X6 1 (by decide) wf_X6_19 dX6_counts_43 la_0 rfl ?_
          refine g_aload_n (pc := 46) (i := 0) (x := ad 0) C dX6_counts_46 rfl rfl ?_
          refine g_get (pc := 47) (v := .ref (ad 35)) C ok_X6 4 (by decide) wf_X6_33 dX6_counts_47 la_0 rfl ?_
          refine g_bipush (pc := 50) (v := 63) C dX6_counts_50 rfl ?_
          obtain ⟨r52, m52, hcall52, h⟩ := ob2_some h
          refine g_callN (pc := 52) C ce0 mi_X3_hold mv_X3_hold nm_X6_162 dX6_counts_52 ok_X3 [.ref (ad sh), .ref (ad 35), .int 63] [] la_39 (by omega) rfl rfl (Nat.le_of_ble_eq_true rfl) (m_X3_hold (d := d - 1) (by omega) hsh t_35 hcall52) ?_
          show Gw E κ 4 0 0 55 [some (.ref (ad 0)), some (.int l1), some (.int l2), some (.int l3)] [.int r52] ad (LC sh sp ++ tl) m52
          refine g_pop (pc := 55) C dX6_counts_55 rfl ?_
          refine g_iload_n (pc := 56) (i := 3) (x := l3) C dX6_counts_56 rfl rfl ?_
          rcases ite_some' h with ⟨hc57, h⟩ | ⟨hc57, h⟩
          · refine g_if_ne_f (pc := 57) C 78 dX6_counts_57 (by decide) hc57 ?_
            refine g_aload_n (pc := 60) (i := 0) (x := ad 0) C dX6_counts_60 rfl rfl ?_
            refine g_get (pc := 61) (v := .ref (ad 39)) C ok_X6 5 (by decide) wf_X6_39 dX6_counts_61 la_0 rfl ?_
            refine g_aload_n (pc := 64) (i := 0) (x := ad 0) C dX6_counts_64 rfl rfl ?_
            refine g_get (pc := 65) (v := .ref (ad sh)) C ok_X6 1 (by decide) wf_X6_19 dX6_counts_65 la_0 rfl ?_
            refine g_aload_n (pc := 68) (i := 0) (x := ad 0) C dX6_counts_68 rfl rfl ?_
            refine g_get (pc := 69) (v := .ref (ad 35)) C ok_X6 4 (by decide) wf_X6_33 dX6_counts_69 la_0 rfl ?_
            refine g_iload_n (pc := 72) (i := 1) (x := l1) C dX6_counts_72 rfl rfl ?_
            refine g_iload_n (pc := 73) (i := 2) (x := l2) C dX6_counts_73 rfl rfl ?_
            obtain ⟨r74, hcall74, h⟩ := ob_some h
            refine g_callN (pc := 74) C ce0 mi_X3_totalOf mv_X3_totalOf nm_X6_207 dX6_counts_74 ok_X3 [.ref (ad sh), .ref (ad 35), .int l1, .int l2] [] la_39 (by omega) rfl rfl (Nat.le_of_ble_eq_true rfl) (m_X3_totalOf (d := d - 1) (by omega) hsh t_35 hcall74) ?_
            show Gw E κ 4 0 0 77 [some (.ref (ad 0)), some (.int l1), some (.int l2), some (.int l3)] [.int r74] ad (LC sh sp ++ tl) m52
            cases h
            exact g_iret (pc := 77) C hP rfl rfl dX6_counts_77
          · refine g_if_ne_t (pc := 57) C 78 dX6_counts_57 (by decide) hc57 ?_
            refine g_aload_n (pc := 78) (i := 0) (x := ad 0) C dX6_counts_78 rfl rfl ?_
            refine g_get (pc := 79) (v := .ref (ad 39)) C ok_X6 5 (by decide) wf_X6_39 dX6_counts_79 la_0 rfl ?_
            refine g_aload_n (pc := 82) (i := 0) (x := ad 0) C dX6_counts_82 rfl rfl ?_
            refine g_get (pc := 83) (v := .ref (ad sh)) C ok_X6 1 (by decide) wf_X6_19 dX6_counts_83 la_0 rfl ?_
            refine g_aload_n (pc := 86) (i := 0) (x := ad 0) C dX6_counts_86 rfl rfl ?_
            refine g_get (pc := 87) (v := .ref (ad 35)) C ok_X6 4 (by decide) wf_X6_33 dX6_counts_87 la_0 rfl ?_
            refine g_iload_n (pc := 90) (i := 1) (x := l1) C dX6_counts_90 rfl rfl ?_
            refine g_iload_n (pc := 91) (i := 2) (x := l2) C dX6_counts_91 rfl rfl ?_
            obtain ⟨r92, hcall92, h⟩ := ob_some h
            refine g_callN (pc := 92) C ce0 mi_X3_hasPrinted mv_X3_hasPrinted nm_X6_211 dX6_counts_92 ok_X3 [.ref (ad sh), .ref (ad 35), .int l1, .int l2] [] la_39 (by omega) rfl rfl (Nat.le_of_ble_eq_true rfl) (m_X3_hasPrinted (d := d - 1) (by omega) hsh t_35 hcall92) ?_
            show Gw E κ 4 0 0 95 [some (.ref (ad 0)), some (.int l1), some (.int l2), some (.int l3)] [.int r92] ad (LC sh sp ++ tl) m52
            rcases ite_some' h with ⟨hc95, h⟩ | ⟨hc95, h⟩
            · refine g_if_eq_t (pc := 95) C 102 dX6_counts_95 (by decide) hc95 ?_
              refine g_iconst (pc := 102) (v := 0) C dX6_counts_102 rfl ?_
              cases h
              exact g_iret (pc := 103) C hP rfl rfl dX6_counts_103
            · refine g_if_eq_f (pc := 95) C 102 dX6_counts_95 (by decide) hc95 ?_
              refine g_iconst (pc := 98) (v := 1) C dX6_counts_98 rfl ?_
              refine g_goto (pc := 99) C 103 dX6_counts_99 (by decide) ?_
              cases h
              exact g_iret (pc := 103) C hP rfl rfl dX6_counts_103
        · refine g_icmp_le_f (pc := 22) C 27 dX6_counts_22 (by decide) hc22 ?_
          refine g_iconst (pc := 25) (v := (-1)) C dX6_counts_25 rfl ?_
          cases h
          exact g_iret (pc := 26) C hP rfl rfl dX6_counts_26

theorem dX6_isPrintedByWinning_0 : decode cX6_isPrintedByWinning 0 = .ok (.aload_n 0, 1) := by decide +kernel
theorem dX6_isPrintedByWinning_1 : decode cX6_isPrintedByWinning 1 = .ok (.getfield 33, 3) := by decide +kernel
theorem dX6_isPrintedByWinning_4 : decode cX6_isPrintedByWinning 4 = .ok (.aload_n 0, 1) := by decide +kernel
theorem dX6_isPrintedByWinning_5 : decode cX6_isPrintedByWinning 5 = .ok (.getfield 29, 3) := by decide +kernel
theorem dX6_isPrintedByWinning_8 : decode cX6_isPrintedByWinning 8 = .ok (.invokevirtual 188, 3) := by decide +kernel
theorem dX6_isPrintedByWinning_11 : decode cX6_isPrintedByWinning 11 = .ok (.iconst 0, 1) := by decide +kernel
theorem dX6_isPrintedByWinning_12 : decode cX6_isPrintedByWinning 12 = .ok (.istore 4, 2) := by decide +kernel
theorem dX6_isPrintedByWinning_14 : decode cX6_isPrintedByWinning 14 = .ok (.iload 4, 2) := by decide +kernel
theorem dX6_isPrintedByWinning_16 : decode cX6_isPrintedByWinning 16 = .ok (.aload_n 0, 1) := by decide +kernel
theorem dX6_isPrintedByWinning_17 : decode cX6_isPrintedByWinning 17 = .ok (.getfield 19, 3) := by decide +kernel
theorem dX6_isPrintedByWinning_20 : decode cX6_isPrintedByWinning 20 = .ok (.getfield 215, 3) := by decide +kernel
theorem dX6_isPrintedByWinning_23 : decode cX6_isPrintedByWinning 23 = .ok (.if_icmp .ge 29, 3) := by decide +kernel
theorem dX6_isPrintedByWinning_26 : decode cX6_isPrintedByWinning 26 = .ok (.iload_n 1, 1) := by decide +kernel
theorem dX6_isPrintedByWinning_27 : decode cX6_isPrintedByWinning 27 = .ok (.iload 4, 2) := by decide +kernel
theorem dX6_isPrintedByWinning_29 : decode cX6_isPrintedByWinning 29 = .ok (.ishr, 1) := by decide +kernel
theorem dX6_isPrintedByWinning_30 : decode cX6_isPrintedByWinning 30 = .ok (.iconst 1, 1) := by decide +kernel
theorem dX6_isPrintedByWinning_31 : decode cX6_isPrintedByWinning 31 = .ok (.iand, 1) := by decide +kernel
theorem dX6_isPrintedByWinning_32 : decode cX6_isPrintedByWinning 32 = .ok (.ifCond .eq 14, 3) := by decide +kernel
theorem dX6_isPrintedByWinning_35 : decode cX6_isPrintedByWinning 35 = .ok (.aload_n 0, 1) := by decide +kernel
theorem dX6_isPrintedByWinning_36 : decode cX6_isPrintedByWinning 36 = .ok (.getfield 33, 3) := by decide +kernel
theorem dX6_isPrintedByWinning_39 : decode cX6_isPrintedByWinning 39 = .ok (.iload 4, 2) := by decide +kernel
theorem dX6_isPrintedByWinning_41 : decode cX6_isPrintedByWinning 41 = .ok (.iload_n 2, 1) := by decide +kernel
theorem dX6_isPrintedByWinning_42 : decode cX6_isPrintedByWinning 42 = .ok (.iload_n 3, 1) := by decide +kernel
theorem dX6_isPrintedByWinning_43 : decode cX6_isPrintedByWinning 43 = .ok (.invokevirtual 177, 3) := by decide +kernel
theorem dX6_isPrintedByWinning_46 : decode cX6_isPrintedByWinning 46 = .ok (.iinc 4 1, 3) := by decide +kernel
theorem dX6_isPrintedByWinning_49 : decode cX6_isPrintedByWinning 49 = .ok (.goto (-35), 3) := by decide +kernel
theorem dX6_isPrintedByWinning_52 : decode cX6_isPrintedByWinning 52 = .ok (.aload_n 0, 1) := by decide +kernel
theorem dX6_isPrintedByWinning_53 : decode cX6_isPrintedByWinning 53 = .ok (.getfield 39, 3) := by decide +kernel
theorem dX6_isPrintedByWinning_56 : decode cX6_isPrintedByWinning 56 = .ok (.aload_n 0, 1) := by decide +kernel
theorem dX6_isPrintedByWinning_57 : decode cX6_isPrintedByWinning 57 = .ok (.getfield 19, 3) := by decide +kernel
theorem dX6_isPrintedByWinning_60 : decode cX6_isPrintedByWinning 60 = .ok (.aload_n 0, 1) := by decide +kernel
theorem dX6_isPrintedByWinning_61 : decode cX6_isPrintedByWinning 61 = .ok (.getfield 33, 3) := by decide +kernel
theorem dX6_isPrintedByWinning_64 : decode cX6_isPrintedByWinning 64 = .ok (.bipush 63, 2) := by decide +kernel
theorem dX6_isPrintedByWinning_66 : decode cX6_isPrintedByWinning 66 = .ok (.invokevirtual 162, 3) := by decide +kernel
theorem dX6_isPrintedByWinning_69 : decode cX6_isPrintedByWinning 69 = .ok (.pop, 1) := by decide +kernel
theorem dX6_isPrintedByWinning_70 : decode cX6_isPrintedByWinning 70 = .ok (.aload_n 0, 1) := by decide +kernel
theorem dX6_isPrintedByWinning_71 : decode cX6_isPrintedByWinning 71 = .ok (.getfield 39, 3) := by decide +kernel
theorem dX6_isPrintedByWinning_74 : decode cX6_isPrintedByWinning 74 = .ok (.aload_n 0, 1) := by decide +kernel
theorem dX6_isPrintedByWinning_75 : decode cX6_isPrintedByWinning 75 = .ok (.getfield 19, 3) := by decide +kernel
theorem dX6_isPrintedByWinning_78 : decode cX6_isPrintedByWinning 78 = .ok (.aload_n 0, 1) := by decide +kernel
theorem dX6_isPrintedByWinning_79 : decode cX6_isPrintedByWinning 79 = .ok (.getfield 33, 3) := by decide +kernel
theorem dX6_isPrintedByWinning_82 : decode cX6_isPrintedByWinning 82 = .ok (.iload_n 2, 1) := by decide +kernel
theorem dX6_isPrintedByWinning_83 : decode cX6_isPrintedByWinning 83 = .ok (.iload_n 3, 1) := by decide +kernel
theorem dX6_isPrintedByWinning_84 : decode cX6_isPrintedByWinning 84 = .ok (.invokevirtual 211, 3) := by decide +kernel
theorem dX6_isPrintedByWinning_87 : decode cX6_isPrintedByWinning 87 = .ok (.ireturn, 1) := by decide +kernel
noncomputable def f_X6_isPrintedByWinning_b14 (sh : Nat) (l1 : Int32) (l2 : Int32) (l3 : Int32) (q : Int32 × Mem) : Option ((Int32 × Mem) ⊕ (Int32 × Mem)) :=
  if (q.2 sh 12) ≤ q.1 then (some (.inr (q.1, q.2))) else (if ((l1 >>> (q.1 &&& 31)) &&& 1) = 0 then (lt' (q.1 + 1) fun v46 => some (.inl (v46, q.2))) else (ob (f_X0_wish 35 q.1 l2 l3 q.2) fun m43 => lt' (q.1 + 1) fun v46 => some (.inl (v46, m43))))
noncomputable def f_X6_isPrintedByWinning (sh : Nat) (l1 : Int32) (l2 : Int32) (l3 : Int32) (mem : Mem) : Option (Int32 × Mem) :=
  ob (f_X0_copy 35 31 mem) fun m8 => ob (lp (f_X6_isPrintedByWinning_b14 sh l1 l2 l3) FU (0, m8)) fun q14 => ob2 (f_X3_hold sh 35 63 q14.2) fun r66 m66 => ob (f_X3_hasPrinted sh 35 l2 l3 m66) fun r84 => bk r84 (some (r84, m66))
def P_X6_isPrintedByWinning_14 (E : Ex) (κ : Kx) (ad : Nat → Nat) (lay : List Ent) (sh : Nat) (l1 : Int32) (l2 : Int32) (l3 : Int32) : (Int32 × Mem) ⊕ (Int32 × Mem) → Prop
  | .inl q => Gw E κ 5 0 0 14 [some (.ref (ad 0)), some (.int l1), some (.int l2), some (.int l3), some (.int q.1)] [] ad lay q.2
  | .inr q => Gw E κ 5 0 0 52 [some (.ref (ad 0)), none, some (.int l2), some (.int l3), none] [] ad lay q.2
set_option maxRecDepth 100000 in
set_option maxHeartbeats 4000000 in
theorem b_X6_isPrintedByWinning_14 {E : Ex} {κ : Kx} {ad : Nat → Nat} {sh sp : Nat} {tl : List Ent} {d : Nat} (C : Cx E κ cX6_isPrintedByWinning RX6 5 (some .boolean) d) (hd : 5 ≤ d) (hsh : isS sh) (hsp : isS sp) {l1 : Int32} {l2 : Int32} {l3 : Int32} {q : Int32 × Mem} {x : (Int32 × Mem) ⊕ (Int32 × Mem)} (h : f_X6_isPrintedByWinning_b14 sh l1 l2 l3 q = some x) (hP : (P_X6_isPrintedByWinning_14 E κ ad (LC sh sp ++ tl) sh l1 l2 l3) x) : Gw E κ 5 0 0 14 [some (.ref (ad 0)), some (.int l1), some (.int l2), some (.int l3), some (.int q.1)] [] ad (LC sh sp ++ tl) q.2 := by
  unfold f_X6_isPrintedByWinning_b14 at h
  refine g_iload (pc := 14) (i := 4) (x := q.1) C dX6_isPrintedByWinning_14 rfl ?_
  refine g_aload_n (pc := 16) (i := 0) (x := ad 0) C dX6_isPrintedByWinning_16 rfl rfl ?_
  refine g_get (pc := 17) (v := .ref (ad sh)) C ok_X6 1 (by decide) wf_X6_19 dX6_isPrintedByWinning_17 la_0 rfl ?_
  refine g_getN (pc := 20) (v := .int (q.2 sh 12)) C ok_X5 12 (by decide) nf_X6_215 dX6_isPrintedByWinning_20 (lz_0 hsh) rfl ?_
  rcases ite_some' h with ⟨hc23, h⟩ | ⟨hc23, h⟩
  · refine g_icmp_ge_t (pc := 23) C 52 dX6_isPrintedByWinning_23 (by decide) hc23 ?_
    refine g_mask (lv' := [some (.ref (ad 0)), none, some (.int l2), some (.int l3), none]) [true, false, true, true, false] rfl ?_
    cases h
    exact hP
  · refine g_icmp_ge_f (pc := 23) C 52 dX6_isPrintedByWinning_23 (by decide) hc23 ?_
    refine g_iload_n (pc := 26) (i := 1) (x := l1) C dX6_isPrintedByWinning_26 rfl rfl ?_
    refine g_iload (pc := 27) (i := 4) (x := q.1) C dX6_isPrintedByWinning_27 rfl ?_
    refine g_ishr (pc := 29) C dX6_isPrintedByWinning_29 ?_
    refine g_iconst (pc := 30) (v := 1) C dX6_isPrintedByWinning_30 rfl ?_
    refine g_iand (pc := 31) C dX6_isPrintedByWinning_31 ?_
    rcases ite_some' h with ⟨hc32, h⟩ | ⟨hc32, h⟩
    · refine g_if_eq_t (pc := 32) C 46 dX6_isPrintedByWinning_32 (by decide) hc32 ?_
      obtain ⟨v46, hv46, h⟩ := lt_some h
      refine g_iinc (pc := 46) (i := 4) (x := q.1) (v := v46) (lv' := [some (.ref (ad 0)), some (.int l1), some (.int l2), some (.int l3), some (.int v46)]) C dX6_isPrintedByWinning_46 rfl hv46.symm (by decide) rfl rfl ?_
      refine g_goto (pc := 49) C 14 dX6_isPrintedByWinning_49 (by decide) ?_
      cases h
      exact hP
    · refine g_if_eq_f (pc := 32) C 46 dX6_isPrintedByWinning_32 (by decide) hc32 ?_
      refine g_aload_n (pc := 35) (i := 0) (x := ad 0) C dX6_isPrintedByWinning_35 rfl rfl ?_
      refine g_get (pc := 36) (v := .ref (ad 35)) C ok_X6 4 (by decide) wf_X6_33 dX6_isPrintedByWinning_36 la_0 rfl ?_
      refine g_iload (pc := 39) (i := 4) (x := q.1) C dX6_isPrintedByWinning_39 rfl ?_
      refine g_iload_n (pc := 41) (i := 2) (x := l2) C dX6_isPrintedByWinning_41 rfl rfl ?_
      refine g_iload_n (pc := 42) (i := 3) (x := l3) C dX6_isPrintedByWinning_42 rfl rfl ?_
      obtain ⟨m43, hcall43, h⟩ := ob_some h
      refine g_callN (pc := 43) C ce0 mi_X0_wish mv_X0_wish nm_X6_177 dX6_isPrintedByWinning_43 ok_X0 [.int q.1, .int l2, .int l3] [] la_35 (by omega) rfl rfl (Nat.le_of_ble_eq_true rfl) (m_X0_wish (d := d - 1) (by omega) t_35 hcall43) ?_
      show Gw E κ 5 0 0 46 [some (.ref (ad 0)), some (.int l1), some (.int l2), some (.int l3), some (.int q.1)] [] ad (LC sh sp ++ tl) m43
      obtain ⟨v46, hv46, h⟩ := lt_some h
      refine g_iinc (pc := 46) (i := 4) (x := q.1) (v := v46) (lv' := [some (.ref (ad 0)), some (.int l1), some (.int l2), some (.int l3), some (.int v46)]) C dX6_isPrintedByWinning_46 rfl hv46.symm (by decide) rfl rfl ?_
      refine g_goto (pc := 49) C 14 dX6_isPrintedByWinning_49 (by decide) ?_
      cases h
      exact hP
set_option maxRecDepth 100000 in
set_option maxHeartbeats 4000000 in
theorem m_X6_isPrintedByWinning {E : Ex} {ad : Nat → Nat} {sh sp : Nat} {tl : List Ent} {d : Nat} (hd : 5 ≤ d) (hsh : isS sh) (hsp : isS sp) {l1 : Int32} {l2 : Int32} {l3 : Int32} {mem : Mem} {r : Int32 × Mem} (h : f_X6_isPrintedByWinning sh l1 l2 l3 mem = some r) : Cl E yX6_isPrintedByWinning cX6_isPrintedByWinning 5 (some .boolean) d [.ref (ad 0), .int l1, .int l2, .int l3] (some (.int r.1)) ad (LC sh sp ++ tl) mem (LC sh sp ++ tl) r.2 := by
  refine Cl.of [some (.ref (ad 0)), some (.int l1), some (.int l2), some (.int l3), none] (by decide +kernel) rfl (Nat.le_of_ble_eq_true rfl) (fun κ C hP => ?_)
  have C : Cx E κ cX6_isPrintedByWinning RX6 5 (some .boolean) d := C
  unfold f_X6_isPrintedByWinning at h
  refine g_aload_n (pc := 0) (i := 0) (x := ad 0) C dX6_isPrintedByWinning_0 rfl rfl ?_
  refine g_get (pc := 1) (v := .ref (ad 35)) C ok_X6 4 (by decide) wf_X6_33 dX6_isPrintedByWinning_1 la_0 rfl ?_
  refine g_aload_n (pc := 4) (i := 0) (x := ad 0) C dX6_isPrintedByWinning_4 rfl rfl ?_
  refine g_get (pc := 5) (v := .ref (ad 31)) C ok_X6 3 (by decide) wf_X6_29 dX6_isPrintedByWinning_5 la_0 rfl ?_
  obtain ⟨m8, hcall8, h⟩ := ob_some h
  refine g_callN (pc := 8) C ce0 mi_X0_copy mv_X0_copy nm_X6_188 dX6_isPrintedByWinning_8 ok_X0 [.ref (ad 31)] [] la_35 (by omega) rfl rfl (Nat.le_of_ble_eq_true rfl) (m_X0_copy (d := d - 1) (by omega) t_35 t_31 hcall8) ?_
  show Gw E κ 5 0 0 11 [some (.ref (ad 0)), some (.int l1), some (.int l2), some (.int l3), none] [] ad (LC sh sp ++ tl) m8
  refine g_iconst (pc := 11) (v := 0) C dX6_isPrintedByWinning_11 rfl ?_
  refine g_istore (pc := 12) (i := 4) (lv' := [some (.ref (ad 0)), some (.int l1), some (.int l2), some (.int l3), some (.int 0)]) C dX6_isPrintedByWinning_12 (by decide) rfl rfl ?_
  obtain ⟨q14, hq, h⟩ := ob_some h
  refine lp_gw (P_X6_isPrintedByWinning_14 E κ ad (LC sh sp ++ tl) sh l1 l2 l3) (fun q x hb hp => b_X6_isPrintedByWinning_14 C hd hsh hsp hb hp) _ (0, m8) _ hq ?_
  show Gw E κ 5 0 0 52 [some (.ref (ad 0)), none, some (.int l2), some (.int l3), none] [] ad (LC sh sp ++ tl) q14.2
  refine g_aload_n (pc := 52) (i := 0) (x := ad 0) C dX6_isPrintedByWinning_52 rfl rfl ?_
  refine g_get (pc := 53) (v := .ref (ad 39)) C ok_X6 5 (by decide) wf_X6_39 dX6_isPrintedByWinning_53 la_0 rfl ?_
  refine g_aload_n (pc := 56) (i := 0) (x := ad 0) C dX6_isPrintedByWinning_56 rfl rfl ?_
  refine g_get (pc := 57) (v := .ref (ad sh)) C ok_X6 1 (by decide) wf_X6_19 dX6_isPrintedByWinning_57 la_0 rfl ?_
  refine g_aload_n (pc := 60) (i := 0) (x := ad 0) C dX6_isPrintedByWinning_60 rfl rfl ?_
  refine g_get (pc := 61) (v := .ref (ad 35)) C ok_X6 4 (by decide) wf_X6_33 dX6_isPrintedByWinning_61 la_0 rfl ?_
  refine g_bipush (pc := 64) (v := 63) C dX6_isPrintedByWinning_64 rfl ?_
  obtain ⟨r66, m66, hcall66, h⟩ := ob2_some h
  refine g_callN (pc := 66) C ce0 mi_X3_hold mv_X3_hold nm_X6_162 dX6_isPrintedByWinning_66 ok_X3 [.ref (ad sh), .ref (ad 35), .int 63] [] la_39 (by omega) rfl rfl (Nat.le_of_ble_eq_true rfl) (m_X3_hold (d := d - 1) (by omega) hsh t_35 hcall66) ?_
  show Gw E κ 5 0 0 69 [some (.ref (ad 0)), none, some (.int l2), some (.int l3), none] [.int r66] ad (LC sh sp ++ tl) m66
  refine g_pop (pc := 69) C dX6_isPrintedByWinning_69 rfl ?_
  refine g_aload_n (pc := 70) (i := 0) (x := ad 0) C dX6_isPrintedByWinning_70 rfl rfl ?_
  refine g_get (pc := 71) (v := .ref (ad 39)) C ok_X6 5 (by decide) wf_X6_39 dX6_isPrintedByWinning_71 la_0 rfl ?_
  refine g_aload_n (pc := 74) (i := 0) (x := ad 0) C dX6_isPrintedByWinning_74 rfl rfl ?_
  refine g_get (pc := 75) (v := .ref (ad sh)) C ok_X6 1 (by decide) wf_X6_19 dX6_isPrintedByWinning_75 la_0 rfl ?_
  refine g_aload_n (pc := 78) (i := 0) (x := ad 0) C dX6_isPrintedByWinning_78 rfl rfl ?_
  refine g_get (pc := 79) (v := .ref (ad 35)) C ok_X6 4 (by decide) wf_X6_33 dX6_isPrintedByWinning_79 la_0 rfl ?_
  refine g_iload_n (pc := 82) (i := 2) (x := l2) C dX6_isPrintedByWinning_82 rfl rfl ?_
  refine g_iload_n (pc := 83) (i := 3) (x := l3) C dX6_isPrintedByWinning_83 rfl rfl ?_
  obtain ⟨r84, hcall84, h⟩ := ob_some h
  refine g_callN (pc := 84) C ce0 mi_X3_hasPrinted mv_X3_hasPrinted nm_X6_211 dX6_isPrintedByWinning_84 ok_X3 [.ref (ad sh), .ref (ad 35), .int l2, .int l3] [] la_39 (by omega) rfl rfl (Nat.le_of_ble_eq_true rfl) (m_X3_hasPrinted (d := d - 1) (by omega) hsh t_35 hcall84) ?_
  show Gw E κ 5 0 0 87 [some (.ref (ad 0)), none, some (.int l2), some (.int l3), none] [.int r84] ad (LC sh sp ++ tl) m66
  obtain ⟨hb87, h⟩ := bk_some h
  cases h
  exact g_iret (pc := 87) C hP rfl (nb01 hb87).1 dX6_isPrintedByWinning_87

theorem dX6_win_0 : decode cX6_win 0 = .ok (.aload_n 0, 1) := by decide +kernel
theorem dX6_win_1 : decode cX6_win 1 = .ok (.iload_n 1, 1) := by decide +kernel
theorem dX6_win_2 : decode cX6_win 2 = .ok (.invokevirtual 107, 3) := by decide +kernel
theorem dX6_win_5 : decode cX6_win 5 = .ok (.ifCond .eq 11, 3) := by decide +kernel
theorem dX6_win_8 : decode cX6_win 8 = .ok (.aload_n 0, 1) := by decide +kernel
theorem dX6_win_9 : decode cX6_win 9 = .ok (.iload_n 2, 1) := by decide +kernel
theorem dX6_win_10 : decode cX6_win 10 = .ok (.invokevirtual 126, 3) := by decide +kernel
theorem dX6_win_13 : decode cX6_win 13 = .ok (.ifCond .ne 5, 3) := by decide +kernel
theorem dX6_win_16 : decode cX6_win 16 = .ok (.iconst (-1), 1) := by decide +kernel
theorem dX6_win_17 : decode cX6_win 17 = .ok (.ireturn, 1) := by decide +kernel
theorem dX6_win_18 : decode cX6_win 18 = .ok (.bipush 7, 2) := by decide +kernel
theorem dX6_win_20 : decode cX6_win 20 = .ok (.istore_n 3, 1) := by decide +kernel
theorem dX6_win_21 : decode cX6_win 21 = .ok (.bipush (-4), 2) := by decide +kernel
theorem dX6_win_23 : decode cX6_win 23 = .ok (.istore 4, 2) := by decide +kernel
theorem dX6_win_25 : decode cX6_win 25 = .ok (.iconst 0, 1) := by decide +kernel
theorem dX6_win_26 : decode cX6_win 26 = .ok (.istore 5, 2) := by decide +kernel
theorem dX6_win_28 : decode cX6_win 28 = .ok (.iload 5, 2) := by decide +kernel
theorem dX6_win_30 : decode cX6_win 30 = .ok (.iconst 1, 1) := by decide +kernel
theorem dX6_win_31 : decode cX6_win 31 = .ok (.aload_n 0, 1) := by decide +kernel
theorem dX6_win_32 : decode cX6_win 32 = .ok (.getfield 19, 3) := by decide +kernel
theorem dX6_win_35 : decode cX6_win 35 = .ok (.getfield 215, 3) := by decide +kernel
theorem dX6_win_38 : decode cX6_win 38 = .ok (.ishl, 1) := by decide +kernel
theorem dX6_win_39 : decode cX6_win 39 = .ok (.if_icmp .ge 40, 3) := by decide +kernel
theorem dX6_win_42 : decode cX6_win 42 = .ok (.iload 5, 2) := by decide +kernel
theorem dX6_win_44 : decode cX6_win 44 = .ok (.invokestatic 218, 3) := by decide +kernel
theorem dX6_win_47 : decode cX6_win 47 = .ok (.istore 6, 2) := by decide +kernel
theorem dX6_win_49 : decode cX6_win 49 = .ok (.iload 6, 2) := by decide +kernel
theorem dX6_win_51 : decode cX6_win 51 = .ok (.iload_n 3, 1) := by decide +kernel
theorem dX6_win_52 : decode cX6_win 52 = .ok (.if_icmp .ge 21, 3) := by decide +kernel
theorem dX6_win_55 : decode cX6_win 55 = .ok (.aload_n 0, 1) := by decide +kernel
theorem dX6_win_56 : decode cX6_win 56 = .ok (.iload 5, 2) := by decide +kernel
theorem dX6_win_58 : decode cX6_win 58 = .ok (.iload_n 1, 1) := by decide +kernel
theorem dX6_win_59 : decode cX6_win 59 = .ok (.iload_n 2, 1) := by decide +kernel
theorem dX6_win_60 : decode cX6_win 60 = .ok (.invokevirtual 224, 3) := by decide +kernel
theorem dX6_win_63 : decode cX6_win 63 = .ok (.ifCond .eq 10, 3) := by decide +kernel
theorem dX6_win_66 : decode cX6_win 66 = .ok (.iload 6, 2) := by decide +kernel
theorem dX6_win_68 : decode cX6_win 68 = .ok (.istore_n 3, 1) := by decide +kernel
theorem dX6_win_69 : decode cX6_win 69 = .ok (.iload 5, 2) := by decide +kernel
theorem dX6_win_71 : decode cX6_win 71 = .ok (.istore 4, 2) := by decide +kernel
theorem dX6_win_73 : decode cX6_win 73 = .ok (.iinc 5 1, 3) := by decide +kernel
theorem dX6_win_76 : decode cX6_win 76 = .ok (.goto (-48), 3) := by decide +kernel
theorem dX6_win_79 : decode cX6_win 79 = .ok (.iload 4, 2) := by decide +kernel
theorem dX6_win_81 : decode cX6_win 81 = .ok (.ireturn, 1) := by decide +kernel
noncomputable def f_X6_win_b28 (sh : Nat) (l1 : Int32) (l2 : Int32) (q : Int32 × Int32 × Int32 × Mem) : Option ((Int32 × Int32 × Int32 × Mem) ⊕ (Int32 × Int32 × Int32 × Mem)) :=
  if (1 <<< ((q.2.2.2 sh 12) &&& 31)) ≤ q.2.2.1 then (some (.inr (q.1, q.2.1, q.2.2.1, q.2.2.2))) else (ob (f_J6_bitCount_0f7a4 q.2.2.1) fun r44 => if q.1 ≤ r44 then (lt' (q.2.2.1 + 1) fun v73 => some (.inl (q.1, q.2.1, v73, q.2.2.2))) else (ob2 (f_X6_isPrintedByWinning sh q.2.2.1 l1 l2 q.2.2.2) fun r60 m60 => if r60 = 0 then (lt' (q.2.2.1 + 1) fun v73 => some (.inl (q.1, q.2.1, v73, m60))) else (lt' (q.2.2.1 + 1) fun v73 => some (.inl (r44, q.2.2.1, v73, m60)))))
noncomputable def f_X6_win (sh : Nat) (l1 : Int32) (l2 : Int32) (mem : Mem) : Option (Int32 × Mem) :=
  ob (f_X6_isPlace sh l1 mem) fun r2 => if r2 = 0 then (some ((-1), mem)) else (ob (f_X6_isWord sh l2 mem) fun r10 => if r10 = 0 then (some ((-1), mem)) else (ob (lp (f_X6_win_b28 sh l1 l2) FU (7, (-4), 0, mem)) fun q28 => some (q28.2.1, q28.2.2.2)))
def P_X6_win_28 (E : Ex) (κ : Kx) (ad : Nat → Nat) (lay : List Ent) (sh : Nat) (l1 : Int32) (l2 : Int32) : (Int32 × Int32 × Int32 × Mem) ⊕ (Int32 × Int32 × Int32 × Mem) → Prop
  | .inl q => Gw E κ 7 0 0 28 [some (.ref (ad 0)), some (.int l1), some (.int l2), some (.int q.1), some (.int q.2.1), some (.int q.2.2.1), none] [] ad lay q.2.2.2
  | .inr q => Gw E κ 7 0 0 79 [none, none, none, none, some (.int q.2.1), none, none] [] ad lay q.2.2.2
set_option maxRecDepth 100000 in
set_option maxHeartbeats 4000000 in
theorem b_X6_win_28 {E : Ex} {κ : Kx} {ad : Nat → Nat} {sh sp : Nat} {tl : List Ent} {d : Nat} (C : Cx E κ cX6_win RX6 7 (some .int) d) (hd : 6 ≤ d) (hsh : isS sh) (hsp : isS sp) {l1 : Int32} {l2 : Int32} {q : Int32 × Int32 × Int32 × Mem} {x : (Int32 × Int32 × Int32 × Mem) ⊕ (Int32 × Int32 × Int32 × Mem)} (h : f_X6_win_b28 sh l1 l2 q = some x) (hP : (P_X6_win_28 E κ ad (LC sh sp ++ tl) sh l1 l2) x) : Gw E κ 7 0 0 28 [some (.ref (ad 0)), some (.int l1), some (.int l2), some (.int q.1), some (.int q.2.1), some (.int q.2.2.1), none] [] ad (LC sh sp ++ tl) q.2.2.2 := by
  unfold f_X6_win_b28 at h
  refine g_iload (pc := 28) (i := 5) (x := q.2.2.1) C dX6_win_28 rfl ?_
  refine g_iconst (pc := 30) (v := 1) C dX6_win_30 rfl ?_
  refine g_aload_n (pc := 31) (i := 0) (x := ad 0) C dX6_win_31 rfl rfl ?_
  refine g_get (pc := 32) (v := .ref (ad sh)) C ok_X6 1 (by decide) wf_X6_19 dX6_win_32 la_0 rfl ?_
  refine g_getN (pc := 35) (v := .int (q.2.2.2 sh 12)) C ok_X5 12 (by decide) nf_X6_215 dX6_win_35 (lz_0 hsh) rfl ?_
  refine g_ishl (pc := 38) C dX6_win_38 ?_
  rcases ite_some' h with ⟨hc39, h⟩ | ⟨hc39, h⟩
  · refine g_icmp_ge_t (pc := 39) C 79 dX6_win_39 (by decide) hc39 ?_
    refine g_mask (lv' := [none, none, none, none, some (.int q.2.1), none, none]) [false, false, false, false, true, false, false] rfl ?_
    cases h
    exact hP
  · refine g_icmp_ge_f (pc := 39) C 79 dX6_win_39 (by decide) hc39 ?_
    refine g_iload (pc := 42) (i := 5) (x := q.2.2.1) C dX6_win_42 rfl ?_
    obtain ⟨r44, hcall44, h⟩ := ob_some h
    refine g_callS (pc := 44) C ce0 mi_J6_bitCount_0f7a4 ms_J6_bitCount_0f7a4 wm_X6_218 dX6_win_44 [.int q.2.2.1] [] (by omega) rfl rfl (Nat.le_of_ble_eq_true rfl) (m_J6_bitCount_0f7a4 (d := d - 1) (by omega)  hcall44) ?_
    show Gw E κ 7 0 0 47 [some (.ref (ad 0)), some (.int l1), some (.int l2), some (.int q.1), some (.int q.2.1), some (.int q.2.2.1), none] [.int r44] ad (LC sh sp ++ tl) q.2.2.2
    refine g_istore (pc := 47) (i := 6) (lv' := [some (.ref (ad 0)), some (.int l1), some (.int l2), some (.int q.1), some (.int q.2.1), some (.int q.2.2.1), some (.int r44)]) C dX6_win_47 (by decide) rfl rfl ?_
    refine g_iload (pc := 49) (i := 6) (x := r44) C dX6_win_49 rfl ?_
    refine g_iload_n (pc := 51) (i := 3) (x := q.1) C dX6_win_51 rfl rfl ?_
    rcases ite_some' h with ⟨hc52, h⟩ | ⟨hc52, h⟩
    · refine g_icmp_ge_t (pc := 52) C 73 dX6_win_52 (by decide) hc52 ?_
      obtain ⟨v73, hv73, h⟩ := lt_some h
      refine g_iinc (pc := 73) (i := 5) (x := q.2.2.1) (v := v73) (lv' := [some (.ref (ad 0)), some (.int l1), some (.int l2), some (.int q.1), some (.int q.2.1), some (.int v73), some (.int r44)]) C dX6_win_73 rfl hv73.symm (by decide) rfl rfl ?_
      refine g_goto (pc := 76) C 28 dX6_win_76 (by decide) ?_
      refine g_mask (lv' := [some (.ref (ad 0)), some (.int l1), some (.int l2), some (.int q.1), some (.int q.2.1), some (.int v73), none]) [true, true, true, true, true, true, false] rfl ?_
      cases h
      exact hP
    · refine g_icmp_ge_f (pc := 52) C 73 dX6_win_52 (by decide) hc52 ?_
      refine g_aload_n (pc := 55) (i := 0) (x := ad 0) C dX6_win_55 rfl rfl ?_
      refine g_iload (pc := 56) (i := 5) (x := q.2.2.1) C dX6_win_56 rfl ?_
      refine g_iload_n (pc := 58) (i := 1) (x := l1) C dX6_win_58 rfl rfl ?_
      refine g_iload_n (pc := 59) (i := 2) (x := l2) C dX6_win_59 rfl rfl ?_
      obtain ⟨r60, m60, hcall60, h⟩ := ob2_some h
      refine g_callV (pc := 60) C ce0 mi_X6_isPrintedByWinning mv_X6_isPrintedByWinning wm_X6_224 dX6_win_60 ok_X6 [.int q.2.2.1, .int l1, .int l2] [] la_0 (by omega) rfl rfl (Nat.le_of_ble_eq_true rfl) (m_X6_isPrintedByWinning (d := d - 1) (by omega) hsh hsp hcall60) ?_
      show Gw E κ 7 0 0 63 [some (.ref (ad 0)), some (.int l1), some (.int l2), some (.int q.1), some (.int q.2.1), some (.int q.2.2.1), some (.int r44)] [.int r60] ad (LC sh sp ++ tl) m60
      rcases ite_some' h with ⟨hc63, h⟩ | ⟨hc63, h⟩
      · refine g_if_eq_t (pc := 63) C 73 dX6_win_63 (by decide) hc63 ?_
        obtain ⟨v73, hv73, h⟩ := lt_some h
        refine g_iinc (pc := 73) (i := 5) (x := q.2.2.1) (v := v73) (lv' := [some (.ref (ad 0)), some (.int l1), some (.int l2), some (.int q.1), some (.int q.2.1), some (.int v73), some (.int r44)]) C dX6_win_73 rfl hv73.symm (by decide) rfl rfl ?_
        refine g_goto (pc := 76) C 28 dX6_win_76 (by decide) ?_
        refine g_mask (lv' := [some (.ref (ad 0)), some (.int l1), some (.int l2), some (.int q.1), some (.int q.2.1), some (.int v73), none]) [true, true, true, true, true, true, false] rfl ?_
        cases h
        exact hP
      · refine g_if_eq_f (pc := 63) C 73 dX6_win_63 (by decide) hc63 ?_
        refine g_iload (pc := 66) (i := 6) (x := r44) C dX6_win_66 rfl ?_
        refine g_istore_n (pc := 68) (i := 3) (lv' := [some (.ref (ad 0)), some (.int l1), some (.int l2), some (.int r44), some (.int q.2.1), some (.int q.2.2.1), some (.int r44)]) C dX6_win_68 rfl (by decide) rfl rfl ?_
        refine g_iload (pc := 69) (i := 5) (x := q.2.2.1) C dX6_win_69 rfl ?_
        refine g_istore (pc := 71) (i := 4) (lv' := [some (.ref (ad 0)), some (.int l1), some (.int l2), some (.int r44), some (.int q.2.2.1), some (.int q.2.2.1), some (.int r44)]) C dX6_win_71 (by decide) rfl rfl ?_
        obtain ⟨v73, hv73, h⟩ := lt_some h
        refine g_iinc (pc := 73) (i := 5) (x := q.2.2.1) (v := v73) (lv' := [some (.ref (ad 0)), some (.int l1), some (.int l2), some (.int r44), some (.int q.2.2.1), some (.int v73), some (.int r44)]) C dX6_win_73 rfl hv73.symm (by decide) rfl rfl ?_
        refine g_goto (pc := 76) C 28 dX6_win_76 (by decide) ?_
        refine g_mask (lv' := [some (.ref (ad 0)), some (.int l1), some (.int l2), some (.int r44), some (.int q.2.2.1), some (.int v73), none]) [true, true, true, true, true, true, false] rfl ?_
        cases h
        exact hP
set_option maxRecDepth 100000 in
set_option maxHeartbeats 4000000 in
theorem m_X6_win {E : Ex} {ad : Nat → Nat} {sh sp : Nat} {tl : List Ent} {d : Nat} (hd : 6 ≤ d) (hsh : isS sh) (hsp : isS sp) {l1 : Int32} {l2 : Int32} {mem : Mem} {r : Int32 × Mem} (h : f_X6_win sh l1 l2 mem = some r) : Cl E yX6_win cX6_win 7 (some .int) d [.ref (ad 0), .int l1, .int l2] (some (.int r.1)) ad (LC sh sp ++ tl) mem (LC sh sp ++ tl) r.2 := by
  refine Cl.of [some (.ref (ad 0)), some (.int l1), some (.int l2), none, none, none, none] (by decide +kernel) rfl (Nat.le_of_ble_eq_true rfl) (fun κ C hP => ?_)
  have C : Cx E κ cX6_win RX6 7 (some .int) d := C
  unfold f_X6_win at h
  refine g_aload_n (pc := 0) (i := 0) (x := ad 0) C dX6_win_0 rfl rfl ?_
  refine g_iload_n (pc := 1) (i := 1) (x := l1) C dX6_win_1 rfl rfl ?_
  obtain ⟨r2, hcall2, h⟩ := ob_some h
  refine g_callV (pc := 2) C ce0 mi_X6_isPlace mv_X6_isPlace wm_X6_107 dX6_win_2 ok_X6 [.int l1] [] la_0 (by omega) rfl rfl (Nat.le_of_ble_eq_true rfl) (m_X6_isPlace (d := d - 1) (by omega) hsh hsp hcall2) ?_
  show Gw E κ 7 0 0 5 [some (.ref (ad 0)), some (.int l1), some (.int l2), none, none, none, none] [.int r2] ad (LC sh sp ++ tl) mem
  rcases ite_some' h with ⟨hc5, h⟩ | ⟨hc5, h⟩
  · refine g_if_eq_t (pc := 5) C 16 dX6_win_5 (by decide) hc5 ?_
    refine g_iconst (pc := 16) (v := (-1)) C dX6_win_16 rfl ?_
    cases h
    exact g_iret (pc := 17) C hP rfl rfl dX6_win_17
  · refine g_if_eq_f (pc := 5) C 16 dX6_win_5 (by decide) hc5 ?_
    refine g_aload_n (pc := 8) (i := 0) (x := ad 0) C dX6_win_8 rfl rfl ?_
    refine g_iload_n (pc := 9) (i := 2) (x := l2) C dX6_win_9 rfl rfl ?_
    obtain ⟨r10, hcall10, h⟩ := ob_some h
    refine g_callV (pc := 10) C ce0 mi_X6_isWord mv_X6_isWord wm_X6_126 dX6_win_10 ok_X6 [.int l2] [] la_0 (by omega) rfl rfl (Nat.le_of_ble_eq_true rfl) (m_X6_isWord (d := d - 1) (by omega) hsh hsp hcall10) ?_
    show Gw E κ 7 0 0 13 [some (.ref (ad 0)), some (.int l1), some (.int l2), none, none, none, none] [.int r10] ad (LC sh sp ++ tl) mem
    rcases ite_some' h with ⟨hc13, h⟩ | ⟨hc13, h⟩
    · refine g_if_ne_f (pc := 13) C 18 dX6_win_13 (by decide) hc13 ?_
      refine g_iconst (pc := 16) (v := (-1)) C dX6_win_16 rfl ?_
      cases h
      exact g_iret (pc := 17) C hP rfl rfl dX6_win_17
    · refine g_if_ne_t (pc := 13) C 18 dX6_win_13 (by decide) hc13 ?_
      refine g_bipush (pc := 18) (v := 7) C dX6_win_18 rfl ?_
      refine g_istore_n (pc := 20) (i := 3) (lv' := [some (.ref (ad 0)), some (.int l1), some (.int l2), some (.int 7), none, none, none]) C dX6_win_20 rfl (by decide) rfl rfl ?_
      refine g_bipush (pc := 21) (v := (-4)) C dX6_win_21 rfl ?_
      refine g_istore (pc := 23) (i := 4) (lv' := [some (.ref (ad 0)), some (.int l1), some (.int l2), some (.int 7), some (.int (-4)), none, none]) C dX6_win_23 (by decide) rfl rfl ?_
      refine g_iconst (pc := 25) (v := 0) C dX6_win_25 rfl ?_
      refine g_istore (pc := 26) (i := 5) (lv' := [some (.ref (ad 0)), some (.int l1), some (.int l2), some (.int 7), some (.int (-4)), some (.int 0), none]) C dX6_win_26 (by decide) rfl rfl ?_
      obtain ⟨q28, hq, h⟩ := ob_some h
      refine lp_gw (P_X6_win_28 E κ ad (LC sh sp ++ tl) sh l1 l2) (fun q x hb hp => b_X6_win_28 C hd hsh hsp hb hp) _ (7, (-4), 0, mem) _ hq ?_
      show Gw E κ 7 0 0 79 [none, none, none, none, some (.int q28.2.1), none, none] [] ad (LC sh sp ++ tl) q28.2.2.2
      refine g_iload (pc := 79) (i := 4) (x := q28.2.1) C dX6_win_79 rfl ?_
      cases h
      exact g_iret (pc := 81) C hP rfl rfl dX6_win_81

theorem dX6_sent_0 : decode cX6_sent 0 = .ok (.aload_n 0, 1) := by decide +kernel
theorem dX6_sent_1 : decode cX6_sent 1 = .ok (.iload_n 1, 1) := by decide +kernel
theorem dX6_sent_2 : decode cX6_sent 2 = .ok (.invokevirtual 139, 3) := by decide +kernel
theorem dX6_sent_5 : decode cX6_sent 5 = .ok (.ifCond .ne 5, 3) := by decide +kernel
theorem dX6_sent_8 : decode cX6_sent 8 = .ok (.iconst (-1), 1) := by decide +kernel
theorem dX6_sent_9 : decode cX6_sent 9 = .ok (.ireturn, 1) := by decide +kernel
theorem dX6_sent_10 : decode cX6_sent 10 = .ok (.aload_n 0, 1) := by decide +kernel
theorem dX6_sent_11 : decode cX6_sent 11 = .ok (.getfield 228, 3) := by decide +kernel
theorem dX6_sent_14 : decode cX6_sent 14 = .ok (.bipush 6, 2) := by decide +kernel
theorem dX6_sent_16 : decode cX6_sent 16 = .ok (.if_icmp .lt 6, 3) := by decide +kernel
theorem dX6_sent_19 : decode cX6_sent 19 = .ok (.bipush (-3), 2) := by decide +kernel
theorem dX6_sent_21 : decode cX6_sent 21 = .ok (.ireturn, 1) := by decide +kernel
theorem dX6_sent_22 : decode cX6_sent 22 = .ok (.aload_n 0, 1) := by decide +kernel
theorem dX6_sent_23 : decode cX6_sent 23 = .ok (.getfield 62, 3) := by decide +kernel
theorem dX6_sent_26 : decode cX6_sent 26 = .ok (.aload_n 0, 1) := by decide +kernel
theorem dX6_sent_27 : decode cX6_sent 27 = .ok (.getfield 228, 3) := by decide +kernel
theorem dX6_sent_30 : decode cX6_sent 30 = .ok (.iload_n 1, 1) := by decide +kernel
theorem dX6_sent_31 : decode cX6_sent 31 = .ok (.iastore, 1) := by decide +kernel
theorem dX6_sent_32 : decode cX6_sent 32 = .ok (.aload_n 0, 1) := by decide +kernel
theorem dX6_sent_33 : decode cX6_sent 33 = .ok (.getfield 66, 3) := by decide +kernel
theorem dX6_sent_36 : decode cX6_sent 36 = .ok (.aload_n 0, 1) := by decide +kernel
theorem dX6_sent_37 : decode cX6_sent 37 = .ok (.getfield 228, 3) := by decide +kernel
theorem dX6_sent_40 : decode cX6_sent 40 = .ok (.iload_n 2, 1) := by decide +kernel
theorem dX6_sent_41 : decode cX6_sent 41 = .ok (.bastore, 1) := by decide +kernel
theorem dX6_sent_42 : decode cX6_sent 42 = .ok (.aload_n 0, 1) := by decide +kernel
theorem dX6_sent_43 : decode cX6_sent 43 = .ok (.dup, 1) := by decide +kernel
theorem dX6_sent_44 : decode cX6_sent 44 = .ok (.getfield 228, 3) := by decide +kernel
theorem dX6_sent_47 : decode cX6_sent 47 = .ok (.iconst 1, 1) := by decide +kernel
theorem dX6_sent_48 : decode cX6_sent 48 = .ok (.iadd, 1) := by decide +kernel
theorem dX6_sent_49 : decode cX6_sent 49 = .ok (.putfield 228, 3) := by decide +kernel
theorem dX6_sent_52 : decode cX6_sent 52 = .ok (.aload_n 0, 1) := by decide +kernel
theorem dX6_sent_53 : decode cX6_sent 53 = .ok (.getfield 228, 3) := by decide +kernel
theorem dX6_sent_56 : decode cX6_sent 56 = .ok (.ireturn, 1) := by decide +kernel
noncomputable def f_X6_sent (sh : Nat) (l1 : Int32) (l2 : Int32) (mem : Mem) : Option (Int32 × Mem) :=
  ob (f_X6_isSolver sh l1 mem) fun r2 => if r2 = 0 then (some ((-1), mem)) else (if (mem 0 11) < 6 then (wr mem 60 6 (mem 0 11) l1 fun m31 => wr m31 61 6 (m31 0 11) (vp_nar .boolean l2) fun m41 => lt' (mset m41 0 11 ((m41 0 11) + 1)) fun m49 => lt' (m49 0 11) fun v56 => some (v56, m49)) else (some ((-3), mem)))
set_option maxRecDepth 100000 in
set_option maxHeartbeats 4000000 in
theorem m_X6_sent {E : Ex} {ad : Nat → Nat} {sh sp : Nat} {tl : List Ent} {d : Nat} (hd : 1 ≤ d) (hsh : isS sh) (hsp : isS sp) {l1 : Int32} {l2 : Int32} {mem : Mem} {r : Int32 × Mem} (h : f_X6_sent sh l1 l2 mem = some r) : Cl E yX6_sent cX6_sent 3 (some .int) d [.ref (ad 0), .int l1, .int l2] (some (.int r.1)) ad (LC sh sp ++ tl) mem (LC sh sp ++ tl) r.2 := by
  refine Cl.of [some (.ref (ad 0)), some (.int l1), some (.int l2)] (by decide +kernel) rfl (Nat.le_of_ble_eq_true rfl) (fun κ C hP => ?_)
  have C : Cx E κ cX6_sent RX6 3 (some .int) d := C
  unfold f_X6_sent at h
  refine g_aload_n (pc := 0) (i := 0) (x := ad 0) C dX6_sent_0 rfl rfl ?_
  refine g_iload_n (pc := 1) (i := 1) (x := l1) C dX6_sent_1 rfl rfl ?_
  obtain ⟨r2, hcall2, h⟩ := ob_some h
  refine g_callV (pc := 2) C ce0 mi_X6_isSolver mv_X6_isSolver wm_X6_139 dX6_sent_2 ok_X6 [.int l1] [] la_0 (by omega) rfl rfl (Nat.le_of_ble_eq_true rfl) (m_X6_isSolver (d := d - 1) (by omega) hsh hsp hcall2) ?_
  show Gw E κ 3 0 0 5 [some (.ref (ad 0)), some (.int l1), some (.int l2)] [.int r2] ad (LC sh sp ++ tl) mem
  rcases ite_some' h with ⟨hc5, h⟩ | ⟨hc5, h⟩
  · refine g_if_ne_f (pc := 5) C 10 dX6_sent_5 (by decide) hc5 ?_
    refine g_iconst (pc := 8) (v := (-1)) C dX6_sent_8 rfl ?_
    cases h
    exact g_iret (pc := 9) C hP rfl rfl dX6_sent_9
  · refine g_if_ne_t (pc := 5) C 10 dX6_sent_5 (by decide) hc5 ?_
    refine g_aload_n (pc := 10) (i := 0) (x := ad 0) C dX6_sent_10 rfl rfl ?_
    refine g_get (pc := 11) (v := .int (mem 0 11)) C ok_X6 11 (by decide) wf_X6_228 dX6_sent_11 la_0 rfl ?_
    refine g_bipush (pc := 14) (v := 6) C dX6_sent_14 rfl ?_
    rcases ite_some' h with ⟨hc16, h⟩ | ⟨hc16, h⟩
    · refine g_icmp_lt_t (pc := 16) C 22 dX6_sent_16 (by decide) hc16 ?_
      refine g_aload_n (pc := 22) (i := 0) (x := ad 0) C dX6_sent_22 rfl rfl ?_
      refine g_get (pc := 23) (v := .ref (ad 60)) C ok_X6 9 (by decide) wf_X6_62 dX6_sent_23 la_0 rfl ?_
      refine g_aload_n (pc := 26) (i := 0) (x := ad 0) C dX6_sent_26 rfl rfl ?_
      refine g_get (pc := 27) (v := .int (mem 0 11)) C ok_X6 11 (by decide) wf_X6_228 dX6_sent_27 la_0 rfl ?_
      refine g_iload_n (pc := 30) (i := 1) (x := l1) C dX6_sent_30 rfl rfl ?_
      obtain ⟨m31, hm31, hi31, h⟩ := wr_some h
      refine g_iast (pc := 31) C dX6_sent_31 la_60 hi31 ?_
      refine g_mem hm31 ?_
      refine g_aload_n (pc := 32) (i := 0) (x := ad 0) C dX6_sent_32 rfl rfl ?_
      refine g_get (pc := 33) (v := .ref (ad 61)) C ok_X6 10 (by decide) wf_X6_66 dX6_sent_33 la_0 rfl ?_
      refine g_aload_n (pc := 36) (i := 0) (x := ad 0) C dX6_sent_36 rfl rfl ?_
      refine g_get (pc := 37) (v := .int (m31 0 11)) C ok_X6 11 (by decide) wf_X6_228 dX6_sent_37 la_0 rfl ?_
      refine g_iload_n (pc := 40) (i := 2) (x := l2) C dX6_sent_40 rfl rfl ?_
      obtain ⟨m41, hm41, hi41, h⟩ := wr_some h
      refine g_zast (pc := 41) C dX6_sent_41 la_61 hi41 ?_
      refine g_mem hm41 ?_
      refine g_aload_n (pc := 42) (i := 0) (x := ad 0) C dX6_sent_42 rfl rfl ?_
      refine g_dup (pc := 43) C dX6_sent_43 rfl ?_
      refine g_get (pc := 44) (v := .int (m41 0 11)) C ok_X6 11 (by decide) wf_X6_228 dX6_sent_44 la_0 rfl ?_
      refine g_iconst (pc := 47) (v := 1) C dX6_sent_47 rfl ?_
      refine g_iadd (pc := 48) C dX6_sent_48 ?_
      obtain ⟨m49, hm49, h⟩ := lt_some h
      refine g_put (pc := 49) C ok_X6 11 (by decide) wf_X6_228 dX6_sent_49 rfl rfl la_0 ?_
      refine g_mem hm49 ?_
      refine g_aload_n (pc := 52) (i := 0) (x := ad 0) C dX6_sent_52 rfl rfl ?_
      refine g_get (pc := 53) (v := .int (m49 0 11)) C ok_X6 11 (by decide) wf_X6_228 dX6_sent_53 la_0 rfl ?_
      obtain ⟨v56, hv56, h⟩ := lt_some h
      refine g_topi hv56 ?_
      cases h
      exact g_iret (pc := 56) C hP rfl rfl dX6_sent_56
    · refine g_icmp_lt_f (pc := 16) C 22 dX6_sent_16 (by decide) hc16 ?_
      refine g_bipush (pc := 19) (v := (-3)) C dX6_sent_19 rfl ?_
      cases h
      exact g_iret (pc := 21) C hP rfl rfl dX6_sent_21

theorem dX6_forget_0 : decode cX6_forget 0 = .ok (.aload_n 0, 1) := by decide +kernel
theorem dX6_forget_1 : decode cX6_forget 1 = .ok (.getfield 228, 3) := by decide +kernel
theorem dX6_forget_4 : decode cX6_forget 4 = .ok (.istore_n 1, 1) := by decide +kernel
theorem dX6_forget_5 : decode cX6_forget 5 = .ok (.aload_n 0, 1) := by decide +kernel
theorem dX6_forget_6 : decode cX6_forget 6 = .ok (.iconst 0, 1) := by decide +kernel
theorem dX6_forget_7 : decode cX6_forget 7 = .ok (.putfield 228, 3) := by decide +kernel
theorem dX6_forget_10 : decode cX6_forget 10 = .ok (.iload_n 1, 1) := by decide +kernel
theorem dX6_forget_11 : decode cX6_forget 11 = .ok (.ireturn, 1) := by decide +kernel
noncomputable def f_X6_forget  (mem : Mem) : Option (Int32 × Mem) :=
  lt' (mem 0 11) fun v4 => lt' (mset mem 0 11 0) fun m7 => some (v4, m7)
set_option maxRecDepth 100000 in
set_option maxHeartbeats 4000000 in
theorem m_X6_forget {E : Ex} {ad : Nat → Nat} {sh sp : Nat} {tl : List Ent} {d : Nat} (hd : 0 ≤ d) (hsh : isS sh) (hsp : isS sp)  {mem : Mem} {r : Int32 × Mem} (h : f_X6_forget mem = some r) : Cl E yX6_forget cX6_forget 2 (some .int) d [.ref (ad 0)] (some (.int r.1)) ad (LC sh sp ++ tl) mem (LC sh sp ++ tl) r.2 := by
  refine Cl.of [some (.ref (ad 0)), none] (by decide +kernel) rfl (Nat.le_of_ble_eq_true rfl) (fun κ C hP => ?_)
  have C : Cx E κ cX6_forget RX6 2 (some .int) d := C
  unfold f_X6_forget at h
  refine g_aload_n (pc := 0) (i := 0) (x := ad 0) C dX6_forget_0 rfl rfl ?_
  refine g_get (pc := 1) (v := .int (mem 0 11)) C ok_X6 11 (by decide) wf_X6_228 dX6_forget_1 la_0 rfl ?_
  obtain ⟨v4, hv4, h⟩ := lt_some h
  refine g_topi hv4 ?_
  refine g_istore_n (pc := 4) (i := 1) (lv' := [some (.ref (ad 0)), some (.int v4)]) C dX6_forget_4 rfl (by decide) rfl rfl ?_
  refine g_aload_n (pc := 5) (i := 0) (x := ad 0) C dX6_forget_5 rfl rfl ?_
  refine g_iconst (pc := 6) (v := 0) C dX6_forget_6 rfl ?_
  obtain ⟨m7, hm7, h⟩ := lt_some h
  refine g_put (pc := 7) C ok_X6 11 (by decide) wf_X6_228 dX6_forget_7 rfl rfl la_0 ?_
  refine g_mem hm7 ?_
  refine g_iload_n (pc := 10) (i := 1) (x := v4) C dX6_forget_10 rfl rfl ?_
  cases h
  exact g_iret (pc := 11) C hP rfl rfl dX6_forget_11

theorem dX6_isAsTold_0 : decode cX6_isAsTold 0 = .ok (.aload_n 0, 1) := by decide +kernel
theorem dX6_isAsTold_1 : decode cX6_isAsTold 1 = .ok (.getfield 19, 3) := by decide +kernel
theorem dX6_isAsTold_4 : decode cX6_isAsTold 4 = .ok (.aload_n 0, 1) := by decide +kernel
theorem dX6_isAsTold_5 : decode cX6_isAsTold 5 = .ok (.getfield 33, 3) := by decide +kernel
theorem dX6_isAsTold_8 : decode cX6_isAsTold 8 = .ok (.iload_n 1, 1) := by decide +kernel
theorem dX6_isAsTold_9 : decode cX6_isAsTold 9 = .ok (.invokevirtual 280, 3) := by decide +kernel
theorem dX6_isAsTold_12 : decode cX6_isAsTold 12 = .ok (.istore_n 2, 1) := by decide +kernel
theorem dX6_isAsTold_13 : decode cX6_isAsTold 13 = .ok (.iconst 0, 1) := by decide +kernel
theorem dX6_isAsTold_14 : decode cX6_isAsTold 14 = .ok (.istore_n 3, 1) := by decide +kernel
theorem dX6_isAsTold_15 : decode cX6_isAsTold 15 = .ok (.iload_n 3, 1) := by decide +kernel
theorem dX6_isAsTold_16 : decode cX6_isAsTold 16 = .ok (.aload_n 0, 1) := by decide +kernel
theorem dX6_isAsTold_17 : decode cX6_isAsTold 17 = .ok (.getfield 228, 3) := by decide +kernel
theorem dX6_isAsTold_20 : decode cX6_isAsTold 20 = .ok (.if_icmp .ge 31, 3) := by decide +kernel
theorem dX6_isAsTold_23 : decode cX6_isAsTold 23 = .ok (.aload_n 0, 1) := by decide +kernel
theorem dX6_isAsTold_24 : decode cX6_isAsTold 24 = .ok (.getfield 62, 3) := by decide +kernel
theorem dX6_isAsTold_27 : decode cX6_isAsTold 27 = .ok (.iload_n 3, 1) := by decide +kernel
theorem dX6_isAsTold_28 : decode cX6_isAsTold 28 = .ok (.iaload, 1) := by decide +kernel
theorem dX6_isAsTold_29 : decode cX6_isAsTold 29 = .ok (.iload_n 1, 1) := by decide +kernel
theorem dX6_isAsTold_30 : decode cX6_isAsTold 30 = .ok (.if_icmp .ne 15, 3) := by decide +kernel
theorem dX6_isAsTold_33 : decode cX6_isAsTold 33 = .ok (.aload_n 0, 1) := by decide +kernel
theorem dX6_isAsTold_34 : decode cX6_isAsTold 34 = .ok (.getfield 66, 3) := by decide +kernel
theorem dX6_isAsTold_37 : decode cX6_isAsTold 37 = .ok (.iload_n 3, 1) := by decide +kernel
theorem dX6_isAsTold_38 : decode cX6_isAsTold 38 = .ok (.baload, 1) := by decide +kernel
theorem dX6_isAsTold_39 : decode cX6_isAsTold 39 = .ok (.iload_n 2, 1) := by decide +kernel
theorem dX6_isAsTold_40 : decode cX6_isAsTold 40 = .ok (.if_icmp .eq 5, 3) := by decide +kernel
theorem dX6_isAsTold_43 : decode cX6_isAsTold 43 = .ok (.iconst 0, 1) := by decide +kernel
theorem dX6_isAsTold_44 : decode cX6_isAsTold 44 = .ok (.ireturn, 1) := by decide +kernel
theorem dX6_isAsTold_45 : decode cX6_isAsTold 45 = .ok (.iinc 3 1, 3) := by decide +kernel
theorem dX6_isAsTold_48 : decode cX6_isAsTold 48 = .ok (.goto (-33), 3) := by decide +kernel
theorem dX6_isAsTold_51 : decode cX6_isAsTold 51 = .ok (.iconst 1, 1) := by decide +kernel
theorem dX6_isAsTold_52 : decode cX6_isAsTold 52 = .ok (.ireturn, 1) := by decide +kernel
noncomputable def f_X6_isAsTold_b15 (sh : Nat) (l1 : Int32) (l2 : Int32) (mem : Mem) (q : Int32) : Option ((Int32) ⊕ ((Int32) ⊕ (Int32))) :=
  if (mem 0 11) ≤ q then (some (.inr (.inl q))) else (rd (mem 60) 6 q fun v28 => if v28 = l1 then (rd (mem 61) 6 q fun v38 => if v38 = l2 then (lt' (q + 1) fun v45 => some (.inl v45)) else (some (.inr (.inr 0)))) else (lt' (q + 1) fun v45 => some (.inl v45)))
noncomputable def f_X6_isAsTold (sh : Nat) (l1 : Int32) (mem : Mem) : Option (Int32) :=
  ob (f_X5_sends sh 35 l1 mem) fun r9 => obs (lp (f_X6_isAsTold_b15 sh l1 r9 mem) FU 0) (fun q15 => some 1) (fun r => some r)
def P_X6_isAsTold_15 (E : Ex) (κ : Kx) (ad : Nat → Nat) (lay : List Ent) (sh : Nat) (l1 : Int32) (l2 : Int32) (mem : Mem) : (Int32) ⊕ ((Int32) ⊕ (Int32)) → Prop
  | .inl q => Gw E κ 4 0 0 15 [some (.ref (ad 0)), some (.int l1), some (.int l2), some (.int q)] [] ad lay mem
  | .inr (.inl q) => Gw E κ 4 0 0 51 [none, none, none, none] [] ad lay mem
  | .inr (.inr r) => Qr E κ (some (.int r)) ad lay mem
set_option maxRecDepth 100000 in
set_option maxHeartbeats 4000000 in
theorem b_X6_isAsTold_15 {E : Ex} {κ : Kx} {ad : Nat → Nat} {sh sp : Nat} {tl : List Ent} {d : Nat} (C : Cx E κ cX6_isAsTold RX6 4 (some .boolean) d) (hd : 3 ≤ d) (hsh : isS sh) (hsp : isS sp) {l1 : Int32} {l2 : Int32} {mem : Mem} {q : Int32} {x : (Int32) ⊕ ((Int32) ⊕ (Int32))} (h : f_X6_isAsTold_b15 sh l1 l2 mem q = some x) (hP : (P_X6_isAsTold_15 E κ ad (LC sh sp ++ tl) sh l1 l2 mem) x) : Gw E κ 4 0 0 15 [some (.ref (ad 0)), some (.int l1), some (.int l2), some (.int q)] [] ad (LC sh sp ++ tl) mem := by
  unfold f_X6_isAsTold_b15 at h
  refine g_iload_n (pc := 15) (i := 3) (x := q) C dX6_isAsTold_15 rfl rfl ?_
  refine g_aload_n (pc := 16) (i := 0) (x := ad 0) C dX6_isAsTold_16 rfl rfl ?_
  refine g_get (pc := 17) (v := .int (mem 0 11)) C ok_X6 11 (by decide) wf_X6_228 dX6_isAsTold_17 la_0 rfl ?_
  rcases ite_some' h with ⟨hc20, h⟩ | ⟨hc20, h⟩
  · refine g_icmp_ge_t (pc := 20) C 51 dX6_isAsTold_20 (by decide) hc20 ?_
    refine g_mask (lv' := [none, none, none, none]) [false, false, false, false] rfl ?_
    cases h
    exact hP
  · refine g_icmp_ge_f (pc := 20) C 51 dX6_isAsTold_20 (by decide) hc20 ?_
    refine g_aload_n (pc := 23) (i := 0) (x := ad 0) C dX6_isAsTold_23 rfl rfl ?_
    refine g_get (pc := 24) (v := .ref (ad 60)) C ok_X6 9 (by decide) wf_X6_62 dX6_isAsTold_24 la_0 rfl ?_
    refine g_iload_n (pc := 27) (i := 3) (x := q) C dX6_isAsTold_27 rfl rfl ?_
    obtain ⟨v28, hv28, hi28, h⟩ := rd_some h
    refine g_iald (pc := 28) C dX6_isAsTold_28 la_60 hi28 ?_
    refine g_topi hv28 ?_
    refine g_iload_n (pc := 29) (i := 1) (x := l1) C dX6_isAsTold_29 rfl rfl ?_
    rcases ite_some' h with ⟨hc30, h⟩ | ⟨hc30, h⟩
    · refine g_icmp_ne_f (pc := 30) C 45 dX6_isAsTold_30 (by decide) hc30 ?_
      refine g_aload_n (pc := 33) (i := 0) (x := ad 0) C dX6_isAsTold_33 rfl rfl ?_
      refine g_get (pc := 34) (v := .ref (ad 61)) C ok_X6 10 (by decide) wf_X6_66 dX6_isAsTold_34 la_0 rfl ?_
      refine g_iload_n (pc := 37) (i := 3) (x := q) C dX6_isAsTold_37 rfl rfl ?_
      obtain ⟨v38, hv38, hi38, h⟩ := rd_some h
      refine g_zald (pc := 38) C dX6_isAsTold_38 la_61 hi38 ?_
      refine g_topi hv38 ?_
      refine g_iload_n (pc := 39) (i := 2) (x := l2) C dX6_isAsTold_39 rfl rfl ?_
      rcases ite_some' h with ⟨hc40, h⟩ | ⟨hc40, h⟩
      · refine g_icmp_eq_t (pc := 40) C 45 dX6_isAsTold_40 (by decide) hc40 ?_
        obtain ⟨v45, hv45, h⟩ := lt_some h
        refine g_iinc (pc := 45) (i := 3) (x := q) (v := v45) (lv' := [some (.ref (ad 0)), some (.int l1), some (.int l2), some (.int v45)]) C dX6_isAsTold_45 rfl hv45.symm (by decide) rfl rfl ?_
        refine g_goto (pc := 48) C 15 dX6_isAsTold_48 (by decide) ?_
        cases h
        exact hP
      · refine g_icmp_eq_f (pc := 40) C 45 dX6_isAsTold_40 (by decide) hc40 ?_
        refine g_iconst (pc := 43) (v := 0) C dX6_isAsTold_43 rfl ?_
        cases h
        exact g_iret (pc := 44) C hP rfl rfl dX6_isAsTold_44
    · refine g_icmp_ne_t (pc := 30) C 45 dX6_isAsTold_30 (by decide) hc30 ?_
      obtain ⟨v45, hv45, h⟩ := lt_some h
      refine g_iinc (pc := 45) (i := 3) (x := q) (v := v45) (lv' := [some (.ref (ad 0)), some (.int l1), some (.int l2), some (.int v45)]) C dX6_isAsTold_45 rfl hv45.symm (by decide) rfl rfl ?_
      refine g_goto (pc := 48) C 15 dX6_isAsTold_48 (by decide) ?_
      cases h
      exact hP
set_option maxRecDepth 100000 in
set_option maxHeartbeats 4000000 in
theorem m_X6_isAsTold {E : Ex} {ad : Nat → Nat} {sh sp : Nat} {tl : List Ent} {d : Nat} (hd : 3 ≤ d) (hsh : isS sh) (hsp : isS sp) {l1 : Int32} {mem : Mem} {r : Int32} (h : f_X6_isAsTold sh l1 mem = some r) : Cl E yX6_isAsTold cX6_isAsTold 4 (some .boolean) d [.ref (ad 0), .int l1] (some (.int r)) ad (LC sh sp ++ tl) mem (LC sh sp ++ tl) mem := by
  refine Cl.of [some (.ref (ad 0)), some (.int l1), none, none] (by decide +kernel) rfl (Nat.le_of_ble_eq_true rfl) (fun κ C hP => ?_)
  have C : Cx E κ cX6_isAsTold RX6 4 (some .boolean) d := C
  unfold f_X6_isAsTold at h
  refine g_aload_n (pc := 0) (i := 0) (x := ad 0) C dX6_isAsTold_0 rfl rfl ?_
  refine g_get (pc := 1) (v := .ref (ad sh)) C ok_X6 1 (by decide) wf_X6_19 dX6_isAsTold_1 la_0 rfl ?_
  refine g_aload_n (pc := 4) (i := 0) (x := ad 0) C dX6_isAsTold_4 rfl rfl ?_
  refine g_get (pc := 5) (v := .ref (ad 35)) C ok_X6 4 (by decide) wf_X6_33 dX6_isAsTold_5 la_0 rfl ?_
  refine g_iload_n (pc := 8) (i := 1) (x := l1) C dX6_isAsTold_8 rfl rfl ?_
  obtain ⟨r9, hcall9, h⟩ := ob_some h
  refine g_callN (pc := 9) C ce0 mi_X5_sends mv_X5_sends nm_X6_280 dX6_isAsTold_9 ok_X5 [.ref (ad 35), .int l1] [] (lz_0 hsh) (by omega) rfl rfl (Nat.le_of_ble_eq_true rfl) (m_X5_sends (d := d - 1) (by omega) hsh t_35 hcall9) ?_
  show Gw E κ 4 0 0 12 [some (.ref (ad 0)), some (.int l1), none, none] [.int r9] ad (LC sh sp ++ tl) mem
  refine g_istore_n (pc := 12) (i := 2) (lv' := [some (.ref (ad 0)), some (.int l1), some (.int r9), none]) C dX6_isAsTold_12 rfl (by decide) rfl rfl ?_
  refine g_iconst (pc := 13) (v := 0) C dX6_isAsTold_13 rfl ?_
  refine g_istore_n (pc := 14) (i := 3) (lv' := [some (.ref (ad 0)), some (.int l1), some (.int r9), some (.int 0)]) C dX6_isAsTold_14 rfl (by decide) rfl rfl ?_
  rcases obs_some h with ⟨q15, hq, h⟩ | ⟨r, hq, h⟩
  · refine lp_gw (P_X6_isAsTold_15 E κ ad (LC sh sp ++ tl) sh l1 r9 mem) (fun q x hb hp => b_X6_isAsTold_15 C hd hsh hsp hb hp) _ 0 _ hq ?_
    show Gw E κ 4 0 0 51 [none, none, none, none] [] ad (LC sh sp ++ tl) mem
    refine g_iconst (pc := 51) (v := 1) C dX6_isAsTold_51 rfl ?_
    cases h
    exact g_iret (pc := 52) C hP rfl rfl dX6_isAsTold_52
  · refine lp_gw (P_X6_isAsTold_15 E κ ad (LC sh sp ++ tl) sh l1 r9 mem) (fun q x hb hp => b_X6_isAsTold_15 C hd hsh hsp hb hp) _ 0 _ hq ?_
    cases h
    exact hP

theorem dX6_wants_0 : decode cX6_wants 0 = .ok (.aload_n 0, 1) := by decide +kernel
theorem dX6_wants_1 : decode cX6_wants 1 = .ok (.iload_n 1, 1) := by decide +kernel
theorem dX6_wants_2 : decode cX6_wants 2 = .ok (.invokevirtual 139, 3) := by decide +kernel
theorem dX6_wants_5 : decode cX6_wants 5 = .ok (.ifCond .ne 5, 3) := by decide +kernel
theorem dX6_wants_8 : decode cX6_wants 8 = .ok (.iconst (-1), 1) := by decide +kernel
theorem dX6_wants_9 : decode cX6_wants 9 = .ok (.ireturn, 1) := by decide +kernel
theorem dX6_wants_10 : decode cX6_wants 10 = .ok (.iconst 0, 1) := by decide +kernel
theorem dX6_wants_11 : decode cX6_wants 11 = .ok (.istore_n 2, 1) := by decide +kernel
theorem dX6_wants_12 : decode cX6_wants 12 = .ok (.aload_n 0, 1) := by decide +kernel
theorem dX6_wants_13 : decode cX6_wants 13 = .ok (.getfield 33, 3) := by decide +kernel
theorem dX6_wants_16 : decode cX6_wants 16 = .ok (.aload_n 0, 1) := by decide +kernel
theorem dX6_wants_17 : decode cX6_wants 17 = .ok (.getfield 29, 3) := by decide +kernel
theorem dX6_wants_20 : decode cX6_wants 20 = .ok (.invokevirtual 188, 3) := by decide +kernel
theorem dX6_wants_23 : decode cX6_wants 23 = .ok (.iconst 0, 1) := by decide +kernel
theorem dX6_wants_24 : decode cX6_wants 24 = .ok (.istore_n 3, 1) := by decide +kernel
theorem dX6_wants_25 : decode cX6_wants 25 = .ok (.iload_n 3, 1) := by decide +kernel
theorem dX6_wants_26 : decode cX6_wants 26 = .ok (.aload_n 0, 1) := by decide +kernel
theorem dX6_wants_27 : decode cX6_wants 27 = .ok (.getfield 19, 3) := by decide +kernel
theorem dX6_wants_30 : decode cX6_wants 30 = .ok (.getfield 231, 3) := by decide +kernel
theorem dX6_wants_33 : decode cX6_wants 33 = .ok (.if_icmp .ge 33, 3) := by decide +kernel
theorem dX6_wants_36 : decode cX6_wants 36 = .ok (.aload_n 0, 1) := by decide +kernel
theorem dX6_wants_37 : decode cX6_wants 37 = .ok (.getfield 33, 3) := by decide +kernel
theorem dX6_wants_40 : decode cX6_wants 40 = .ok (.getfield 148, 3) := by decide +kernel
theorem dX6_wants_43 : decode cX6_wants 43 = .ok (.iload_n 1, 1) := by decide +kernel
theorem dX6_wants_44 : decode cX6_wants 44 = .ok (.iload_n 3, 1) := by decide +kernel
theorem dX6_wants_45 : decode cX6_wants 45 = .ok (.iastore, 1) := by decide +kernel
theorem dX6_wants_46 : decode cX6_wants 46 = .ok (.aload_n 0, 1) := by decide +kernel
theorem dX6_wants_47 : decode cX6_wants 47 = .ok (.iload_n 1, 1) := by decide +kernel
theorem dX6_wants_48 : decode cX6_wants 48 = .ok (.invokevirtual 234, 3) := by decide +kernel
theorem dX6_wants_51 : decode cX6_wants 51 = .ok (.ifCond .eq 9, 3) := by decide +kernel
theorem dX6_wants_54 : decode cX6_wants 54 = .ok (.iload_n 2, 1) := by decide +kernel
theorem dX6_wants_55 : decode cX6_wants 55 = .ok (.iconst 1, 1) := by decide +kernel
theorem dX6_wants_56 : decode cX6_wants 56 = .ok (.iload_n 3, 1) := by decide +kernel
theorem dX6_wants_57 : decode cX6_wants 57 = .ok (.ishl, 1) := by decide +kernel
theorem dX6_wants_58 : decode cX6_wants 58 = .ok (.ior, 1) := by decide +kernel
theorem dX6_wants_59 : decode cX6_wants 59 = .ok (.istore_n 2, 1) := by decide +kernel
theorem dX6_wants_60 : decode cX6_wants 60 = .ok (.iinc 3 1, 3) := by decide +kernel
theorem dX6_wants_63 : decode cX6_wants 63 = .ok (.goto (-38), 3) := by decide +kernel
theorem dX6_wants_66 : decode cX6_wants 66 = .ok (.iload_n 2, 1) := by decide +kernel
theorem dX6_wants_67 : decode cX6_wants 67 = .ok (.ireturn, 1) := by decide +kernel
noncomputable def f_X6_wants_b25 (sh : Nat) (l1 : Int32) (q : Int32 × Int32 × Mem) : Option ((Int32 × Int32 × Mem) ⊕ (Int32 × Int32 × Mem)) :=
  if (q.2.2 sh 7) ≤ q.2.1 then (some (.inr (q.1, q.2.1, q.2.2))) else (wr q.2.2 38 6 l1 q.2.1 fun m45 => ob (f_X6_isAsTold sh l1 m45) fun r48 => if r48 = 0 then (lt' (q.2.1 + 1) fun v60 => some (.inl (q.1, v60, m45))) else (lt' (q.1 ||| (1 <<< (q.2.1 &&& 31))) fun v59 => lt' (q.2.1 + 1) fun v60 => some (.inl (v59, v60, m45))))
noncomputable def f_X6_wants (sh : Nat) (l1 : Int32) (mem : Mem) : Option (Int32 × Mem) :=
  ob (f_X6_isSolver sh l1 mem) fun r2 => if r2 = 0 then (some ((-1), mem)) else (ob (f_X0_copy 35 31 mem) fun m20 => ob (lp (f_X6_wants_b25 sh l1) FU (0, 0, m20)) fun q25 => some (q25.1, q25.2.2))
def P_X6_wants_25 (E : Ex) (κ : Kx) (ad : Nat → Nat) (lay : List Ent) (sh : Nat) (l1 : Int32) : (Int32 × Int32 × Mem) ⊕ (Int32 × Int32 × Mem) → Prop
  | .inl q => Gw E κ 4 0 0 25 [some (.ref (ad 0)), some (.int l1), some (.int q.1), some (.int q.2.1)] [] ad lay q.2.2
  | .inr q => Gw E κ 4 0 0 66 [none, none, some (.int q.1), none] [] ad lay q.2.2
set_option maxRecDepth 100000 in
set_option maxHeartbeats 4000000 in
theorem b_X6_wants_25 {E : Ex} {κ : Kx} {ad : Nat → Nat} {sh sp : Nat} {tl : List Ent} {d : Nat} (C : Cx E κ cX6_wants RX6 4 (some .int) d) (hd : 4 ≤ d) (hsh : isS sh) (hsp : isS sp) {l1 : Int32} {q : Int32 × Int32 × Mem} {x : (Int32 × Int32 × Mem) ⊕ (Int32 × Int32 × Mem)} (h : f_X6_wants_b25 sh l1 q = some x) (hP : (P_X6_wants_25 E κ ad (LC sh sp ++ tl) sh l1) x) : Gw E κ 4 0 0 25 [some (.ref (ad 0)), some (.int l1), some (.int q.1), some (.int q.2.1)] [] ad (LC sh sp ++ tl) q.2.2 := by
  unfold f_X6_wants_b25 at h
  refine g_iload_n (pc := 25) (i := 3) (x := q.2.1) C dX6_wants_25 rfl rfl ?_
  refine g_aload_n (pc := 26) (i := 0) (x := ad 0) C dX6_wants_26 rfl rfl ?_
  refine g_get (pc := 27) (v := .ref (ad sh)) C ok_X6 1 (by decide) wf_X6_19 dX6_wants_27 la_0 rfl ?_
  refine g_getN (pc := 30) (v := .int (q.2.2 sh 7)) C ok_X5 7 (by decide) nf_X6_231 dX6_wants_30 (lz_0 hsh) rfl ?_
  rcases ite_some' h with ⟨hc33, h⟩ | ⟨hc33, h⟩
  · refine g_icmp_ge_t (pc := 33) C 66 dX6_wants_33 (by decide) hc33 ?_
    refine g_mask (lv' := [none, none, some (.int q.1), none]) [false, false, true, false] rfl ?_
    cases h
    exact hP
  · refine g_icmp_ge_f (pc := 33) C 66 dX6_wants_33 (by decide) hc33 ?_
    refine g_aload_n (pc := 36) (i := 0) (x := ad 0) C dX6_wants_36 rfl rfl ?_
    refine g_get (pc := 37) (v := .ref (ad 35)) C ok_X6 4 (by decide) wf_X6_33 dX6_wants_37 la_0 rfl ?_
    refine g_getN (pc := 40) (v := .ref (ad 38)) C ok_X0 2 (by decide) nf_X6_148 dX6_wants_40 la_35 rfl ?_
    refine g_iload_n (pc := 43) (i := 1) (x := l1) C dX6_wants_43 rfl rfl ?_
    refine g_iload_n (pc := 44) (i := 3) (x := q.2.1) C dX6_wants_44 rfl rfl ?_
    obtain ⟨m45, hm45, hi45, h⟩ := wr_some h
    refine g_iast (pc := 45) C dX6_wants_45 la_38 hi45 ?_
    refine g_mem hm45 ?_
    refine g_aload_n (pc := 46) (i := 0) (x := ad 0) C dX6_wants_46 rfl rfl ?_
    refine g_iload_n (pc := 47) (i := 1) (x := l1) C dX6_wants_47 rfl rfl ?_
    obtain ⟨r48, hcall48, h⟩ := ob_some h
    refine g_callV (pc := 48) C ce0 mi_X6_isAsTold mv_X6_isAsTold wm_X6_234 dX6_wants_48 ok_X6 [.int l1] [] la_0 (by omega) rfl rfl (Nat.le_of_ble_eq_true rfl) (m_X6_isAsTold (d := d - 1) (by omega) hsh hsp hcall48) ?_
    show Gw E κ 4 0 0 51 [some (.ref (ad 0)), some (.int l1), some (.int q.1), some (.int q.2.1)] [.int r48] ad (LC sh sp ++ tl) m45
    rcases ite_some' h with ⟨hc51, h⟩ | ⟨hc51, h⟩
    · refine g_if_eq_t (pc := 51) C 60 dX6_wants_51 (by decide) hc51 ?_
      obtain ⟨v60, hv60, h⟩ := lt_some h
      refine g_iinc (pc := 60) (i := 3) (x := q.2.1) (v := v60) (lv' := [some (.ref (ad 0)), some (.int l1), some (.int q.1), some (.int v60)]) C dX6_wants_60 rfl hv60.symm (by decide) rfl rfl ?_
      refine g_goto (pc := 63) C 25 dX6_wants_63 (by decide) ?_
      cases h
      exact hP
    · refine g_if_eq_f (pc := 51) C 60 dX6_wants_51 (by decide) hc51 ?_
      refine g_iload_n (pc := 54) (i := 2) (x := q.1) C dX6_wants_54 rfl rfl ?_
      refine g_iconst (pc := 55) (v := 1) C dX6_wants_55 rfl ?_
      refine g_iload_n (pc := 56) (i := 3) (x := q.2.1) C dX6_wants_56 rfl rfl ?_
      refine g_ishl (pc := 57) C dX6_wants_57 ?_
      refine g_ior (pc := 58) C dX6_wants_58 ?_
      obtain ⟨v59, hv59, h⟩ := lt_some h
      refine g_topi hv59 ?_
      refine g_istore_n (pc := 59) (i := 2) (lv' := [some (.ref (ad 0)), some (.int l1), some (.int v59), some (.int q.2.1)]) C dX6_wants_59 rfl (by decide) rfl rfl ?_
      obtain ⟨v60, hv60, h⟩ := lt_some h
      refine g_iinc (pc := 60) (i := 3) (x := q.2.1) (v := v60) (lv' := [some (.ref (ad 0)), some (.int l1), some (.int v59), some (.int v60)]) C dX6_wants_60 rfl hv60.symm (by decide) rfl rfl ?_
      refine g_goto (pc := 63) C 25 dX6_wants_63 (by decide) ?_
      cases h
      exact hP
set_option maxRecDepth 100000 in
set_option maxHeartbeats 4000000 in
theorem m_X6_wants {E : Ex} {ad : Nat → Nat} {sh sp : Nat} {tl : List Ent} {d : Nat} (hd : 4 ≤ d) (hsh : isS sh) (hsp : isS sp) {l1 : Int32} {mem : Mem} {r : Int32 × Mem} (h : f_X6_wants sh l1 mem = some r) : Cl E yX6_wants cX6_wants 4 (some .int) d [.ref (ad 0), .int l1] (some (.int r.1)) ad (LC sh sp ++ tl) mem (LC sh sp ++ tl) r.2 := by
  refine Cl.of [some (.ref (ad 0)), some (.int l1), none, none] (by decide +kernel) rfl (Nat.le_of_ble_eq_true rfl) (fun κ C hP => ?_)
  have C : Cx E κ cX6_wants RX6 4 (some .int) d := C
  unfold f_X6_wants at h
  refine g_aload_n (pc := 0) (i := 0) (x := ad 0) C dX6_wants_0 rfl rfl ?_
  refine g_iload_n (pc := 1) (i := 1) (x := l1) C dX6_wants_1 rfl rfl ?_
  obtain ⟨r2, hcall2, h⟩ := ob_some h
  refine g_callV (pc := 2) C ce0 mi_X6_isSolver mv_X6_isSolver wm_X6_139 dX6_wants_2 ok_X6 [.int l1] [] la_0 (by omega) rfl rfl (Nat.le_of_ble_eq_true rfl) (m_X6_isSolver (d := d - 1) (by omega) hsh hsp hcall2) ?_
  show Gw E κ 4 0 0 5 [some (.ref (ad 0)), some (.int l1), none, none] [.int r2] ad (LC sh sp ++ tl) mem
  rcases ite_some' h with ⟨hc5, h⟩ | ⟨hc5, h⟩
  · refine g_if_ne_f (pc := 5) C 10 dX6_wants_5 (by decide) hc5 ?_
    refine g_iconst (pc := 8) (v := (-1)) C dX6_wants_8 rfl ?_
    cases h
    exact g_iret (pc := 9) C hP rfl rfl dX6_wants_9
  · refine g_if_ne_t (pc := 5) C 10 dX6_wants_5 (by decide) hc5 ?_
    refine g_iconst (pc := 10) (v := 0) C dX6_wants_10 rfl ?_
    refine g_istore_n (pc := 11) (i := 2) (lv' := [some (.ref (ad 0)), some (.int l1), some (.int 0), none]) C dX6_wants_11 rfl (by decide) rfl rfl ?_
    refine g_aload_n (pc := 12) (i := 0) (x := ad 0) C dX6_wants_12 rfl rfl ?_
    refine g_get (pc := 13) (v := .ref (ad 35)) C ok_X6 4 (by decide) wf_X6_33 dX6_wants_13 la_0 rfl ?_
    refine g_aload_n (pc := 16) (i := 0) (x := ad 0) C dX6_wants_16 rfl rfl ?_
    refine g_get (pc := 17) (v := .ref (ad 31)) C ok_X6 3 (by decide) wf_X6_29 dX6_wants_17 la_0 rfl ?_
    obtain ⟨m20, hcall20, h⟩ := ob_some h
    refine g_callN (pc := 20) C ce0 mi_X0_copy mv_X0_copy nm_X6_188 dX6_wants_20 ok_X0 [.ref (ad 31)] [] la_35 (by omega) rfl rfl (Nat.le_of_ble_eq_true rfl) (m_X0_copy (d := d - 1) (by omega) t_35 t_31 hcall20) ?_
    show Gw E κ 4 0 0 23 [some (.ref (ad 0)), some (.int l1), some (.int 0), none] [] ad (LC sh sp ++ tl) m20
    refine g_iconst (pc := 23) (v := 0) C dX6_wants_23 rfl ?_
    refine g_istore_n (pc := 24) (i := 3) (lv' := [some (.ref (ad 0)), some (.int l1), some (.int 0), some (.int 0)]) C dX6_wants_24 rfl (by decide) rfl rfl ?_
    obtain ⟨q25, hq, h⟩ := ob_some h
    refine lp_gw (P_X6_wants_25 E κ ad (LC sh sp ++ tl) sh l1) (fun q x hb hp => b_X6_wants_25 C hd hsh hsp hb hp) _ (0, 0, m20) _ hq ?_
    show Gw E κ 4 0 0 66 [none, none, some (.int q25.1), none] [] ad (LC sh sp ++ tl) q25.2.2
    refine g_iload_n (pc := 66) (i := 2) (x := q25.1) C dX6_wants_66 rfl rfl ?_
    cases h
    exact g_iret (pc := 67) C hP rfl rfl dX6_wants_67

theorem dX6_isAllAsTold_0 : decode cX6_isAllAsTold 0 = .ok (.iconst 0, 1) := by decide +kernel
theorem dX6_isAllAsTold_1 : decode cX6_isAllAsTold 1 = .ok (.istore_n 1, 1) := by decide +kernel
theorem dX6_isAllAsTold_2 : decode cX6_isAllAsTold 2 = .ok (.iload_n 1, 1) := by decide +kernel
theorem dX6_isAllAsTold_3 : decode cX6_isAllAsTold 3 = .ok (.aload_n 0, 1) := by decide +kernel
theorem dX6_isAllAsTold_4 : decode cX6_isAllAsTold 4 = .ok (.getfield 19, 3) := by decide +kernel
theorem dX6_isAllAsTold_7 : decode cX6_isAllAsTold 7 = .ok (.getfield 215, 3) := by decide +kernel
theorem dX6_isAllAsTold_10 : decode cX6_isAllAsTold 10 = .ok (.if_icmp .ge 19, 3) := by decide +kernel
theorem dX6_isAllAsTold_13 : decode cX6_isAllAsTold 13 = .ok (.aload_n 0, 1) := by decide +kernel
theorem dX6_isAllAsTold_14 : decode cX6_isAllAsTold 14 = .ok (.iload_n 1, 1) := by decide +kernel
theorem dX6_isAllAsTold_15 : decode cX6_isAllAsTold 15 = .ok (.invokevirtual 234, 3) := by decide +kernel
theorem dX6_isAllAsTold_18 : decode cX6_isAllAsTold 18 = .ok (.ifCond .ne 5, 3) := by decide +kernel
theorem dX6_isAllAsTold_21 : decode cX6_isAllAsTold 21 = .ok (.iconst 0, 1) := by decide +kernel
theorem dX6_isAllAsTold_22 : decode cX6_isAllAsTold 22 = .ok (.ireturn, 1) := by decide +kernel
theorem dX6_isAllAsTold_23 : decode cX6_isAllAsTold 23 = .ok (.iinc 1 1, 3) := by decide +kernel
theorem dX6_isAllAsTold_26 : decode cX6_isAllAsTold 26 = .ok (.goto (-24), 3) := by decide +kernel
theorem dX6_isAllAsTold_29 : decode cX6_isAllAsTold 29 = .ok (.iconst 1, 1) := by decide +kernel
theorem dX6_isAllAsTold_30 : decode cX6_isAllAsTold 30 = .ok (.ireturn, 1) := by decide +kernel
noncomputable def f_X6_isAllAsTold_b2 (sh : Nat) (mem : Mem) (q : Int32) : Option ((Int32) ⊕ ((Int32) ⊕ (Int32))) :=
  if (mem sh 12) ≤ q then (some (.inr (.inl q))) else (ob (f_X6_isAsTold sh q mem) fun r15 => if r15 = 0 then (some (.inr (.inr 0))) else (lt' (q + 1) fun v23 => some (.inl v23)))
noncomputable def f_X6_isAllAsTold (sh : Nat)  (mem : Mem) : Option (Int32) :=
  obs (lp (f_X6_isAllAsTold_b2 sh mem) FU 0) (fun q2 => some 1) (fun r => some r)
def P_X6_isAllAsTold_2 (E : Ex) (κ : Kx) (ad : Nat → Nat) (lay : List Ent) (sh : Nat) (mem : Mem) : (Int32) ⊕ ((Int32) ⊕ (Int32)) → Prop
  | .inl q => Gw E κ 2 0 0 2 [some (.ref (ad 0)), some (.int q)] [] ad lay mem
  | .inr (.inl q) => Gw E κ 2 0 0 29 [none, none] [] ad lay mem
  | .inr (.inr r) => Qr E κ (some (.int r)) ad lay mem
set_option maxRecDepth 100000 in
set_option maxHeartbeats 4000000 in
theorem b_X6_isAllAsTold_2 {E : Ex} {κ : Kx} {ad : Nat → Nat} {sh sp : Nat} {tl : List Ent} {d : Nat} (C : Cx E κ cX6_isAllAsTold RX6 2 (some .boolean) d) (hd : 4 ≤ d) (hsh : isS sh) (hsp : isS sp) {mem : Mem} {q : Int32} {x : (Int32) ⊕ ((Int32) ⊕ (Int32))} (h : f_X6_isAllAsTold_b2 sh mem q = some x) (hP : (P_X6_isAllAsTold_2 E κ ad (LC sh sp ++ tl) sh mem) x) : Gw E κ 2 0 0 2 [some (.ref (ad 0)), some (.int q)] [] ad (LC sh sp ++ tl) mem := by
  unfold f_X6_isAllAsTold_b2 at h
  refine g_iload_n (pc := 2) (i := 1) (x := q) C dX6_isAllAsTold_2 rfl rfl ?_
  refine g_aload_n (pc := 3) (i := 0) (x := ad 0) C dX6_isAllAsTold_3 rfl rfl ?_
  refine g_get (pc := 4) (v := .ref (ad sh)) C ok_X6 1 (by decide) wf_X6_19 dX6_isAllAsTold_4 la_0 rfl ?_
  refine g_getN (pc := 7) (v := .int (mem sh 12)) C ok_X5 12 (by decide) nf_X6_215 dX6_isAllAsTold_7 (lz_0 hsh) rfl ?_
  rcases ite_some' h with ⟨hc10, h⟩ | ⟨hc10, h⟩
  · refine g_icmp_ge_t (pc := 10) C 29 dX6_isAllAsTold_10 (by decide) hc10 ?_
    refine g_mask (lv' := [none, none]) [false, false] rfl ?_
    cases h
    exact hP
  · refine g_icmp_ge_f (pc := 10) C 29 dX6_isAllAsTold_10 (by decide) hc10 ?_
    refine g_aload_n (pc := 13) (i := 0) (x := ad 0) C dX6_isAllAsTold_13 rfl rfl ?_
    refine g_iload_n (pc := 14) (i := 1) (x := q) C dX6_isAllAsTold_14 rfl rfl ?_
    obtain ⟨r15, hcall15, h⟩ := ob_some h
    refine g_callV (pc := 15) C ce0 mi_X6_isAsTold mv_X6_isAsTold wm_X6_234 dX6_isAllAsTold_15 ok_X6 [.int q] [] la_0 (by omega) rfl rfl (Nat.le_of_ble_eq_true rfl) (m_X6_isAsTold (d := d - 1) (by omega) hsh hsp hcall15) ?_
    show Gw E κ 2 0 0 18 [some (.ref (ad 0)), some (.int q)] [.int r15] ad (LC sh sp ++ tl) mem
    rcases ite_some' h with ⟨hc18, h⟩ | ⟨hc18, h⟩
    · refine g_if_ne_f (pc := 18) C 23 dX6_isAllAsTold_18 (by decide) hc18 ?_
      refine g_iconst (pc := 21) (v := 0) C dX6_isAllAsTold_21 rfl ?_
      cases h
      exact g_iret (pc := 22) C hP rfl rfl dX6_isAllAsTold_22
    · refine g_if_ne_t (pc := 18) C 23 dX6_isAllAsTold_18 (by decide) hc18 ?_
      obtain ⟨v23, hv23, h⟩ := lt_some h
      refine g_iinc (pc := 23) (i := 1) (x := q) (v := v23) (lv' := [some (.ref (ad 0)), some (.int v23)]) C dX6_isAllAsTold_23 rfl hv23.symm (by decide) rfl rfl ?_
      refine g_goto (pc := 26) C 2 dX6_isAllAsTold_26 (by decide) ?_
      cases h
      exact hP
set_option maxRecDepth 100000 in
set_option maxHeartbeats 4000000 in
theorem m_X6_isAllAsTold {E : Ex} {ad : Nat → Nat} {sh sp : Nat} {tl : List Ent} {d : Nat} (hd : 4 ≤ d) (hsh : isS sh) (hsp : isS sp)  {mem : Mem} {r : Int32} (h : f_X6_isAllAsTold sh mem = some r) : Cl E yX6_isAllAsTold cX6_isAllAsTold 2 (some .boolean) d [.ref (ad 0)] (some (.int r)) ad (LC sh sp ++ tl) mem (LC sh sp ++ tl) mem := by
  refine Cl.of [some (.ref (ad 0)), none] (by decide +kernel) rfl (Nat.le_of_ble_eq_true rfl) (fun κ C hP => ?_)
  have C : Cx E κ cX6_isAllAsTold RX6 2 (some .boolean) d := C
  unfold f_X6_isAllAsTold at h
  refine g_iconst (pc := 0) (v := 0) C dX6_isAllAsTold_0 rfl ?_
  refine g_istore_n (pc := 1) (i := 1) (lv' := [some (.ref (ad 0)), some (.int 0)]) C dX6_isAllAsTold_1 rfl (by decide) rfl rfl ?_
  rcases obs_some h with ⟨q2, hq, h⟩ | ⟨r, hq, h⟩
  · refine lp_gw (P_X6_isAllAsTold_2 E κ ad (LC sh sp ++ tl) sh mem) (fun q x hb hp => b_X6_isAllAsTold_2 C hd hsh hsp hb hp) _ 0 _ hq ?_
    show Gw E κ 2 0 0 29 [none, none] [] ad (LC sh sp ++ tl) mem
    refine g_iconst (pc := 29) (v := 1) C dX6_isAllAsTold_29 rfl ?_
    cases h
    exact g_iret (pc := 30) C hP rfl rfl dX6_isAllAsTold_30
  · refine lp_gw (P_X6_isAllAsTold_2 E κ ad (LC sh sp ++ tl) sh mem) (fun q x hb hp => b_X6_isAllAsTold_2 C hd hsh hsp hb hp) _ 0 _ hq ?_
    cases h
    exact hP

theorem dX6_letters_0 : decode cX6_letters 0 = .ok (.aload_n 0, 1) := by decide +kernel
theorem dX6_letters_1 : decode cX6_letters 1 = .ok (.iload_n 1, 1) := by decide +kernel
theorem dX6_letters_2 : decode cX6_letters 2 = .ok (.invokevirtual 100, 3) := by decide +kernel
theorem dX6_letters_5 : decode cX6_letters 5 = .ok (.ifCond .ne 5, 3) := by decide +kernel
theorem dX6_letters_8 : decode cX6_letters 8 = .ok (.iconst (-1), 1) := by decide +kernel
theorem dX6_letters_9 : decode cX6_letters 9 = .ok (.ireturn, 1) := by decide +kernel
theorem dX6_letters_10 : decode cX6_letters 10 = .ok (.aload_n 0, 1) := by decide +kernel
theorem dX6_letters_11 : decode cX6_letters 11 = .ok (.getfield 19, 3) := by decide +kernel
theorem dX6_letters_14 : decode cX6_letters 14 = .ok (.getfield 237, 3) := by decide +kernel
theorem dX6_letters_17 : decode cX6_letters 17 = .ok (.iload_n 1, 1) := by decide +kernel
theorem dX6_letters_18 : decode cX6_letters 18 = .ok (.baload, 1) := by decide +kernel
theorem dX6_letters_19 : decode cX6_letters 19 = .ok (.ifCond .eq 6, 3) := by decide +kernel
theorem dX6_letters_22 : decode cX6_letters 22 = .ok (.bipush (-2), 2) := by decide +kernel
theorem dX6_letters_24 : decode cX6_letters 24 = .ok (.ireturn, 1) := by decide +kernel
theorem dX6_letters_25 : decode cX6_letters 25 = .ok (.iconst 0, 1) := by decide +kernel
theorem dX6_letters_26 : decode cX6_letters 26 = .ok (.istore_n 2, 1) := by decide +kernel
theorem dX6_letters_27 : decode cX6_letters 27 = .ok (.aload_n 0, 1) := by decide +kernel
theorem dX6_letters_28 : decode cX6_letters 28 = .ok (.getfield 33, 3) := by decide +kernel
theorem dX6_letters_31 : decode cX6_letters 31 = .ok (.aload_n 0, 1) := by decide +kernel
theorem dX6_letters_32 : decode cX6_letters 32 = .ok (.getfield 29, 3) := by decide +kernel
theorem dX6_letters_35 : decode cX6_letters 35 = .ok (.invokevirtual 188, 3) := by decide +kernel
theorem dX6_letters_38 : decode cX6_letters 38 = .ok (.iconst 0, 1) := by decide +kernel
theorem dX6_letters_39 : decode cX6_letters 39 = .ok (.istore_n 3, 1) := by decide +kernel
theorem dX6_letters_40 : decode cX6_letters 40 = .ok (.iload_n 3, 1) := by decide +kernel
theorem dX6_letters_41 : decode cX6_letters 41 = .ok (.bipush 6, 2) := by decide +kernel
theorem dX6_letters_43 : decode cX6_letters 43 = .ok (.if_icmp .gt 32, 3) := by decide +kernel
theorem dX6_letters_46 : decode cX6_letters 46 = .ok (.aload_n 0, 1) := by decide +kernel
theorem dX6_letters_47 : decode cX6_letters 47 = .ok (.getfield 33, 3) := by decide +kernel
theorem dX6_letters_50 : decode cX6_letters 50 = .ok (.getfield 240, 3) := by decide +kernel
theorem dX6_letters_53 : decode cX6_letters 53 = .ok (.iload_n 1, 1) := by decide +kernel
theorem dX6_letters_54 : decode cX6_letters 54 = .ok (.iload_n 3, 1) := by decide +kernel
theorem dX6_letters_55 : decode cX6_letters 55 = .ok (.iastore, 1) := by decide +kernel
theorem dX6_letters_56 : decode cX6_letters 56 = .ok (.aload_n 0, 1) := by decide +kernel
theorem dX6_letters_57 : decode cX6_letters 57 = .ok (.invokevirtual 243, 3) := by decide +kernel
theorem dX6_letters_60 : decode cX6_letters 60 = .ok (.ifCond .eq 9, 3) := by decide +kernel
theorem dX6_letters_63 : decode cX6_letters 63 = .ok (.iload_n 2, 1) := by decide +kernel
theorem dX6_letters_64 : decode cX6_letters 64 = .ok (.iconst 1, 1) := by decide +kernel
theorem dX6_letters_65 : decode cX6_letters 65 = .ok (.iload_n 3, 1) := by decide +kernel
theorem dX6_letters_66 : decode cX6_letters 66 = .ok (.ishl, 1) := by decide +kernel
theorem dX6_letters_67 : decode cX6_letters 67 = .ok (.ior, 1) := by decide +kernel
theorem dX6_letters_68 : decode cX6_letters 68 = .ok (.istore_n 2, 1) := by decide +kernel
theorem dX6_letters_69 : decode cX6_letters 69 = .ok (.iinc 3 1, 3) := by decide +kernel
theorem dX6_letters_72 : decode cX6_letters 72 = .ok (.goto (-32), 3) := by decide +kernel
theorem dX6_letters_75 : decode cX6_letters 75 = .ok (.iload_n 2, 1) := by decide +kernel
theorem dX6_letters_76 : decode cX6_letters 76 = .ok (.ireturn, 1) := by decide +kernel
noncomputable def f_X6_letters_b40 (sh : Nat) (l1 : Int32) (q : Int32 × Int32 × Mem) : Option ((Int32 × Int32 × Mem) ⊕ (Int32 × Int32 × Mem)) :=
  if 6 < q.2.1 then (some (.inr (q.1, q.2.1, q.2.2))) else (wr q.2.2 36 16 l1 q.2.1 fun m55 => ob (f_X6_isAllAsTold sh m55) fun r57 => if r57 = 0 then (lt' (q.2.1 + 1) fun v69 => some (.inl (q.1, v69, m55))) else (lt' (q.1 ||| (1 <<< (q.2.1 &&& 31))) fun v68 => lt' (q.2.1 + 1) fun v69 => some (.inl (v68, v69, m55))))
noncomputable def f_X6_letters (sh : Nat) (l1 : Int32) (mem : Mem) : Option (Int32 × Mem) :=
  ob (f_X6_isSquare sh l1 mem) fun r2 => if r2 = 0 then (some ((-1), mem)) else (rd (mem (sh + 1)) 16 l1 fun v18 => if v18 = 0 then (ob (f_X0_copy 35 31 mem) fun m35 => ob (lp (f_X6_letters_b40 sh l1) FU (0, 0, m35)) fun q40 => some (q40.1, q40.2.2)) else (some ((-2), mem)))
def P_X6_letters_40 (E : Ex) (κ : Kx) (ad : Nat → Nat) (lay : List Ent) (sh : Nat) (l1 : Int32) : (Int32 × Int32 × Mem) ⊕ (Int32 × Int32 × Mem) → Prop
  | .inl q => Gw E κ 4 0 0 40 [some (.ref (ad 0)), some (.int l1), some (.int q.1), some (.int q.2.1)] [] ad lay q.2.2
  | .inr q => Gw E κ 4 0 0 75 [none, none, some (.int q.1), none] [] ad lay q.2.2
set_option maxRecDepth 100000 in
set_option maxHeartbeats 4000000 in
theorem b_X6_letters_40 {E : Ex} {κ : Kx} {ad : Nat → Nat} {sh sp : Nat} {tl : List Ent} {d : Nat} (C : Cx E κ cX6_letters RX6 4 (some .int) d) (hd : 5 ≤ d) (hsh : isS sh) (hsp : isS sp) {l1 : Int32} {q : Int32 × Int32 × Mem} {x : (Int32 × Int32 × Mem) ⊕ (Int32 × Int32 × Mem)} (h : f_X6_letters_b40 sh l1 q = some x) (hP : (P_X6_letters_40 E κ ad (LC sh sp ++ tl) sh l1) x) : Gw E κ 4 0 0 40 [some (.ref (ad 0)), some (.int l1), some (.int q.1), some (.int q.2.1)] [] ad (LC sh sp ++ tl) q.2.2 := by
  unfold f_X6_letters_b40 at h
  refine g_iload_n (pc := 40) (i := 3) (x := q.2.1) C dX6_letters_40 rfl rfl ?_
  refine g_bipush (pc := 41) (v := 6) C dX6_letters_41 rfl ?_
  rcases ite_some' h with ⟨hc43, h⟩ | ⟨hc43, h⟩
  · refine g_icmp_gt_t (pc := 43) C 75 dX6_letters_43 (by decide) hc43 ?_
    refine g_mask (lv' := [none, none, some (.int q.1), none]) [false, false, true, false] rfl ?_
    cases h
    exact hP
  · refine g_icmp_gt_f (pc := 43) C 75 dX6_letters_43 (by decide) hc43 ?_
    refine g_aload_n (pc := 46) (i := 0) (x := ad 0) C dX6_letters_46 rfl rfl ?_
    refine g_get (pc := 47) (v := .ref (ad 35)) C ok_X6 4 (by decide) wf_X6_33 dX6_letters_47 la_0 rfl ?_
    refine g_getN (pc := 50) (v := .ref (ad 36)) C ok_X0 0 (by decide) nf_X6_240 dX6_letters_50 la_35 rfl ?_
    refine g_iload_n (pc := 53) (i := 1) (x := l1) C dX6_letters_53 rfl rfl ?_
    refine g_iload_n (pc := 54) (i := 3) (x := q.2.1) C dX6_letters_54 rfl rfl ?_
    obtain ⟨m55, hm55, hi55, h⟩ := wr_some h
    refine g_iast (pc := 55) C dX6_letters_55 la_36 hi55 ?_
    refine g_mem hm55 ?_
    refine g_aload_n (pc := 56) (i := 0) (x := ad 0) C dX6_letters_56 rfl rfl ?_
    obtain ⟨r57, hcall57, h⟩ := ob_some h
    refine g_callV (pc := 57) C ce0 mi_X6_isAllAsTold mv_X6_isAllAsTold wm_X6_243 dX6_letters_57 ok_X6 [] [] la_0 (by omega) rfl rfl (Nat.le_of_ble_eq_true rfl) (m_X6_isAllAsTold (d := d - 1) (by omega) hsh hsp hcall57) ?_
    show Gw E κ 4 0 0 60 [some (.ref (ad 0)), some (.int l1), some (.int q.1), some (.int q.2.1)] [.int r57] ad (LC sh sp ++ tl) m55
    rcases ite_some' h with ⟨hc60, h⟩ | ⟨hc60, h⟩
    · refine g_if_eq_t (pc := 60) C 69 dX6_letters_60 (by decide) hc60 ?_
      obtain ⟨v69, hv69, h⟩ := lt_some h
      refine g_iinc (pc := 69) (i := 3) (x := q.2.1) (v := v69) (lv' := [some (.ref (ad 0)), some (.int l1), some (.int q.1), some (.int v69)]) C dX6_letters_69 rfl hv69.symm (by decide) rfl rfl ?_
      refine g_goto (pc := 72) C 40 dX6_letters_72 (by decide) ?_
      cases h
      exact hP
    · refine g_if_eq_f (pc := 60) C 69 dX6_letters_60 (by decide) hc60 ?_
      refine g_iload_n (pc := 63) (i := 2) (x := q.1) C dX6_letters_63 rfl rfl ?_
      refine g_iconst (pc := 64) (v := 1) C dX6_letters_64 rfl ?_
      refine g_iload_n (pc := 65) (i := 3) (x := q.2.1) C dX6_letters_65 rfl rfl ?_
      refine g_ishl (pc := 66) C dX6_letters_66 ?_
      refine g_ior (pc := 67) C dX6_letters_67 ?_
      obtain ⟨v68, hv68, h⟩ := lt_some h
      refine g_topi hv68 ?_
      refine g_istore_n (pc := 68) (i := 2) (lv' := [some (.ref (ad 0)), some (.int l1), some (.int v68), some (.int q.2.1)]) C dX6_letters_68 rfl (by decide) rfl rfl ?_
      obtain ⟨v69, hv69, h⟩ := lt_some h
      refine g_iinc (pc := 69) (i := 3) (x := q.2.1) (v := v69) (lv' := [some (.ref (ad 0)), some (.int l1), some (.int v68), some (.int v69)]) C dX6_letters_69 rfl hv69.symm (by decide) rfl rfl ?_
      refine g_goto (pc := 72) C 40 dX6_letters_72 (by decide) ?_
      cases h
      exact hP
set_option maxRecDepth 100000 in
set_option maxHeartbeats 4000000 in
theorem m_X6_letters {E : Ex} {ad : Nat → Nat} {sh sp : Nat} {tl : List Ent} {d : Nat} (hd : 5 ≤ d) (hsh : isS sh) (hsp : isS sp) {l1 : Int32} {mem : Mem} {r : Int32 × Mem} (h : f_X6_letters sh l1 mem = some r) : Cl E yX6_letters cX6_letters 4 (some .int) d [.ref (ad 0), .int l1] (some (.int r.1)) ad (LC sh sp ++ tl) mem (LC sh sp ++ tl) r.2 := by
  refine Cl.of [some (.ref (ad 0)), some (.int l1), none, none] (by decide +kernel) rfl (Nat.le_of_ble_eq_true rfl) (fun κ C hP => ?_)
  have C : Cx E κ cX6_letters RX6 4 (some .int) d := C
  unfold f_X6_letters at h
  refine g_aload_n (pc := 0) (i := 0) (x := ad 0) C dX6_letters_0 rfl rfl ?_
  refine g_iload_n (pc := 1) (i := 1) (x := l1) C dX6_letters_1 rfl rfl ?_
  obtain ⟨r2, hcall2, h⟩ := ob_some h
  refine g_callV (pc := 2) C ce0 mi_X6_isSquare mv_X6_isSquare wm_X6_100 dX6_letters_2 ok_X6 [.int l1] [] la_0 (by omega) rfl rfl (Nat.le_of_ble_eq_true rfl) (m_X6_isSquare (d := d - 1) (by omega) hsh hsp hcall2) ?_
  show Gw E κ 4 0 0 5 [some (.ref (ad 0)), some (.int l1), none, none] [.int r2] ad (LC sh sp ++ tl) mem
  rcases ite_some' h with ⟨hc5, h⟩ | ⟨hc5, h⟩
  · refine g_if_ne_f (pc := 5) C 10 dX6_letters_5 (by decide) hc5 ?_
    refine g_iconst (pc := 8) (v := (-1)) C dX6_letters_8 rfl ?_
    cases h
    exact g_iret (pc := 9) C hP rfl rfl dX6_letters_9
  · refine g_if_ne_t (pc := 5) C 10 dX6_letters_5 (by decide) hc5 ?_
    refine g_aload_n (pc := 10) (i := 0) (x := ad 0) C dX6_letters_10 rfl rfl ?_
    refine g_get (pc := 11) (v := .ref (ad sh)) C ok_X6 1 (by decide) wf_X6_19 dX6_letters_11 la_0 rfl ?_
    refine g_getN (pc := 14) (v := .ref (ad (sh + 1))) C ok_X5 2 (by decide) nf_X6_237 dX6_letters_14 (lz_0 hsh) rfl ?_
    refine g_iload_n (pc := 17) (i := 1) (x := l1) C dX6_letters_17 rfl rfl ?_
    obtain ⟨v18, hv18, hi18, h⟩ := rd_some h
    refine g_zald (pc := 18) C dX6_letters_18 (lz_1 hsh) hi18 ?_
    refine g_topi hv18 ?_
    rcases ite_some' h with ⟨hc19, h⟩ | ⟨hc19, h⟩
    · refine g_if_eq_t (pc := 19) C 25 dX6_letters_19 (by decide) hc19 ?_
      refine g_iconst (pc := 25) (v := 0) C dX6_letters_25 rfl ?_
      refine g_istore_n (pc := 26) (i := 2) (lv' := [some (.ref (ad 0)), some (.int l1), some (.int 0), none]) C dX6_letters_26 rfl (by decide) rfl rfl ?_
      refine g_aload_n (pc := 27) (i := 0) (x := ad 0) C dX6_letters_27 rfl rfl ?_
      refine g_get (pc := 28) (v := .ref (ad 35)) C ok_X6 4 (by decide) wf_X6_33 dX6_letters_28 la_0 rfl ?_
      refine g_aload_n (pc := 31) (i := 0) (x := ad 0) C dX6_letters_31 rfl rfl ?_
      refine g_get (pc := 32) (v := .ref (ad 31)) C ok_X6 3 (by decide) wf_X6_29 dX6_letters_32 la_0 rfl ?_
      obtain ⟨m35, hcall35, h⟩ := ob_some h
      refine g_callN (pc := 35) C ce0 mi_X0_copy mv_X0_copy nm_X6_188 dX6_letters_35 ok_X0 [.ref (ad 31)] [] la_35 (by omega) rfl rfl (Nat.le_of_ble_eq_true rfl) (m_X0_copy (d := d - 1) (by omega) t_35 t_31 hcall35) ?_
      show Gw E κ 4 0 0 38 [some (.ref (ad 0)), some (.int l1), some (.int 0), none] [] ad (LC sh sp ++ tl) m35
      refine g_iconst (pc := 38) (v := 0) C dX6_letters_38 rfl ?_
      refine g_istore_n (pc := 39) (i := 3) (lv' := [some (.ref (ad 0)), some (.int l1), some (.int 0), some (.int 0)]) C dX6_letters_39 rfl (by decide) rfl rfl ?_
      obtain ⟨q40, hq, h⟩ := ob_some h
      refine lp_gw (P_X6_letters_40 E κ ad (LC sh sp ++ tl) sh l1) (fun q x hb hp => b_X6_letters_40 C hd hsh hsp hb hp) _ (0, 0, m35) _ hq ?_
      show Gw E κ 4 0 0 75 [none, none, some (.int q40.1), none] [] ad (LC sh sp ++ tl) q40.2.2
      refine g_iload_n (pc := 75) (i := 2) (x := q40.1) C dX6_letters_75 rfl rfl ?_
      cases h
      exact g_iret (pc := 76) C hP rfl rfl dX6_letters_76
    · refine g_if_eq_f (pc := 19) C 25 dX6_letters_19 (by decide) hc19 ?_
      refine g_bipush (pc := 22) (v := (-2)) C dX6_letters_22 rfl ?_
      cases h
      exact g_iret (pc := 24) C hP rfl rfl dX6_letters_24

theorem dX6_isPrintedBySending_0 : decode cX6_isPrintedBySending 0 = .ok (.aload_n 0, 1) := by decide +kernel
theorem dX6_isPrintedBySending_1 : decode cX6_isPrintedBySending 1 = .ok (.getfield 33, 3) := by decide +kernel
theorem dX6_isPrintedBySending_4 : decode cX6_isPrintedBySending 4 = .ok (.aload_n 0, 1) := by decide +kernel
theorem dX6_isPrintedBySending_5 : decode cX6_isPrintedBySending 5 = .ok (.getfield 29, 3) := by decide +kernel
theorem dX6_isPrintedBySending_8 : decode cX6_isPrintedBySending 8 = .ok (.invokevirtual 188, 3) := by decide +kernel
theorem dX6_isPrintedBySending_11 : decode cX6_isPrintedBySending 11 = .ok (.aload_n 0, 1) := by decide +kernel
theorem dX6_isPrintedBySending_12 : decode cX6_isPrintedBySending 12 = .ok (.getfield 39, 3) := by decide +kernel
theorem dX6_isPrintedBySending_15 : decode cX6_isPrintedBySending 15 = .ok (.aload_n 0, 1) := by decide +kernel
theorem dX6_isPrintedBySending_16 : decode cX6_isPrintedBySending 16 = .ok (.getfield 19, 3) := by decide +kernel
theorem dX6_isPrintedBySending_19 : decode cX6_isPrintedBySending 19 = .ok (.aload_n 0, 1) := by decide +kernel
theorem dX6_isPrintedBySending_20 : decode cX6_isPrintedBySending 20 = .ok (.getfield 33, 3) := by decide +kernel
theorem dX6_isPrintedBySending_23 : decode cX6_isPrintedBySending 23 = .ok (.iload_n 1, 1) := by decide +kernel
theorem dX6_isPrintedBySending_24 : decode cX6_isPrintedBySending 24 = .ok (.invokevirtual 162, 3) := by decide +kernel
theorem dX6_isPrintedBySending_27 : decode cX6_isPrintedBySending 27 = .ok (.pop, 1) := by decide +kernel
theorem dX6_isPrintedBySending_28 : decode cX6_isPrintedBySending 28 = .ok (.aload_n 0, 1) := by decide +kernel
theorem dX6_isPrintedBySending_29 : decode cX6_isPrintedBySending 29 = .ok (.getfield 39, 3) := by decide +kernel
theorem dX6_isPrintedBySending_32 : decode cX6_isPrintedBySending 32 = .ok (.aload_n 0, 1) := by decide +kernel
theorem dX6_isPrintedBySending_33 : decode cX6_isPrintedBySending 33 = .ok (.getfield 19, 3) := by decide +kernel
theorem dX6_isPrintedBySending_36 : decode cX6_isPrintedBySending 36 = .ok (.aload_n 0, 1) := by decide +kernel
theorem dX6_isPrintedBySending_37 : decode cX6_isPrintedBySending 37 = .ok (.getfield 33, 3) := by decide +kernel
theorem dX6_isPrintedBySending_40 : decode cX6_isPrintedBySending 40 = .ok (.iload_n 2, 1) := by decide +kernel
theorem dX6_isPrintedBySending_41 : decode cX6_isPrintedBySending 41 = .ok (.iload_n 3, 1) := by decide +kernel
theorem dX6_isPrintedBySending_42 : decode cX6_isPrintedBySending 42 = .ok (.invokevirtual 211, 3) := by decide +kernel
theorem dX6_isPrintedBySending_45 : decode cX6_isPrintedBySending 45 = .ok (.ireturn, 1) := by decide +kernel
noncomputable def f_X6_isPrintedBySending (sh : Nat) (l1 : Int32) (l2 : Int32) (l3 : Int32) (mem : Mem) : Option (Int32 × Mem) :=
  ob (f_X0_copy 35 31 mem) fun m8 => ob2 (f_X3_hold sh 35 l1 m8) fun r24 m24 => ob (f_X3_hasPrinted sh 35 l2 l3 m24) fun r42 => bk r42 (some (r42, m24))
set_option maxRecDepth 100000 in
set_option maxHeartbeats 4000000 in
theorem m_X6_isPrintedBySending {E : Ex} {ad : Nat → Nat} {sh sp : Nat} {tl : List Ent} {d : Nat} (hd : 5 ≤ d) (hsh : isS sh) (hsp : isS sp) {l1 : Int32} {l2 : Int32} {l3 : Int32} {mem : Mem} {r : Int32 × Mem} (h : f_X6_isPrintedBySending sh l1 l2 l3 mem = some r) : Cl E yX6_isPrintedBySending cX6_isPrintedBySending 4 (some .boolean) d [.ref (ad 0), .int l1, .int l2, .int l3] (some (.int r.1)) ad (LC sh sp ++ tl) mem (LC sh sp ++ tl) r.2 := by
  refine Cl.of [some (.ref (ad 0)), some (.int l1), some (.int l2), some (.int l3)] (by decide +kernel) rfl (Nat.le_of_ble_eq_true rfl) (fun κ C hP => ?_)
  have C : Cx E κ cX6_isPrintedBySending RX6 4 (some .boolean) d := C
  unfold f_X6_isPrintedBySending at h
  refine g_aload_n (pc := 0) (i := 0) (x := ad 0) C dX6_isPrintedBySending_0 rfl rfl ?_
  refine g_get (pc := 1) (v := .ref (ad 35)) C ok_X6 4 (by decide) wf_X6_33 dX6_isPrintedBySending_1 la_0 rfl ?_
  refine g_aload_n (pc := 4) (i := 0) (x := ad 0) C dX6_isPrintedBySending_4 rfl rfl ?_
  refine g_get (pc := 5) (v := .ref (ad 31)) C ok_X6 3 (by decide) wf_X6_29 dX6_isPrintedBySending_5 la_0 rfl ?_
  obtain ⟨m8, hcall8, h⟩ := ob_some h
  refine g_callN (pc := 8) C ce0 mi_X0_copy mv_X0_copy nm_X6_188 dX6_isPrintedBySending_8 ok_X0 [.ref (ad 31)] [] la_35 (by omega) rfl rfl (Nat.le_of_ble_eq_true rfl) (m_X0_copy (d := d - 1) (by omega) t_35 t_31 hcall8) ?_
  show Gw E κ 4 0 0 11 [some (.ref (ad 0)), some (.int l1), some (.int l2), some (.int l3)] [] ad (LC sh sp ++ tl) m8
  refine g_aload_n (pc := 11) (i := 0) (x := ad 0) C dX6_isPrintedBySending_11 rfl rfl ?_
  refine g_get (pc := 12) (v := .ref (ad 39)) C ok_X6 5 (by decide) wf_X6_39 dX6_isPrintedBySending_12 la_0 rfl ?_
  refine g_aload_n (pc := 15) (i := 0) (x := ad 0) C dX6_isPrintedBySending_15 rfl rfl ?_
  refine g_get (pc := 16) (v := .ref (ad sh)) C ok_X6 1 (by decide) wf_X6_19 dX6_isPrintedBySending_16 la_0 rfl ?_
  refine g_aload_n (pc := 19) (i := 0) (x := ad 0) C dX6_isPrintedBySending_19 rfl rfl ?_
  refine g_get (pc := 20) (v := .ref (ad 35)) C ok_X6 4 (by decide) wf_X6_33 dX6_isPrintedBySending_20 la_0 rfl ?_
  refine g_iload_n (pc := 23) (i := 1) (x := l1) C dX6_isPrintedBySending_23 rfl rfl ?_
  obtain ⟨r24, m24, hcall24, h⟩ := ob2_some h
  refine g_callN (pc := 24) C ce0 mi_X3_hold mv_X3_hold nm_X6_162 dX6_isPrintedBySending_24 ok_X3 [.ref (ad sh), .ref (ad 35), .int l1] [] la_39 (by omega) rfl rfl (Nat.le_of_ble_eq_true rfl) (m_X3_hold (d := d - 1) (by omega) hsh t_35 hcall24) ?_
  show Gw E κ 4 0 0 27 [some (.ref (ad 0)), some (.int l1), some (.int l2), some (.int l3)] [.int r24] ad (LC sh sp ++ tl) m24
  refine g_pop (pc := 27) C dX6_isPrintedBySending_27 rfl ?_
  refine g_aload_n (pc := 28) (i := 0) (x := ad 0) C dX6_isPrintedBySending_28 rfl rfl ?_
  refine g_get (pc := 29) (v := .ref (ad 39)) C ok_X6 5 (by decide) wf_X6_39 dX6_isPrintedBySending_29 la_0 rfl ?_
  refine g_aload_n (pc := 32) (i := 0) (x := ad 0) C dX6_isPrintedBySending_32 rfl rfl ?_
  refine g_get (pc := 33) (v := .ref (ad sh)) C ok_X6 1 (by decide) wf_X6_19 dX6_isPrintedBySending_33 la_0 rfl ?_
  refine g_aload_n (pc := 36) (i := 0) (x := ad 0) C dX6_isPrintedBySending_36 rfl rfl ?_
  refine g_get (pc := 37) (v := .ref (ad 35)) C ok_X6 4 (by decide) wf_X6_33 dX6_isPrintedBySending_37 la_0 rfl ?_
  refine g_iload_n (pc := 40) (i := 2) (x := l2) C dX6_isPrintedBySending_40 rfl rfl ?_
  refine g_iload_n (pc := 41) (i := 3) (x := l3) C dX6_isPrintedBySending_41 rfl rfl ?_
  obtain ⟨r42, hcall42, h⟩ := ob_some h
  refine g_callN (pc := 42) C ce0 mi_X3_hasPrinted mv_X3_hasPrinted nm_X6_211 dX6_isPrintedBySending_42 ok_X3 [.ref (ad sh), .ref (ad 35), .int l2, .int l3] [] la_39 (by omega) rfl rfl (Nat.le_of_ble_eq_true rfl) (m_X3_hasPrinted (d := d - 1) (by omega) hsh t_35 hcall42) ?_
  show Gw E κ 4 0 0 45 [some (.ref (ad 0)), some (.int l1), some (.int l2), some (.int l3)] [.int r42] ad (LC sh sp ++ tl) m24
  obtain ⟨hb45, h⟩ := bk_some h
  cases h
  exact g_iret (pc := 45) C hP rfl (nb01 hb45).1 dX6_isPrintedBySending_45

theorem dX6_power_0 : decode cX6_power 0 = .ok (.iconst 1, 1) := by decide +kernel
theorem dX6_power_1 : decode cX6_power 1 = .ok (.istore_n 2, 1) := by decide +kernel
theorem dX6_power_2 : decode cX6_power 2 = .ok (.iconst 0, 1) := by decide +kernel
theorem dX6_power_3 : decode cX6_power 3 = .ok (.istore_n 3, 1) := by decide +kernel
theorem dX6_power_4 : decode cX6_power 4 = .ok (.iload_n 3, 1) := by decide +kernel
theorem dX6_power_5 : decode cX6_power 5 = .ok (.iload_n 1, 1) := by decide +kernel
theorem dX6_power_6 : decode cX6_power 6 = .ok (.if_icmp .ge 13, 3) := by decide +kernel
theorem dX6_power_9 : decode cX6_power 9 = .ok (.iload_n 2, 1) := by decide +kernel
theorem dX6_power_10 : decode cX6_power 10 = .ok (.iload_n 0, 1) := by decide +kernel
theorem dX6_power_11 : decode cX6_power 11 = .ok (.imul, 1) := by decide +kernel
theorem dX6_power_12 : decode cX6_power 12 = .ok (.istore_n 2, 1) := by decide +kernel
theorem dX6_power_13 : decode cX6_power 13 = .ok (.iinc 3 1, 3) := by decide +kernel
theorem dX6_power_16 : decode cX6_power 16 = .ok (.goto (-12), 3) := by decide +kernel
theorem dX6_power_19 : decode cX6_power 19 = .ok (.iload_n 2, 1) := by decide +kernel
theorem dX6_power_20 : decode cX6_power 20 = .ok (.ireturn, 1) := by decide +kernel
noncomputable def f_X6_power_b4 (l0 : Int32) (l1 : Int32) (q : Int32 × Int32) : Option ((Int32 × Int32) ⊕ (Int32 × Int32)) :=
  if l1 ≤ q.2 then (some (.inr (q.1, q.2))) else (lt' (q.1 * l0) fun v12 => lt' (q.2 + 1) fun v13 => some (.inl (v12, v13)))
noncomputable def f_X6_power (l0 : Int32) (l1 : Int32) : Option (Int32) :=
  ob (lp (f_X6_power_b4 l0 l1) FU (1, 0)) fun q4 => some q4.1
def P_X6_power_4 (E : Ex) (κ : Kx) (ad : Nat → Nat) (lay : List Ent) (l0 : Int32) (l1 : Int32) (mem : Mem) : (Int32 × Int32) ⊕ (Int32 × Int32) → Prop
  | .inl q => Gw E κ 4 0 0 4 [some (.int l0), some (.int l1), some (.int q.1), some (.int q.2)] [] ad lay mem
  | .inr q => Gw E κ 4 0 0 19 [none, none, some (.int q.1), none] [] ad lay mem
set_option maxRecDepth 100000 in
set_option maxHeartbeats 4000000 in
theorem b_X6_power_4 {E : Ex} {κ : Kx} {ad : Nat → Nat} {lay : List Ent} {d : Nat} (C : Cx E κ cX6_power RX6 4 (some .int) d) (hd : 0 ≤ d)  {l0 : Int32} {l1 : Int32} {mem : Mem} {q : Int32 × Int32} {x : (Int32 × Int32) ⊕ (Int32 × Int32)} (h : f_X6_power_b4 l0 l1 q = some x) (hP : (P_X6_power_4 E κ ad lay l0 l1 mem) x) : Gw E κ 4 0 0 4 [some (.int l0), some (.int l1), some (.int q.1), some (.int q.2)] [] ad lay mem := by
  unfold f_X6_power_b4 at h
  refine g_iload_n (pc := 4) (i := 3) (x := q.2) C dX6_power_4 rfl rfl ?_
  refine g_iload_n (pc := 5) (i := 1) (x := l1) C dX6_power_5 rfl rfl ?_
  rcases ite_some' h with ⟨hc6, h⟩ | ⟨hc6, h⟩
  · refine g_icmp_ge_t (pc := 6) C 19 dX6_power_6 (by decide) hc6 ?_
    refine g_mask (lv' := [none, none, some (.int q.1), none]) [false, false, true, false] rfl ?_
    cases h
    exact hP
  · refine g_icmp_ge_f (pc := 6) C 19 dX6_power_6 (by decide) hc6 ?_
    refine g_iload_n (pc := 9) (i := 2) (x := q.1) C dX6_power_9 rfl rfl ?_
    refine g_iload_n (pc := 10) (i := 0) (x := l0) C dX6_power_10 rfl rfl ?_
    refine g_imul (pc := 11) C dX6_power_11 ?_
    obtain ⟨v12, hv12, h⟩ := lt_some h
    refine g_topi hv12 ?_
    refine g_istore_n (pc := 12) (i := 2) (lv' := [some (.int l0), some (.int l1), some (.int v12), some (.int q.2)]) C dX6_power_12 rfl (by decide) rfl rfl ?_
    obtain ⟨v13, hv13, h⟩ := lt_some h
    refine g_iinc (pc := 13) (i := 3) (x := q.2) (v := v13) (lv' := [some (.int l0), some (.int l1), some (.int v12), some (.int v13)]) C dX6_power_13 rfl hv13.symm (by decide) rfl rfl ?_
    refine g_goto (pc := 16) C 4 dX6_power_16 (by decide) ?_
    cases h
    exact hP
set_option maxRecDepth 100000 in
set_option maxHeartbeats 4000000 in
theorem m_X6_power {E : Ex} {ad : Nat → Nat} {lay : List Ent} {d : Nat} (hd : 0 ≤ d)  {l0 : Int32} {l1 : Int32} {mem : Mem} {r : Int32} (h : f_X6_power l0 l1 = some r) : Cl E yX6_power cX6_power 4 (some .int) d [.int l0, .int l1] (some (.int r)) ad lay mem lay mem := by
  refine Cl.of [some (.int l0), some (.int l1), none, none] (by decide +kernel) rfl (Nat.le_of_ble_eq_true rfl) (fun κ C hP => ?_)
  have C : Cx E κ cX6_power RX6 4 (some .int) d := C
  unfold f_X6_power at h
  refine g_iconst (pc := 0) (v := 1) C dX6_power_0 rfl ?_
  refine g_istore_n (pc := 1) (i := 2) (lv' := [some (.int l0), some (.int l1), some (.int 1), none]) C dX6_power_1 rfl (by decide) rfl rfl ?_
  refine g_iconst (pc := 2) (v := 0) C dX6_power_2 rfl ?_
  refine g_istore_n (pc := 3) (i := 3) (lv' := [some (.int l0), some (.int l1), some (.int 1), some (.int 0)]) C dX6_power_3 rfl (by decide) rfl rfl ?_
  obtain ⟨q4, hq, h⟩ := ob_some h
  refine lp_gw (P_X6_power_4 E κ ad lay l0 l1 mem) (fun q x hb hp => b_X6_power_4 C hd hb hp) _ (1, 0) _ hq ?_
  show Gw E κ 4 0 0 19 [none, none, some (.int q4.1), none] [] ad lay mem
  refine g_iload_n (pc := 19) (i := 2) (x := q4.1) C dX6_power_19 rfl rfl ?_
  cases h
  exact g_iret (pc := 20) C hP rfl rfl dX6_power_20

theorem dX6_commonDivisor_0 : decode cX6_commonDivisor 0 = .ok (.iconst 0, 1) := by decide +kernel
theorem dX6_commonDivisor_1 : decode cX6_commonDivisor 1 = .ok (.istore_n 2, 1) := by decide +kernel
theorem dX6_commonDivisor_2 : decode cX6_commonDivisor 2 = .ok (.iload_n 2, 1) := by decide +kernel
theorem dX6_commonDivisor_3 : decode cX6_commonDivisor 3 = .ok (.bipush 64, 2) := by decide +kernel
theorem dX6_commonDivisor_5 : decode cX6_commonDivisor 5 = .ok (.if_icmp .ge 21, 3) := by decide +kernel
theorem dX6_commonDivisor_8 : decode cX6_commonDivisor 8 = .ok (.iload_n 1, 1) := by decide +kernel
theorem dX6_commonDivisor_9 : decode cX6_commonDivisor 9 = .ok (.ifCond .eq 17, 3) := by decide +kernel
theorem dX6_commonDivisor_12 : decode cX6_commonDivisor 12 = .ok (.iload_n 0, 1) := by decide +kernel
theorem dX6_commonDivisor_13 : decode cX6_commonDivisor 13 = .ok (.iload_n 1, 1) := by decide +kernel
theorem dX6_commonDivisor_14 : decode cX6_commonDivisor 14 = .ok (.irem, 1) := by decide +kernel
theorem dX6_commonDivisor_15 : decode cX6_commonDivisor 15 = .ok (.istore_n 3, 1) := by decide +kernel
theorem dX6_commonDivisor_16 : decode cX6_commonDivisor 16 = .ok (.iload_n 1, 1) := by decide +kernel
theorem dX6_commonDivisor_17 : decode cX6_commonDivisor 17 = .ok (.istore_n 0, 1) := by decide +kernel
theorem dX6_commonDivisor_18 : decode cX6_commonDivisor 18 = .ok (.iload_n 3, 1) := by decide +kernel
theorem dX6_commonDivisor_19 : decode cX6_commonDivisor 19 = .ok (.istore_n 1, 1) := by decide +kernel
theorem dX6_commonDivisor_20 : decode cX6_commonDivisor 20 = .ok (.iinc 2 1, 3) := by decide +kernel
theorem dX6_commonDivisor_23 : decode cX6_commonDivisor 23 = .ok (.goto (-21), 3) := by decide +kernel
theorem dX6_commonDivisor_26 : decode cX6_commonDivisor 26 = .ok (.iload_n 0, 1) := by decide +kernel
theorem dX6_commonDivisor_27 : decode cX6_commonDivisor 27 = .ok (.ireturn, 1) := by decide +kernel
noncomputable def f_X6_commonDivisor_b2 (q : Int32 × Int32 × Int32) : Option ((Int32 × Int32 × Int32) ⊕ (Int32 × Int32 × Int32)) :=
  if 64 ≤ q.2.2 then (some (.inr (q.1, q.2.1, q.2.2))) else (if q.2.1 = 0 then (some (.inr (q.1, q.2.1, q.2.2))) else (dk q.2.1 (lt' (irm q.1 q.2.1) fun v15 => lt' (q.2.2 + 1) fun v20 => some (.inl (q.2.1, v15, v20)))))
noncomputable def f_X6_commonDivisor (l0 : Int32) (l1 : Int32) : Option (Int32) :=
  ob (lp f_X6_commonDivisor_b2 FU (l0, l1, 0)) fun q2 => some q2.1
def P_X6_commonDivisor_2 (E : Ex) (κ : Kx) (ad : Nat → Nat) (lay : List Ent) (mem : Mem) : (Int32 × Int32 × Int32) ⊕ (Int32 × Int32 × Int32) → Prop
  | .inl q => Gw E κ 4 0 0 2 [some (.int q.1), some (.int q.2.1), some (.int q.2.2), none] [] ad lay mem
  | .inr q => Gw E κ 4 0 0 26 [some (.int q.1), none, none, none] [] ad lay mem
set_option maxRecDepth 100000 in
set_option maxHeartbeats 4000000 in
theorem b_X6_commonDivisor_2 {E : Ex} {κ : Kx} {ad : Nat → Nat} {lay : List Ent} {d : Nat} (C : Cx E κ cX6_commonDivisor RX6 4 (some .int) d) (hd : 0 ≤ d)  {mem : Mem} {q : Int32 × Int32 × Int32} {x : (Int32 × Int32 × Int32) ⊕ (Int32 × Int32 × Int32)} (h : f_X6_commonDivisor_b2  q = some x) (hP : (P_X6_commonDivisor_2 E κ ad lay mem) x) : Gw E κ 4 0 0 2 [some (.int q.1), some (.int q.2.1), some (.int q.2.2), none] [] ad lay mem := by
  unfold f_X6_commonDivisor_b2 at h
  refine g_iload_n (pc := 2) (i := 2) (x := q.2.2) C dX6_commonDivisor_2 rfl rfl ?_
  refine g_bipush (pc := 3) (v := 64) C dX6_commonDivisor_3 rfl ?_
  rcases ite_some' h with ⟨hc5, h⟩ | ⟨hc5, h⟩
  · refine g_icmp_ge_t (pc := 5) C 26 dX6_commonDivisor_5 (by decide) hc5 ?_
    refine g_mask (lv' := [some (.int q.1), none, none, none]) [true, false, false, false] rfl ?_
    cases h
    exact hP
  · refine g_icmp_ge_f (pc := 5) C 26 dX6_commonDivisor_5 (by decide) hc5 ?_
    refine g_iload_n (pc := 8) (i := 1) (x := q.2.1) C dX6_commonDivisor_8 rfl rfl ?_
    rcases ite_some' h with ⟨hc9, h⟩ | ⟨hc9, h⟩
    · refine g_if_eq_t (pc := 9) C 26 dX6_commonDivisor_9 (by decide) hc9 ?_
      refine g_mask (lv' := [some (.int q.1), none, none, none]) [true, false, false, false] rfl ?_
      cases h
      exact hP
    · refine g_if_eq_f (pc := 9) C 26 dX6_commonDivisor_9 (by decide) hc9 ?_
      refine g_iload_n (pc := 12) (i := 0) (x := q.1) C dX6_commonDivisor_12 rfl rfl ?_
      refine g_iload_n (pc := 13) (i := 1) (x := q.2.1) C dX6_commonDivisor_13 rfl rfl ?_
      obtain ⟨hz14, h⟩ := dk_some h
      refine g_irem' (pc := 14) C dX6_commonDivisor_14 hz14 ?_
      obtain ⟨v15, hv15, h⟩ := lt_some h
      refine g_topi hv15 ?_
      refine g_istore_n (pc := 15) (i := 3) (lv' := [some (.int q.1), some (.int q.2.1), some (.int q.2.2), some (.int v15)]) C dX6_commonDivisor_15 rfl (by decide) rfl rfl ?_
      refine g_iload_n (pc := 16) (i := 1) (x := q.2.1) C dX6_commonDivisor_16 rfl rfl ?_
      refine g_istore_n (pc := 17) (i := 0) (lv' := [some (.int q.2.1), some (.int q.2.1), some (.int q.2.2), some (.int v15)]) C dX6_commonDivisor_17 rfl (by decide) rfl rfl ?_
      refine g_iload_n (pc := 18) (i := 3) (x := v15) C dX6_commonDivisor_18 rfl rfl ?_
      refine g_istore_n (pc := 19) (i := 1) (lv' := [some (.int q.2.1), some (.int v15), some (.int q.2.2), some (.int v15)]) C dX6_commonDivisor_19 rfl (by decide) rfl rfl ?_
      obtain ⟨v20, hv20, h⟩ := lt_some h
      refine g_iinc (pc := 20) (i := 2) (x := q.2.2) (v := v20) (lv' := [some (.int q.2.1), some (.int v15), some (.int v20), some (.int v15)]) C dX6_commonDivisor_20 rfl hv20.symm (by decide) rfl rfl ?_
      refine g_goto (pc := 23) C 2 dX6_commonDivisor_23 (by decide) ?_
      refine g_mask (lv' := [some (.int q.2.1), some (.int v15), some (.int v20), none]) [true, true, true, false] rfl ?_
      cases h
      exact hP
set_option maxRecDepth 100000 in
set_option maxHeartbeats 4000000 in
theorem m_X6_commonDivisor {E : Ex} {ad : Nat → Nat} {lay : List Ent} {d : Nat} (hd : 0 ≤ d)  {l0 : Int32} {l1 : Int32} {mem : Mem} {r : Int32} (h : f_X6_commonDivisor l0 l1 = some r) : Cl E yX6_commonDivisor cX6_commonDivisor 4 (some .int) d [.int l0, .int l1] (some (.int r)) ad lay mem lay mem := by
  refine Cl.of [some (.int l0), some (.int l1), none, none] (by decide +kernel) rfl (Nat.le_of_ble_eq_true rfl) (fun κ C hP => ?_)
  have C : Cx E κ cX6_commonDivisor RX6 4 (some .int) d := C
  unfold f_X6_commonDivisor at h
  refine g_iconst (pc := 0) (v := 0) C dX6_commonDivisor_0 rfl ?_
  refine g_istore_n (pc := 1) (i := 2) (lv' := [some (.int l0), some (.int l1), some (.int 0), none]) C dX6_commonDivisor_1 rfl (by decide) rfl rfl ?_
  obtain ⟨q2, hq, h⟩ := ob_some h
  refine lp_gw (P_X6_commonDivisor_2 E κ ad lay mem) (fun q x hb hp => b_X6_commonDivisor_2 C hd hb hp) _ (l0, l1, 0) _ hq ?_
  show Gw E κ 4 0 0 26 [some (.int q2.1), none, none, none] [] ad lay mem
  refine g_iload_n (pc := 26) (i := 0) (x := q2.1) C dX6_commonDivisor_26 rfl rfl ?_
  cases h
  exact g_iret (pc := 27) C hP rfl rfl dX6_commonDivisor_27

theorem dX6_chance_0 : decode cX6_chance 0 = .ok (.aload_n 0, 1) := by decide +kernel
theorem dX6_chance_1 : decode cX6_chance 1 = .ok (.iload_n 1, 1) := by decide +kernel
theorem dX6_chance_2 : decode cX6_chance 2 = .ok (.invokevirtual 107, 3) := by decide +kernel
theorem dX6_chance_5 : decode cX6_chance 5 = .ok (.ifCond .eq 32, 3) := by decide +kernel
theorem dX6_chance_8 : decode cX6_chance 8 = .ok (.aload_n 0, 1) := by decide +kernel
theorem dX6_chance_9 : decode cX6_chance 9 = .ok (.iload_n 2, 1) := by decide +kernel
theorem dX6_chance_10 : decode cX6_chance 10 = .ok (.invokevirtual 126, 3) := by decide +kernel
theorem dX6_chance_13 : decode cX6_chance 13 = .ok (.ifCond .eq 24, 3) := by decide +kernel
theorem dX6_chance_16 : decode cX6_chance 16 = .ok (.iload_n 3, 1) := by decide +kernel
theorem dX6_chance_17 : decode cX6_chance 17 = .ok (.ifCond .lt 20, 3) := by decide +kernel
theorem dX6_chance_20 : decode cX6_chance 20 = .ok (.iload_n 3, 1) := by decide +kernel
theorem dX6_chance_21 : decode cX6_chance 21 = .ok (.bipush 10, 2) := by decide +kernel
theorem dX6_chance_23 : decode cX6_chance 23 = .ok (.if_icmp .gt 14, 3) := by decide +kernel
theorem dX6_chance_26 : decode cX6_chance 26 = .ok (.iload 4, 2) := by decide +kernel
theorem dX6_chance_28 : decode cX6_chance 28 = .ok (.ifCond .lt 9, 3) := by decide +kernel
theorem dX6_chance_31 : decode cX6_chance 31 = .ok (.iload 4, 2) := by decide +kernel
theorem dX6_chance_33 : decode cX6_chance 33 = .ok (.iconst 1, 1) := by decide +kernel
theorem dX6_chance_34 : decode cX6_chance 34 = .ok (.if_icmp .le 5, 3) := by decide +kernel
theorem dX6_chance_37 : decode cX6_chance 37 = .ok (.iconst (-1), 1) := by decide +kernel
theorem dX6_chance_38 : decode cX6_chance 38 = .ok (.ireturn, 1) := by decide +kernel
theorem dX6_chance_39 : decode cX6_chance 39 = .ok (.aload_n 0, 1) := by decide +kernel
theorem dX6_chance_40 : decode cX6_chance 40 = .ok (.getfield 39, 3) := by decide +kernel
theorem dX6_chance_43 : decode cX6_chance 43 = .ok (.aload_n 0, 1) := by decide +kernel
theorem dX6_chance_44 : decode cX6_chance 44 = .ok (.getfield 19, 3) := by decide +kernel
theorem dX6_chance_47 : decode cX6_chance 47 = .ok (.aload_n 0, 1) := by decide +kernel
theorem dX6_chance_48 : decode cX6_chance 48 = .ok (.getfield 29, 3) := by decide +kernel
theorem dX6_chance_51 : decode cX6_chance 51 = .ok (.bipush 63, 2) := by decide +kernel
theorem dX6_chance_53 : decode cX6_chance 53 = .ok (.invokevirtual 151, 3) := by decide +kernel
theorem dX6_chance_56 : decode cX6_chance 56 = .ok (.aload_n 0, 1) := by decide +kernel
theorem dX6_chance_57 : decode cX6_chance 57 = .ok (.getfield 39, 3) := by decide +kernel
theorem dX6_chance_60 : decode cX6_chance 60 = .ok (.aload_n 0, 1) := by decide +kernel
theorem dX6_chance_61 : decode cX6_chance 61 = .ok (.getfield 19, 3) := by decide +kernel
theorem dX6_chance_64 : decode cX6_chance 64 = .ok (.invokevirtual 246, 3) := by decide +kernel
theorem dX6_chance_67 : decode cX6_chance 67 = .ok (.istore 5, 2) := by decide +kernel
theorem dX6_chance_69 : decode cX6_chance 69 = .ok (.iconst 0, 1) := by decide +kernel
theorem dX6_chance_70 : decode cX6_chance 70 = .ok (.istore 6, 2) := by decide +kernel
theorem dX6_chance_72 : decode cX6_chance 72 = .ok (.iconst 0, 1) := by decide +kernel
theorem dX6_chance_73 : decode cX6_chance 73 = .ok (.istore 7, 2) := by decide +kernel
theorem dX6_chance_75 : decode cX6_chance 75 = .ok (.iload 7, 2) := by decide +kernel
theorem dX6_chance_77 : decode cX6_chance 77 = .ok (.iconst 1, 1) := by decide +kernel
theorem dX6_chance_78 : decode cX6_chance 78 = .ok (.aload_n 0, 1) := by decide +kernel
theorem dX6_chance_79 : decode cX6_chance 79 = .ok (.getfield 19, 3) := by decide +kernel
theorem dX6_chance_82 : decode cX6_chance 82 = .ok (.getfield 215, 3) := by decide +kernel
theorem dX6_chance_85 : decode cX6_chance 85 = .ok (.ishl, 1) := by decide +kernel
theorem dX6_chance_86 : decode cX6_chance 86 = .ok (.if_icmp .ge 62, 3) := by decide +kernel
theorem dX6_chance_89 : decode cX6_chance 89 = .ok (.iload 7, 2) := by decide +kernel
theorem dX6_chance_91 : decode cX6_chance 91 = .ok (.iload 5, 2) := by decide +kernel
theorem dX6_chance_93 : decode cX6_chance 93 = .ok (.iconst (-1), 1) := by decide +kernel
theorem dX6_chance_94 : decode cX6_chance 94 = .ok (.ixor, 1) := by decide +kernel
theorem dX6_chance_95 : decode cX6_chance 95 = .ok (.iand, 1) := by decide +kernel
theorem dX6_chance_96 : decode cX6_chance 96 = .ok (.ifCond .ne 46, 3) := by decide +kernel
theorem dX6_chance_99 : decode cX6_chance 99 = .ok (.aload_n 0, 1) := by decide +kernel
theorem dX6_chance_100 : decode cX6_chance 100 = .ok (.iload 7, 2) := by decide +kernel
theorem dX6_chance_102 : decode cX6_chance 102 = .ok (.iload_n 1, 1) := by decide +kernel
theorem dX6_chance_103 : decode cX6_chance 103 = .ok (.iload_n 2, 1) := by decide +kernel
theorem dX6_chance_104 : decode cX6_chance 104 = .ok (.invokevirtual 249, 3) := by decide +kernel
theorem dX6_chance_107 : decode cX6_chance 107 = .ok (.ifCond .eq 35, 3) := by decide +kernel
theorem dX6_chance_110 : decode cX6_chance 110 = .ok (.iload 6, 2) := by decide +kernel
theorem dX6_chance_112 : decode cX6_chance 112 = .ok (.iload_n 3, 1) := by decide +kernel
theorem dX6_chance_113 : decode cX6_chance 113 = .ok (.iload 7, 2) := by decide +kernel
theorem dX6_chance_115 : decode cX6_chance 115 = .ok (.invokestatic 218, 3) := by decide +kernel
theorem dX6_chance_118 : decode cX6_chance 118 = .ok (.invokestatic 252, 3) := by decide +kernel
theorem dX6_chance_121 : decode cX6_chance 121 = .ok (.bipush 10, 2) := by decide +kernel
theorem dX6_chance_123 : decode cX6_chance 123 = .ok (.iload_n 3, 1) := by decide +kernel
theorem dX6_chance_124 : decode cX6_chance 124 = .ok (.isub, 1) := by decide +kernel
theorem dX6_chance_125 : decode cX6_chance 125 = .ok (.iload 5, 2) := by decide +kernel
theorem dX6_chance_127 : decode cX6_chance 127 = .ok (.iload 7, 2) := by decide +kernel
theorem dX6_chance_129 : decode cX6_chance 129 = .ok (.iconst (-1), 1) := by decide +kernel
theorem dX6_chance_130 : decode cX6_chance 130 = .ok (.ixor, 1) := by decide +kernel
theorem dX6_chance_131 : decode cX6_chance 131 = .ok (.iand, 1) := by decide +kernel
theorem dX6_chance_132 : decode cX6_chance 132 = .ok (.invokestatic 218, 3) := by decide +kernel
theorem dX6_chance_135 : decode cX6_chance 135 = .ok (.invokestatic 252, 3) := by decide +kernel
theorem dX6_chance_138 : decode cX6_chance 138 = .ok (.imul, 1) := by decide +kernel
theorem dX6_chance_139 : decode cX6_chance 139 = .ok (.iadd, 1) := by decide +kernel
theorem dX6_chance_140 : decode cX6_chance 140 = .ok (.istore 6, 2) := by decide +kernel
theorem dX6_chance_142 : decode cX6_chance 142 = .ok (.iinc 7 1, 3) := by decide +kernel
theorem dX6_chance_145 : decode cX6_chance 145 = .ok (.goto (-70), 3) := by decide +kernel
theorem dX6_chance_148 : decode cX6_chance 148 = .ok (.bipush 10, 2) := by decide +kernel
theorem dX6_chance_150 : decode cX6_chance 150 = .ok (.iload 5, 2) := by decide +kernel
theorem dX6_chance_152 : decode cX6_chance 152 = .ok (.invokestatic 218, 3) := by decide +kernel
theorem dX6_chance_155 : decode cX6_chance 155 = .ok (.invokestatic 252, 3) := by decide +kernel
theorem dX6_chance_158 : decode cX6_chance 158 = .ok (.istore 7, 2) := by decide +kernel
theorem dX6_chance_160 : decode cX6_chance 160 = .ok (.iload 6, 2) := by decide +kernel
theorem dX6_chance_162 : decode cX6_chance 162 = .ok (.iload 7, 2) := by decide +kernel
theorem dX6_chance_164 : decode cX6_chance 164 = .ok (.invokestatic 255, 3) := by decide +kernel
theorem dX6_chance_167 : decode cX6_chance 167 = .ok (.istore 8, 2) := by decide +kernel
theorem dX6_chance_169 : decode cX6_chance 169 = .ok (.iload 8, 2) := by decide +kernel
theorem dX6_chance_171 : decode cX6_chance 171 = .ok (.ifCond .ne 5, 3) := by decide +kernel
theorem dX6_chance_174 : decode cX6_chance 174 = .ok (.iconst (-1), 1) := by decide +kernel
theorem dX6_chance_175 : decode cX6_chance 175 = .ok (.ireturn, 1) := by decide +kernel
theorem dX6_chance_176 : decode cX6_chance 176 = .ok (.iload 4, 2) := by decide +kernel
theorem dX6_chance_178 : decode cX6_chance 178 = .ok (.ifCond .ne 11, 3) := by decide +kernel
theorem dX6_chance_181 : decode cX6_chance 181 = .ok (.iload 6, 2) := by decide +kernel
theorem dX6_chance_183 : decode cX6_chance 183 = .ok (.iload 8, 2) := by decide +kernel
theorem dX6_chance_185 : decode cX6_chance 185 = .ok (.idiv, 1) := by decide +kernel
theorem dX6_chance_186 : decode cX6_chance 186 = .ok (.goto 8, 3) := by decide +kernel
theorem dX6_chance_189 : decode cX6_chance 189 = .ok (.iload 7, 2) := by decide +kernel
theorem dX6_chance_191 : decode cX6_chance 191 = .ok (.iload 8, 2) := by decide +kernel
theorem dX6_chance_193 : decode cX6_chance 193 = .ok (.idiv, 1) := by decide +kernel
theorem dX6_chance_194 : decode cX6_chance 194 = .ok (.ireturn, 1) := by decide +kernel
noncomputable def f_X6_chance_b75 (sh : Nat) (l1 : Int32) (l2 : Int32) (l3 : Int32) (l4 : Int32) (l5 : Int32) (q : Int32 × Int32 × Mem) : Option ((Int32 × Int32 × Mem) ⊕ (Int32 × Int32 × Mem)) :=
  if (1 <<< ((q.2.2 sh 12) &&& 31)) ≤ q.2.1 then (some (.inr (q.1, q.2.1, q.2.2))) else (if (q.2.1 &&& (l5 ^^^ (-1))) = 0 then (ob2 (f_X6_isPrintedBySending sh q.2.1 l1 l2 q.2.2) fun r104 m104 => if r104 = 0 then (lt' (q.2.1 + 1) fun v142 => some (.inl (q.1, v142, m104))) else (ob (f_J6_bitCount_0f7a4 q.2.1) fun r115 => ob (f_X6_power l3 r115) fun r118 => ob (f_J6_bitCount_0f7a4 (l5 &&& (q.2.1 ^^^ (-1)))) fun r132 => ob (f_X6_power (10 - l3) r132) fun r135 => lt' (q.1 + (r118 * r135)) fun v140 => lt' (q.2.1 + 1) fun v142 => some (.inl (v140, v142, m104)))) else (lt' (q.2.1 + 1) fun v142 => some (.inl (q.1, v142, q.2.2))))
noncomputable def f_X6_chance (sh : Nat) (l1 : Int32) (l2 : Int32) (l3 : Int32) (l4 : Int32) (mem : Mem) : Option (Int32 × Mem) :=
  ob (f_X6_isPlace sh l1 mem) fun r2 => if r2 = 0 then (some ((-1), mem)) else (ob (f_X6_isWord sh l2 mem) fun r10 => if r10 = 0 then (some ((-1), mem)) else (if l3 < 0 then (some ((-1), mem)) else (if 10 < l3 then (some ((-1), mem)) else (if l4 < 0 then (some ((-1), mem)) else (if l4 ≤ 1 then (ob (f_X3_send sh 31 63 mem) fun m53 => ob (f_X3_senders sh m53) fun r64 => ob (lp (f_X6_chance_b75 sh l1 l2 l3 l4 r64) FU (0, 0, m53)) fun q75 => ob (f_J6_bitCount_0f7a4 r64) fun r152 => ob (f_X6_power 10 r152) fun r155 => ob (f_X6_commonDivisor q75.1 r155) fun r164 => if r164 = 0 then (some ((-1), q75.2.2)) else (if l4 = 0 then (dk r164 (lt' (q75.1 / r164) fun v194 => some (v194, q75.2.2))) else (dk r164 (lt' (r155 / r164) fun v194 => some (v194, q75.2.2))))) else (some ((-1), mem)))))))
def P_X6_chance_75 (E : Ex) (κ : Kx) (ad : Nat → Nat) (lay : List Ent) (sh : Nat) (l1 : Int32) (l2 : Int32) (l3 : Int32) (l4 : Int32) (l5 : Int32) : (Int32 × Int32 × Mem) ⊕ (Int32 × Int32 × Mem) → Prop
  | .inl q => Gw E κ 9 0 0 75 [some (.ref (ad 0)), some (.int l1), some (.int l2), some (.int l3), some (.int l4), some (.int l5), some (.int q.1), some (.int q.2.1), none] [] ad lay q.2.2
  | .inr q => Gw E κ 9 0 0 148 [none, none, none, none, some (.int l4), some (.int l5), some (.int q.1), none, none] [] ad lay q.2.2
set_option maxRecDepth 100000 in
set_option maxHeartbeats 4000000 in
theorem b_X6_chance_75 {E : Ex} {κ : Kx} {ad : Nat → Nat} {sh sp : Nat} {tl : List Ent} {d : Nat} (C : Cx E κ cX6_chance RX6 9 (some .int) d) (hd : 6 ≤ d) (hsh : isS sh) (hsp : isS sp) {l1 : Int32} {l2 : Int32} {l3 : Int32} {l4 : Int32} {l5 : Int32} {q : Int32 × Int32 × Mem} {x : (Int32 × Int32 × Mem) ⊕ (Int32 × Int32 × Mem)} (h : f_X6_chance_b75 sh l1 l2 l3 l4 l5 q = some x) (hP : (P_X6_chance_75 E κ ad (LC sh sp ++ tl) sh l1 l2 l3 l4 l5) x) : Gw E κ 9 0 0 75 [some (.ref (ad 0)), some (.int l1), some (.int l2), some (.int l3), some (.int l4), some (.int l5), some (.int q.1), some (.int q.2.1), none] [] ad (LC sh sp ++ tl) q.2.2 := by
  unfold f_X6_chance_b75 at h
  refine g_iload (pc := 75) (i := 7) (x := q.2.1) C dX6_chance_75 rfl ?_
  refine g_iconst (pc := 77) (v := 1) C dX6_chance_77 rfl ?_
  refine g_aload_n (pc := 78) (i := 0) (x := ad 0) C dX6_chance_78 rfl rfl ?_
  refine g_get (pc := 79) (v := .ref (ad sh)) C ok_X6 1 (by decide) wf_X6_19 dX6_chance_79 la_0 rfl ?_
  refine g_getN (pc := 82) (v := .int (q.2.2 sh 12)) C ok_X5 12 (by decide) nf_X6_215 dX6_chance_82 (lz_0 hsh) rfl ?_
  refine g_ishl (pc := 85) C dX6_chance_85 ?_
  rcases ite_some' h with ⟨hc86, h⟩ | ⟨hc86, h⟩
  · refine g_icmp_ge_t (pc := 86) C 148 dX6_chance_86 (by decide) hc86 ?_
    refine g_mask (lv' := [none, none, none, none, some (.int l4), some (.int l5), some (.int q.1), none, none]) [false, false, false, false, true, true, true, false, false] rfl ?_
    cases h
    exact hP
  · refine g_icmp_ge_f (pc := 86) C 148 dX6_chance_86 (by decide) hc86 ?_
    refine g_iload (pc := 89) (i := 7) (x := q.2.1) C dX6_chance_89 rfl ?_
    refine g_iload (pc := 91) (i := 5) (x := l5) C dX6_chance_91 rfl ?_
    refine g_iconst (pc := 93) (v := (-1)) C dX6_chance_93 rfl ?_
    refine g_ixor (pc := 94) C dX6_chance_94 ?_
    refine g_iand (pc := 95) C dX6_chance_95 ?_
    rcases ite_some' h with ⟨hc96, h⟩ | ⟨hc96, h⟩
    · refine g_if_ne_f (pc := 96) C 142 dX6_chance_96 (by decide) hc96 ?_
      refine g_aload_n (pc := 99) (i := 0) (x := ad 0) C dX6_chance_99 rfl rfl ?_
      refine g_iload (pc := 100) (i := 7) (x := q.2.1) C dX6_chance_100 rfl ?_
      refine g_iload_n (pc := 102) (i := 1) (x := l1) C dX6_chance_102 rfl rfl ?_
      refine g_iload_n (pc := 103) (i := 2) (x := l2) C dX6_chance_103 rfl rfl ?_
      obtain ⟨r104, m104, hcall104, h⟩ := ob2_some h
      refine g_callV (pc := 104) C ce0 mi_X6_isPrintedBySending mv_X6_isPrintedBySending wm_X6_249 dX6_chance_104 ok_X6 [.int q.2.1, .int l1, .int l2] [] la_0 (by omega) rfl rfl (Nat.le_of_ble_eq_true rfl) (m_X6_isPrintedBySending (d := d - 1) (by omega) hsh hsp hcall104) ?_
      show Gw E κ 9 0 0 107 [some (.ref (ad 0)), some (.int l1), some (.int l2), some (.int l3), some (.int l4), some (.int l5), some (.int q.1), some (.int q.2.1), none] [.int r104] ad (LC sh sp ++ tl) m104
      rcases ite_some' h with ⟨hc107, h⟩ | ⟨hc107, h⟩
      · refine g_if_eq_t (pc := 107) C 142 dX6_chance_107 (by decide) hc107 ?_
        obtain ⟨v142, hv142, h⟩ := lt_some h
        refine g_iinc (pc := 142) (i := 7) (x := q.2.1) (v := v142) (lv' := [some (.ref (ad 0)), some (.int l1), some (.int l2), some (.int l3), some (.int l4), some (.int l5), some (.int q.1), some (.int v142), none]) C dX6_chance_142 rfl hv142.symm (by decide) rfl rfl ?_
        refine g_goto (pc := 145) C 75 dX6_chance_145 (by decide) ?_
        cases h
        exact hP
      · refine g_if_eq_f (pc := 107) C 142 dX6_chance_107 (by decide) hc107 ?_
        refine g_iload (pc := 110) (i := 6) (x := q.1) C dX6_chance_110 rfl ?_
        refine g_iload_n (pc := 112) (i := 3) (x := l3) C dX6_chance_112 rfl rfl ?_
        refine g_iload (pc := 113) (i := 7) (x := q.2.1) C dX6_chance_113 rfl ?_
        obtain ⟨r115, hcall115, h⟩ := ob_some h
        refine g_callS (pc := 115) C ce0 mi_J6_bitCount_0f7a4 ms_J6_bitCount_0f7a4 wm_X6_218 dX6_chance_115 [.int q.2.1] [.int l3, .int q.1] (by omega) rfl rfl (Nat.le_of_ble_eq_true rfl) (m_J6_bitCount_0f7a4 (d := d - 1) (by omega)  hcall115) ?_
        show Gw E κ 9 0 0 118 [some (.ref (ad 0)), some (.int l1), some (.int l2), some (.int l3), some (.int l4), some (.int l5), some (.int q.1), some (.int q.2.1), none] [.int r115, .int l3, .int q.1] ad (LC sh sp ++ tl) m104
        obtain ⟨r118, hcall118, h⟩ := ob_some h
        refine g_callS (pc := 118) C ce0 mi_X6_power ms_X6_power wm_X6_252 dX6_chance_118 [.int l3, .int r115] [.int q.1] (by omega) rfl rfl (Nat.le_of_ble_eq_true rfl) (m_X6_power (d := d - 1) (by omega)  hcall118) ?_
        show Gw E κ 9 0 0 121 [some (.ref (ad 0)), some (.int l1), some (.int l2), some (.int l3), some (.int l4), some (.int l5), some (.int q.1), some (.int q.2.1), none] [.int r118, .int q.1] ad (LC sh sp ++ tl) m104
        refine g_bipush (pc := 121) (v := 10) C dX6_chance_121 rfl ?_
        refine g_iload_n (pc := 123) (i := 3) (x := l3) C dX6_chance_123 rfl rfl ?_
        refine g_isub (pc := 124) C dX6_chance_124 ?_
        refine g_iload (pc := 125) (i := 5) (x := l5) C dX6_chance_125 rfl ?_
        refine g_iload (pc := 127) (i := 7) (x := q.2.1) C dX6_chance_127 rfl ?_
        refine g_iconst (pc := 129) (v := (-1)) C dX6_chance_129 rfl ?_
        refine g_ixor (pc := 130) C dX6_chance_130 ?_
        refine g_iand (pc := 131) C dX6_chance_131 ?_
        obtain ⟨r132, hcall132, h⟩ := ob_some h
        refine g_callS (pc := 132) C ce0 mi_J6_bitCount_0f7a4 ms_J6_bitCount_0f7a4 wm_X6_218 dX6_chance_132 [.int (l5 &&& (q.2.1 ^^^ (-1)))] [.int (10 - l3), .int r118, .int q.1] (by omega) rfl rfl (Nat.le_of_ble_eq_true rfl) (m_J6_bitCount_0f7a4 (d := d - 1) (by omega)  hcall132) ?_
        show Gw E κ 9 0 0 135 [some (.ref (ad 0)), some (.int l1), some (.int l2), some (.int l3), some (.int l4), some (.int l5), some (.int q.1), some (.int q.2.1), none] [.int r132, .int (10 - l3), .int r118, .int q.1] ad (LC sh sp ++ tl) m104
        obtain ⟨r135, hcall135, h⟩ := ob_some h
        refine g_callS (pc := 135) C ce0 mi_X6_power ms_X6_power wm_X6_252 dX6_chance_135 [.int (10 - l3), .int r132] [.int r118, .int q.1] (by omega) rfl rfl (Nat.le_of_ble_eq_true rfl) (m_X6_power (d := d - 1) (by omega)  hcall135) ?_
        show Gw E κ 9 0 0 138 [some (.ref (ad 0)), some (.int l1), some (.int l2), some (.int l3), some (.int l4), some (.int l5), some (.int q.1), some (.int q.2.1), none] [.int r135, .int r118, .int q.1] ad (LC sh sp ++ tl) m104
        refine g_imul (pc := 138) C dX6_chance_138 ?_
        refine g_iadd (pc := 139) C dX6_chance_139 ?_
        obtain ⟨v140, hv140, h⟩ := lt_some h
        refine g_topi hv140 ?_
        refine g_istore (pc := 140) (i := 6) (lv' := [some (.ref (ad 0)), some (.int l1), some (.int l2), some (.int l3), some (.int l4), some (.int l5), some (.int v140), some (.int q.2.1), none]) C dX6_chance_140 (by decide) rfl rfl ?_
        obtain ⟨v142, hv142, h⟩ := lt_some h
        refine g_iinc (pc := 142) (i := 7) (x := q.2.1) (v := v142) (lv' := [some (.ref (ad 0)), some (.int l1), some (.int l2), some (.int l3), some (.int l4), some (.int l5), some (.int v140), some (.int v142), none]) C dX6_chance_142 rfl hv142.symm (by decide) rfl rfl ?_
        refine g_goto (pc := 145) C 75 dX6_chance_145 (by decide) ?_
        cases h
        exact hP
    · refine g_if_ne_t (pc := 96) C 142 dX6_chance_96 (by decide) hc96 ?_
      obtain ⟨v142, hv142, h⟩ := lt_some h
      refine g_iinc (pc := 142) (i := 7) (x := q.2.1) (v := v142) (lv' := [some (.ref (ad 0)), some (.int l1), some (.int l2), some (.int l3), some (.int l4), some (.int l5), some (.int q.1), some (.int v142), none]) C dX6_chance_142 rfl hv142.symm (by decide) rfl rfl ?_
      refine g_goto (pc := 145) C 75 dX6_chance_145 (by decide) ?_
      cases h
      exact hP
set_option maxRecDepth 100000 in
set_option maxHeartbeats 4000000 in
theorem m_X6_chance {E : Ex} {ad : Nat → Nat} {sh sp : Nat} {tl : List Ent} {d : Nat} (hd : 6 ≤ d) (hsh : isS sh) (hsp : isS sp) {l1 : Int32} {l2 : Int32} {l3 : Int32} {l4 : Int32} {mem : Mem} {r : Int32 × Mem} (h : f_X6_chance sh l1 l2 l3 l4 mem = some r) : Cl E yX6_chance cX6_chance 9 (some .int) d [.ref (ad 0), .int l1, .int l2, .int l3, .int l4] (some (.int r.1)) ad (LC sh sp ++ tl) mem (LC sh sp ++ tl) r.2 := by
  refine Cl.of [some (.ref (ad 0)), some (.int l1), some (.int l2), some (.int l3), some (.int l4), none, none, none, none] (by decide +kernel) rfl (Nat.le_of_ble_eq_true rfl) (fun κ C hP => ?_)
  have C : Cx E κ cX6_chance RX6 9 (some .int) d := C
  unfold f_X6_chance at h
  refine g_aload_n (pc := 0) (i := 0) (x := ad 0) C dX6_chance_0 rfl rfl ?_
  refine g_iload_n (pc := 1) (i := 1) (x := l1) C dX6_chance_1 rfl rfl ?_
  obtain ⟨r2, hcall2, h⟩ := ob_some h
  refine g_callV (pc := 2) C ce0 mi_X6_isPlace mv_X6_isPlace wm_X6_107 dX6_chance_2 ok_X6 [.int l1] [] la_0 (by omega) rfl rfl (Nat.le_of_ble_eq_true rfl) (m_X6_isPlace (d := d - 1) (by omega) hsh hsp hcall2) ?_
  show Gw E κ 9 0 0 5 [some (.ref (ad 0)), some (.int l1), some (.int l2), some (.int l3), some (.int l4), none, none, none, none] [.int r2] ad (LC sh sp ++ tl) mem
  rcases ite_some' h with ⟨hc5, h⟩ | ⟨hc5, h⟩
  · refine g_if_eq_t (pc := 5) C 37 dX6_chance_5 (by decide) hc5 ?_
    refine g_iconst (pc := 37) (v := (-1)) C dX6_chance_37 rfl ?_
    cases h
    exact g_iret (pc := 38) C hP rfl rfl dX6_chance_38
  · refine g_if_eq_f (pc := 5) C 37 dX6_chance_5 (by decide) hc5 ?_
    refine g_aload_n (pc := 8) (i := 0) (x := ad 0) C dX6_chance_8 rfl rfl ?_
    refine g_iload_n (pc := 9) (i := 2) (x := l2) C dX6_chance_9 rfl rfl ?_
    obtain ⟨r10, hcall10, h⟩ := ob_some h
    refine g_callV (pc := 10) C ce0 mi_X6_isWord mv_X6_isWord wm_X6_126 dX6_chance_10 ok_X6 [.int l2] [] la_0 (by omega) rfl rfl (Nat.le_of_ble_eq_true rfl) (m_X6_isWord (d := d - 1) (by omega) hsh hsp hcall10) ?_
    show Gw E κ 9 0 0 13 [some (.ref (ad 0)), some (.int l1), some (.int l2), some (.int l3), some (.int l4), none, none, none, none] [.int r10] ad (LC sh sp ++ tl) mem
    rcases ite_some' h with ⟨hc13, h⟩ | ⟨hc13, h⟩
    · refine g_if_eq_t (pc := 13) C 37 dX6_chance_13 (by decide) hc13 ?_
      refine g_iconst (pc := 37) (v := (-1)) C dX6_chance_37 rfl ?_
      cases h
      exact g_iret (pc := 38) C hP rfl rfl dX6_chance_38
    · refine g_if_eq_f (pc := 13) C 37 dX6_chance_13 (by decide) hc13 ?_
      refine g_iload_n (pc := 16) (i := 3) (x := l3) C dX6_chance_16 rfl rfl ?_
      rcases ite_some' h with ⟨hc17, h⟩ | ⟨hc17, h⟩
      · refine g_if_lt_t (pc := 17) C 37 dX6_chance_17 (by decide) hc17 ?_
        refine g_iconst (pc := 37) (v := (-1)) C dX6_chance_37 rfl ?_
        cases h
        exact g_iret (pc := 38) C hP rfl rfl dX6_chance_38
      · refine g_if_lt_f (pc := 17) C 37 dX6_chance_17 (by decide) hc17 ?_
        refine g_iload_n (pc := 20) (i := 3) (x := l3) C dX6_chance_20 rfl rfl ?_
        refine g_bipush (pc := 21) (v := 10) C dX6_chance_21 rfl ?_
        rcases ite_some' h with ⟨hc23, h⟩ | ⟨hc23, h⟩
        · refine g_icmp_gt_t (pc := 23) C 37 dX6_chance_23 (by decide) hc23 ?_
          refine g_iconst (pc := 37) (v := (-1)) C dX6_chance_37 rfl ?_
          cases h
          exact g_iret (pc := 38) C hP rfl rfl dX6_chance_38
        · refine g_icmp_gt_f (pc := 23) C 37 dX6_chance_23 (by decide) hc23 ?_
          refine g_iload (pc := 26) (i := 4) (x := l4) C dX6_chance_26 rfl ?_
          rcases ite_some' h with ⟨hc28, h⟩ | ⟨hc28, h⟩
          · refine g_if_lt_t (pc := 28) C 37 dX6_chance_28 (by decide) hc28 ?_
            refine g_iconst (pc := 37) (v := (-1)) C dX6_chance_37 rfl ?_
            cases h
            exact g_iret (pc := 38) C hP rfl rfl dX6_chance_38
          · refine g_if_lt_f (pc := 28) C 37 dX6_chance_28 (by decide) hc28 ?_
            refine g_iload (pc := 31) (i := 4) (x := l4) C dX6_chance_31 rfl ?_
            refine g_iconst (pc := 33) (v := 1) C dX6_chance_33 rfl ?_
            rcases ite_some' h with ⟨hc34, h⟩ | ⟨hc34, h⟩
            · refine g_icmp_le_t (pc := 34) C 39 dX6_chance_34 (by decide) hc34 ?_
              refine g_aload_n (pc := 39) (i := 0) (x := ad 0) C dX6_chance_39 rfl rfl ?_
              refine g_get (pc := 40) (v := .ref (ad 39)) C ok_X6 5 (by decide) wf_X6_39 dX6_chance_40 la_0 rfl ?_
              refine g_aload_n (pc := 43) (i := 0) (x := ad 0) C dX6_chance_43 rfl rfl ?_
              refine g_get (pc := 44) (v := .ref (ad sh)) C ok_X6 1 (by decide) wf_X6_19 dX6_chance_44 la_0 rfl ?_
              refine g_aload_n (pc := 47) (i := 0) (x := ad 0) C dX6_chance_47 rfl rfl ?_
              refine g_get (pc := 48) (v := .ref (ad 31)) C ok_X6 3 (by decide) wf_X6_29 dX6_chance_48 la_0 rfl ?_
              refine g_bipush (pc := 51) (v := 63) C dX6_chance_51 rfl ?_
              obtain ⟨m53, hcall53, h⟩ := ob_some h
              refine g_callN (pc := 53) C ce0 mi_X3_send mv_X3_send nm_X6_151 dX6_chance_53 ok_X3 [.ref (ad sh), .ref (ad 31), .int 63] [] la_39 (by omega) rfl rfl (Nat.le_of_ble_eq_true rfl) (m_X3_send (d := d - 1) (by omega) hsh t_31 hcall53) ?_
              show Gw E κ 9 0 0 56 [some (.ref (ad 0)), some (.int l1), some (.int l2), some (.int l3), some (.int l4), none, none, none, none] [] ad (LC sh sp ++ tl) m53
              refine g_aload_n (pc := 56) (i := 0) (x := ad 0) C dX6_chance_56 rfl rfl ?_
              refine g_get (pc := 57) (v := .ref (ad 39)) C ok_X6 5 (by decide) wf_X6_39 dX6_chance_57 la_0 rfl ?_
              refine g_aload_n (pc := 60) (i := 0) (x := ad 0) C dX6_chance_60 rfl rfl ?_
              refine g_get (pc := 61) (v := .ref (ad sh)) C ok_X6 1 (by decide) wf_X6_19 dX6_chance_61 la_0 rfl ?_
              obtain ⟨r64, hcall64, h⟩ := ob_some h
              refine g_callN (pc := 64) C ce0 mi_X3_senders mv_X3_senders nm_X6_246 dX6_chance_64 ok_X3 [.ref (ad sh)] [] la_39 (by omega) rfl rfl (Nat.le_of_ble_eq_true rfl) (m_X3_senders (d := d - 1) (by omega) hsh hcall64) ?_
              show Gw E κ 9 0 0 67 [some (.ref (ad 0)), some (.int l1), some (.int l2), some (.int l3), some (.int l4), none, none, none, none] [.int r64] ad (LC sh sp ++ tl) m53
              refine g_istore (pc := 67) (i := 5) (lv' := [some (.ref (ad 0)), some (.int l1), some (.int l2), some (.int l3), some (.int l4), some (.int r64), none, none, none]) C dX6_chance_67 (by decide) rfl rfl ?_
              refine g_iconst (pc := 69) (v := 0) C dX6_chance_69 rfl ?_
              refine g_istore (pc := 70) (i := 6) (lv' := [some (.ref (ad 0)), some (.int l1), some (.int l2), some (.int l3), some (.int l4), some (.int r64), some (.int 0), none, none]) C dX6_chance_70 (by decide) rfl rfl ?_
              refine g_iconst (pc := 72) (v := 0) C dX6_chance_72 rfl ?_
              refine g_istore (pc := 73) (i := 7) (lv' := [some (.ref (ad 0)), some (.int l1), some (.int l2), some (.int l3), some (.int l4), some (.int r64), some (.int 0), some (.int 0), none]) C dX6_chance_73 (by decide) rfl rfl ?_
              obtain ⟨q75, hq, h⟩ := ob_some h
              refine lp_gw (P_X6_chance_75 E κ ad (LC sh sp ++ tl) sh l1 l2 l3 l4 r64) (fun q x hb hp => b_X6_chance_75 C hd hsh hsp hb hp) _ (0, 0, m53) _ hq ?_
              show Gw E κ 9 0 0 148 [none, none, none, none, some (.int l4), some (.int r64), some (.int q75.1), none, none] [] ad (LC sh sp ++ tl) q75.2.2
              refine g_bipush (pc := 148) (v := 10) C dX6_chance_148 rfl ?_
              refine g_iload (pc := 150) (i := 5) (x := r64) C dX6_chance_150 rfl ?_
              obtain ⟨r152, hcall152, h⟩ := ob_some h
              refine g_callS (pc := 152) C ce0 mi_J6_bitCount_0f7a4 ms_J6_bitCount_0f7a4 wm_X6_218 dX6_chance_152 [.int r64] [.int 10] (by omega) rfl rfl (Nat.le_of_ble_eq_true rfl) (m_J6_bitCount_0f7a4 (d := d - 1) (by omega)  hcall152) ?_
              show Gw E κ 9 0 0 155 [none, none, none, none, some (.int l4), some (.int r64), some (.int q75.1), none, none] [.int r152, .int 10] ad (LC sh sp ++ tl) q75.2.2
              obtain ⟨r155, hcall155, h⟩ := ob_some h
              refine g_callS (pc := 155) C ce0 mi_X6_power ms_X6_power wm_X6_252 dX6_chance_155 [.int 10, .int r152] [] (by omega) rfl rfl (Nat.le_of_ble_eq_true rfl) (m_X6_power (d := d - 1) (by omega)  hcall155) ?_
              show Gw E κ 9 0 0 158 [none, none, none, none, some (.int l4), some (.int r64), some (.int q75.1), none, none] [.int r155] ad (LC sh sp ++ tl) q75.2.2
              refine g_istore (pc := 158) (i := 7) (lv' := [none, none, none, none, some (.int l4), some (.int r64), some (.int q75.1), some (.int r155), none]) C dX6_chance_158 (by decide) rfl rfl ?_
              refine g_iload (pc := 160) (i := 6) (x := q75.1) C dX6_chance_160 rfl ?_
              refine g_iload (pc := 162) (i := 7) (x := r155) C dX6_chance_162 rfl ?_
              obtain ⟨r164, hcall164, h⟩ := ob_some h
              refine g_callS (pc := 164) C ce0 mi_X6_commonDivisor ms_X6_commonDivisor wm_X6_255 dX6_chance_164 [.int q75.1, .int r155] [] (by omega) rfl rfl (Nat.le_of_ble_eq_true rfl) (m_X6_commonDivisor (d := d - 1) (by omega)  hcall164) ?_
              show Gw E κ 9 0 0 167 [none, none, none, none, some (.int l4), some (.int r64), some (.int q75.1), some (.int r155), none] [.int r164] ad (LC sh sp ++ tl) q75.2.2
              refine g_istore (pc := 167) (i := 8) (lv' := [none, none, none, none, some (.int l4), some (.int r64), some (.int q75.1), some (.int r155), some (.int r164)]) C dX6_chance_167 (by decide) rfl rfl ?_
              refine g_iload (pc := 169) (i := 8) (x := r164) C dX6_chance_169 rfl ?_
              rcases ite_some' h with ⟨hc171, h⟩ | ⟨hc171, h⟩
              · refine g_if_ne_f (pc := 171) C 176 dX6_chance_171 (by decide) hc171 ?_
                refine g_iconst (pc := 174) (v := (-1)) C dX6_chance_174 rfl ?_
                cases h
                exact g_iret (pc := 175) C hP rfl rfl dX6_chance_175
              · refine g_if_ne_t (pc := 171) C 176 dX6_chance_171 (by decide) hc171 ?_
                refine g_iload (pc := 176) (i := 4) (x := l4) C dX6_chance_176 rfl ?_
                rcases ite_some' h with ⟨hc178, h⟩ | ⟨hc178, h⟩
                · refine g_if_ne_f (pc := 178) C 189 dX6_chance_178 (by decide) hc178 ?_
                  refine g_iload (pc := 181) (i := 6) (x := q75.1) C dX6_chance_181 rfl ?_
                  refine g_iload (pc := 183) (i := 8) (x := r164) C dX6_chance_183 rfl ?_
                  obtain ⟨hz185, h⟩ := dk_some h
                  refine g_idiv (pc := 185) C dX6_chance_185 hz185 ?_
                  refine g_goto (pc := 186) C 194 dX6_chance_186 (by decide) ?_
                  obtain ⟨v194, hv194, h⟩ := lt_some h
                  refine g_topi hv194 ?_
                  cases h
                  exact g_iret (pc := 194) C hP rfl rfl dX6_chance_194
                · refine g_if_ne_t (pc := 178) C 189 dX6_chance_178 (by decide) hc178 ?_
                  refine g_iload (pc := 189) (i := 7) (x := r155) C dX6_chance_189 rfl ?_
                  refine g_iload (pc := 191) (i := 8) (x := r164) C dX6_chance_191 rfl ?_
                  obtain ⟨hz193, h⟩ := dk_some h
                  refine g_idiv (pc := 193) C dX6_chance_193 hz193 ?_
                  obtain ⟨v194, hv194, h⟩ := lt_some h
                  refine g_topi hv194 ?_
                  cases h
                  exact g_iret (pc := 194) C hP rfl rfl dX6_chance_194
            · refine g_icmp_le_f (pc := 34) C 39 dX6_chance_34 (by decide) hc34 ?_
              refine g_iconst (pc := 37) (v := (-1)) C dX6_chance_37 rfl ?_
              cases h
              exact g_iret (pc := 38) C hP rfl rfl dX6_chance_38

theorem dX6_drawOf_0 : decode cX6_drawOf 0 = .ok (.ldc2_w 283, 3) := by decide +kernel
theorem dX6_drawOf_3 : decode cX6_drawOf 3 = .ok (.iload_n 0, 1) := by decide +kernel
theorem dX6_drawOf_4 : decode cX6_drawOf 4 = .ok (.i2l, 1) := by decide +kernel
theorem dX6_drawOf_5 : decode cX6_drawOf 5 = .ok (.lmul, 1) := by decide +kernel
theorem dX6_drawOf_6 : decode cX6_drawOf 6 = .ok (.ldc2_w 285, 3) := by decide +kernel
theorem dX6_drawOf_9 : decode cX6_drawOf 9 = .ok (.iload_n 1, 1) := by decide +kernel
theorem dX6_drawOf_10 : decode cX6_drawOf 10 = .ok (.i2l, 1) := by decide +kernel
theorem dX6_drawOf_11 : decode cX6_drawOf 11 = .ok (.lmul, 1) := by decide +kernel
theorem dX6_drawOf_12 : decode cX6_drawOf 12 = .ok (.ladd, 1) := by decide +kernel
theorem dX6_drawOf_13 : decode cX6_drawOf 13 = .ok (.lconst 1, 1) := by decide +kernel
theorem dX6_drawOf_14 : decode cX6_drawOf 14 = .ok (.ladd, 1) := by decide +kernel
theorem dX6_drawOf_15 : decode cX6_drawOf 15 = .ok (.lstore_n 2, 1) := by decide +kernel
theorem dX6_drawOf_16 : decode cX6_drawOf 16 = .ok (.lload_n 2, 1) := by decide +kernel
theorem dX6_drawOf_17 : decode cX6_drawOf 17 = .ok (.lload_n 2, 1) := by decide +kernel
theorem dX6_drawOf_18 : decode cX6_drawOf 18 = .ok (.lmul, 1) := by decide +kernel
theorem dX6_drawOf_19 : decode cX6_drawOf 19 = .ok (.ldc2_w 287, 3) := by decide +kernel
theorem dX6_drawOf_22 : decode cX6_drawOf 22 = .ok (.lrem, 1) := by decide +kernel
theorem dX6_drawOf_23 : decode cX6_drawOf 23 = .ok (.l2i, 1) := by decide +kernel
theorem dX6_drawOf_24 : decode cX6_drawOf 24 = .ok (.ireturn, 1) := by decide +kernel
noncomputable def f_X6_drawOf (l0 : Int32) (l1 : Int32) : Option (Int32) :=
  lt' (((7919 * (l0.toInt64)) + (6151 * (l1.toInt64))) + 1) fun v15 => lt' ((lrm (v15 * v15) 65521).toInt32) fun v24 => some v24
set_option maxRecDepth 100000 in
set_option maxHeartbeats 4000000 in
theorem m_X6_drawOf {E : Ex} {ad : Nat → Nat} {lay : List Ent} {d : Nat} (hd : 0 ≤ d)  {l0 : Int32} {l1 : Int32} {mem : Mem} {r : Int32} (h : f_X6_drawOf l0 l1 = some r) : Cl E yX6_drawOf cX6_drawOf 4 (some .int) d [.int l0, .int l1] (some (.int r)) ad lay mem lay mem := by
  refine Cl.of [some (.int l0), some (.int l1), none, none] (by decide +kernel) rfl (Nat.le_of_ble_eq_true rfl) (fun κ C hP => ?_)
  have C : Cx E κ cX6_drawOf RX6 4 (some .int) d := C
  unfold f_X6_drawOf at h
  refine g_ldc2 (pc := 0) C wl_X6_283 dX6_drawOf_0 ?_
  refine g_iload_n (pc := 3) (i := 0) (x := l0) C dX6_drawOf_3 rfl rfl ?_
  refine g_i2l (pc := 4) C dX6_drawOf_4 ?_
  refine g_lmul (pc := 5) C dX6_drawOf_5 ?_
  refine g_ldc2 (pc := 6) C wl_X6_285 dX6_drawOf_6 ?_
  refine g_iload_n (pc := 9) (i := 1) (x := l1) C dX6_drawOf_9 rfl rfl ?_
  refine g_i2l (pc := 10) C dX6_drawOf_10 ?_
  refine g_lmul (pc := 11) C dX6_drawOf_11 ?_
  refine g_ladd (pc := 12) C dX6_drawOf_12 ?_
  refine g_lconst (pc := 13) (v := 1) C dX6_drawOf_13 rfl ?_
  refine g_ladd (pc := 14) C dX6_drawOf_14 ?_
  obtain ⟨v15, hv15, h⟩ := lt_some h
  refine g_topl hv15 ?_
  refine g_lstore_n (pc := 15) (i := 2) (lv' := [some (.int l0), some (.int l1), some (.long v15), none]) C dX6_drawOf_15 rfl (by decide) rfl rfl ?_
  refine g_lload_n (pc := 16) (i := 2) (x := v15) C dX6_drawOf_16 rfl rfl ?_
  refine g_lload_n (pc := 17) (i := 2) (x := v15) C dX6_drawOf_17 rfl rfl ?_
  refine g_lmul (pc := 18) C dX6_drawOf_18 ?_
  refine g_ldc2 (pc := 19) C wl_X6_287 dX6_drawOf_19 ?_
  refine g_lrem' (pc := 22) C dX6_drawOf_22 (by decide) ?_
  refine g_l2i (pc := 23) C dX6_drawOf_23 ?_
  obtain ⟨v24, hv24, h⟩ := lt_some h
  refine g_topi hv24 ?_
  cases h
  exact g_iret (pc := 24) C hP rfl rfl dX6_drawOf_24

theorem dX6_applyDraw_0 : decode cX6_applyDraw 0 = .ok (.aload_n 0, 1) := by decide +kernel
theorem dX6_applyDraw_1 : decode cX6_applyDraw 1 = .ok (.getfield 19, 3) := by decide +kernel
theorem dX6_applyDraw_4 : decode cX6_applyDraw 4 = .ok (.getfield 215, 3) := by decide +kernel
theorem dX6_applyDraw_7 : decode cX6_applyDraw 7 = .ok (.ifCond .eq 23, 3) := by decide +kernel
theorem dX6_applyDraw_10 : decode cX6_applyDraw 10 = .ok (.aload_n 0, 1) := by decide +kernel
theorem dX6_applyDraw_11 : decode cX6_applyDraw 11 = .ok (.getfield 19, 3) := by decide +kernel
theorem dX6_applyDraw_14 : decode cX6_applyDraw 14 = .ok (.getfield 97, 3) := by decide +kernel
theorem dX6_applyDraw_17 : decode cX6_applyDraw 17 = .ok (.ifCond .eq 13, 3) := by decide +kernel
theorem dX6_applyDraw_20 : decode cX6_applyDraw 20 = .ok (.aload_n 0, 1) := by decide +kernel
theorem dX6_applyDraw_21 : decode cX6_applyDraw 21 = .ok (.getfield 19, 3) := by decide +kernel
theorem dX6_applyDraw_24 : decode cX6_applyDraw 24 = .ok (.getfield 231, 3) := by decide +kernel
theorem dX6_applyDraw_27 : decode cX6_applyDraw 27 = .ok (.ifCond .ne 4, 3) := by decide +kernel
theorem dX6_applyDraw_30 : decode cX6_applyDraw 30 = .ok (.return_, 1) := by decide +kernel
theorem dX6_applyDraw_31 : decode cX6_applyDraw 31 = .ok (.iload_n 1, 1) := by decide +kernel
theorem dX6_applyDraw_32 : decode cX6_applyDraw 32 = .ok (.bipush 64, 2) := by decide +kernel
theorem dX6_applyDraw_34 : decode cX6_applyDraw 34 = .ok (.idiv, 1) := by decide +kernel
theorem dX6_applyDraw_35 : decode cX6_applyDraw 35 = .ok (.aload_n 0, 1) := by decide +kernel
theorem dX6_applyDraw_36 : decode cX6_applyDraw 36 = .ok (.getfield 19, 3) := by decide +kernel
theorem dX6_applyDraw_39 : decode cX6_applyDraw 39 = .ok (.getfield 97, 3) := by decide +kernel
theorem dX6_applyDraw_42 : decode cX6_applyDraw 42 = .ok (.irem, 1) := by decide +kernel
theorem dX6_applyDraw_43 : decode cX6_applyDraw 43 = .ok (.istore_n 2, 1) := by decide +kernel
theorem dX6_applyDraw_44 : decode cX6_applyDraw 44 = .ok (.aload_n 0, 1) := by decide +kernel
theorem dX6_applyDraw_45 : decode cX6_applyDraw 45 = .ok (.getfield 33, 3) := by decide +kernel
theorem dX6_applyDraw_48 : decode cX6_applyDraw 48 = .ok (.iload_n 1, 1) := by decide +kernel
theorem dX6_applyDraw_49 : decode cX6_applyDraw 49 = .ok (.aload_n 0, 1) := by decide +kernel
theorem dX6_applyDraw_50 : decode cX6_applyDraw 50 = .ok (.getfield 19, 3) := by decide +kernel
theorem dX6_applyDraw_53 : decode cX6_applyDraw 53 = .ok (.getfield 215, 3) := by decide +kernel
theorem dX6_applyDraw_56 : decode cX6_applyDraw 56 = .ok (.irem, 1) := by decide +kernel
theorem dX6_applyDraw_57 : decode cX6_applyDraw 57 = .ok (.iload_n 2, 1) := by decide +kernel
theorem dX6_applyDraw_58 : decode cX6_applyDraw 58 = .ok (.iload_n 1, 1) := by decide +kernel
theorem dX6_applyDraw_59 : decode cX6_applyDraw 59 = .ok (.bipush 8, 2) := by decide +kernel
theorem dX6_applyDraw_61 : decode cX6_applyDraw 61 = .ok (.idiv, 1) := by decide +kernel
theorem dX6_applyDraw_62 : decode cX6_applyDraw 62 = .ok (.aload_n 0, 1) := by decide +kernel
theorem dX6_applyDraw_63 : decode cX6_applyDraw 63 = .ok (.getfield 19, 3) := by decide +kernel
theorem dX6_applyDraw_66 : decode cX6_applyDraw 66 = .ok (.getfield 231, 3) := by decide +kernel
theorem dX6_applyDraw_69 : decode cX6_applyDraw 69 = .ok (.irem, 1) := by decide +kernel
theorem dX6_applyDraw_70 : decode cX6_applyDraw 70 = .ok (.invokevirtual 177, 3) := by decide +kernel
theorem dX6_applyDraw_73 : decode cX6_applyDraw 73 = .ok (.iload_n 1, 1) := by decide +kernel
theorem dX6_applyDraw_74 : decode cX6_applyDraw 74 = .ok (.sipush 1024, 3) := by decide +kernel
theorem dX6_applyDraw_77 : decode cX6_applyDraw 77 = .ok (.idiv, 1) := by decide +kernel
theorem dX6_applyDraw_78 : decode cX6_applyDraw 78 = .ok (.iconst 4, 1) := by decide +kernel
theorem dX6_applyDraw_79 : decode cX6_applyDraw 79 = .ok (.irem, 1) := by decide +kernel
theorem dX6_applyDraw_80 : decode cX6_applyDraw 80 = .ok (.ifCond .ne 16, 3) := by decide +kernel
theorem dX6_applyDraw_83 : decode cX6_applyDraw 83 = .ok (.aload_n 0, 1) := by decide +kernel
theorem dX6_applyDraw_84 : decode cX6_applyDraw 84 = .ok (.getfield 19, 3) := by decide +kernel
theorem dX6_applyDraw_87 : decode cX6_applyDraw 87 = .ok (.aload_n 0, 1) := by decide +kernel
theorem dX6_applyDraw_88 : decode cX6_applyDraw 88 = .ok (.getfield 33, 3) := by decide +kernel
theorem dX6_applyDraw_91 : decode cX6_applyDraw 91 = .ok (.iload_n 2, 1) := by decide +kernel
theorem dX6_applyDraw_92 : decode cX6_applyDraw 92 = .ok (.iconst 0, 1) := by decide +kernel
theorem dX6_applyDraw_93 : decode cX6_applyDraw 93 = .ok (.invokevirtual 173, 3) := by decide +kernel
theorem dX6_applyDraw_96 : decode cX6_applyDraw 96 = .ok (.return_, 1) := by decide +kernel
noncomputable def f_X6_applyDraw (sh : Nat) (l1 : Int32) (mem : Mem) : Option (Mem) :=
  if (mem sh 12) = 0 then (some mem) else (if (mem sh 3) = 0 then (some mem) else (if (mem sh 7) = 0 then (some mem) else (dk (mem sh 3) (lt' (irm (l1 / 64) (mem sh 3)) fun v43 => dk (mem sh 12) (dk (mem sh 7) (ob (f_X0_wish 35 (irm l1 (mem sh 12)) v43 (irm (l1 / 8) (mem sh 7)) mem) fun m70 => if (irm (l1 / 1024) 4) = 0 then (ob (f_X5_put sh 35 v43 0 m70) fun m93 => some m93) else (some m70)))))))
set_option maxRecDepth 100000 in
set_option maxHeartbeats 4000000 in
theorem m_X6_applyDraw {E : Ex} {ad : Nat → Nat} {sh sp : Nat} {tl : List Ent} {d : Nat} (hd : 2 ≤ d) (hsh : isS sh) (hsp : isS sp) {l1 : Int32} {mem : Mem} {r : Mem} (h : f_X6_applyDraw sh l1 mem = some r) : Cl E yX6_applyDraw cX6_applyDraw 3 none d [.ref (ad 0), .int l1] none ad (LC sh sp ++ tl) mem (LC sh sp ++ tl) r := by
  refine Cl.of [some (.ref (ad 0)), some (.int l1), none] (by decide +kernel) rfl (Nat.le_of_ble_eq_true rfl) (fun κ C hP => ?_)
  have C : Cx E κ cX6_applyDraw RX6 3 none d := C
  unfold f_X6_applyDraw at h
  refine g_aload_n (pc := 0) (i := 0) (x := ad 0) C dX6_applyDraw_0 rfl rfl ?_
  refine g_get (pc := 1) (v := .ref (ad sh)) C ok_X6 1 (by decide) wf_X6_19 dX6_applyDraw_1 la_0 rfl ?_
  refine g_getN (pc := 4) (v := .int (mem sh 12)) C ok_X5 12 (by decide) nf_X6_215 dX6_applyDraw_4 (lz_0 hsh) rfl ?_
  rcases ite_some' h with ⟨hc7, h⟩ | ⟨hc7, h⟩
  · refine g_if_eq_t (pc := 7) C 30 dX6_applyDraw_7 (by decide) hc7 ?_
    cases h
    exact g_vret (pc := 30) C hP rfl dX6_applyDraw_30
  · refine g_if_eq_f (pc := 7) C 30 dX6_applyDraw_7 (by decide) hc7 ?_
    refine g_aload_n (pc := 10) (i := 0) (x := ad 0) C dX6_applyDraw_10 rfl rfl ?_
    refine g_get (pc := 11) (v := .ref (ad sh)) C ok_X6 1 (by decide) wf_X6_19 dX6_applyDraw_11 la_0 rfl ?_
    refine g_getN (pc := 14) (v := .int (mem sh 3)) C ok_X5 3 (by decide) nf_X6_97 dX6_applyDraw_14 (lz_0 hsh) rfl ?_
    rcases ite_some' h with ⟨hc17, h⟩ | ⟨hc17, h⟩
    · refine g_if_eq_t (pc := 17) C 30 dX6_applyDraw_17 (by decide) hc17 ?_
      cases h
      exact g_vret (pc := 30) C hP rfl dX6_applyDraw_30
    · refine g_if_eq_f (pc := 17) C 30 dX6_applyDraw_17 (by decide) hc17 ?_
      refine g_aload_n (pc := 20) (i := 0) (x := ad 0) C dX6_applyDraw_20 rfl rfl ?_
      refine g_get (pc := 21) (v := .ref (ad sh)) C ok_X6 1 (by decide) wf_X6_19 dX6_applyDraw_21 la_0 rfl ?_
      refine g_getN (pc := 24) (v := .int (mem sh 7)) C ok_X5 7 (by decide) nf_X6_231 dX6_applyDraw_24 (lz_0 hsh) rfl ?_
      rcases ite_some' h with ⟨hc27, h⟩ | ⟨hc27, h⟩
      · refine g_if_ne_f (pc := 27) C 31 dX6_applyDraw_27 (by decide) hc27 ?_
        cases h
        exact g_vret (pc := 30) C hP rfl dX6_applyDraw_30
      · refine g_if_ne_t (pc := 27) C 31 dX6_applyDraw_27 (by decide) hc27 ?_
        refine g_iload_n (pc := 31) (i := 1) (x := l1) C dX6_applyDraw_31 rfl rfl ?_
        refine g_bipush (pc := 32) (v := 64) C dX6_applyDraw_32 rfl ?_
        refine g_idiv (pc := 34) C dX6_applyDraw_34 (by decide) ?_
        refine g_aload_n (pc := 35) (i := 0) (x := ad 0) C dX6_applyDraw_35 rfl rfl ?_
        refine g_get (pc := 36) (v := .ref (ad sh)) C ok_X6 1 (by decide) wf_X6_19 dX6_applyDraw_36 la_0 rfl ?_
        refine g_getN (pc := 39) (v := .int (mem sh 3)) C ok_X5 3 (by decide) nf_X6_97 dX6_applyDraw_39 (lz_0 hsh) rfl ?_
        obtain ⟨hz42, h⟩ := dk_some h
        refine g_irem' (pc := 42) C dX6_applyDraw_42 hz42 ?_
        obtain ⟨v43, hv43, h⟩ := lt_some h
        refine g_topi hv43 ?_
        refine g_istore_n (pc := 43) (i := 2) (lv' := [some (.ref (ad 0)), some (.int l1), some (.int v43)]) C dX6_applyDraw_43 rfl (by decide) rfl rfl ?_
        refine g_aload_n (pc := 44) (i := 0) (x := ad 0) C dX6_applyDraw_44 rfl rfl ?_
        refine g_get (pc := 45) (v := .ref (ad 35)) C ok_X6 4 (by decide) wf_X6_33 dX6_applyDraw_45 la_0 rfl ?_
        refine g_iload_n (pc := 48) (i := 1) (x := l1) C dX6_applyDraw_48 rfl rfl ?_
        refine g_aload_n (pc := 49) (i := 0) (x := ad 0) C dX6_applyDraw_49 rfl rfl ?_
        refine g_get (pc := 50) (v := .ref (ad sh)) C ok_X6 1 (by decide) wf_X6_19 dX6_applyDraw_50 la_0 rfl ?_
        refine g_getN (pc := 53) (v := .int (mem sh 12)) C ok_X5 12 (by decide) nf_X6_215 dX6_applyDraw_53 (lz_0 hsh) rfl ?_
        obtain ⟨hz56, h⟩ := dk_some h
        refine g_irem' (pc := 56) C dX6_applyDraw_56 hz56 ?_
        refine g_iload_n (pc := 57) (i := 2) (x := v43) C dX6_applyDraw_57 rfl rfl ?_
        refine g_iload_n (pc := 58) (i := 1) (x := l1) C dX6_applyDraw_58 rfl rfl ?_
        refine g_bipush (pc := 59) (v := 8) C dX6_applyDraw_59 rfl ?_
        refine g_idiv (pc := 61) C dX6_applyDraw_61 (by decide) ?_
        refine g_aload_n (pc := 62) (i := 0) (x := ad 0) C dX6_applyDraw_62 rfl rfl ?_
        refine g_get (pc := 63) (v := .ref (ad sh)) C ok_X6 1 (by decide) wf_X6_19 dX6_applyDraw_63 la_0 rfl ?_
        refine g_getN (pc := 66) (v := .int (mem sh 7)) C ok_X5 7 (by decide) nf_X6_231 dX6_applyDraw_66 (lz_0 hsh) rfl ?_
        obtain ⟨hz69, h⟩ := dk_some h
        refine g_irem' (pc := 69) C dX6_applyDraw_69 hz69 ?_
        obtain ⟨m70, hcall70, h⟩ := ob_some h
        refine g_callN (pc := 70) C ce0 mi_X0_wish mv_X0_wish nm_X6_177 dX6_applyDraw_70 ok_X0 [.int (irm l1 (mem sh 12)), .int v43, .int (irm (l1 / 8) (mem sh 7))] [] la_35 (by omega) rfl rfl (Nat.le_of_ble_eq_true rfl) (m_X0_wish (d := d - 1) (by omega) t_35 hcall70) ?_
        show Gw E κ 3 0 0 73 [some (.ref (ad 0)), some (.int l1), some (.int v43)] [] ad (LC sh sp ++ tl) m70
        refine g_iload_n (pc := 73) (i := 1) (x := l1) C dX6_applyDraw_73 rfl rfl ?_
        refine g_sipush (pc := 74) (v := 1024) C dX6_applyDraw_74 rfl ?_
        refine g_idiv (pc := 77) C dX6_applyDraw_77 (by decide) ?_
        refine g_iconst (pc := 78) (v := 4) C dX6_applyDraw_78 rfl ?_
        refine g_irem' (pc := 79) C dX6_applyDraw_79 (by decide) ?_
        rcases ite_some' h with ⟨hc80, h⟩ | ⟨hc80, h⟩
        · refine g_if_ne_f (pc := 80) C 96 dX6_applyDraw_80 (by decide) hc80 ?_
          refine g_aload_n (pc := 83) (i := 0) (x := ad 0) C dX6_applyDraw_83 rfl rfl ?_
          refine g_get (pc := 84) (v := .ref (ad sh)) C ok_X6 1 (by decide) wf_X6_19 dX6_applyDraw_84 la_0 rfl ?_
          refine g_aload_n (pc := 87) (i := 0) (x := ad 0) C dX6_applyDraw_87 rfl rfl ?_
          refine g_get (pc := 88) (v := .ref (ad 35)) C ok_X6 4 (by decide) wf_X6_33 dX6_applyDraw_88 la_0 rfl ?_
          refine g_iload_n (pc := 91) (i := 2) (x := v43) C dX6_applyDraw_91 rfl rfl ?_
          refine g_iconst (pc := 92) (v := 0) C dX6_applyDraw_92 rfl ?_
          obtain ⟨m93, hcall93, h⟩ := ob_some h
          refine g_callN (pc := 93) C ce0 mi_X5_put mv_X5_put nm_X6_173 dX6_applyDraw_93 ok_X5 [.ref (ad 35), .int v43, .int 0] [] (lz_0 hsh) (by omega) rfl rfl (Nat.le_of_ble_eq_true rfl) (m_X5_put (d := d - 1) (by omega) hsh t_35 hcall93) ?_
          show Gw E κ 3 0 0 96 [some (.ref (ad 0)), some (.int l1), some (.int v43)] [] ad (LC sh sp ++ tl) m93
          cases h
          exact g_vret (pc := 96) C hP rfl dX6_applyDraw_96
        · refine g_if_ne_t (pc := 80) C 96 dX6_applyDraw_80 (by decide) hc80 ?_
          cases h
          exact g_vret (pc := 96) C hP rfl dX6_applyDraw_96

theorem dX6_filledPlaces_0 : decode cX6_filledPlaces 0 = .ok (.iconst 0, 1) := by decide +kernel
theorem dX6_filledPlaces_1 : decode cX6_filledPlaces 1 = .ok (.istore_n 2, 1) := by decide +kernel
theorem dX6_filledPlaces_2 : decode cX6_filledPlaces 2 = .ok (.iconst 0, 1) := by decide +kernel
theorem dX6_filledPlaces_3 : decode cX6_filledPlaces 3 = .ok (.istore_n 3, 1) := by decide +kernel
theorem dX6_filledPlaces_4 : decode cX6_filledPlaces 4 = .ok (.iload_n 3, 1) := by decide +kernel
theorem dX6_filledPlaces_5 : decode cX6_filledPlaces 5 = .ok (.aload_n 0, 1) := by decide +kernel
theorem dX6_filledPlaces_6 : decode cX6_filledPlaces 6 = .ok (.getfield 19, 3) := by decide +kernel
theorem dX6_filledPlaces_9 : decode cX6_filledPlaces 9 = .ok (.getfield 97, 3) := by decide +kernel
theorem dX6_filledPlaces_12 : decode cX6_filledPlaces 12 = .ok (.if_icmp .ge 24, 3) := by decide +kernel
theorem dX6_filledPlaces_15 : decode cX6_filledPlaces 15 = .ok (.aload_n 0, 1) := by decide +kernel
theorem dX6_filledPlaces_16 : decode cX6_filledPlaces 16 = .ok (.getfield 19, 3) := by decide +kernel
theorem dX6_filledPlaces_19 : decode cX6_filledPlaces 19 = .ok (.aload_n 1, 1) := by decide +kernel
theorem dX6_filledPlaces_20 : decode cX6_filledPlaces 20 = .ok (.iload_n 3, 1) := by decide +kernel
theorem dX6_filledPlaces_21 : decode cX6_filledPlaces 21 = .ok (.invokevirtual 119, 3) := by decide +kernel
theorem dX6_filledPlaces_24 : decode cX6_filledPlaces 24 = .ok (.ifCond .eq 6, 3) := by decide +kernel
theorem dX6_filledPlaces_27 : decode cX6_filledPlaces 27 = .ok (.iinc 2 1, 3) := by decide +kernel
theorem dX6_filledPlaces_30 : decode cX6_filledPlaces 30 = .ok (.iinc 3 1, 3) := by decide +kernel
theorem dX6_filledPlaces_33 : decode cX6_filledPlaces 33 = .ok (.goto (-29), 3) := by decide +kernel
theorem dX6_filledPlaces_36 : decode cX6_filledPlaces 36 = .ok (.iload_n 2, 1) := by decide +kernel
theorem dX6_filledPlaces_37 : decode cX6_filledPlaces 37 = .ok (.ireturn, 1) := by decide +kernel
noncomputable def f_X6_filledPlaces_b4 (t sh : Nat) (mem : Mem) (q : Int32 × Int32) : Option ((Int32 × Int32) ⊕ (Int32 × Int32)) :=
  if (mem sh 3) ≤ q.2 then (some (.inr (q.1, q.2))) else (ob (f_X5_isFilled sh t q.2 mem) fun r21 => if r21 = 0 then (lt' (q.2 + 1) fun v30 => some (.inl (q.1, v30))) else (lt' (q.1 + 1) fun v27 => lt' (q.2 + 1) fun v30 => some (.inl (v27, v30))))
noncomputable def f_X6_filledPlaces (t sh : Nat)  (mem : Mem) : Option (Int32) :=
  ob (lp (f_X6_filledPlaces_b4 t sh mem) FU (0, 0)) fun q4 => some q4.1
def P_X6_filledPlaces_4 (E : Ex) (κ : Kx) (ad : Nat → Nat) (lay : List Ent) (t sh : Nat) (mem : Mem) : (Int32 × Int32) ⊕ (Int32 × Int32) → Prop
  | .inl q => Gw E κ 4 0 0 4 [some (.ref (ad 0)), some (.ref (ad t)), some (.int q.1), some (.int q.2)] [] ad lay mem
  | .inr q => Gw E κ 4 0 0 36 [none, none, some (.int q.1), none] [] ad lay mem
set_option maxRecDepth 100000 in
set_option maxHeartbeats 4000000 in
theorem b_X6_filledPlaces_4 {E : Ex} {κ : Kx} {ad : Nat → Nat} {sh sp : Nat} {tl : List Ent} {d : Nat} {t : Nat} (C : Cx E κ cX6_filledPlaces RX6 4 (some .int) d) (hd : 1 ≤ d) (ht : isT t) (hsh : isS sh) (hsp : isS sp) {mem : Mem} {q : Int32 × Int32} {x : (Int32 × Int32) ⊕ (Int32 × Int32)} (h : f_X6_filledPlaces_b4 t sh mem q = some x) (hP : (P_X6_filledPlaces_4 E κ ad (LC sh sp ++ tl) t sh mem) x) : Gw E κ 4 0 0 4 [some (.ref (ad 0)), some (.ref (ad t)), some (.int q.1), some (.int q.2)] [] ad (LC sh sp ++ tl) mem := by
  unfold f_X6_filledPlaces_b4 at h
  refine g_iload_n (pc := 4) (i := 3) (x := q.2) C dX6_filledPlaces_4 rfl rfl ?_
  refine g_aload_n (pc := 5) (i := 0) (x := ad 0) C dX6_filledPlaces_5 rfl rfl ?_
  refine g_get (pc := 6) (v := .ref (ad sh)) C ok_X6 1 (by decide) wf_X6_19 dX6_filledPlaces_6 la_0 rfl ?_
  refine g_getN (pc := 9) (v := .int (mem sh 3)) C ok_X5 3 (by decide) nf_X6_97 dX6_filledPlaces_9 (lz_0 hsh) rfl ?_
  rcases ite_some' h with ⟨hc12, h⟩ | ⟨hc12, h⟩
  · refine g_icmp_ge_t (pc := 12) C 36 dX6_filledPlaces_12 (by decide) hc12 ?_
    refine g_mask (lv' := [none, none, some (.int q.1), none]) [false, false, true, false] rfl ?_
    cases h
    exact hP
  · refine g_icmp_ge_f (pc := 12) C 36 dX6_filledPlaces_12 (by decide) hc12 ?_
    refine g_aload_n (pc := 15) (i := 0) (x := ad 0) C dX6_filledPlaces_15 rfl rfl ?_
    refine g_get (pc := 16) (v := .ref (ad sh)) C ok_X6 1 (by decide) wf_X6_19 dX6_filledPlaces_16 la_0 rfl ?_
    refine g_aload_n (pc := 19) (i := 1) (x := ad t) C dX6_filledPlaces_19 rfl rfl ?_
    refine g_iload_n (pc := 20) (i := 3) (x := q.2) C dX6_filledPlaces_20 rfl rfl ?_
    obtain ⟨r21, hcall21, h⟩ := ob_some h
    refine g_callN (pc := 21) C ce0 mi_X5_isFilled mv_X5_isFilled nm_X6_119 dX6_filledPlaces_21 ok_X5 [.ref (ad t), .int q.2] [] (lz_0 hsh) (by omega) rfl rfl (Nat.le_of_ble_eq_true rfl) (m_X5_isFilled (d := d - 1) (by omega) hsh ht hcall21) ?_
    show Gw E κ 4 0 0 24 [some (.ref (ad 0)), some (.ref (ad t)), some (.int q.1), some (.int q.2)] [.int r21] ad (LC sh sp ++ tl) mem
    rcases ite_some' h with ⟨hc24, h⟩ | ⟨hc24, h⟩
    · refine g_if_eq_t (pc := 24) C 30 dX6_filledPlaces_24 (by decide) hc24 ?_
      obtain ⟨v30, hv30, h⟩ := lt_some h
      refine g_iinc (pc := 30) (i := 3) (x := q.2) (v := v30) (lv' := [some (.ref (ad 0)), some (.ref (ad t)), some (.int q.1), some (.int v30)]) C dX6_filledPlaces_30 rfl hv30.symm (by decide) rfl rfl ?_
      refine g_goto (pc := 33) C 4 dX6_filledPlaces_33 (by decide) ?_
      cases h
      exact hP
    · refine g_if_eq_f (pc := 24) C 30 dX6_filledPlaces_24 (by decide) hc24 ?_
      obtain ⟨v27, hv27, h⟩ := lt_some h
      refine g_iinc (pc := 27) (i := 2) (x := q.1) (v := v27) (lv' := [some (.ref (ad 0)), some (.ref (ad t)), some (.int v27), some (.int q.2)]) C dX6_filledPlaces_27 rfl hv27.symm (by decide) rfl rfl ?_
      obtain ⟨v30, hv30, h⟩ := lt_some h
      refine g_iinc (pc := 30) (i := 3) (x := q.2) (v := v30) (lv' := [some (.ref (ad 0)), some (.ref (ad t)), some (.int v27), some (.int v30)]) C dX6_filledPlaces_30 rfl hv30.symm (by decide) rfl rfl ?_
      refine g_goto (pc := 33) C 4 dX6_filledPlaces_33 (by decide) ?_
      cases h
      exact hP
set_option maxRecDepth 100000 in
set_option maxHeartbeats 4000000 in
theorem m_X6_filledPlaces {E : Ex} {ad : Nat → Nat} {sh sp : Nat} {tl : List Ent} {d : Nat} (hd : 1 ≤ d) {t : Nat} (ht : isT t) (hsh : isS sh) (hsp : isS sp)  {mem : Mem} {r : Int32} (h : f_X6_filledPlaces t sh mem = some r) : Cl E yX6_filledPlaces cX6_filledPlaces 4 (some .int) d [.ref (ad 0), .ref (ad t)] (some (.int r)) ad (LC sh sp ++ tl) mem (LC sh sp ++ tl) mem := by
  refine Cl.of [some (.ref (ad 0)), some (.ref (ad t)), none, none] (by decide +kernel) rfl (Nat.le_of_ble_eq_true rfl) (fun κ C hP => ?_)
  have C : Cx E κ cX6_filledPlaces RX6 4 (some .int) d := C
  unfold f_X6_filledPlaces at h
  refine g_iconst (pc := 0) (v := 0) C dX6_filledPlaces_0 rfl ?_
  refine g_istore_n (pc := 1) (i := 2) (lv' := [some (.ref (ad 0)), some (.ref (ad t)), some (.int 0), none]) C dX6_filledPlaces_1 rfl (by decide) rfl rfl ?_
  refine g_iconst (pc := 2) (v := 0) C dX6_filledPlaces_2 rfl ?_
  refine g_istore_n (pc := 3) (i := 3) (lv' := [some (.ref (ad 0)), some (.ref (ad t)), some (.int 0), some (.int 0)]) C dX6_filledPlaces_3 rfl (by decide) rfl rfl ?_
  obtain ⟨q4, hq, h⟩ := ob_some h
  refine lp_gw (P_X6_filledPlaces_4 E κ ad (LC sh sp ++ tl) t sh mem) (fun q x hb hp => b_X6_filledPlaces_4 C hd ht hsh hsp hb hp) _ (0, 0) _ hq ?_
  show Gw E κ 4 0 0 36 [none, none, some (.int q4.1), none] [] ad (LC sh sp ++ tl) mem
  refine g_iload_n (pc := 36) (i := 2) (x := q4.1) C dX6_filledPlaces_36 rfl rfl ?_
  cases h
  exact g_iret (pc := 37) C hP rfl rfl dX6_filledPlaces_37

theorem dX6_weeks_0 : decode cX6_weeks 0 = .ok (.iload_n 1, 1) := by decide +kernel
theorem dX6_weeks_1 : decode cX6_weeks 1 = .ok (.ifCond .lt 30, 3) := by decide +kernel
theorem dX6_weeks_4 : decode cX6_weeks 4 = .ok (.iload_n 1, 1) := by decide +kernel
theorem dX6_weeks_5 : decode cX6_weeks 5 = .ok (.sipush 9999, 3) := by decide +kernel
theorem dX6_weeks_8 : decode cX6_weeks 8 = .ok (.if_icmp .gt 23, 3) := by decide +kernel
theorem dX6_weeks_11 : decode cX6_weeks 11 = .ok (.iload_n 2, 1) := by decide +kernel
theorem dX6_weeks_12 : decode cX6_weeks 12 = .ok (.iconst 1, 1) := by decide +kernel
theorem dX6_weeks_13 : decode cX6_weeks 13 = .ok (.if_icmp .lt 18, 3) := by decide +kernel
theorem dX6_weeks_16 : decode cX6_weeks 16 = .ok (.iload_n 2, 1) := by decide +kernel
theorem dX6_weeks_17 : decode cX6_weeks 17 = .ok (.bipush 40, 2) := by decide +kernel
theorem dX6_weeks_19 : decode cX6_weeks 19 = .ok (.if_icmp .gt 12, 3) := by decide +kernel
theorem dX6_weeks_22 : decode cX6_weeks 22 = .ok (.iload_n 3, 1) := by decide +kernel
theorem dX6_weeks_23 : decode cX6_weeks 23 = .ok (.ifCond .lt 8, 3) := by decide +kernel
theorem dX6_weeks_26 : decode cX6_weeks 26 = .ok (.iload_n 3, 1) := by decide +kernel
theorem dX6_weeks_27 : decode cX6_weeks 27 = .ok (.iconst 1, 1) := by decide +kernel
theorem dX6_weeks_28 : decode cX6_weeks 28 = .ok (.if_icmp .le 5, 3) := by decide +kernel
theorem dX6_weeks_31 : decode cX6_weeks 31 = .ok (.iconst (-1), 1) := by decide +kernel
theorem dX6_weeks_32 : decode cX6_weeks 32 = .ok (.ireturn, 1) := by decide +kernel
theorem dX6_weeks_33 : decode cX6_weeks 33 = .ok (.iconst 0, 1) := by decide +kernel
theorem dX6_weeks_34 : decode cX6_weeks 34 = .ok (.istore 4, 2) := by decide +kernel
theorem dX6_weeks_36 : decode cX6_weeks 36 = .ok (.aload_n 0, 1) := by decide +kernel
theorem dX6_weeks_37 : decode cX6_weeks 37 = .ok (.getfield 33, 3) := by decide +kernel
theorem dX6_weeks_40 : decode cX6_weeks 40 = .ok (.aload_n 0, 1) := by decide +kernel
theorem dX6_weeks_41 : decode cX6_weeks 41 = .ok (.getfield 29, 3) := by decide +kernel
theorem dX6_weeks_44 : decode cX6_weeks 44 = .ok (.invokevirtual 188, 3) := by decide +kernel
theorem dX6_weeks_47 : decode cX6_weeks 47 = .ok (.iconst 0, 1) := by decide +kernel
theorem dX6_weeks_48 : decode cX6_weeks 48 = .ok (.istore 5, 2) := by decide +kernel
theorem dX6_weeks_50 : decode cX6_weeks 50 = .ok (.iload 5, 2) := by decide +kernel
theorem dX6_weeks_52 : decode cX6_weeks 52 = .ok (.iload_n 2, 1) := by decide +kernel
theorem dX6_weeks_53 : decode cX6_weeks 53 = .ok (.if_icmp .ge 41, 3) := by decide +kernel
theorem dX6_weeks_56 : decode cX6_weeks 56 = .ok (.aload_n 0, 1) := by decide +kernel
theorem dX6_weeks_57 : decode cX6_weeks 57 = .ok (.iload_n 1, 1) := by decide +kernel
theorem dX6_weeks_58 : decode cX6_weeks 58 = .ok (.iload 5, 2) := by decide +kernel
theorem dX6_weeks_60 : decode cX6_weeks 60 = .ok (.invokestatic 258, 3) := by decide +kernel
theorem dX6_weeks_63 : decode cX6_weeks 63 = .ok (.invokevirtual 261, 3) := by decide +kernel
theorem dX6_weeks_66 : decode cX6_weeks 66 = .ok (.iload 4, 2) := by decide +kernel
theorem dX6_weeks_68 : decode cX6_weeks 68 = .ok (.aload_n 0, 1) := by decide +kernel
theorem dX6_weeks_69 : decode cX6_weeks 69 = .ok (.getfield 39, 3) := by decide +kernel
theorem dX6_weeks_72 : decode cX6_weeks 72 = .ok (.aload_n 0, 1) := by decide +kernel
theorem dX6_weeks_73 : decode cX6_weeks 73 = .ok (.getfield 19, 3) := by decide +kernel
theorem dX6_weeks_76 : decode cX6_weeks 76 = .ok (.aload_n 0, 1) := by decide +kernel
theorem dX6_weeks_77 : decode cX6_weeks 77 = .ok (.getfield 33, 3) := by decide +kernel
theorem dX6_weeks_80 : decode cX6_weeks 80 = .ok (.bipush 63, 2) := by decide +kernel
theorem dX6_weeks_82 : decode cX6_weeks 82 = .ok (.invokevirtual 162, 3) := by decide +kernel
theorem dX6_weeks_85 : decode cX6_weeks 85 = .ok (.iadd, 1) := by decide +kernel
theorem dX6_weeks_86 : decode cX6_weeks 86 = .ok (.istore 4, 2) := by decide +kernel
theorem dX6_weeks_88 : decode cX6_weeks 88 = .ok (.iinc 5 1, 3) := by decide +kernel
theorem dX6_weeks_91 : decode cX6_weeks 91 = .ok (.goto (-41), 3) := by decide +kernel
theorem dX6_weeks_94 : decode cX6_weeks 94 = .ok (.iload_n 3, 1) := by decide +kernel
theorem dX6_weeks_95 : decode cX6_weeks 95 = .ok (.ifCond .ne 14, 3) := by decide +kernel
theorem dX6_weeks_98 : decode cX6_weeks 98 = .ok (.aload_n 0, 1) := by decide +kernel
theorem dX6_weeks_99 : decode cX6_weeks 99 = .ok (.aload_n 0, 1) := by decide +kernel
theorem dX6_weeks_100 : decode cX6_weeks 100 = .ok (.getfield 33, 3) := by decide +kernel
theorem dX6_weeks_103 : decode cX6_weeks 103 = .ok (.invokevirtual 264, 3) := by decide +kernel
theorem dX6_weeks_106 : decode cX6_weeks 106 = .ok (.goto 5, 3) := by decide +kernel
theorem dX6_weeks_109 : decode cX6_weeks 109 = .ok (.iload 4, 2) := by decide +kernel
theorem dX6_weeks_111 : decode cX6_weeks 111 = .ok (.ireturn, 1) := by decide +kernel
noncomputable def f_X6_weeks_b50 (sh : Nat) (l1 : Int32) (l2 : Int32) (l3 : Int32) (q : Int32 × Int32 × Mem) : Option ((Int32 × Int32 × Mem) ⊕ (Int32 × Int32 × Mem)) :=
  if l2 ≤ q.2.1 then (some (.inr (q.1, q.2.1, q.2.2))) else (ob (f_X6_drawOf l1 q.2.1) fun r60 => ob (f_X6_applyDraw sh r60 q.2.2) fun m63 => ob2 (f_X3_hold sh 35 63 m63) fun r82 m82 => lt' (q.1 + r82) fun v86 => lt' (q.2.1 + 1) fun v88 => some (.inl (v86, v88, m82)))
noncomputable def f_X6_weeks (sh : Nat) (l1 : Int32) (l2 : Int32) (l3 : Int32) (mem : Mem) : Option (Int32 × Mem) :=
  if l1 < 0 then (some ((-1), mem)) else (if 9999 < l1 then (some ((-1), mem)) else (if l2 < 1 then (some ((-1), mem)) else (if 40 < l2 then (some ((-1), mem)) else (if l3 < 0 then (some ((-1), mem)) else (if l3 ≤ 1 then (ob (f_X0_copy 35 31 mem) fun m44 => ob (lp (f_X6_weeks_b50 sh l1 l2 l3) FU (0, 0, m44)) fun q50 => if l3 = 0 then (ob (f_X6_filledPlaces 35 sh q50.2.2) fun r103 => some (r103, q50.2.2)) else (some (q50.1, q50.2.2))) else (some ((-1), mem)))))))
def P_X6_weeks_50 (E : Ex) (κ : Kx) (ad : Nat → Nat) (lay : List Ent) (sh : Nat) (l1 : Int32) (l2 : Int32) (l3 : Int32) : (Int32 × Int32 × Mem) ⊕ (Int32 × Int32 × Mem) → Prop
  | .inl q => Gw E κ 6 0 0 50 [some (.ref (ad 0)), some (.int l1), some (.int l2), some (.int l3), some (.int q.1), some (.int q.2.1)] [] ad lay q.2.2
  | .inr q => Gw E κ 6 0 0 94 [some (.ref (ad 0)), none, none, some (.int l3), some (.int q.1), none] [] ad lay q.2.2
set_option maxRecDepth 100000 in
set_option maxHeartbeats 4000000 in
theorem b_X6_weeks_50 {E : Ex} {κ : Kx} {ad : Nat → Nat} {sh sp : Nat} {tl : List Ent} {d : Nat} (C : Cx E κ cX6_weeks RX6 6 (some .int) d) (hd : 5 ≤ d) (hsh : isS sh) (hsp : isS sp) {l1 : Int32} {l2 : Int32} {l3 : Int32} {q : Int32 × Int32 × Mem} {x : (Int32 × Int32 × Mem) ⊕ (Int32 × Int32 × Mem)} (h : f_X6_weeks_b50 sh l1 l2 l3 q = some x) (hP : (P_X6_weeks_50 E κ ad (LC sh sp ++ tl) sh l1 l2 l3) x) : Gw E κ 6 0 0 50 [some (.ref (ad 0)), some (.int l1), some (.int l2), some (.int l3), some (.int q.1), some (.int q.2.1)] [] ad (LC sh sp ++ tl) q.2.2 := by
  unfold f_X6_weeks_b50 at h
  refine g_iload (pc := 50) (i := 5) (x := q.2.1) C dX6_weeks_50 rfl ?_
  refine g_iload_n (pc := 52) (i := 2) (x := l2) C dX6_weeks_52 rfl rfl ?_
  rcases ite_some' h with ⟨hc53, h⟩ | ⟨hc53, h⟩
  · refine g_icmp_ge_t (pc := 53) C 94 dX6_weeks_53 (by decide) hc53 ?_
    refine g_mask (lv' := [some (.ref (ad 0)), none, none, some (.int l3), some (.int q.1), none]) [true, false, false, true, true, false] rfl ?_
    cases h
    exact hP
  · refine g_icmp_ge_f (pc := 53) C 94 dX6_weeks_53 (by decide) hc53 ?_
    refine g_aload_n (pc := 56) (i := 0) (x := ad 0) C dX6_weeks_56 rfl rfl ?_
    refine g_iload_n (pc := 57) (i := 1) (x := l1) C dX6_weeks_57 rfl rfl ?_
    refine g_iload (pc := 58) (i := 5) (x := q.2.1) C dX6_weeks_58 rfl ?_
    obtain ⟨r60, hcall60, h⟩ := ob_some h
    refine g_callS (pc := 60) C ce0 mi_X6_drawOf ms_X6_drawOf wm_X6_258 dX6_weeks_60 [.int l1, .int q.2.1] [.ref (ad 0)] (by omega) rfl rfl (Nat.le_of_ble_eq_true rfl) (m_X6_drawOf (d := d - 1) (by omega)  hcall60) ?_
    show Gw E κ 6 0 0 63 [some (.ref (ad 0)), some (.int l1), some (.int l2), some (.int l3), some (.int q.1), some (.int q.2.1)] [.int r60, .ref (ad 0)] ad (LC sh sp ++ tl) q.2.2
    obtain ⟨m63, hcall63, h⟩ := ob_some h
    refine g_callV (pc := 63) C ce0 mi_X6_applyDraw mv_X6_applyDraw wm_X6_261 dX6_weeks_63 ok_X6 [.int r60] [] la_0 (by omega) rfl rfl (Nat.le_of_ble_eq_true rfl) (m_X6_applyDraw (d := d - 1) (by omega) hsh hsp hcall63) ?_
    show Gw E κ 6 0 0 66 [some (.ref (ad 0)), some (.int l1), some (.int l2), some (.int l3), some (.int q.1), some (.int q.2.1)] [] ad (LC sh sp ++ tl) m63
    refine g_iload (pc := 66) (i := 4) (x := q.1) C dX6_weeks_66 rfl ?_
    refine g_aload_n (pc := 68) (i := 0) (x := ad 0) C dX6_weeks_68 rfl rfl ?_
    refine g_get (pc := 69) (v := .ref (ad 39)) C ok_X6 5 (by decide) wf_X6_39 dX6_weeks_69 la_0 rfl ?_
    refine g_aload_n (pc := 72) (i := 0) (x := ad 0) C dX6_weeks_72 rfl rfl ?_
    refine g_get (pc := 73) (v := .ref (ad sh)) C ok_X6 1 (by decide) wf_X6_19 dX6_weeks_73 la_0 rfl ?_
    refine g_aload_n (pc := 76) (i := 0) (x := ad 0) C dX6_weeks_76 rfl rfl ?_
    refine g_get (pc := 77) (v := .ref (ad 35)) C ok_X6 4 (by decide) wf_X6_33 dX6_weeks_77 la_0 rfl ?_
    refine g_bipush (pc := 80) (v := 63) C dX6_weeks_80 rfl ?_
    obtain ⟨r82, m82, hcall82, h⟩ := ob2_some h
    refine g_callN (pc := 82) C ce0 mi_X3_hold mv_X3_hold nm_X6_162 dX6_weeks_82 ok_X3 [.ref (ad sh), .ref (ad 35), .int 63] [.int q.1] la_39 (by omega) rfl rfl (Nat.le_of_ble_eq_true rfl) (m_X3_hold (d := d - 1) (by omega) hsh t_35 hcall82) ?_
    show Gw E κ 6 0 0 85 [some (.ref (ad 0)), some (.int l1), some (.int l2), some (.int l3), some (.int q.1), some (.int q.2.1)] [.int r82, .int q.1] ad (LC sh sp ++ tl) m82
    refine g_iadd (pc := 85) C dX6_weeks_85 ?_
    obtain ⟨v86, hv86, h⟩ := lt_some h
    refine g_topi hv86 ?_
    refine g_istore (pc := 86) (i := 4) (lv' := [some (.ref (ad 0)), some (.int l1), some (.int l2), some (.int l3), some (.int v86), some (.int q.2.1)]) C dX6_weeks_86 (by decide) rfl rfl ?_
    obtain ⟨v88, hv88, h⟩ := lt_some h
    refine g_iinc (pc := 88) (i := 5) (x := q.2.1) (v := v88) (lv' := [some (.ref (ad 0)), some (.int l1), some (.int l2), some (.int l3), some (.int v86), some (.int v88)]) C dX6_weeks_88 rfl hv88.symm (by decide) rfl rfl ?_
    refine g_goto (pc := 91) C 50 dX6_weeks_91 (by decide) ?_
    cases h
    exact hP
set_option maxRecDepth 100000 in
set_option maxHeartbeats 4000000 in
theorem m_X6_weeks {E : Ex} {ad : Nat → Nat} {sh sp : Nat} {tl : List Ent} {d : Nat} (hd : 5 ≤ d) (hsh : isS sh) (hsp : isS sp) {l1 : Int32} {l2 : Int32} {l3 : Int32} {mem : Mem} {r : Int32 × Mem} (h : f_X6_weeks sh l1 l2 l3 mem = some r) : Cl E yX6_weeks cX6_weeks 6 (some .int) d [.ref (ad 0), .int l1, .int l2, .int l3] (some (.int r.1)) ad (LC sh sp ++ tl) mem (LC sh sp ++ tl) r.2 := by
  refine Cl.of [some (.ref (ad 0)), some (.int l1), some (.int l2), some (.int l3), none, none] (by decide +kernel) rfl (Nat.le_of_ble_eq_true rfl) (fun κ C hP => ?_)
  have C : Cx E κ cX6_weeks RX6 6 (some .int) d := C
  unfold f_X6_weeks at h
  refine g_iload_n (pc := 0) (i := 1) (x := l1) C dX6_weeks_0 rfl rfl ?_
  rcases ite_some' h with ⟨hc1, h⟩ | ⟨hc1, h⟩
  · refine g_if_lt_t (pc := 1) C 31 dX6_weeks_1 (by decide) hc1 ?_
    refine g_iconst (pc := 31) (v := (-1)) C dX6_weeks_31 rfl ?_
    cases h
    exact g_iret (pc := 32) C hP rfl rfl dX6_weeks_32
  · refine g_if_lt_f (pc := 1) C 31 dX6_weeks_1 (by decide) hc1 ?_
    refine g_iload_n (pc := 4) (i := 1) (x := l1) C dX6_weeks_4 rfl rfl ?_
    refine g_sipush (pc := 5) (v := 9999) C dX6_weeks_5 rfl ?_
    rcases ite_some' h with ⟨hc8, h⟩ | ⟨hc8, h⟩
    · refine g_icmp_gt_t (pc := 8) C 31 dX6_weeks_8 (by decide) hc8 ?_
      refine g_iconst (pc := 31) (v := (-1)) C dX6_weeks_31 rfl ?_
      cases h
      exact g_iret (pc := 32) C hP rfl rfl dX6_weeks_32
    · refine g_icmp_gt_f (pc := 8) C 31 dX6_weeks_8 (by decide) hc8 ?_
      refine g_iload_n (pc := 11) (i := 2) (x := l2) C dX6_weeks_11 rfl rfl ?_
      refine g_iconst (pc := 12) (v := 1) C dX6_weeks_12 rfl ?_
      rcases ite_some' h with ⟨hc13, h⟩ | ⟨hc13, h⟩
      · refine g_icmp_lt_t (pc := 13) C 31 dX6_weeks_13 (by decide) hc13 ?_
        refine g_iconst (pc := 31) (v := (-1)) C dX6_weeks_31 rfl ?_
        cases h
        exact g_iret (pc := 32) C hP rfl rfl dX6_weeks_32
      · refine g_icmp_lt_f (pc := 13) C 31 dX6_weeks_13 (by decide) hc13 ?_
        refine g_iload_n (pc := 16) (i := 2) (x := l2) C dX6_weeks_16 rfl rfl ?_
        refine g_bipush (pc := 17) (v := 40) C dX6_weeks_17 rfl ?_
        rcases ite_some' h with ⟨hc19, h⟩ | ⟨hc19, h⟩
        · refine g_icmp_gt_t (pc := 19) C 31 dX6_weeks_19 (by decide) hc19 ?_
          refine g_iconst (pc := 31) (v := (-1)) C dX6_weeks_31 rfl ?_
          cases h
          exact g_iret (pc := 32) C hP rfl rfl dX6_weeks_32
        · refine g_icmp_gt_f (pc := 19) C 31 dX6_weeks_19 (by decide) hc19 ?_
          refine g_iload_n (pc := 22) (i := 3) (x := l3) C dX6_weeks_22 rfl rfl ?_
          rcases ite_some' h with ⟨hc23, h⟩ | ⟨hc23, h⟩
          · refine g_if_lt_t (pc := 23) C 31 dX6_weeks_23 (by decide) hc23 ?_
            refine g_iconst (pc := 31) (v := (-1)) C dX6_weeks_31 rfl ?_
            cases h
            exact g_iret (pc := 32) C hP rfl rfl dX6_weeks_32
          · refine g_if_lt_f (pc := 23) C 31 dX6_weeks_23 (by decide) hc23 ?_
            refine g_iload_n (pc := 26) (i := 3) (x := l3) C dX6_weeks_26 rfl rfl ?_
            refine g_iconst (pc := 27) (v := 1) C dX6_weeks_27 rfl ?_
            rcases ite_some' h with ⟨hc28, h⟩ | ⟨hc28, h⟩
            · refine g_icmp_le_t (pc := 28) C 33 dX6_weeks_28 (by decide) hc28 ?_
              refine g_iconst (pc := 33) (v := 0) C dX6_weeks_33 rfl ?_
              refine g_istore (pc := 34) (i := 4) (lv' := [some (.ref (ad 0)), some (.int l1), some (.int l2), some (.int l3), some (.int 0), none]) C dX6_weeks_34 (by decide) rfl rfl ?_
              refine g_aload_n (pc := 36) (i := 0) (x := ad 0) C dX6_weeks_36 rfl rfl ?_
              refine g_get (pc := 37) (v := .ref (ad 35)) C ok_X6 4 (by decide) wf_X6_33 dX6_weeks_37 la_0 rfl ?_
              refine g_aload_n (pc := 40) (i := 0) (x := ad 0) C dX6_weeks_40 rfl rfl ?_
              refine g_get (pc := 41) (v := .ref (ad 31)) C ok_X6 3 (by decide) wf_X6_29 dX6_weeks_41 la_0 rfl ?_
              obtain ⟨m44, hcall44, h⟩ := ob_some h
              refine g_callN (pc := 44) C ce0 mi_X0_copy mv_X0_copy nm_X6_188 dX6_weeks_44 ok_X0 [.ref (ad 31)] [] la_35 (by omega) rfl rfl (Nat.le_of_ble_eq_true rfl) (m_X0_copy (d := d - 1) (by omega) t_35 t_31 hcall44) ?_
              show Gw E κ 6 0 0 47 [some (.ref (ad 0)), some (.int l1), some (.int l2), some (.int l3), some (.int 0), none] [] ad (LC sh sp ++ tl) m44
              refine g_iconst (pc := 47) (v := 0) C dX6_weeks_47 rfl ?_
              refine g_istore (pc := 48) (i := 5) (lv' := [some (.ref (ad 0)), some (.int l1), some (.int l2), some (.int l3), some (.int 0), some (.int 0)]) C dX6_weeks_48 (by decide) rfl rfl ?_
              obtain ⟨q50, hq, h⟩ := ob_some h
              refine lp_gw (P_X6_weeks_50 E κ ad (LC sh sp ++ tl) sh l1 l2 l3) (fun q x hb hp => b_X6_weeks_50 C hd hsh hsp hb hp) _ (0, 0, m44) _ hq ?_
              show Gw E κ 6 0 0 94 [some (.ref (ad 0)), none, none, some (.int l3), some (.int q50.1), none] [] ad (LC sh sp ++ tl) q50.2.2
              refine g_iload_n (pc := 94) (i := 3) (x := l3) C dX6_weeks_94 rfl rfl ?_
              rcases ite_some' h with ⟨hc95, h⟩ | ⟨hc95, h⟩
              · refine g_if_ne_f (pc := 95) C 109 dX6_weeks_95 (by decide) hc95 ?_
                refine g_aload_n (pc := 98) (i := 0) (x := ad 0) C dX6_weeks_98 rfl rfl ?_
                refine g_aload_n (pc := 99) (i := 0) (x := ad 0) C dX6_weeks_99 rfl rfl ?_
                refine g_get (pc := 100) (v := .ref (ad 35)) C ok_X6 4 (by decide) wf_X6_33 dX6_weeks_100 la_0 rfl ?_
                obtain ⟨r103, hcall103, h⟩ := ob_some h
                refine g_callV (pc := 103) C ce0 mi_X6_filledPlaces mv_X6_filledPlaces wm_X6_264 dX6_weeks_103 ok_X6 [.ref (ad 35)] [] la_0 (by omega) rfl rfl (Nat.le_of_ble_eq_true rfl) (m_X6_filledPlaces (d := d - 1) (by omega) t_35 hsh hsp hcall103) ?_
                show Gw E κ 6 0 0 106 [some (.ref (ad 0)), none, none, some (.int l3), some (.int q50.1), none] [.int r103] ad (LC sh sp ++ tl) q50.2.2
                refine g_goto (pc := 106) C 111 dX6_weeks_106 (by decide) ?_
                cases h
                exact g_iret (pc := 111) C hP rfl rfl dX6_weeks_111
              · refine g_if_ne_t (pc := 95) C 109 dX6_weeks_95 (by decide) hc95 ?_
                refine g_iload (pc := 109) (i := 4) (x := q50.1) C dX6_weeks_109 rfl ?_
                cases h
                exact g_iret (pc := 111) C hP rfl rfl dX6_weeks_111
            · refine g_icmp_le_f (pc := 28) C 33 dX6_weeks_28 (by decide) hc28 ?_
              refine g_iconst (pc := 31) (v := (-1)) C dX6_weeks_31 rfl ?_
              cases h
              exact g_iret (pc := 32) C hP rfl rfl dX6_weeks_32

theorem dX6_keep_0 : decode cX6_keep 0 = .ok (.aload_n 0, 1) := by decide +kernel
theorem dX6_keep_1 : decode cX6_keep 1 = .ok (.getfield 59, 3) := by decide +kernel
theorem dX6_keep_4 : decode cX6_keep 4 = .ok (.getfield 185, 3) := by decide +kernel
theorem dX6_keep_7 : decode cX6_keep 7 = .ok (.iconst 2, 1) := by decide +kernel
theorem dX6_keep_8 : decode cX6_keep 8 = .ok (.if_icmp .lt 6, 3) := by decide +kernel
theorem dX6_keep_11 : decode cX6_keep 11 = .ok (.bipush (-3), 2) := by decide +kernel
theorem dX6_keep_13 : decode cX6_keep 13 = .ok (.ireturn, 1) := by decide +kernel
theorem dX6_keep_14 : decode cX6_keep 14 = .ok (.aload_n 0, 1) := by decide +kernel
theorem dX6_keep_15 : decode cX6_keep 15 = .ok (.getfield 59, 3) := by decide +kernel
theorem dX6_keep_18 : decode cX6_keep 18 = .ok (.aload_n 0, 1) := by decide +kernel
theorem dX6_keep_19 : decode cX6_keep 19 = .ok (.getfield 29, 3) := by decide +kernel
theorem dX6_keep_22 : decode cX6_keep 22 = .ok (.invokevirtual 158, 3) := by decide +kernel
theorem dX6_keep_25 : decode cX6_keep 25 = .ok (.aload_n 0, 1) := by decide +kernel
theorem dX6_keep_26 : decode cX6_keep 26 = .ok (.getfield 59, 3) := by decide +kernel
theorem dX6_keep_29 : decode cX6_keep 29 = .ok (.getfield 185, 3) := by decide +kernel
theorem dX6_keep_32 : decode cX6_keep 32 = .ok (.ireturn, 1) := by decide +kernel
noncomputable def f_X6_keep  (mem : Mem) : Option (Int32 × Mem) :=
  if (mem 56 4) < 2 then (ob (f_X1_push_K 31 mem) fun m22 => lt' (m22 56 4) fun v32 => some (v32, m22)) else (some ((-3), mem))
set_option maxRecDepth 100000 in
set_option maxHeartbeats 4000000 in
theorem m_X6_keep {E : Ex} {ad : Nat → Nat} {sh sp : Nat} {tl : List Ent} {d : Nat} (hd : 4 ≤ d) (hsh : isS sh) (hsp : isS sp)  {mem : Mem} {r : Int32 × Mem} (h : f_X6_keep mem = some r) : Cl E yX6_keep cX6_keep 1 (some .int) d [.ref (ad 0)] (some (.int r.1)) ad (LC sh sp ++ tl) mem (LC sh sp ++ tl) r.2 := by
  refine Cl.of [some (.ref (ad 0))] (by decide +kernel) rfl (Nat.le_of_ble_eq_true rfl) (fun κ C hP => ?_)
  have C : Cx E κ cX6_keep RX6 1 (some .int) d := C
  unfold f_X6_keep at h
  refine g_aload_n (pc := 0) (i := 0) (x := ad 0) C dX6_keep_0 rfl rfl ?_
  refine g_get (pc := 1) (v := .ref (ad 56)) C ok_X6 8 (by decide) wf_X6_59 dX6_keep_1 la_0 rfl ?_
  refine g_getN (pc := 4) (v := .int (mem 56 4)) C ok_X1 4 (by decide) nf_X6_185 dX6_keep_4 la_56 rfl ?_
  refine g_iconst (pc := 7) (v := 2) C dX6_keep_7 rfl ?_
  rcases ite_some' h with ⟨hc8, h⟩ | ⟨hc8, h⟩
  · refine g_icmp_lt_t (pc := 8) C 14 dX6_keep_8 (by decide) hc8 ?_
    refine g_aload_n (pc := 14) (i := 0) (x := ad 0) C dX6_keep_14 rfl rfl ?_
    refine g_get (pc := 15) (v := .ref (ad 56)) C ok_X6 8 (by decide) wf_X6_59 dX6_keep_15 la_0 rfl ?_
    refine g_aload_n (pc := 18) (i := 0) (x := ad 0) C dX6_keep_18 rfl rfl ?_
    refine g_get (pc := 19) (v := .ref (ad 31)) C ok_X6 3 (by decide) wf_X6_29 dX6_keep_19 la_0 rfl ?_
    obtain ⟨m22, hcall22, h⟩ := ob_some h
    refine g_callN (pc := 22) C ce0 mi_X1_push mv_X1_push nm_X6_158 dX6_keep_22 ok_X1 [.ref (ad 31)] [] la_56 (by omega) rfl rfl (Nat.le_of_ble_eq_true rfl) (m_X1_push_K (d := d - 1) (by omega) t_31 hcall22) ?_
    show Gw E κ 1 0 0 25 [some (.ref (ad 0))] [] ad (LC sh sp ++ tl) m22
    refine g_aload_n (pc := 25) (i := 0) (x := ad 0) C dX6_keep_25 rfl rfl ?_
    refine g_get (pc := 26) (v := .ref (ad 56)) C ok_X6 8 (by decide) wf_X6_59 dX6_keep_26 la_0 rfl ?_
    refine g_getN (pc := 29) (v := .int (m22 56 4)) C ok_X1 4 (by decide) nf_X6_185 dX6_keep_29 la_56 rfl ?_
    obtain ⟨v32, hv32, h⟩ := lt_some h
    refine g_topi hv32 ?_
    cases h
    exact g_iret (pc := 32) C hP rfl rfl dX6_keep_32
  · refine g_icmp_lt_f (pc := 8) C 14 dX6_keep_8 (by decide) hc8 ?_
    refine g_bipush (pc := 11) (v := (-3)) C dX6_keep_11 rfl ?_
    cases h
    exact g_iret (pc := 13) C hP rfl rfl dX6_keep_13

theorem dX6_back_0 : decode cX6_back 0 = .ok (.aload_n 0, 1) := by decide +kernel
theorem dX6_back_1 : decode cX6_back 1 = .ok (.getfield 59, 3) := by decide +kernel
theorem dX6_back_4 : decode cX6_back 4 = .ok (.aload_n 0, 1) := by decide +kernel
theorem dX6_back_5 : decode cX6_back 5 = .ok (.getfield 29, 3) := by decide +kernel
theorem dX6_back_8 : decode cX6_back 8 = .ok (.invokevirtual 181, 3) := by decide +kernel
theorem dX6_back_11 : decode cX6_back 11 = .ok (.ifCond .ne 6, 3) := by decide +kernel
theorem dX6_back_14 : decode cX6_back 14 = .ok (.bipush (-2), 2) := by decide +kernel
theorem dX6_back_16 : decode cX6_back 16 = .ok (.ireturn, 1) := by decide +kernel
theorem dX6_back_17 : decode cX6_back 17 = .ok (.aload_n 0, 1) := by decide +kernel
theorem dX6_back_18 : decode cX6_back 18 = .ok (.getfield 55, 3) := by decide +kernel
theorem dX6_back_21 : decode cX6_back 21 = .ok (.iconst 0, 1) := by decide +kernel
theorem dX6_back_22 : decode cX6_back 22 = .ok (.putfield 185, 3) := by decide +kernel
theorem dX6_back_25 : decode cX6_back 25 = .ok (.aload_n 0, 1) := by decide +kernel
theorem dX6_back_26 : decode cX6_back 26 = .ok (.getfield 59, 3) := by decide +kernel
theorem dX6_back_29 : decode cX6_back 29 = .ok (.getfield 185, 3) := by decide +kernel
theorem dX6_back_32 : decode cX6_back 32 = .ok (.ireturn, 1) := by decide +kernel
noncomputable def f_X6_back  (mem : Mem) : Option (Int32 × Mem) :=
  ob2 (f_X1_pop_K 31 mem) fun r8 m8 => if r8 = 0 then (some ((-2), m8)) else (lt' (mset m8 52 4 0) fun m22 => lt' (m22 56 4) fun v32 => some (v32, m22))
set_option maxRecDepth 100000 in
set_option maxHeartbeats 4000000 in
theorem m_X6_back {E : Ex} {ad : Nat → Nat} {sh sp : Nat} {tl : List Ent} {d : Nat} (hd : 3 ≤ d) (hsh : isS sh) (hsp : isS sp)  {mem : Mem} {r : Int32 × Mem} (h : f_X6_back mem = some r) : Cl E yX6_back cX6_back 1 (some .int) d [.ref (ad 0)] (some (.int r.1)) ad (LC sh sp ++ tl) mem (LC sh sp ++ tl) r.2 := by
  refine Cl.of [some (.ref (ad 0))] (by decide +kernel) rfl (Nat.le_of_ble_eq_true rfl) (fun κ C hP => ?_)
  have C : Cx E κ cX6_back RX6 1 (some .int) d := C
  unfold f_X6_back at h
  refine g_aload_n (pc := 0) (i := 0) (x := ad 0) C dX6_back_0 rfl rfl ?_
  refine g_get (pc := 1) (v := .ref (ad 56)) C ok_X6 8 (by decide) wf_X6_59 dX6_back_1 la_0 rfl ?_
  refine g_aload_n (pc := 4) (i := 0) (x := ad 0) C dX6_back_4 rfl rfl ?_
  refine g_get (pc := 5) (v := .ref (ad 31)) C ok_X6 3 (by decide) wf_X6_29 dX6_back_5 la_0 rfl ?_
  obtain ⟨r8, m8, hcall8, h⟩ := ob2_some h
  refine g_callN (pc := 8) C ce0 mi_X1_pop mv_X1_pop nm_X6_181 dX6_back_8 ok_X1 [.ref (ad 31)] [] la_56 (by omega) rfl rfl (Nat.le_of_ble_eq_true rfl) (m_X1_pop_K (d := d - 1) (by omega) t_31 hcall8) ?_
  show Gw E κ 1 0 0 11 [some (.ref (ad 0))] [.int r8] ad (LC sh sp ++ tl) m8
  rcases ite_some' h with ⟨hc11, h⟩ | ⟨hc11, h⟩
  · refine g_if_ne_f (pc := 11) C 17 dX6_back_11 (by decide) hc11 ?_
    refine g_bipush (pc := 14) (v := (-2)) C dX6_back_14 rfl ?_
    cases h
    exact g_iret (pc := 16) C hP rfl rfl dX6_back_16
  · refine g_if_ne_t (pc := 11) C 17 dX6_back_11 (by decide) hc11 ?_
    refine g_aload_n (pc := 17) (i := 0) (x := ad 0) C dX6_back_17 rfl rfl ?_
    refine g_get (pc := 18) (v := .ref (ad 52)) C ok_X6 7 (by decide) wf_X6_55 dX6_back_18 la_0 rfl ?_
    refine g_iconst (pc := 21) (v := 0) C dX6_back_21 rfl ?_
    obtain ⟨m22, hm22, h⟩ := lt_some h
    refine g_putN (pc := 22) C ok_X1 4 (by decide) nf_X6_185 dX6_back_22 rfl rfl la_52 ?_
    refine g_mem hm22 ?_
    refine g_aload_n (pc := 25) (i := 0) (x := ad 0) C dX6_back_25 rfl rfl ?_
    refine g_get (pc := 26) (v := .ref (ad 56)) C ok_X6 8 (by decide) wf_X6_59 dX6_back_26 la_0 rfl ?_
    refine g_getN (pc := 29) (v := .int (m22 56 4)) C ok_X1 4 (by decide) nf_X6_185 dX6_back_29 la_56 rfl ?_
    obtain ⟨v32, hv32, h⟩ := lt_some h
    refine g_topi hv32 ?_
    cases h
    exact g_iret (pc := 32) C hP rfl rfl dX6_back_32

theorem dX6_count_0 : decode cX6_count 0 = .ok (.iload_n 1, 1) := by decide +kernel
theorem dX6_count_1 : decode cX6_count 1 = .ok (.tableswitch 132 0 9 #[55, 63, 71, 79, 87, 95, 103, 108, 116, 124], 55) := by decide +kernel
theorem dX6_count_56 : decode cX6_count 56 = .ok (.aload_n 0, 1) := by decide +kernel
theorem dX6_count_57 : decode cX6_count 57 = .ok (.getfield 19, 3) := by decide +kernel
theorem dX6_count_60 : decode cX6_count 60 = .ok (.invokevirtual 268, 3) := by decide +kernel
theorem dX6_count_63 : decode cX6_count 63 = .ok (.ireturn, 1) := by decide +kernel
theorem dX6_count_64 : decode cX6_count 64 = .ok (.aload_n 0, 1) := by decide +kernel
theorem dX6_count_65 : decode cX6_count 65 = .ok (.getfield 19, 3) := by decide +kernel
theorem dX6_count_68 : decode cX6_count 68 = .ok (.getfield 271, 3) := by decide +kernel
theorem dX6_count_71 : decode cX6_count 71 = .ok (.ireturn, 1) := by decide +kernel
theorem dX6_count_72 : decode cX6_count 72 = .ok (.aload_n 0, 1) := by decide +kernel
theorem dX6_count_73 : decode cX6_count 73 = .ok (.getfield 19, 3) := by decide +kernel
theorem dX6_count_76 : decode cX6_count 76 = .ok (.getfield 97, 3) := by decide +kernel
theorem dX6_count_79 : decode cX6_count 79 = .ok (.ireturn, 1) := by decide +kernel
theorem dX6_count_80 : decode cX6_count 80 = .ok (.aload_n 0, 1) := by decide +kernel
theorem dX6_count_81 : decode cX6_count 81 = .ok (.getfield 19, 3) := by decide +kernel
theorem dX6_count_84 : decode cX6_count 84 = .ok (.getfield 231, 3) := by decide +kernel
theorem dX6_count_87 : decode cX6_count 87 = .ok (.ireturn, 1) := by decide +kernel
theorem dX6_count_88 : decode cX6_count 88 = .ok (.aload_n 0, 1) := by decide +kernel
theorem dX6_count_89 : decode cX6_count 89 = .ok (.getfield 19, 3) := by decide +kernel
theorem dX6_count_92 : decode cX6_count 92 = .ok (.getfield 215, 3) := by decide +kernel
theorem dX6_count_95 : decode cX6_count 95 = .ok (.ireturn, 1) := by decide +kernel
theorem dX6_count_96 : decode cX6_count 96 = .ok (.aload_n 0, 1) := by decide +kernel
theorem dX6_count_97 : decode cX6_count 97 = .ok (.getfield 29, 3) := by decide +kernel
theorem dX6_count_100 : decode cX6_count 100 = .ok (.invokevirtual 274, 3) := by decide +kernel
theorem dX6_count_103 : decode cX6_count 103 = .ok (.ireturn, 1) := by decide +kernel
theorem dX6_count_104 : decode cX6_count 104 = .ok (.aload_n 0, 1) := by decide +kernel
theorem dX6_count_105 : decode cX6_count 105 = .ok (.getfield 228, 3) := by decide +kernel
theorem dX6_count_108 : decode cX6_count 108 = .ok (.ireturn, 1) := by decide +kernel
theorem dX6_count_109 : decode cX6_count 109 = .ok (.aload_n 0, 1) := by decide +kernel
theorem dX6_count_110 : decode cX6_count 110 = .ok (.getfield 55, 3) := by decide +kernel
theorem dX6_count_113 : decode cX6_count 113 = .ok (.getfield 185, 3) := by decide +kernel
theorem dX6_count_116 : decode cX6_count 116 = .ok (.ireturn, 1) := by decide +kernel
theorem dX6_count_117 : decode cX6_count 117 = .ok (.aload_n 0, 1) := by decide +kernel
theorem dX6_count_118 : decode cX6_count 118 = .ok (.getfield 59, 3) := by decide +kernel
theorem dX6_count_121 : decode cX6_count 121 = .ok (.getfield 185, 3) := by decide +kernel
theorem dX6_count_124 : decode cX6_count 124 = .ok (.ireturn, 1) := by decide +kernel
theorem dX6_count_125 : decode cX6_count 125 = .ok (.aload_n 0, 1) := by decide +kernel
theorem dX6_count_126 : decode cX6_count 126 = .ok (.getfield 12, 3) := by decide +kernel
theorem dX6_count_129 : decode cX6_count 129 = .ok (.getfield 90, 3) := by decide +kernel
theorem dX6_count_132 : decode cX6_count 132 = .ok (.ireturn, 1) := by decide +kernel
theorem dX6_count_133 : decode cX6_count 133 = .ok (.iconst (-1), 1) := by decide +kernel
theorem dX6_count_134 : decode cX6_count 134 = .ok (.ireturn, 1) := by decide +kernel
noncomputable def f_X6_count (sh : Nat) (l1 : Int32) (mem : Mem) : Option (Int32) :=
  if l1 = 0 then (ob (f_X5_squareCount sh mem) fun r60 => some r60) else (if l1 = 1 then (lt' (mem sh 0) fun v71 => some v71) else (if l1 = 2 then (lt' (mem sh 3) fun v79 => some v79) else (if l1 = 3 then (lt' (mem sh 7) fun v87 => some v87) else (if l1 = 4 then (lt' (mem sh 12) fun v95 => some v95) else (if l1 = 5 then (ob (f_X0_standing 31 mem) fun r100 => some r100) else (if l1 = 6 then (lt' (mem 0 11) fun v108 => some v108) else (if l1 = 7 then (lt' (mem 52 4) fun v116 => some v116) else (if l1 = 8 then (lt' (mem 56 4) fun v124 => some v124) else (if l1 = 9 then (lt' (mem 1 1) fun v132 => some v132) else (some ((-1))))))))))))
set_option maxRecDepth 100000 in
set_option maxHeartbeats 4000000 in
theorem m_X6_count {E : Ex} {ad : Nat → Nat} {sh sp : Nat} {tl : List Ent} {d : Nat} (hd : 1 ≤ d) (hsh : isS sh) (hsp : isS sp) {l1 : Int32} {mem : Mem} {r : Int32} (h : f_X6_count sh l1 mem = some r) : Cl E yX6_count cX6_count 2 (some .int) d [.ref (ad 0), .int l1] (some (.int r)) ad (LC sh sp ++ tl) mem (LC sh sp ++ tl) mem := by
  refine Cl.of [some (.ref (ad 0)), some (.int l1)] (by decide +kernel) rfl (Nat.le_of_ble_eq_true rfl) (fun κ C hP => ?_)
  have C : Cx E κ cX6_count RX6 2 (some .int) d := C
  unfold f_X6_count at h
  refine g_iload_n (pc := 0) (i := 1) (x := l1) C dX6_count_0 rfl rfl ?_
  rcases ite_some' h with ⟨hc1_0, h⟩ | ⟨hc1_0, h⟩
  · refine g_tsw (pc := 1) (n := 0) C 0 56 hc1_0 rfl dX6_count_1 (by decide) (by decide) rfl (by decide) ?_
    refine g_aload_n (pc := 56) (i := 0) (x := ad 0) C dX6_count_56 rfl rfl ?_
    refine g_get (pc := 57) (v := .ref (ad sh)) C ok_X6 1 (by decide) wf_X6_19 dX6_count_57 la_0 rfl ?_
    obtain ⟨r60, hcall60, h⟩ := ob_some h
    refine g_callN (pc := 60) C ce0 mi_X5_squareCount mv_X5_squareCount nm_X6_268 dX6_count_60 ok_X5 [] [] (lz_0 hsh) (by omega) rfl rfl (Nat.le_of_ble_eq_true rfl) (m_X5_squareCount (d := d - 1) (by omega) hsh hcall60) ?_
    show Gw E κ 2 0 0 63 [some (.ref (ad 0)), some (.int l1)] [.int r60] ad (LC sh sp ++ tl) mem
    cases h
    exact g_iret (pc := 63) C hP rfl rfl dX6_count_63
  · skip
    rcases ite_some' h with ⟨hc1_1, h⟩ | ⟨hc1_1, h⟩
    · refine g_tsw (pc := 1) (n := 1) C 1 64 hc1_1 rfl dX6_count_1 (by decide) (by decide) rfl (by decide) ?_
      refine g_aload_n (pc := 64) (i := 0) (x := ad 0) C dX6_count_64 rfl rfl ?_
      refine g_get (pc := 65) (v := .ref (ad sh)) C ok_X6 1 (by decide) wf_X6_19 dX6_count_65 la_0 rfl ?_
      refine g_getN (pc := 68) (v := .int (mem sh 0)) C ok_X5 0 (by decide) nf_X6_271 dX6_count_68 (lz_0 hsh) rfl ?_
      obtain ⟨v71, hv71, h⟩ := lt_some h
      refine g_topi hv71 ?_
      cases h
      exact g_iret (pc := 71) C hP rfl rfl dX6_count_71
    · skip
      rcases ite_some' h with ⟨hc1_2, h⟩ | ⟨hc1_2, h⟩
      · refine g_tsw (pc := 1) (n := 2) C 2 72 hc1_2 rfl dX6_count_1 (by decide) (by decide) rfl (by decide) ?_
        refine g_aload_n (pc := 72) (i := 0) (x := ad 0) C dX6_count_72 rfl rfl ?_
        refine g_get (pc := 73) (v := .ref (ad sh)) C ok_X6 1 (by decide) wf_X6_19 dX6_count_73 la_0 rfl ?_
        refine g_getN (pc := 76) (v := .int (mem sh 3)) C ok_X5 3 (by decide) nf_X6_97 dX6_count_76 (lz_0 hsh) rfl ?_
        obtain ⟨v79, hv79, h⟩ := lt_some h
        refine g_topi hv79 ?_
        cases h
        exact g_iret (pc := 79) C hP rfl rfl dX6_count_79
      · skip
        rcases ite_some' h with ⟨hc1_3, h⟩ | ⟨hc1_3, h⟩
        · refine g_tsw (pc := 1) (n := 3) C 3 80 hc1_3 rfl dX6_count_1 (by decide) (by decide) rfl (by decide) ?_
          refine g_aload_n (pc := 80) (i := 0) (x := ad 0) C dX6_count_80 rfl rfl ?_
          refine g_get (pc := 81) (v := .ref (ad sh)) C ok_X6 1 (by decide) wf_X6_19 dX6_count_81 la_0 rfl ?_
          refine g_getN (pc := 84) (v := .int (mem sh 7)) C ok_X5 7 (by decide) nf_X6_231 dX6_count_84 (lz_0 hsh) rfl ?_
          obtain ⟨v87, hv87, h⟩ := lt_some h
          refine g_topi hv87 ?_
          cases h
          exact g_iret (pc := 87) C hP rfl rfl dX6_count_87
        · skip
          rcases ite_some' h with ⟨hc1_4, h⟩ | ⟨hc1_4, h⟩
          · refine g_tsw (pc := 1) (n := 4) C 4 88 hc1_4 rfl dX6_count_1 (by decide) (by decide) rfl (by decide) ?_
            refine g_aload_n (pc := 88) (i := 0) (x := ad 0) C dX6_count_88 rfl rfl ?_
            refine g_get (pc := 89) (v := .ref (ad sh)) C ok_X6 1 (by decide) wf_X6_19 dX6_count_89 la_0 rfl ?_
            refine g_getN (pc := 92) (v := .int (mem sh 12)) C ok_X5 12 (by decide) nf_X6_215 dX6_count_92 (lz_0 hsh) rfl ?_
            obtain ⟨v95, hv95, h⟩ := lt_some h
            refine g_topi hv95 ?_
            cases h
            exact g_iret (pc := 95) C hP rfl rfl dX6_count_95
          · skip
            rcases ite_some' h with ⟨hc1_5, h⟩ | ⟨hc1_5, h⟩
            · refine g_tsw (pc := 1) (n := 5) C 5 96 hc1_5 rfl dX6_count_1 (by decide) (by decide) rfl (by decide) ?_
              refine g_aload_n (pc := 96) (i := 0) (x := ad 0) C dX6_count_96 rfl rfl ?_
              refine g_get (pc := 97) (v := .ref (ad 31)) C ok_X6 3 (by decide) wf_X6_29 dX6_count_97 la_0 rfl ?_
              obtain ⟨r100, hcall100, h⟩ := ob_some h
              refine g_callN (pc := 100) C ce0 mi_X0_standing mv_X0_standing nm_X6_274 dX6_count_100 ok_X0 [] [] la_31 (by omega) rfl rfl (Nat.le_of_ble_eq_true rfl) (m_X0_standing (d := d - 1) (by omega) t_31 hcall100) ?_
              show Gw E κ 2 0 0 103 [some (.ref (ad 0)), some (.int l1)] [.int r100] ad (LC sh sp ++ tl) mem
              cases h
              exact g_iret (pc := 103) C hP rfl rfl dX6_count_103
            · skip
              rcases ite_some' h with ⟨hc1_6, h⟩ | ⟨hc1_6, h⟩
              · refine g_tsw (pc := 1) (n := 6) C 6 104 hc1_6 rfl dX6_count_1 (by decide) (by decide) rfl (by decide) ?_
                refine g_aload_n (pc := 104) (i := 0) (x := ad 0) C dX6_count_104 rfl rfl ?_
                refine g_get (pc := 105) (v := .int (mem 0 11)) C ok_X6 11 (by decide) wf_X6_228 dX6_count_105 la_0 rfl ?_
                obtain ⟨v108, hv108, h⟩ := lt_some h
                refine g_topi hv108 ?_
                cases h
                exact g_iret (pc := 108) C hP rfl rfl dX6_count_108
              · skip
                rcases ite_some' h with ⟨hc1_7, h⟩ | ⟨hc1_7, h⟩
                · refine g_tsw (pc := 1) (n := 7) C 7 109 hc1_7 rfl dX6_count_1 (by decide) (by decide) rfl (by decide) ?_
                  refine g_aload_n (pc := 109) (i := 0) (x := ad 0) C dX6_count_109 rfl rfl ?_
                  refine g_get (pc := 110) (v := .ref (ad 52)) C ok_X6 7 (by decide) wf_X6_55 dX6_count_110 la_0 rfl ?_
                  refine g_getN (pc := 113) (v := .int (mem 52 4)) C ok_X1 4 (by decide) nf_X6_185 dX6_count_113 la_52 rfl ?_
                  obtain ⟨v116, hv116, h⟩ := lt_some h
                  refine g_topi hv116 ?_
                  cases h
                  exact g_iret (pc := 116) C hP rfl rfl dX6_count_116
                · skip
                  rcases ite_some' h with ⟨hc1_8, h⟩ | ⟨hc1_8, h⟩
                  · refine g_tsw (pc := 1) (n := 8) C 8 117 hc1_8 rfl dX6_count_1 (by decide) (by decide) rfl (by decide) ?_
                    refine g_aload_n (pc := 117) (i := 0) (x := ad 0) C dX6_count_117 rfl rfl ?_
                    refine g_get (pc := 118) (v := .ref (ad 56)) C ok_X6 8 (by decide) wf_X6_59 dX6_count_118 la_0 rfl ?_
                    refine g_getN (pc := 121) (v := .int (mem 56 4)) C ok_X1 4 (by decide) nf_X6_185 dX6_count_121 la_56 rfl ?_
                    obtain ⟨v124, hv124, h⟩ := lt_some h
                    refine g_topi hv124 ?_
                    cases h
                    exact g_iret (pc := 124) C hP rfl rfl dX6_count_124
                  · skip
                    rcases ite_some' h with ⟨hc1_9, h⟩ | ⟨hc1_9, h⟩
                    · refine g_tsw (pc := 1) (n := 9) C 9 125 hc1_9 rfl dX6_count_1 (by decide) (by decide) rfl (by decide) ?_
                      refine g_aload_n (pc := 125) (i := 0) (x := ad 0) C dX6_count_125 rfl rfl ?_
                      refine g_get (pc := 126) (v := .ref (ad 1)) C ok_X6 0 (by decide) wf_X6_12 dX6_count_126 la_0 rfl ?_
                      refine g_getN (pc := 129) (v := .int (mem 1 1)) C ok_X2 1 (by decide) nf_X6_90 dX6_count_129 la_1 rfl ?_
                      obtain ⟨v132, hv132, h⟩ := lt_some h
                      refine g_topi hv132 ?_
                      cases h
                      exact g_iret (pc := 132) C hP rfl rfl dX6_count_132
                    · skip
                      refine g_tswD (pc := 1) C 133 dX6_count_1 (by have z0 := i32_ne 0 hc1_0 (n := 0) rfl; have z1 := i32_ne 1 hc1_1 (n := 1) rfl; have z2 := i32_ne 2 hc1_2 (n := 2) rfl; have z3 := i32_ne 3 hc1_3 (n := 3) rfl; have z4 := i32_ne 4 hc1_4 (n := 4) rfl; have z5 := i32_ne 5 hc1_5 (n := 5) rfl; have z6 := i32_ne 6 hc1_6 (n := 6) rfl; have z7 := i32_ne 7 hc1_7 (n := 7) rfl; have z8 := i32_ne 8 hc1_8 (n := 8) rfl; have z9 := i32_ne 9 hc1_9 (n := 9) rfl; omega) (by decide) ?_
                      refine g_iconst (pc := 133) (v := (-1)) C dX6_count_133 rfl ?_
                      cases h
                      exact g_iret (pc := 134) C hP rfl rfl dX6_count_134
