theorem dX4_fill_0 : decode cX4_fill 0 = .ok (.iload_n 2, 1) := by decide +kernel
theorem dX4_fill_1 : decode cX4_fill 1 = .ok (.aload_n 1, 1) := by decide +kernel
theorem dX4_fill_2 : decode cX4_fill 2 = .ok (.getfield 43, 3) := by decide +kernel
theorem dX4_fill_5 : decode cX4_fill 5 = .ok (.if_icmp .lt 8, 3) := by decide +kernel
theorem dX4_fill_8 : decode cX4_fill 8 = .ok (.aload_n 0, 1) := by decide +kernel
theorem dX4_fill_9 : decode cX4_fill 9 = .ok (.invokevirtual 48, 3) := by decide +kernel
theorem dX4_fill_12 : decode cX4_fill 12 = .ok (.return_, 1) := by decide +kernel
theorem dX4_fill_13 : decode cX4_fill 13 = .ok (.aload_n 1, 1) := by decide +kernel
theorem dX4_fill_14 : decode cX4_fill 14 = .ok (.aload_n 0, 1) := by decide +kernel
theorem dX4_fill_15 : decode cX4_fill 15 = .ok (.getfield 12, 3) := by decide +kernel
theorem dX4_fill_18 : decode cX4_fill 18 = .ok (.iload_n 2, 1) := by decide +kernel
theorem dX4_fill_19 : decode cX4_fill 19 = .ok (.invokevirtual 51, 3) := by decide +kernel
theorem dX4_fill_22 : decode cX4_fill 22 = .ok (.istore_n 3, 1) := by decide +kernel
theorem dX4_fill_23 : decode cX4_fill 23 = .ok (.aload_n 1, 1) := by decide +kernel
theorem dX4_fill_24 : decode cX4_fill 24 = .ok (.aload_n 0, 1) := by decide +kernel
theorem dX4_fill_25 : decode cX4_fill 25 = .ok (.getfield 12, 3) := by decide +kernel
theorem dX4_fill_28 : decode cX4_fill 28 = .ok (.iload_n 2, 1) := by decide +kernel
theorem dX4_fill_29 : decode cX4_fill 29 = .ok (.invokevirtual 55, 3) := by decide +kernel
theorem dX4_fill_32 : decode cX4_fill 32 = .ok (.istore 4, 2) := by decide +kernel
theorem dX4_fill_34 : decode cX4_fill 34 = .ok (.iconst 0, 1) := by decide +kernel
theorem dX4_fill_35 : decode cX4_fill 35 = .ok (.istore 5, 2) := by decide +kernel
theorem dX4_fill_37 : decode cX4_fill 37 = .ok (.iload 5, 2) := by decide +kernel
theorem dX4_fill_39 : decode cX4_fill 39 = .ok (.aload_n 1, 1) := by decide +kernel
theorem dX4_fill_40 : decode cX4_fill 40 = .ok (.getfield 58, 3) := by decide +kernel
theorem dX4_fill_43 : decode cX4_fill 43 = .ok (.if_icmp .ge 62, 3) := by decide +kernel
theorem dX4_fill_46 : decode cX4_fill 46 = .ok (.iload 4, 2) := by decide +kernel
theorem dX4_fill_48 : decode cX4_fill 48 = .ok (.iload 5, 2) := by decide +kernel
theorem dX4_fill_50 : decode cX4_fill 50 = .ok (.ishr, 1) := by decide +kernel
theorem dX4_fill_51 : decode cX4_fill 51 = .ok (.iconst 1, 1) := by decide +kernel
theorem dX4_fill_52 : decode cX4_fill 52 = .ok (.iand, 1) := by decide +kernel
theorem dX4_fill_53 : decode cX4_fill 53 = .ok (.ifCond .eq 46, 3) := by decide +kernel
theorem dX4_fill_56 : decode cX4_fill 56 = .ok (.aload_n 0, 1) := by decide +kernel
theorem dX4_fill_57 : decode cX4_fill 57 = .ok (.getfield 18, 3) := by decide +kernel
theorem dX4_fill_60 : decode cX4_fill 60 = .ok (.iload_n 2, 1) := by decide +kernel
theorem dX4_fill_61 : decode cX4_fill 61 = .ok (.iload 5, 2) := by decide +kernel
theorem dX4_fill_63 : decode cX4_fill 63 = .ok (.iastore, 1) := by decide +kernel
theorem dX4_fill_64 : decode cX4_fill 64 = .ok (.aload_n 1, 1) := by decide +kernel
theorem dX4_fill_65 : decode cX4_fill 65 = .ok (.aload_n 0, 1) := by decide +kernel
theorem dX4_fill_66 : decode cX4_fill 66 = .ok (.getfield 12, 3) := by decide +kernel
theorem dX4_fill_69 : decode cX4_fill 69 = .ok (.iload_n 2, 1) := by decide +kernel
theorem dX4_fill_70 : decode cX4_fill 70 = .ok (.aload_n 1, 1) := by decide +kernel
theorem dX4_fill_71 : decode cX4_fill 71 = .ok (.getfield 61, 3) := by decide +kernel
theorem dX4_fill_74 : decode cX4_fill 74 = .ok (.iload 5, 2) := by decide +kernel
theorem dX4_fill_76 : decode cX4_fill 76 = .ok (.iaload, 1) := by decide +kernel
theorem dX4_fill_77 : decode cX4_fill 77 = .ok (.invokevirtual 64, 3) := by decide +kernel
theorem dX4_fill_80 : decode cX4_fill 80 = .ok (.aload_n 0, 1) := by decide +kernel
theorem dX4_fill_81 : decode cX4_fill 81 = .ok (.aload_n 1, 1) := by decide +kernel
theorem dX4_fill_82 : decode cX4_fill 82 = .ok (.iload_n 2, 1) := by decide +kernel
theorem dX4_fill_83 : decode cX4_fill 83 = .ok (.iconst 1, 1) := by decide +kernel
theorem dX4_fill_84 : decode cX4_fill 84 = .ok (.iadd, 1) := by decide +kernel
theorem dX4_fill_85 : decode cX4_fill 85 = .ok (.invokevirtual 68, 3) := by decide +kernel
theorem dX4_fill_88 : decode cX4_fill 88 = .ok (.ifCond .eq 11, 3) := by decide +kernel
theorem dX4_fill_91 : decode cX4_fill 91 = .ok (.aload_n 0, 1) := by decide +kernel
theorem dX4_fill_92 : decode cX4_fill 92 = .ok (.aload_n 1, 1) := by decide +kernel
theorem dX4_fill_93 : decode cX4_fill 93 = .ok (.iload_n 2, 1) := by decide +kernel
theorem dX4_fill_94 : decode cX4_fill 94 = .ok (.iconst 1, 1) := by decide +kernel
theorem dX4_fill_95 : decode cX4_fill 95 = .ok (.iadd, 1) := by decide +kernel
theorem dX4_fill_96 : decode cX4_fill 96 = .ok (.invokevirtual 39, 3) := by decide +kernel
theorem dX4_fill_99 : decode cX4_fill 99 = .ok (.iinc 5 1, 3) := by decide +kernel
theorem dX4_fill_102 : decode cX4_fill 102 = .ok (.goto (-65), 3) := by decide +kernel
theorem dX4_fill_105 : decode cX4_fill 105 = .ok (.aload_n 1, 1) := by decide +kernel
theorem dX4_fill_106 : decode cX4_fill 106 = .ok (.aload_n 0, 1) := by decide +kernel
theorem dX4_fill_107 : decode cX4_fill 107 = .ok (.getfield 12, 3) := by decide +kernel
theorem dX4_fill_110 : decode cX4_fill 110 = .ok (.iload_n 2, 1) := by decide +kernel
theorem dX4_fill_111 : decode cX4_fill 111 = .ok (.iload_n 3, 1) := by decide +kernel
theorem dX4_fill_112 : decode cX4_fill 112 = .ok (.invokevirtual 64, 3) := by decide +kernel
theorem dX4_fill_115 : decode cX4_fill 115 = .ok (.return_, 1) := by decide +kernel
noncomputable def f_X4_fill_b37 (s : Nat) (fr : Int32 → Mem → Option Mem) (l2 : Int32) (l3 : Int32) (l4 : Int32) (q : Int32 × Mem) : Option ((Int32 × Mem) ⊕ (Int32 × Mem)) :=
  if (q.2 s 7) ≤ q.1 then (some (.inr (q.1, q.2))) else (if ((l4 >>> (q.1 &&& 31)) &&& 1) = 0 then (lt' (q.1 + 1) fun v99 => some (.inl (v99, q.2))) else (wr q.2 49 8 l2 q.1 fun m63 => rd (m63 (s + 6)) 9 q.1 fun v76 => ob (f_X5_put s 45 l2 v76 m63) fun m77 => ob (f_X4_canGoOn s (l2 + 1) m77) fun r85 => if r85 = 0 then (lt' (q.1 + 1) fun v99 => some (.inl (v99, m77))) else (ob (fr (l2 + 1) m77) fun m96 => lt' (q.1 + 1) fun v99 => some (.inl (v99, m96)))))
noncomputable def f_X4_fill_body (s : Nat) (fr : Int32 → Mem → Option Mem) (l2 : Int32) (mem : Mem) : Option (Mem) :=
  if l2 < (mem s 3) then (ob (f_X5_codeOf s 45 l2 mem) fun r19 => ob (f_X5_agreeing s 45 l2 mem) fun r29 => ob (lp (f_X4_fill_b37 s fr l2 r19 r29) FU (0, mem)) fun q37 => ob (f_X5_put s 45 l2 r19 q37.2) fun m112 => some m112) else (ob (f_X4_record mem) fun m9 => some m9)
def P_X4_fill_37 (E : Ex) (κ : Kx) (ad : Nat → Nat) (lay : List Ent) (s : Nat) (fr : Int32 → Mem → Option Mem) (l2 : Int32) (l3 : Int32) (l4 : Int32) : (Int32 × Mem) ⊕ (Int32 × Mem) → Prop
  | .inl q => Gw E κ 6 0 0 37 [some (.ref (ad 44)), some (.ref (ad s)), some (.int l2), some (.int l3), some (.int l4), some (.int q.1)] [] ad lay q.2
  | .inr q => Gw E κ 6 0 0 105 [some (.ref (ad 44)), some (.ref (ad s)), some (.int l2), some (.int l3), none, none] [] ad lay q.2
set_option maxRecDepth 100000 in
set_option maxHeartbeats 4000000 in
theorem b_X4_fill_37 {E : Ex} {κ : Kx} {ad : Nat → Nat} {sh sp : Nat} {tl : List Ent} {d : Nat} {s : Nat} {fr : Int32 → Mem → Option Mem} (C : Cx E κ cX4_fill RX4 6 none d) (hd : 3 ≤ d) (hs : isS s) (hfr : ∀ (p : Int32) (m r : Mem), fr p m = some r → Cl E yX4_fill cX4_fill 6 none (d - 1) [.ref (ad 44), .ref (ad s), .int p] none ad (LC sh sp ++ tl) m (LC sh sp ++ tl) r) {l2 : Int32} {l3 : Int32} {l4 : Int32} {q : Int32 × Mem} {x : (Int32 × Mem) ⊕ (Int32 × Mem)} (h : f_X4_fill_b37 s fr l2 l3 l4 q = some x) (hP : (P_X4_fill_37 E κ ad (LC sh sp ++ tl) s fr l2 l3 l4) x) : Gw E κ 6 0 0 37 [some (.ref (ad 44)), some (.ref (ad s)), some (.int l2), some (.int l3), some (.int l4), some (.int q.1)] [] ad (LC sh sp ++ tl) q.2 := by
  unfold f_X4_fill_b37 at h
  refine g_iload (pc := 37) (i := 5) (x := q.1) C dX4_fill_37 rfl ?_
  refine g_aload_n (pc := 39) (i := 1) (x := ad s) C dX4_fill_39 rfl rfl ?_
  refine g_getN (pc := 40) (v := .int (q.2 s 7)) C ok_X5 7 (by decide) nf_X4_58 dX4_fill_40 (lz_0 hs) rfl ?_
  rcases ite_some' h with ⟨hc43, h⟩ | ⟨hc43, h⟩
  · refine g_icmp_ge_t (pc := 43) C 105 dX4_fill_43 (by decide) hc43 ?_
    refine g_mask (lv' := [some (.ref (ad 44)), some (.ref (ad s)), some (.int l2), some (.int l3), none, none]) [true, true, true, true, false, false] rfl ?_
    cases h
    exact hP
  · refine g_icmp_ge_f (pc := 43) C 105 dX4_fill_43 (by decide) hc43 ?_
    refine g_iload (pc := 46) (i := 4) (x := l4) C dX4_fill_46 rfl ?_
    refine g_iload (pc := 48) (i := 5) (x := q.1) C dX4_fill_48 rfl ?_
    refine g_ishr (pc := 50) C dX4_fill_50 ?_
    refine g_iconst (pc := 51) (v := 1) C dX4_fill_51 rfl ?_
    refine g_iand (pc := 52) C dX4_fill_52 ?_
    rcases ite_some' h with ⟨hc53, h⟩ | ⟨hc53, h⟩
    · refine g_if_eq_t (pc := 53) C 99 dX4_fill_53 (by decide) hc53 ?_
      obtain ⟨v99, hv99, h⟩ := lt_some h
      refine g_iinc (pc := 99) (i := 5) (x := q.1) (v := v99) (lv' := [some (.ref (ad 44)), some (.ref (ad s)), some (.int l2), some (.int l3), some (.int l4), some (.int v99)]) C dX4_fill_99 rfl hv99.symm (by decide) rfl rfl ?_
      refine g_goto (pc := 102) C 37 dX4_fill_102 (by decide) ?_
      cases h
      exact hP
    · refine g_if_eq_f (pc := 53) C 99 dX4_fill_53 (by decide) hc53 ?_
      refine g_aload_n (pc := 56) (i := 0) (x := ad 44) C dX4_fill_56 rfl rfl ?_
      refine g_get (pc := 57) (v := .ref (ad 49)) C ok_X4 1 (by decide) wf_X4_18 dX4_fill_57 la_44 rfl ?_
      refine g_iload_n (pc := 60) (i := 2) (x := l2) C dX4_fill_60 rfl rfl ?_
      refine g_iload (pc := 61) (i := 5) (x := q.1) C dX4_fill_61 rfl ?_
      obtain ⟨m63, hm63, hi63, h⟩ := wr_some h
      refine g_iast (pc := 63) C dX4_fill_63 la_49 hi63 ?_
      refine g_mem hm63 ?_
      refine g_aload_n (pc := 64) (i := 1) (x := ad s) C dX4_fill_64 rfl rfl ?_
      refine g_aload_n (pc := 65) (i := 0) (x := ad 44) C dX4_fill_65 rfl rfl ?_
      refine g_get (pc := 66) (v := .ref (ad 45)) C ok_X4 0 (by decide) wf_X4_12 dX4_fill_66 la_44 rfl ?_
      refine g_iload_n (pc := 69) (i := 2) (x := l2) C dX4_fill_69 rfl rfl ?_
      refine g_aload_n (pc := 70) (i := 1) (x := ad s) C dX4_fill_70 rfl rfl ?_
      refine g_getN (pc := 71) (v := .ref (ad (s + 6))) C ok_X5 9 (by decide) nf_X4_61 dX4_fill_71 (lz_0 hs) rfl ?_
      refine g_iload (pc := 74) (i := 5) (x := q.1) C dX4_fill_74 rfl ?_
      obtain ⟨v76, hv76, hi76, h⟩ := rd_some h
      refine g_iald (pc := 76) C dX4_fill_76 (lz_6 hs) hi76 ?_
      refine g_topi hv76 ?_
      obtain ⟨m77, hcall77, h⟩ := ob_some h
      refine g_callN (pc := 77) C ce0 mi_X5_put mv_X5_put nm_X4_64 dX4_fill_77 ok_X5 [.ref (ad 45), .int l2, .int v76] [] (lz_0 hs) (by omega) rfl rfl (Nat.le_of_ble_eq_true rfl) (m_X5_put (d := d - 1) (by omega) hs t_45 hcall77) ?_
      show Gw E κ 6 0 0 80 [some (.ref (ad 44)), some (.ref (ad s)), some (.int l2), some (.int l3), some (.int l4), some (.int q.1)] [] ad (LC sh sp ++ tl) m77
      refine g_aload_n (pc := 80) (i := 0) (x := ad 44) C dX4_fill_80 rfl rfl ?_
      refine g_aload_n (pc := 81) (i := 1) (x := ad s) C dX4_fill_81 rfl rfl ?_
      refine g_iload_n (pc := 82) (i := 2) (x := l2) C dX4_fill_82 rfl rfl ?_
      refine g_iconst (pc := 83) (v := 1) C dX4_fill_83 rfl ?_
      refine g_iadd (pc := 84) C dX4_fill_84 ?_
      obtain ⟨r85, hcall85, h⟩ := ob_some h
      refine g_callV (pc := 85) C ce0 mi_X4_canGoOn mv_X4_canGoOn wm_X4_68 dX4_fill_85 ok_X4 [.ref (ad s), .int (l2 + 1)] [] la_44 (by omega) rfl rfl (Nat.le_of_ble_eq_true rfl) (m_X4_canGoOn (d := d - 1) (by omega) hs hcall85) ?_
      show Gw E κ 6 0 0 88 [some (.ref (ad 44)), some (.ref (ad s)), some (.int l2), some (.int l3), some (.int l4), some (.int q.1)] [.int r85] ad (LC sh sp ++ tl) m77
      rcases ite_some' h with ⟨hc88, h⟩ | ⟨hc88, h⟩
      · refine g_if_eq_t (pc := 88) C 99 dX4_fill_88 (by decide) hc88 ?_
        obtain ⟨v99, hv99, h⟩ := lt_some h
        refine g_iinc (pc := 99) (i := 5) (x := q.1) (v := v99) (lv' := [some (.ref (ad 44)), some (.ref (ad s)), some (.int l2), some (.int l3), some (.int l4), some (.int v99)]) C dX4_fill_99 rfl hv99.symm (by decide) rfl rfl ?_
        refine g_goto (pc := 102) C 37 dX4_fill_102 (by decide) ?_
        cases h
        exact hP
      · refine g_if_eq_f (pc := 88) C 99 dX4_fill_88 (by decide) hc88 ?_
        refine g_aload_n (pc := 91) (i := 0) (x := ad 44) C dX4_fill_91 rfl rfl ?_
        refine g_aload_n (pc := 92) (i := 1) (x := ad s) C dX4_fill_92 rfl rfl ?_
        refine g_iload_n (pc := 93) (i := 2) (x := l2) C dX4_fill_93 rfl rfl ?_
        refine g_iconst (pc := 94) (v := 1) C dX4_fill_94 rfl ?_
        refine g_iadd (pc := 95) C dX4_fill_95 ?_
        obtain ⟨m96, hcall96, h⟩ := ob_some h
        refine g_callV (pc := 96) C ce0 mi_X4_fill mv_X4_fill wm_X4_39 dX4_fill_96 ok_X4 [.ref (ad s), .int (l2 + 1)] [] la_44 (by omega) rfl rfl (Nat.le_of_ble_eq_true rfl) (hfr _ _ _ hcall96) ?_
        show Gw E κ 6 0 0 99 [some (.ref (ad 44)), some (.ref (ad s)), some (.int l2), some (.int l3), some (.int l4), some (.int q.1)] [] ad (LC sh sp ++ tl) m96
        obtain ⟨v99, hv99, h⟩ := lt_some h
        refine g_iinc (pc := 99) (i := 5) (x := q.1) (v := v99) (lv' := [some (.ref (ad 44)), some (.ref (ad s)), some (.int l2), some (.int l3), some (.int l4), some (.int v99)]) C dX4_fill_99 rfl hv99.symm (by decide) rfl rfl ?_
        refine g_goto (pc := 102) C 37 dX4_fill_102 (by decide) ?_
        cases h
        exact hP
set_option maxRecDepth 100000 in
set_option maxHeartbeats 4000000 in
theorem m_X4_fill_body {E : Ex} {ad : Nat → Nat} {sh sp : Nat} {tl : List Ent} {d : Nat} (hd : 3 ≤ d) {s : Nat} {fr : Int32 → Mem → Option Mem} (hs : isS s) (hfr : ∀ (p : Int32) (m r : Mem), fr p m = some r → Cl E yX4_fill cX4_fill 6 none (d - 1) [.ref (ad 44), .ref (ad s), .int p] none ad (LC sh sp ++ tl) m (LC sh sp ++ tl) r) {l2 : Int32} {mem : Mem} {r : Mem} (h : f_X4_fill_body s fr l2 mem = some r) : Cl E yX4_fill cX4_fill 6 none d [.ref (ad 44), .ref (ad s), .int l2] none ad (LC sh sp ++ tl) mem (LC sh sp ++ tl) r := by
  refine Cl.of [some (.ref (ad 44)), some (.ref (ad s)), some (.int l2), none, none, none] (by decide +kernel) rfl (Nat.le_of_ble_eq_true rfl) (fun κ C hP => ?_)
  have C : Cx E κ cX4_fill RX4 6 none d := C
  unfold f_X4_fill_body at h
  refine g_iload_n (pc := 0) (i := 2) (x := l2) C dX4_fill_0 rfl rfl ?_
  refine g_aload_n (pc := 1) (i := 1) (x := ad s) C dX4_fill_1 rfl rfl ?_
  refine g_getN (pc := 2) (v := .int (mem s 3)) C ok_X5 3 (by decide) nf_X4_43 dX4_fill_2 (lz_0 hs) rfl ?_
  rcases ite_some' h with ⟨hc5, h⟩ | ⟨hc5, h⟩
  · refine g_icmp_lt_t (pc := 5) C 13 dX4_fill_5 (by decide) hc5 ?_
    refine g_aload_n (pc := 13) (i := 1) (x := ad s) C dX4_fill_13 rfl rfl ?_
    refine g_aload_n (pc := 14) (i := 0) (x := ad 44) C dX4_fill_14 rfl rfl ?_
    refine g_get (pc := 15) (v := .ref (ad 45)) C ok_X4 0 (by decide) wf_X4_12 dX4_fill_15 la_44 rfl ?_
    refine g_iload_n (pc := 18) (i := 2) (x := l2) C dX4_fill_18 rfl rfl ?_
    obtain ⟨r19, hcall19, h⟩ := ob_some h
    refine g_callN (pc := 19) C ce0 mi_X5_codeOf mv_X5_codeOf nm_X4_51 dX4_fill_19 ok_X5 [.ref (ad 45), .int l2] [] (lz_0 hs) (by omega) rfl rfl (Nat.le_of_ble_eq_true rfl) (m_X5_codeOf (d := d - 1) (by omega) hs t_45 hcall19) ?_
    show Gw E κ 6 0 0 22 [some (.ref (ad 44)), some (.ref (ad s)), some (.int l2), none, none, none] [.int r19] ad (LC sh sp ++ tl) mem
    refine g_istore_n (pc := 22) (i := 3) (lv' := [some (.ref (ad 44)), some (.ref (ad s)), some (.int l2), some (.int r19), none, none]) C dX4_fill_22 rfl (by decide) rfl rfl ?_
    refine g_aload_n (pc := 23) (i := 1) (x := ad s) C dX4_fill_23 rfl rfl ?_
    refine g_aload_n (pc := 24) (i := 0) (x := ad 44) C dX4_fill_24 rfl rfl ?_
    refine g_get (pc := 25) (v := .ref (ad 45)) C ok_X4 0 (by decide) wf_X4_12 dX4_fill_25 la_44 rfl ?_
    refine g_iload_n (pc := 28) (i := 2) (x := l2) C dX4_fill_28 rfl rfl ?_
    obtain ⟨r29, hcall29, h⟩ := ob_some h
    refine g_callN (pc := 29) C ce0 mi_X5_agreeing mv_X5_agreeing nm_X4_55 dX4_fill_29 ok_X5 [.ref (ad 45), .int l2] [] (lz_0 hs) (by omega) rfl rfl (Nat.le_of_ble_eq_true rfl) (m_X5_agreeing (d := d - 1) (by omega) hs t_45 hcall29) ?_
    show Gw E κ 6 0 0 32 [some (.ref (ad 44)), some (.ref (ad s)), some (.int l2), some (.int r19), none, none] [.int r29] ad (LC sh sp ++ tl) mem
    refine g_istore (pc := 32) (i := 4) (lv' := [some (.ref (ad 44)), some (.ref (ad s)), some (.int l2), some (.int r19), some (.int r29), none]) C dX4_fill_32 (by decide) rfl rfl ?_
    refine g_iconst (pc := 34) (v := 0) C dX4_fill_34 rfl ?_
    refine g_istore (pc := 35) (i := 5) (lv' := [some (.ref (ad 44)), some (.ref (ad s)), some (.int l2), some (.int r19), some (.int r29), some (.int 0)]) C dX4_fill_35 (by decide) rfl rfl ?_
    obtain ⟨q37, hq, h⟩ := ob_some h
    refine lp_gw (P_X4_fill_37 E κ ad (LC sh sp ++ tl) s fr l2 r19 r29) (fun q x hb hp => b_X4_fill_37 C hd hs hfr hb hp) _ (0, mem) _ hq ?_
    show Gw E κ 6 0 0 105 [some (.ref (ad 44)), some (.ref (ad s)), some (.int l2), some (.int r19), none, none] [] ad (LC sh sp ++ tl) q37.2
    refine g_aload_n (pc := 105) (i := 1) (x := ad s) C dX4_fill_105 rfl rfl ?_
    refine g_aload_n (pc := 106) (i := 0) (x := ad 44) C dX4_fill_106 rfl rfl ?_
    refine g_get (pc := 107) (v := .ref (ad 45)) C ok_X4 0 (by decide) wf_X4_12 dX4_fill_107 la_44 rfl ?_
    refine g_iload_n (pc := 110) (i := 2) (x := l2) C dX4_fill_110 rfl rfl ?_
    refine g_iload_n (pc := 111) (i := 3) (x := r19) C dX4_fill_111 rfl rfl ?_
    obtain ⟨m112, hcall112, h⟩ := ob_some h
    refine g_callN (pc := 112) C ce0 mi_X5_put mv_X5_put nm_X4_64 dX4_fill_112 ok_X5 [.ref (ad 45), .int l2, .int r19] [] (lz_0 hs) (by omega) rfl rfl (Nat.le_of_ble_eq_true rfl) (m_X5_put (d := d - 1) (by omega) hs t_45 hcall112) ?_
    show Gw E κ 6 0 0 115 [some (.ref (ad 44)), some (.ref (ad s)), some (.int l2), some (.int r19), none, none] [] ad (LC sh sp ++ tl) m112
    cases h
    exact g_vret (pc := 115) C hP rfl dX4_fill_115
  · refine g_icmp_lt_f (pc := 5) C 13 dX4_fill_5 (by decide) hc5 ?_
    refine g_aload_n (pc := 8) (i := 0) (x := ad 44) C dX4_fill_8 rfl rfl ?_
    obtain ⟨m9, hcall9, h⟩ := ob_some h
    refine g_callV (pc := 9) C ce0 mi_X4_record mv_X4_record wm_X4_48 dX4_fill_9 ok_X4 [] [] la_44 (by omega) rfl rfl (Nat.le_of_ble_eq_true rfl) (m_X4_record (d := d - 1) (by omega)  hcall9) ?_
    show Gw E κ 6 0 0 12 [some (.ref (ad 44)), some (.ref (ad s)), some (.int l2), none, none, none] [] ad (LC sh sp ++ tl) m9
    cases h
    exact g_vret (pc := 12) C hP rfl dX4_fill_12
noncomputable def f_X4_fill (s : Nat) : Nat → Int32 → Mem → Option Mem
  | 0 => fun _ _ => none
  | n + 1 => f_X4_fill_body s (f_X4_fill s n)
theorem m_X4_fill {E : Ex} {ad : Nat → Nat} {sh sp : Nat} {tl : List Ent}  : ∀ (n d : Nat), 3 + n ≤ d → ∀ {s : Nat} (hs : isS s) (p : Int32) (mem r : Mem), f_X4_fill s n p mem = some r → Cl E yX4_fill cX4_fill 6 none d [.ref (ad 44), .ref (ad s), .int p] none ad (LC sh sp ++ tl) mem (LC sh sp ++ tl) r := by
  intro n
  induction n with
  | zero => intro d hd s hs p mem r h; cases h
  | succ n ih => intro d hd s hs p mem r h; exact m_X4_fill_body (fr := f_X4_fill s n) (by omega) hs (fun p m r h => ih (d - 1) (by omega) hs p m r h) h

theorem dX4_run_0 : decode cX4_run 0 = .ok (.aload_n 0, 1) := by decide +kernel
theorem dX4_run_1 : decode cX4_run 1 = .ok (.getfield 12, 3) := by decide +kernel
theorem dX4_run_4 : decode cX4_run 4 = .ok (.aload_n 2, 1) := by decide +kernel
theorem dX4_run_5 : decode cX4_run 5 = .ok (.invokevirtual 28, 3) := by decide +kernel
theorem dX4_run_8 : decode cX4_run 8 = .ok (.aload_n 0, 1) := by decide +kernel
theorem dX4_run_9 : decode cX4_run 9 = .ok (.iconst 0, 1) := by decide +kernel
theorem dX4_run_10 : decode cX4_run 10 = .ok (.putfield 32, 3) := by decide +kernel
theorem dX4_run_13 : decode cX4_run 13 = .ok (.aload_n 0, 1) := by decide +kernel
theorem dX4_run_14 : decode cX4_run 14 = .ok (.iconst 0, 1) := by decide +kernel
theorem dX4_run_15 : decode cX4_run 15 = .ok (.putfield 36, 3) := by decide +kernel
theorem dX4_run_18 : decode cX4_run 18 = .ok (.aload_n 0, 1) := by decide +kernel
theorem dX4_run_19 : decode cX4_run 19 = .ok (.aload_n 1, 1) := by decide +kernel
theorem dX4_run_20 : decode cX4_run 20 = .ok (.iconst 0, 1) := by decide +kernel
theorem dX4_run_21 : decode cX4_run 21 = .ok (.invokevirtual 39, 3) := by decide +kernel
theorem dX4_run_24 : decode cX4_run 24 = .ok (.return_, 1) := by decide +kernel
noncomputable def f_X4_run (s t : Nat)  (mem : Mem) : Option (Mem) :=
  ob (f_X0_copy 45 t mem) fun m5 => lt' (mset m5 44 4 0) fun m10 => lt' (mset m10 44 5 0) fun m15 => ob (f_X4_fill s 10 0 m15) fun m21 => some m21
set_option maxRecDepth 100000 in
set_option maxHeartbeats 4000000 in
theorem m_X4_run {E : Ex} {ad : Nat → Nat} {sh sp : Nat} {tl : List Ent} {d : Nat} (hd : 14 ≤ d) {s t : Nat} (hs : isS s) (ht : isT t)  {mem : Mem} {r : Mem} (h : f_X4_run s t mem = some r) : Cl E yX4_run cX4_run 3 none d [.ref (ad 44), .ref (ad s), .ref (ad t)] none ad (LC sh sp ++ tl) mem (LC sh sp ++ tl) r := by
  refine Cl.of [some (.ref (ad 44)), some (.ref (ad s)), some (.ref (ad t))] (by decide +kernel) rfl (Nat.le_of_ble_eq_true rfl) (fun κ C hP => ?_)
  have C : Cx E κ cX4_run RX4 3 none d := C
  unfold f_X4_run at h
  refine g_aload_n (pc := 0) (i := 0) (x := ad 44) C dX4_run_0 rfl rfl ?_
  refine g_get (pc := 1) (v := .ref (ad 45)) C ok_X4 0 (by decide) wf_X4_12 dX4_run_1 la_44 rfl ?_
  refine g_aload_n (pc := 4) (i := 2) (x := ad t) C dX4_run_4 rfl rfl ?_
  obtain ⟨m5, hcall5, h⟩ := ob_some h
  refine g_callN (pc := 5) C ce0 mi_X0_copy mv_X0_copy nm_X4_28 dX4_run_5 ok_X0 [.ref (ad t)] [] la_45 (by omega) rfl rfl (Nat.le_of_ble_eq_true rfl) (m_X0_copy (d := d - 1) (by omega) t_45 ht hcall5) ?_
  show Gw E κ 3 0 0 8 [some (.ref (ad 44)), some (.ref (ad s)), some (.ref (ad t))] [] ad (LC sh sp ++ tl) m5
  refine g_aload_n (pc := 8) (i := 0) (x := ad 44) C dX4_run_8 rfl rfl ?_
  refine g_iconst (pc := 9) (v := 0) C dX4_run_9 rfl ?_
  obtain ⟨m10, hm10, h⟩ := lt_some h
  refine g_put (pc := 10) C ok_X4 4 (by decide) wf_X4_32 dX4_run_10 rfl rfl la_44 ?_
  refine g_mem hm10 ?_
  refine g_aload_n (pc := 13) (i := 0) (x := ad 44) C dX4_run_13 rfl rfl ?_
  refine g_iconst (pc := 14) (v := 0) C dX4_run_14 rfl ?_
  obtain ⟨m15, hm15, h⟩ := lt_some h
  refine g_put (pc := 15) C ok_X4 5 (by decide) wf_X4_36 dX4_run_15 rfl rfl la_44 ?_
  refine g_mem hm15 ?_
  refine g_aload_n (pc := 18) (i := 0) (x := ad 44) C dX4_run_18 rfl rfl ?_
  refine g_aload_n (pc := 19) (i := 1) (x := ad s) C dX4_run_19 rfl rfl ?_
  refine g_iconst (pc := 20) (v := 0) C dX4_run_20 rfl ?_
  obtain ⟨m21, hcall21, h⟩ := ob_some h
  refine g_callV (pc := 21) C ce0 mi_X4_fill mv_X4_fill wm_X4_39 dX4_run_21 ok_X4 [.ref (ad s), .int 0] [] la_44 (by omega) rfl rfl (Nat.le_of_ble_eq_true rfl) (m_X4_fill 10 (d - 1) (by omega) hs _ _ _ hcall21) ?_
  show Gw E κ 3 0 0 24 [some (.ref (ad 44)), some (.ref (ad s)), some (.ref (ad t))] [] ad (LC sh sp ++ tl) m21
  cases h
  exact g_vret (pc := 24) C hP rfl dX4_run_24

theorem dX6_fillings_0 : decode cX6_fillings 0 = .ok (.iload_n 1, 1) := by decide +kernel
theorem dX6_fillings_1 : decode cX6_fillings 1 = .ok (.iconst (-1), 1) := by decide +kernel
theorem dX6_fillings_2 : decode cX6_fillings 2 = .ok (.if_icmp .eq 13, 3) := by decide +kernel
theorem dX6_fillings_5 : decode cX6_fillings 5 = .ok (.aload_n 0, 1) := by decide +kernel
theorem dX6_fillings_6 : decode cX6_fillings 6 = .ok (.iload_n 1, 1) := by decide +kernel
theorem dX6_fillings_7 : decode cX6_fillings 7 = .ok (.invokevirtual 107, 3) := by decide +kernel
theorem dX6_fillings_10 : decode cX6_fillings 10 = .ok (.ifCond .ne 5, 3) := by decide +kernel
theorem dX6_fillings_13 : decode cX6_fillings 13 = .ok (.iconst (-1), 1) := by decide +kernel
theorem dX6_fillings_14 : decode cX6_fillings 14 = .ok (.ireturn, 1) := by decide +kernel
theorem dX6_fillings_15 : decode cX6_fillings 15 = .ok (.aload_n 0, 1) := by decide +kernel
theorem dX6_fillings_16 : decode cX6_fillings 16 = .ok (.getfield 46, 3) := by decide +kernel
theorem dX6_fillings_19 : decode cX6_fillings 19 = .ok (.aload_n 0, 1) := by decide +kernel
theorem dX6_fillings_20 : decode cX6_fillings 20 = .ok (.getfield 19, 3) := by decide +kernel
theorem dX6_fillings_23 : decode cX6_fillings 23 = .ok (.aload_n 0, 1) := by decide +kernel
theorem dX6_fillings_24 : decode cX6_fillings 24 = .ok (.getfield 29, 3) := by decide +kernel
theorem dX6_fillings_27 : decode cX6_fillings 27 = .ok (.invokevirtual 191, 3) := by decide +kernel
theorem dX6_fillings_30 : decode cX6_fillings 30 = .ok (.iload_n 1, 1) := by decide +kernel
theorem dX6_fillings_31 : decode cX6_fillings 31 = .ok (.iconst (-1), 1) := by decide +kernel
theorem dX6_fillings_32 : decode cX6_fillings 32 = .ok (.if_icmp .ne 11, 3) := by decide +kernel
theorem dX6_fillings_35 : decode cX6_fillings 35 = .ok (.aload_n 0, 1) := by decide +kernel
theorem dX6_fillings_36 : decode cX6_fillings 36 = .ok (.getfield 46, 3) := by decide +kernel
theorem dX6_fillings_39 : decode cX6_fillings 39 = .ok (.getfield 195, 3) := by decide +kernel
theorem dX6_fillings_42 : decode cX6_fillings 42 = .ok (.ireturn, 1) := by decide +kernel
theorem dX6_fillings_43 : decode cX6_fillings 43 = .ok (.aload_n 0, 1) := by decide +kernel
theorem dX6_fillings_44 : decode cX6_fillings 44 = .ok (.getfield 46, 3) := by decide +kernel
theorem dX6_fillings_47 : decode cX6_fillings 47 = .ok (.getfield 195, 3) := by decide +kernel
theorem dX6_fillings_50 : decode cX6_fillings 50 = .ok (.ifCond .le 15, 3) := by decide +kernel
theorem dX6_fillings_53 : decode cX6_fillings 53 = .ok (.aload_n 0, 1) := by decide +kernel
theorem dX6_fillings_54 : decode cX6_fillings 54 = .ok (.getfield 46, 3) := by decide +kernel
theorem dX6_fillings_57 : decode cX6_fillings 57 = .ok (.getfield 198, 3) := by decide +kernel
theorem dX6_fillings_60 : decode cX6_fillings 60 = .ok (.iload_n 1, 1) := by decide +kernel
theorem dX6_fillings_61 : decode cX6_fillings 61 = .ok (.iaload, 1) := by decide +kernel
theorem dX6_fillings_62 : decode cX6_fillings 62 = .ok (.goto 5, 3) := by decide +kernel
theorem dX6_fillings_65 : decode cX6_fillings 65 = .ok (.bipush (-4), 2) := by decide +kernel
theorem dX6_fillings_67 : decode cX6_fillings 67 = .ok (.ireturn, 1) := by decide +kernel
noncomputable def f_X6_fillings_j15 (sh : Nat) (l1 : Int32) (mem : Mem) : Option (Int32 × Mem) :=
  ob (f_X4_run sh 31 mem) fun m27 => if l1 = (-1) then (lt' (m27 44 4) fun v42 => some (v42, m27)) else (if (m27 44 4) ≤ 0 then (some ((-4), m27)) else (rd (m27 50) 8 l1 fun v61 => some (v61, m27)))
noncomputable def f_X6_fillings (sh : Nat) (l1 : Int32) (mem : Mem) : Option (Int32 × Mem) :=
  if l1 = (-1) then (f_X6_fillings_j15 sh l1 mem) else (ob (f_X6_isPlace sh l1 mem) fun r7 => if r7 = 0 then (some ((-1), mem)) else (f_X6_fillings_j15 sh l1 mem))
set_option maxRecDepth 100000 in
set_option maxHeartbeats 4000000 in
theorem j_X6_fillings_15 {E : Ex} {κ : Kx} {ad : Nat → Nat} {sh sp : Nat} {tl : List Ent} {d : Nat} (C : Cx E κ cX6_fillings RX6 2 (some .int) d) (hd : 15 ≤ d) (hsh : isS sh) (hsp : isS sp) {l1 : Int32} {mem : Mem} {x : Int32 × Mem} (h : f_X6_fillings_j15 sh l1 mem = some x) (hP : Qr E κ (some (.int x.1)) ad (LC sh sp ++ tl) x.2) : Gw E κ 2 0 0 15 [some (.ref (ad 0)), some (.int l1)] [] ad (LC sh sp ++ tl) mem := by
  unfold f_X6_fillings_j15 at h
  refine g_aload_n (pc := 15) (i := 0) (x := ad 0) C dX6_fillings_15 rfl rfl ?_
  refine g_get (pc := 16) (v := .ref (ad 44)) C ok_X6 6 (by decide) wf_X6_46 dX6_fillings_16 la_0 rfl ?_
  refine g_aload_n (pc := 19) (i := 0) (x := ad 0) C dX6_fillings_19 rfl rfl ?_
  refine g_get (pc := 20) (v := .ref (ad sh)) C ok_X6 1 (by decide) wf_X6_19 dX6_fillings_20 la_0 rfl ?_
  refine g_aload_n (pc := 23) (i := 0) (x := ad 0) C dX6_fillings_23 rfl rfl ?_
  refine g_get (pc := 24) (v := .ref (ad 31)) C ok_X6 3 (by decide) wf_X6_29 dX6_fillings_24 la_0 rfl ?_
  obtain ⟨m27, hcall27, h⟩ := ob_some h
  refine g_callN (pc := 27) C ce0 mi_X4_run mv_X4_run nm_X6_191 dX6_fillings_27 ok_X4 [.ref (ad sh), .ref (ad 31)] [] la_44 (by omega) rfl rfl (Nat.le_of_ble_eq_true rfl) (m_X4_run (d := d - 1) (by omega) hsh t_31 hcall27) ?_
  show Gw E κ 2 0 0 30 [some (.ref (ad 0)), some (.int l1)] [] ad (LC sh sp ++ tl) m27
  refine g_iload_n (pc := 30) (i := 1) (x := l1) C dX6_fillings_30 rfl rfl ?_
  refine g_iconst (pc := 31) (v := (-1)) C dX6_fillings_31 rfl ?_
  rcases ite_some' h with ⟨hc32, h⟩ | ⟨hc32, h⟩
  · refine g_icmp_ne_f (pc := 32) C 43 dX6_fillings_32 (by decide) hc32 ?_
    refine g_aload_n (pc := 35) (i := 0) (x := ad 0) C dX6_fillings_35 rfl rfl ?_
    refine g_get (pc := 36) (v := .ref (ad 44)) C ok_X6 6 (by decide) wf_X6_46 dX6_fillings_36 la_0 rfl ?_
    refine g_getN (pc := 39) (v := .int (m27 44 4)) C ok_X4 4 (by decide) nf_X6_195 dX6_fillings_39 la_44 rfl ?_
    obtain ⟨v42, hv42, h⟩ := lt_some h
    refine g_topi hv42 ?_
    cases h
    exact g_iret (pc := 42) C hP rfl rfl dX6_fillings_42
  · refine g_icmp_ne_t (pc := 32) C 43 dX6_fillings_32 (by decide) hc32 ?_
    refine g_aload_n (pc := 43) (i := 0) (x := ad 0) C dX6_fillings_43 rfl rfl ?_
    refine g_get (pc := 44) (v := .ref (ad 44)) C ok_X6 6 (by decide) wf_X6_46 dX6_fillings_44 la_0 rfl ?_
    refine g_getN (pc := 47) (v := .int (m27 44 4)) C ok_X4 4 (by decide) nf_X6_195 dX6_fillings_47 la_44 rfl ?_
    rcases ite_some' h with ⟨hc50, h⟩ | ⟨hc50, h⟩
    · refine g_if_le_t (pc := 50) C 65 dX6_fillings_50 (by decide) hc50 ?_
      refine g_bipush (pc := 65) (v := (-4)) C dX6_fillings_65 rfl ?_
      cases h
      exact g_iret (pc := 67) C hP rfl rfl dX6_fillings_67
    · refine g_if_le_f (pc := 50) C 65 dX6_fillings_50 (by decide) hc50 ?_
      refine g_aload_n (pc := 53) (i := 0) (x := ad 0) C dX6_fillings_53 rfl rfl ?_
      refine g_get (pc := 54) (v := .ref (ad 44)) C ok_X6 6 (by decide) wf_X6_46 dX6_fillings_54 la_0 rfl ?_
      refine g_getN (pc := 57) (v := .ref (ad 50)) C ok_X4 2 (by decide) nf_X6_198 dX6_fillings_57 la_44 rfl ?_
      refine g_iload_n (pc := 60) (i := 1) (x := l1) C dX6_fillings_60 rfl rfl ?_
      obtain ⟨v61, hv61, hi61, h⟩ := rd_some h
      refine g_iald (pc := 61) C dX6_fillings_61 la_50 hi61 ?_
      refine g_topi hv61 ?_
      refine g_goto (pc := 62) C 67 dX6_fillings_62 (by decide) ?_
      cases h
      exact g_iret (pc := 67) C hP rfl rfl dX6_fillings_67
set_option maxRecDepth 100000 in
set_option maxHeartbeats 4000000 in
theorem m_X6_fillings {E : Ex} {ad : Nat → Nat} {sh sp : Nat} {tl : List Ent} {d : Nat} (hd : 15 ≤ d) (hsh : isS sh) (hsp : isS sp) {l1 : Int32} {mem : Mem} {r : Int32 × Mem} (h : f_X6_fillings sh l1 mem = some r) : Cl E yX6_fillings cX6_fillings 2 (some .int) d [.ref (ad 0), .int l1] (some (.int r.1)) ad (LC sh sp ++ tl) mem (LC sh sp ++ tl) r.2 := by
  refine Cl.of [some (.ref (ad 0)), some (.int l1)] (by decide +kernel) rfl (Nat.le_of_ble_eq_true rfl) (fun κ C hP => ?_)
  have C : Cx E κ cX6_fillings RX6 2 (some .int) d := C
  unfold f_X6_fillings at h
  refine g_iload_n (pc := 0) (i := 1) (x := l1) C dX6_fillings_0 rfl rfl ?_
  refine g_iconst (pc := 1) (v := (-1)) C dX6_fillings_1 rfl ?_
  rcases ite_some' h with ⟨hc2, h⟩ | ⟨hc2, h⟩
  · refine g_icmp_eq_t (pc := 2) C 15 dX6_fillings_2 (by decide) hc2 ?_
    exact j_X6_fillings_15 C hd hsh hsp h hP
  · refine g_icmp_eq_f (pc := 2) C 15 dX6_fillings_2 (by decide) hc2 ?_
    refine g_aload_n (pc := 5) (i := 0) (x := ad 0) C dX6_fillings_5 rfl rfl ?_
    refine g_iload_n (pc := 6) (i := 1) (x := l1) C dX6_fillings_6 rfl rfl ?_
    obtain ⟨r7, hcall7, h⟩ := ob_some h
    refine g_callV (pc := 7) C ce0 mi_X6_isPlace mv_X6_isPlace wm_X6_107 dX6_fillings_7 ok_X6 [.int l1] [] la_0 (by omega) rfl rfl (Nat.le_of_ble_eq_true rfl) (m_X6_isPlace (d := d - 1) (by omega) hsh hsp hcall7) ?_
    show Gw E κ 2 0 0 10 [some (.ref (ad 0)), some (.int l1)] [.int r7] ad (LC sh sp ++ tl) mem
    rcases ite_some' h with ⟨hc10, h⟩ | ⟨hc10, h⟩
    · refine g_if_ne_f (pc := 10) C 15 dX6_fillings_10 (by decide) hc10 ?_
      refine g_iconst (pc := 13) (v := (-1)) C dX6_fillings_13 rfl ?_
      cases h
      exact g_iret (pc := 14) C hP rfl rfl dX6_fillings_14
    · refine g_if_ne_t (pc := 10) C 15 dX6_fillings_10 (by decide) hc10 ?_
      exact j_X6_fillings_15 C hd hsh hsp h hP

theorem dX6_must_0 : decode cX6_must 0 = .ok (.aload_n 0, 1) := by decide +kernel
theorem dX6_must_1 : decode cX6_must 1 = .ok (.iload_n 1, 1) := by decide +kernel
theorem dX6_must_2 : decode cX6_must 2 = .ok (.invokevirtual 100, 3) := by decide +kernel
theorem dX6_must_5 : decode cX6_must 5 = .ok (.ifCond .ne 5, 3) := by decide +kernel
theorem dX6_must_8 : decode cX6_must 8 = .ok (.iconst (-1), 1) := by decide +kernel
theorem dX6_must_9 : decode cX6_must 9 = .ok (.ireturn, 1) := by decide +kernel
theorem dX6_must_10 : decode cX6_must 10 = .ok (.aload_n 0, 1) := by decide +kernel
theorem dX6_must_11 : decode cX6_must 11 = .ok (.getfield 46, 3) := by decide +kernel
theorem dX6_must_14 : decode cX6_must 14 = .ok (.aload_n 0, 1) := by decide +kernel
theorem dX6_must_15 : decode cX6_must 15 = .ok (.getfield 19, 3) := by decide +kernel
theorem dX6_must_18 : decode cX6_must 18 = .ok (.aload_n 0, 1) := by decide +kernel
theorem dX6_must_19 : decode cX6_must 19 = .ok (.getfield 29, 3) := by decide +kernel
theorem dX6_must_22 : decode cX6_must 22 = .ok (.invokevirtual 191, 3) := by decide +kernel
theorem dX6_must_25 : decode cX6_must 25 = .ok (.aload_n 0, 1) := by decide +kernel
theorem dX6_must_26 : decode cX6_must 26 = .ok (.getfield 46, 3) := by decide +kernel
theorem dX6_must_29 : decode cX6_must 29 = .ok (.getfield 195, 3) := by decide +kernel
theorem dX6_must_32 : decode cX6_must 32 = .ok (.ifCond .le 27, 3) := by decide +kernel
theorem dX6_must_35 : decode cX6_must 35 = .ok (.aload_n 0, 1) := by decide +kernel
theorem dX6_must_36 : decode cX6_must 36 = .ok (.getfield 46, 3) := by decide +kernel
theorem dX6_must_39 : decode cX6_must 39 = .ok (.getfield 201, 3) := by decide +kernel
theorem dX6_must_42 : decode cX6_must 42 = .ok (.iload_n 1, 1) := by decide +kernel
theorem dX6_must_43 : decode cX6_must 43 = .ok (.iaload, 1) := by decide +kernel
theorem dX6_must_44 : decode cX6_must 44 = .ok (.ifCond .eq 15, 3) := by decide +kernel
theorem dX6_must_47 : decode cX6_must 47 = .ok (.aload_n 0, 1) := by decide +kernel
theorem dX6_must_48 : decode cX6_must 48 = .ok (.getfield 46, 3) := by decide +kernel
theorem dX6_must_51 : decode cX6_must 51 = .ok (.getfield 201, 3) := by decide +kernel
theorem dX6_must_54 : decode cX6_must 54 = .ok (.iload_n 1, 1) := by decide +kernel
theorem dX6_must_55 : decode cX6_must 55 = .ok (.iaload, 1) := by decide +kernel
theorem dX6_must_56 : decode cX6_must 56 = .ok (.goto 5, 3) := by decide +kernel
theorem dX6_must_59 : decode cX6_must 59 = .ok (.bipush (-4), 2) := by decide +kernel
theorem dX6_must_61 : decode cX6_must 61 = .ok (.ireturn, 1) := by decide +kernel
noncomputable def f_X6_must (sh : Nat) (l1 : Int32) (mem : Mem) : Option (Int32 × Mem) :=
  ob (f_X6_isSquare sh l1 mem) fun r2 => if r2 = 0 then (some ((-1), mem)) else (ob (f_X4_run sh 31 mem) fun m22 => if (m22 44 4) ≤ 0 then (some ((-4), m22)) else (rd (m22 51) 16 l1 fun v43 => if v43 = 0 then (some ((-4), m22)) else (rd (m22 51) 16 l1 fun v55 => some (v55, m22))))
set_option maxRecDepth 100000 in
set_option maxHeartbeats 4000000 in
theorem m_X6_must {E : Ex} {ad : Nat → Nat} {sh sp : Nat} {tl : List Ent} {d : Nat} (hd : 15 ≤ d) (hsh : isS sh) (hsp : isS sp) {l1 : Int32} {mem : Mem} {r : Int32 × Mem} (h : f_X6_must sh l1 mem = some r) : Cl E yX6_must cX6_must 2 (some .int) d [.ref (ad 0), .int l1] (some (.int r.1)) ad (LC sh sp ++ tl) mem (LC sh sp ++ tl) r.2 := by
  refine Cl.of [some (.ref (ad 0)), some (.int l1)] (by decide +kernel) rfl (Nat.le_of_ble_eq_true rfl) (fun κ C hP => ?_)
  have C : Cx E κ cX6_must RX6 2 (some .int) d := C
  unfold f_X6_must at h
  refine g_aload_n (pc := 0) (i := 0) (x := ad 0) C dX6_must_0 rfl rfl ?_
  refine g_iload_n (pc := 1) (i := 1) (x := l1) C dX6_must_1 rfl rfl ?_
  obtain ⟨r2, hcall2, h⟩ := ob_some h
  refine g_callV (pc := 2) C ce0 mi_X6_isSquare mv_X6_isSquare wm_X6_100 dX6_must_2 ok_X6 [.int l1] [] la_0 (by omega) rfl rfl (Nat.le_of_ble_eq_true rfl) (m_X6_isSquare (d := d - 1) (by omega) hsh hsp hcall2) ?_
  show Gw E κ 2 0 0 5 [some (.ref (ad 0)), some (.int l1)] [.int r2] ad (LC sh sp ++ tl) mem
  rcases ite_some' h with ⟨hc5, h⟩ | ⟨hc5, h⟩
  · refine g_if_ne_f (pc := 5) C 10 dX6_must_5 (by decide) hc5 ?_
    refine g_iconst (pc := 8) (v := (-1)) C dX6_must_8 rfl ?_
    cases h
    exact g_iret (pc := 9) C hP rfl rfl dX6_must_9
  · refine g_if_ne_t (pc := 5) C 10 dX6_must_5 (by decide) hc5 ?_
    refine g_aload_n (pc := 10) (i := 0) (x := ad 0) C dX6_must_10 rfl rfl ?_
    refine g_get (pc := 11) (v := .ref (ad 44)) C ok_X6 6 (by decide) wf_X6_46 dX6_must_11 la_0 rfl ?_
    refine g_aload_n (pc := 14) (i := 0) (x := ad 0) C dX6_must_14 rfl rfl ?_
    refine g_get (pc := 15) (v := .ref (ad sh)) C ok_X6 1 (by decide) wf_X6_19 dX6_must_15 la_0 rfl ?_
    refine g_aload_n (pc := 18) (i := 0) (x := ad 0) C dX6_must_18 rfl rfl ?_
    refine g_get (pc := 19) (v := .ref (ad 31)) C ok_X6 3 (by decide) wf_X6_29 dX6_must_19 la_0 rfl ?_
    obtain ⟨m22, hcall22, h⟩ := ob_some h
    refine g_callN (pc := 22) C ce0 mi_X4_run mv_X4_run nm_X6_191 dX6_must_22 ok_X4 [.ref (ad sh), .ref (ad 31)] [] la_44 (by omega) rfl rfl (Nat.le_of_ble_eq_true rfl) (m_X4_run (d := d - 1) (by omega) hsh t_31 hcall22) ?_
    show Gw E κ 2 0 0 25 [some (.ref (ad 0)), some (.int l1)] [] ad (LC sh sp ++ tl) m22
    refine g_aload_n (pc := 25) (i := 0) (x := ad 0) C dX6_must_25 rfl rfl ?_
    refine g_get (pc := 26) (v := .ref (ad 44)) C ok_X6 6 (by decide) wf_X6_46 dX6_must_26 la_0 rfl ?_
    refine g_getN (pc := 29) (v := .int (m22 44 4)) C ok_X4 4 (by decide) nf_X6_195 dX6_must_29 la_44 rfl ?_
    rcases ite_some' h with ⟨hc32, h⟩ | ⟨hc32, h⟩
    · refine g_if_le_t (pc := 32) C 59 dX6_must_32 (by decide) hc32 ?_
      refine g_bipush (pc := 59) (v := (-4)) C dX6_must_59 rfl ?_
      cases h
      exact g_iret (pc := 61) C hP rfl rfl dX6_must_61
    · refine g_if_le_f (pc := 32) C 59 dX6_must_32 (by decide) hc32 ?_
      refine g_aload_n (pc := 35) (i := 0) (x := ad 0) C dX6_must_35 rfl rfl ?_
      refine g_get (pc := 36) (v := .ref (ad 44)) C ok_X6 6 (by decide) wf_X6_46 dX6_must_36 la_0 rfl ?_
      refine g_getN (pc := 39) (v := .ref (ad 51)) C ok_X4 3 (by decide) nf_X6_201 dX6_must_39 la_44 rfl ?_
      refine g_iload_n (pc := 42) (i := 1) (x := l1) C dX6_must_42 rfl rfl ?_
      obtain ⟨v43, hv43, hi43, h⟩ := rd_some h
      refine g_iald (pc := 43) C dX6_must_43 la_51 hi43 ?_
      refine g_topi hv43 ?_
      rcases ite_some' h with ⟨hc44, h⟩ | ⟨hc44, h⟩
      · refine g_if_eq_t (pc := 44) C 59 dX6_must_44 (by decide) hc44 ?_
        refine g_bipush (pc := 59) (v := (-4)) C dX6_must_59 rfl ?_
        cases h
        exact g_iret (pc := 61) C hP rfl rfl dX6_must_61
      · refine g_if_eq_f (pc := 44) C 59 dX6_must_44 (by decide) hc44 ?_
        refine g_aload_n (pc := 47) (i := 0) (x := ad 0) C dX6_must_47 rfl rfl ?_
        refine g_get (pc := 48) (v := .ref (ad 44)) C ok_X6 6 (by decide) wf_X6_46 dX6_must_48 la_0 rfl ?_
        refine g_getN (pc := 51) (v := .ref (ad 51)) C ok_X4 3 (by decide) nf_X6_201 dX6_must_51 la_44 rfl ?_
        refine g_iload_n (pc := 54) (i := 1) (x := l1) C dX6_must_54 rfl rfl ?_
        obtain ⟨v55, hv55, hi55, h⟩ := rd_some h
        refine g_iald (pc := 55) C dX6_must_55 la_51 hi55 ?_
        refine g_topi hv55 ?_
        refine g_goto (pc := 56) C 61 dX6_must_56 (by decide) ?_
        cases h
        exact g_iret (pc := 61) C hP rfl rfl dX6_must_61

theorem dX6_best_0 : decode cX6_best 0 = .ok (.aload_n 0, 1) := by decide +kernel
theorem dX6_best_1 : decode cX6_best 1 = .ok (.getfield 46, 3) := by decide +kernel
theorem dX6_best_4 : decode cX6_best 4 = .ok (.aload_n 0, 1) := by decide +kernel
theorem dX6_best_5 : decode cX6_best 5 = .ok (.getfield 19, 3) := by decide +kernel
theorem dX6_best_8 : decode cX6_best 8 = .ok (.aload_n 0, 1) := by decide +kernel
theorem dX6_best_9 : decode cX6_best 9 = .ok (.getfield 29, 3) := by decide +kernel
theorem dX6_best_12 : decode cX6_best 12 = .ok (.invokevirtual 191, 3) := by decide +kernel
theorem dX6_best_15 : decode cX6_best 15 = .ok (.aload_n 0, 1) := by decide +kernel
theorem dX6_best_16 : decode cX6_best 16 = .ok (.getfield 46, 3) := by decide +kernel
theorem dX6_best_19 : decode cX6_best 19 = .ok (.getfield 195, 3) := by decide +kernel
theorem dX6_best_22 : decode cX6_best 22 = .ok (.ifCond .le 13, 3) := by decide +kernel
theorem dX6_best_25 : decode cX6_best 25 = .ok (.aload_n 0, 1) := by decide +kernel
theorem dX6_best_26 : decode cX6_best 26 = .ok (.getfield 46, 3) := by decide +kernel
theorem dX6_best_29 : decode cX6_best 29 = .ok (.getfield 204, 3) := by decide +kernel
theorem dX6_best_32 : decode cX6_best 32 = .ok (.goto 5, 3) := by decide +kernel
theorem dX6_best_35 : decode cX6_best 35 = .ok (.bipush (-4), 2) := by decide +kernel
theorem dX6_best_37 : decode cX6_best 37 = .ok (.ireturn, 1) := by decide +kernel
noncomputable def f_X6_best (sh : Nat)  (mem : Mem) : Option (Int32 × Mem) :=
  ob (f_X4_run sh 31 mem) fun m12 => if (m12 44 4) ≤ 0 then (some ((-4), m12)) else (lt' (m12 44 5) fun v37 => some (v37, m12))
set_option maxRecDepth 100000 in
set_option maxHeartbeats 4000000 in
theorem m_X6_best {E : Ex} {ad : Nat → Nat} {sh sp : Nat} {tl : List Ent} {d : Nat} (hd : 15 ≤ d) (hsh : isS sh) (hsp : isS sp)  {mem : Mem} {r : Int32 × Mem} (h : f_X6_best sh mem = some r) : Cl E yX6_best cX6_best 1 (some .int) d [.ref (ad 0)] (some (.int r.1)) ad (LC sh sp ++ tl) mem (LC sh sp ++ tl) r.2 := by
  refine Cl.of [some (.ref (ad 0))] (by decide +kernel) rfl (Nat.le_of_ble_eq_true rfl) (fun κ C hP => ?_)
  have C : Cx E κ cX6_best RX6 1 (some .int) d := C
  unfold f_X6_best at h
  refine g_aload_n (pc := 0) (i := 0) (x := ad 0) C dX6_best_0 rfl rfl ?_
  refine g_get (pc := 1) (v := .ref (ad 44)) C ok_X6 6 (by decide) wf_X6_46 dX6_best_1 la_0 rfl ?_
  refine g_aload_n (pc := 4) (i := 0) (x := ad 0) C dX6_best_4 rfl rfl ?_
  refine g_get (pc := 5) (v := .ref (ad sh)) C ok_X6 1 (by decide) wf_X6_19 dX6_best_5 la_0 rfl ?_
  refine g_aload_n (pc := 8) (i := 0) (x := ad 0) C dX6_best_8 rfl rfl ?_
  refine g_get (pc := 9) (v := .ref (ad 31)) C ok_X6 3 (by decide) wf_X6_29 dX6_best_9 la_0 rfl ?_
  obtain ⟨m12, hcall12, h⟩ := ob_some h
  refine g_callN (pc := 12) C ce0 mi_X4_run mv_X4_run nm_X6_191 dX6_best_12 ok_X4 [.ref (ad sh), .ref (ad 31)] [] la_44 (by omega) rfl rfl (Nat.le_of_ble_eq_true rfl) (m_X4_run (d := d - 1) (by omega) hsh t_31 hcall12) ?_
  show Gw E κ 1 0 0 15 [some (.ref (ad 0))] [] ad (LC sh sp ++ tl) m12
  refine g_aload_n (pc := 15) (i := 0) (x := ad 0) C dX6_best_15 rfl rfl ?_
  refine g_get (pc := 16) (v := .ref (ad 44)) C ok_X6 6 (by decide) wf_X6_46 dX6_best_16 la_0 rfl ?_
  refine g_getN (pc := 19) (v := .int (m12 44 4)) C ok_X4 4 (by decide) nf_X6_195 dX6_best_19 la_44 rfl ?_
  rcases ite_some' h with ⟨hc22, h⟩ | ⟨hc22, h⟩
  · refine g_if_le_t (pc := 22) C 35 dX6_best_22 (by decide) hc22 ?_
    refine g_bipush (pc := 35) (v := (-4)) C dX6_best_35 rfl ?_
    cases h
    exact g_iret (pc := 37) C hP rfl rfl dX6_best_37
  · refine g_if_le_f (pc := 22) C 35 dX6_best_22 (by decide) hc22 ?_
    refine g_aload_n (pc := 25) (i := 0) (x := ad 0) C dX6_best_25 rfl rfl ?_
    refine g_get (pc := 26) (v := .ref (ad 44)) C ok_X6 6 (by decide) wf_X6_46 dX6_best_26 la_0 rfl ?_
    refine g_getN (pc := 29) (v := .int (m12 44 5)) C ok_X4 5 (by decide) nf_X6_204 dX6_best_29 la_44 rfl ?_
    refine g_goto (pc := 32) C 37 dX6_best_32 (by decide) ?_
    obtain ⟨v37, hv37, h⟩ := lt_some h
    refine g_topi hv37 ?_
    cases h
    exact g_iret (pc := 37) C hP rfl rfl dX6_best_37
