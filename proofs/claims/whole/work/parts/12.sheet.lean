theorem dX5_clear_0 : decode cX5_clear 0 = .ok (.aload_n 0, 1) := by decide +kernel
theorem dX5_clear_1 : decode cX5_clear 1 = .ok (.iconst 3, 1) := by decide +kernel
theorem dX5_clear_2 : decode cX5_clear 2 = .ok (.putfield 47, 3) := by decide +kernel
theorem dX5_clear_5 : decode cX5_clear 5 = .ok (.aload_n 0, 1) := by decide +kernel
theorem dX5_clear_6 : decode cX5_clear 6 = .ok (.iconst 4, 1) := by decide +kernel
theorem dX5_clear_7 : decode cX5_clear 7 = .ok (.putfield 51, 3) := by decide +kernel
theorem dX5_clear_10 : decode cX5_clear 10 = .ok (.aload_n 0, 1) := by decide +kernel
theorem dX5_clear_11 : decode cX5_clear 11 = .ok (.iconst 0, 1) := by decide +kernel
theorem dX5_clear_12 : decode cX5_clear 12 = .ok (.putfield 54, 3) := by decide +kernel
theorem dX5_clear_15 : decode cX5_clear 15 = .ok (.aload_n 0, 1) := by decide +kernel
theorem dX5_clear_16 : decode cX5_clear 16 = .ok (.iconst 0, 1) := by decide +kernel
theorem dX5_clear_17 : decode cX5_clear 17 = .ok (.putfield 57, 3) := by decide +kernel
theorem dX5_clear_20 : decode cX5_clear 20 = .ok (.aload_n 0, 1) := by decide +kernel
theorem dX5_clear_21 : decode cX5_clear 21 = .ok (.iconst 0, 1) := by decide +kernel
theorem dX5_clear_22 : decode cX5_clear 22 = .ok (.putfield 60, 3) := by decide +kernel
theorem dX5_clear_25 : decode cX5_clear 25 = .ok (.iconst 0, 1) := by decide +kernel
theorem dX5_clear_26 : decode cX5_clear 26 = .ok (.istore_n 1, 1) := by decide +kernel
theorem dX5_clear_27 : decode cX5_clear 27 = .ok (.iload_n 1, 1) := by decide +kernel
theorem dX5_clear_28 : decode cX5_clear 28 = .ok (.bipush 16, 2) := by decide +kernel
theorem dX5_clear_30 : decode cX5_clear 30 = .ok (.if_icmp .ge 16, 3) := by decide +kernel
theorem dX5_clear_33 : decode cX5_clear 33 = .ok (.aload_n 0, 1) := by decide +kernel
theorem dX5_clear_34 : decode cX5_clear 34 = .ok (.getfield 9, 3) := by decide +kernel
theorem dX5_clear_37 : decode cX5_clear 37 = .ok (.iload_n 1, 1) := by decide +kernel
theorem dX5_clear_38 : decode cX5_clear 38 = .ok (.iconst 0, 1) := by decide +kernel
theorem dX5_clear_39 : decode cX5_clear 39 = .ok (.bastore, 1) := by decide +kernel
theorem dX5_clear_40 : decode cX5_clear 40 = .ok (.iinc 1 1, 3) := by decide +kernel
theorem dX5_clear_43 : decode cX5_clear 43 = .ok (.goto (-16), 3) := by decide +kernel
theorem dX5_clear_46 : decode cX5_clear 46 = .ok (.aload_n 0, 1) := by decide +kernel
theorem dX5_clear_47 : decode cX5_clear 47 = .ok (.getfield 31, 3) := by decide +kernel
theorem dX5_clear_50 : decode cX5_clear 50 = .ok (.iconst 0, 1) := by decide +kernel
theorem dX5_clear_51 : decode cX5_clear 51 = .ok (.invokestatic 63, 3) := by decide +kernel
theorem dX5_clear_54 : decode cX5_clear 54 = .ok (.aload_n 0, 1) := by decide +kernel
theorem dX5_clear_55 : decode cX5_clear 55 = .ok (.getfield 34, 3) := by decide +kernel
theorem dX5_clear_58 : decode cX5_clear 58 = .ok (.iconst 0, 1) := by decide +kernel
theorem dX5_clear_59 : decode cX5_clear 59 = .ok (.invokestatic 63, 3) := by decide +kernel
theorem dX5_clear_62 : decode cX5_clear 62 = .ok (.aload_n 0, 1) := by decide +kernel
theorem dX5_clear_63 : decode cX5_clear 63 = .ok (.getfield 43, 3) := by decide +kernel
theorem dX5_clear_66 : decode cX5_clear 66 = .ok (.invokevirtual 69, 3) := by decide +kernel
theorem dX5_clear_69 : decode cX5_clear 69 = .ok (.return_, 1) := by decide +kernel
noncomputable def f_X5_clear_b27 (s : Nat) (q : Int32 × Mem) : Option ((Int32 × Mem) ⊕ (Int32 × Mem)) :=
  if 16 ≤ q.1 then (some (.inr (q.1, q.2))) else (wr q.2 (s + 1) 16 q.1 (vp_nar .boolean 0) fun m39 => lt' (q.1 + 1) fun v40 => some (.inl (v40, m39)))
noncomputable def f_X5_clear (s : Nat)  (mem : Mem) : Option (Mem) :=
  lt' (mset mem s 0 3) fun m2 => lt' (mset m2 s 1 4) fun m7 => lt' (mset m7 s 3 0) fun m12 => lt' (mset m12 s 7 0) fun m17 => lt' (mset m17 s 12 0) fun m22 => ob (lp (f_X5_clear_b27 s) FU (0, m22)) fun q27 => ob (f_J7_fill_53178 (s + 7) 5 0 q27.2) fun m51 => ob (f_J7_fill_53178 (s + 8) 28 0 m51) fun m59 => ob (f_X0_clear (s + 10) m59) fun m66 => some m66
def P_X5_clear_27 (E : Ex) (κ : Kx) (ad : Nat → Nat) (lay : List Ent) (s : Nat) : (Int32 × Mem) ⊕ (Int32 × Mem) → Prop
  | .inl q => Gw E κ 2 0 0 27 [some (.ref (ad s)), some (.int q.1)] [] ad lay q.2
  | .inr q => Gw E κ 2 0 0 46 [some (.ref (ad s)), none] [] ad lay q.2
set_option maxRecDepth 100000 in
set_option maxHeartbeats 4000000 in
theorem b_X5_clear_27 {E : Ex} {κ : Kx} {ad : Nat → Nat} {sh sp : Nat} {tl : List Ent} {d : Nat} {s : Nat} (C : Cx E κ cX5_clear RX5 2 none d) (hd : 2 ≤ d) (hs : isS s) {q : Int32 × Mem} {x : (Int32 × Mem) ⊕ (Int32 × Mem)} (h : f_X5_clear_b27 s q = some x) (hP : (P_X5_clear_27 E κ ad (LC sh sp ++ tl) s) x) : Gw E κ 2 0 0 27 [some (.ref (ad s)), some (.int q.1)] [] ad (LC sh sp ++ tl) q.2 := by
  unfold f_X5_clear_b27 at h
  refine g_iload_n (pc := 27) (i := 1) (x := q.1) C dX5_clear_27 rfl rfl ?_
  refine g_bipush (pc := 28) (v := 16) C dX5_clear_28 rfl ?_
  rcases ite_some' h with ⟨hc30, h⟩ | ⟨hc30, h⟩
  · refine g_icmp_ge_t (pc := 30) C 46 dX5_clear_30 (by decide) hc30 ?_
    refine g_mask (lv' := [some (.ref (ad s)), none]) [true, false] rfl ?_
    cases h
    exact hP
  · refine g_icmp_ge_f (pc := 30) C 46 dX5_clear_30 (by decide) hc30 ?_
    refine g_aload_n (pc := 33) (i := 0) (x := ad s) C dX5_clear_33 rfl rfl ?_
    refine g_get (pc := 34) (v := .ref (ad (s + 1))) C ok_X5 2 (by decide) wf_X5_9 dX5_clear_34 (lz_0 hs) rfl ?_
    refine g_iload_n (pc := 37) (i := 1) (x := q.1) C dX5_clear_37 rfl rfl ?_
    refine g_iconst (pc := 38) (v := 0) C dX5_clear_38 rfl ?_
    obtain ⟨m39, hm39, hi39, h⟩ := wr_some h
    refine g_zast (pc := 39) C dX5_clear_39 (lz_1 hs) hi39 ?_
    refine g_mem hm39 ?_
    obtain ⟨v40, hv40, h⟩ := lt_some h
    refine g_iinc (pc := 40) (i := 1) (x := q.1) (v := v40) (lv' := [some (.ref (ad s)), some (.int v40)]) C dX5_clear_40 rfl hv40.symm (by decide) rfl rfl ?_
    refine g_goto (pc := 43) C 27 dX5_clear_43 (by decide) ?_
    cases h
    exact hP
set_option maxRecDepth 100000 in
set_option maxHeartbeats 4000000 in
theorem m_X5_clear {E : Ex} {ad : Nat → Nat} {sh sp : Nat} {tl : List Ent} {d : Nat} (hd : 2 ≤ d) {s : Nat} (hs : isS s)  {mem : Mem} {r : Mem} (h : f_X5_clear s mem = some r) : Cl E yX5_clear cX5_clear 2 none d [.ref (ad s)] none ad (LC sh sp ++ tl) mem (LC sh sp ++ tl) r := by
  refine Cl.of [some (.ref (ad s)), none] (by decide +kernel) rfl (Nat.le_of_ble_eq_true rfl) (fun κ C hP => ?_)
  have C : Cx E κ cX5_clear RX5 2 none d := C
  unfold f_X5_clear at h
  refine g_aload_n (pc := 0) (i := 0) (x := ad s) C dX5_clear_0 rfl rfl ?_
  refine g_iconst (pc := 1) (v := 3) C dX5_clear_1 rfl ?_
  obtain ⟨m2, hm2, h⟩ := lt_some h
  refine g_put (pc := 2) C ok_X5 0 (by decide) wf_X5_47 dX5_clear_2 rfl rfl (lz_0 hs) ?_
  refine g_mem hm2 ?_
  refine g_aload_n (pc := 5) (i := 0) (x := ad s) C dX5_clear_5 rfl rfl ?_
  refine g_iconst (pc := 6) (v := 4) C dX5_clear_6 rfl ?_
  obtain ⟨m7, hm7, h⟩ := lt_some h
  refine g_put (pc := 7) C ok_X5 1 (by decide) wf_X5_51 dX5_clear_7 rfl rfl (lz_0 hs) ?_
  refine g_mem hm7 ?_
  refine g_aload_n (pc := 10) (i := 0) (x := ad s) C dX5_clear_10 rfl rfl ?_
  refine g_iconst (pc := 11) (v := 0) C dX5_clear_11 rfl ?_
  obtain ⟨m12, hm12, h⟩ := lt_some h
  refine g_put (pc := 12) C ok_X5 3 (by decide) wf_X5_54 dX5_clear_12 rfl rfl (lz_0 hs) ?_
  refine g_mem hm12 ?_
  refine g_aload_n (pc := 15) (i := 0) (x := ad s) C dX5_clear_15 rfl rfl ?_
  refine g_iconst (pc := 16) (v := 0) C dX5_clear_16 rfl ?_
  obtain ⟨m17, hm17, h⟩ := lt_some h
  refine g_put (pc := 17) C ok_X5 7 (by decide) wf_X5_57 dX5_clear_17 rfl rfl (lz_0 hs) ?_
  refine g_mem hm17 ?_
  refine g_aload_n (pc := 20) (i := 0) (x := ad s) C dX5_clear_20 rfl rfl ?_
  refine g_iconst (pc := 21) (v := 0) C dX5_clear_21 rfl ?_
  obtain ⟨m22, hm22, h⟩ := lt_some h
  refine g_put (pc := 22) C ok_X5 12 (by decide) wf_X5_60 dX5_clear_22 rfl rfl (lz_0 hs) ?_
  refine g_mem hm22 ?_
  refine g_iconst (pc := 25) (v := 0) C dX5_clear_25 rfl ?_
  refine g_istore_n (pc := 26) (i := 1) (lv' := [some (.ref (ad s)), some (.int 0)]) C dX5_clear_26 rfl (by decide) rfl rfl ?_
  obtain ⟨q27, hq, h⟩ := ob_some h
  refine lp_gw (P_X5_clear_27 E κ ad (LC sh sp ++ tl) s) (fun q x hb hp => b_X5_clear_27 C hd hs hb hp) _ (0, m22) _ hq ?_
  show Gw E κ 2 0 0 46 [some (.ref (ad s)), none] [] ad (LC sh sp ++ tl) q27.2
  refine g_aload_n (pc := 46) (i := 0) (x := ad s) C dX5_clear_46 rfl rfl ?_
  refine g_get (pc := 47) (v := .ref (ad (s + 7))) C ok_X5 10 (by decide) wf_X5_31 dX5_clear_47 (lz_0 hs) rfl ?_
  refine g_iconst (pc := 50) (v := 0) C dX5_clear_50 rfl ?_
  obtain ⟨m51, hcall51, h⟩ := ob_some h
  refine g_callS (pc := 51) C ce0 mi_J7_fill_53178 ms_J7_fill_53178 wm_X5_63 dX5_clear_51 [.ref (ad (s + 7)), .int 0] [] (by omega) rfl rfl (Nat.le_of_ble_eq_true rfl) (m_J7_fill_53178 (d := d - 1) (by omega) (lz_7 hs) hcall51) ?_
  show Gw E κ 2 0 0 54 [some (.ref (ad s)), none] [] ad (LC sh sp ++ tl) m51
  refine g_aload_n (pc := 54) (i := 0) (x := ad s) C dX5_clear_54 rfl rfl ?_
  refine g_get (pc := 55) (v := .ref (ad (s + 8))) C ok_X5 11 (by decide) wf_X5_34 dX5_clear_55 (lz_0 hs) rfl ?_
  refine g_iconst (pc := 58) (v := 0) C dX5_clear_58 rfl ?_
  obtain ⟨m59, hcall59, h⟩ := ob_some h
  refine g_callS (pc := 59) C ce0 mi_J7_fill_53178 ms_J7_fill_53178 wm_X5_63 dX5_clear_59 [.ref (ad (s + 8)), .int 0] [] (by omega) rfl rfl (Nat.le_of_ble_eq_true rfl) (m_J7_fill_53178 (d := d - 1) (by omega) (lz_8 hs) hcall59) ?_
  show Gw E κ 2 0 0 62 [some (.ref (ad s)), none] [] ad (LC sh sp ++ tl) m59
  refine g_aload_n (pc := 62) (i := 0) (x := ad s) C dX5_clear_62 rfl rfl ?_
  refine g_get (pc := 63) (v := .ref (ad (s + 10))) C ok_X5 14 (by decide) wf_X5_43 dX5_clear_63 (lz_0 hs) rfl ?_
  obtain ⟨m66, hcall66, h⟩ := ob_some h
  refine g_callN (pc := 66) C ce0 mi_X0_clear mv_X0_clear nm_X5_69 dX5_clear_66 ok_X0 [] [] (ly_0 (tS hs)) (by omega) rfl rfl (Nat.le_of_ble_eq_true rfl) (m_X0_clear (d := d - 1) (by omega) (tS hs) hcall66) ?_
  show Gw E κ 2 0 0 69 [some (.ref (ad s)), none] [] ad (LC sh sp ++ tl) m66
  cases h
  exact g_vret (pc := 69) C hP rfl dX5_clear_69

theorem dX5_layGrid_0 : decode cX5_layGrid 0 = .ok (.iload_n 1, 1) := by decide +kernel
theorem dX5_layGrid_1 : decode cX5_layGrid 1 = .ok (.iconst 2, 1) := by decide +kernel
theorem dX5_layGrid_2 : decode cX5_layGrid 2 = .ok (.if_icmp .lt 18, 3) := by decide +kernel
theorem dX5_layGrid_5 : decode cX5_layGrid 5 = .ok (.iload_n 1, 1) := by decide +kernel
theorem dX5_layGrid_6 : decode cX5_layGrid 6 = .ok (.iconst 4, 1) := by decide +kernel
theorem dX5_layGrid_7 : decode cX5_layGrid 7 = .ok (.if_icmp .gt 13, 3) := by decide +kernel
theorem dX5_layGrid_10 : decode cX5_layGrid 10 = .ok (.iload_n 2, 1) := by decide +kernel
theorem dX5_layGrid_11 : decode cX5_layGrid 11 = .ok (.iconst 2, 1) := by decide +kernel
theorem dX5_layGrid_12 : decode cX5_layGrid 12 = .ok (.if_icmp .lt 8, 3) := by decide +kernel
theorem dX5_layGrid_15 : decode cX5_layGrid 15 = .ok (.iload_n 2, 1) := by decide +kernel
theorem dX5_layGrid_16 : decode cX5_layGrid 16 = .ok (.iconst 4, 1) := by decide +kernel
theorem dX5_layGrid_17 : decode cX5_layGrid 17 = .ok (.if_icmp .le 5, 3) := by decide +kernel
theorem dX5_layGrid_20 : decode cX5_layGrid 20 = .ok (.iconst 0, 1) := by decide +kernel
theorem dX5_layGrid_21 : decode cX5_layGrid 21 = .ok (.ireturn, 1) := by decide +kernel
theorem dX5_layGrid_22 : decode cX5_layGrid 22 = .ok (.aload_n 0, 1) := by decide +kernel
theorem dX5_layGrid_23 : decode cX5_layGrid 23 = .ok (.iload_n 1, 1) := by decide +kernel
theorem dX5_layGrid_24 : decode cX5_layGrid 24 = .ok (.putfield 47, 3) := by decide +kernel
theorem dX5_layGrid_27 : decode cX5_layGrid 27 = .ok (.aload_n 0, 1) := by decide +kernel
theorem dX5_layGrid_28 : decode cX5_layGrid 28 = .ok (.iload_n 2, 1) := by decide +kernel
theorem dX5_layGrid_29 : decode cX5_layGrid 29 = .ok (.putfield 51, 3) := by decide +kernel
theorem dX5_layGrid_32 : decode cX5_layGrid 32 = .ok (.iconst 1, 1) := by decide +kernel
theorem dX5_layGrid_33 : decode cX5_layGrid 33 = .ok (.ireturn, 1) := by decide +kernel
noncomputable def f_X5_layGrid (s : Nat) (l1 : Int32) (l2 : Int32) (mem : Mem) : Option (Int32 × Mem) :=
  if l1 < 2 then (some (0, mem)) else (if 4 < l1 then (some (0, mem)) else (if l2 < 2 then (some (0, mem)) else (if l2 ≤ 4 then (lt' (mset mem s 0 l1) fun m24 => lt' (mset m24 s 1 l2) fun m29 => some (1, m29)) else (some (0, mem)))))
set_option maxRecDepth 100000 in
set_option maxHeartbeats 4000000 in
theorem m_X5_layGrid {E : Ex} {ad : Nat → Nat} {sh sp : Nat} {tl : List Ent} {d : Nat} (hd : 0 ≤ d) {s : Nat} (hs : isS s) {l1 : Int32} {l2 : Int32} {mem : Mem} {r : Int32 × Mem} (h : f_X5_layGrid s l1 l2 mem = some r) : Cl E yX5_layGrid cX5_layGrid 3 (some .boolean) d [.ref (ad s), .int l1, .int l2] (some (.int r.1)) ad (LC sh sp ++ tl) mem (LC sh sp ++ tl) r.2 := by
  refine Cl.of [some (.ref (ad s)), some (.int l1), some (.int l2)] (by decide +kernel) rfl (Nat.le_of_ble_eq_true rfl) (fun κ C hP => ?_)
  have C : Cx E κ cX5_layGrid RX5 3 (some .boolean) d := C
  unfold f_X5_layGrid at h
  refine g_iload_n (pc := 0) (i := 1) (x := l1) C dX5_layGrid_0 rfl rfl ?_
  refine g_iconst (pc := 1) (v := 2) C dX5_layGrid_1 rfl ?_
  rcases ite_some' h with ⟨hc2, h⟩ | ⟨hc2, h⟩
  · refine g_icmp_lt_t (pc := 2) C 20 dX5_layGrid_2 (by decide) hc2 ?_
    refine g_iconst (pc := 20) (v := 0) C dX5_layGrid_20 rfl ?_
    cases h
    exact g_iret (pc := 21) C hP rfl rfl dX5_layGrid_21
  · refine g_icmp_lt_f (pc := 2) C 20 dX5_layGrid_2 (by decide) hc2 ?_
    refine g_iload_n (pc := 5) (i := 1) (x := l1) C dX5_layGrid_5 rfl rfl ?_
    refine g_iconst (pc := 6) (v := 4) C dX5_layGrid_6 rfl ?_
    rcases ite_some' h with ⟨hc7, h⟩ | ⟨hc7, h⟩
    · refine g_icmp_gt_t (pc := 7) C 20 dX5_layGrid_7 (by decide) hc7 ?_
      refine g_iconst (pc := 20) (v := 0) C dX5_layGrid_20 rfl ?_
      cases h
      exact g_iret (pc := 21) C hP rfl rfl dX5_layGrid_21
    · refine g_icmp_gt_f (pc := 7) C 20 dX5_layGrid_7 (by decide) hc7 ?_
      refine g_iload_n (pc := 10) (i := 2) (x := l2) C dX5_layGrid_10 rfl rfl ?_
      refine g_iconst (pc := 11) (v := 2) C dX5_layGrid_11 rfl ?_
      rcases ite_some' h with ⟨hc12, h⟩ | ⟨hc12, h⟩
      · refine g_icmp_lt_t (pc := 12) C 20 dX5_layGrid_12 (by decide) hc12 ?_
        refine g_iconst (pc := 20) (v := 0) C dX5_layGrid_20 rfl ?_
        cases h
        exact g_iret (pc := 21) C hP rfl rfl dX5_layGrid_21
      · refine g_icmp_lt_f (pc := 12) C 20 dX5_layGrid_12 (by decide) hc12 ?_
        refine g_iload_n (pc := 15) (i := 2) (x := l2) C dX5_layGrid_15 rfl rfl ?_
        refine g_iconst (pc := 16) (v := 4) C dX5_layGrid_16 rfl ?_
        rcases ite_some' h with ⟨hc17, h⟩ | ⟨hc17, h⟩
        · refine g_icmp_le_t (pc := 17) C 22 dX5_layGrid_17 (by decide) hc17 ?_
          refine g_aload_n (pc := 22) (i := 0) (x := ad s) C dX5_layGrid_22 rfl rfl ?_
          refine g_iload_n (pc := 23) (i := 1) (x := l1) C dX5_layGrid_23 rfl rfl ?_
          obtain ⟨m24, hm24, h⟩ := lt_some h
          refine g_put (pc := 24) C ok_X5 0 (by decide) wf_X5_47 dX5_layGrid_24 rfl rfl (lz_0 hs) ?_
          refine g_mem hm24 ?_
          refine g_aload_n (pc := 27) (i := 0) (x := ad s) C dX5_layGrid_27 rfl rfl ?_
          refine g_iload_n (pc := 28) (i := 2) (x := l2) C dX5_layGrid_28 rfl rfl ?_
          obtain ⟨m29, hm29, h⟩ := lt_some h
          refine g_put (pc := 29) C ok_X5 1 (by decide) wf_X5_51 dX5_layGrid_29 rfl rfl (lz_0 hs) ?_
          refine g_mem hm29 ?_
          refine g_iconst (pc := 32) (v := 1) C dX5_layGrid_32 rfl ?_
          cases h
          exact g_iret (pc := 33) C hP rfl rfl dX5_layGrid_33
        · refine g_icmp_le_f (pc := 17) C 22 dX5_layGrid_17 (by decide) hc17 ?_
          refine g_iconst (pc := 20) (v := 0) C dX5_layGrid_20 rfl ?_
          cases h
          exact g_iret (pc := 21) C hP rfl rfl dX5_layGrid_21

theorem dX5_squareCount_0 : decode cX5_squareCount 0 = .ok (.aload_n 0, 1) := by decide +kernel
theorem dX5_squareCount_1 : decode cX5_squareCount 1 = .ok (.getfield 47, 3) := by decide +kernel
theorem dX5_squareCount_4 : decode cX5_squareCount 4 = .ok (.aload_n 0, 1) := by decide +kernel
theorem dX5_squareCount_5 : decode cX5_squareCount 5 = .ok (.getfield 51, 3) := by decide +kernel
theorem dX5_squareCount_8 : decode cX5_squareCount 8 = .ok (.imul, 1) := by decide +kernel
theorem dX5_squareCount_9 : decode cX5_squareCount 9 = .ok (.ireturn, 1) := by decide +kernel
noncomputable def f_X5_squareCount (s : Nat)  (mem : Mem) : Option (Int32) :=
  lt' ((mem s 0) * (mem s 1)) fun v9 => some v9
set_option maxRecDepth 100000 in
set_option maxHeartbeats 4000000 in
theorem m_X5_squareCount {E : Ex} {ad : Nat → Nat} {sh sp : Nat} {tl : List Ent} {d : Nat} (hd : 0 ≤ d) {s : Nat} (hs : isS s)  {mem : Mem} {r : Int32} (h : f_X5_squareCount s mem = some r) : Cl E yX5_squareCount cX5_squareCount 1 (some .int) d [.ref (ad s)] (some (.int r)) ad (LC sh sp ++ tl) mem (LC sh sp ++ tl) mem := by
  refine Cl.of [some (.ref (ad s))] (by decide +kernel) rfl (Nat.le_of_ble_eq_true rfl) (fun κ C hP => ?_)
  have C : Cx E κ cX5_squareCount RX5 1 (some .int) d := C
  unfold f_X5_squareCount at h
  refine g_aload_n (pc := 0) (i := 0) (x := ad s) C dX5_squareCount_0 rfl rfl ?_
  refine g_get (pc := 1) (v := .int (mem s 0)) C ok_X5 0 (by decide) wf_X5_47 dX5_squareCount_1 (lz_0 hs) rfl ?_
  refine g_aload_n (pc := 4) (i := 0) (x := ad s) C dX5_squareCount_4 rfl rfl ?_
  refine g_get (pc := 5) (v := .int (mem s 1)) C ok_X5 1 (by decide) wf_X5_51 dX5_squareCount_5 (lz_0 hs) rfl ?_
  refine g_imul (pc := 8) C dX5_squareCount_8 ?_
  obtain ⟨v9, hv9, h⟩ := lt_some h
  refine g_topi hv9 ?_
  cases h
  exact g_iret (pc := 9) C hP rfl rfl dX5_squareCount_9

theorem dX5_blacken_0 : decode cX5_blacken 0 = .ok (.iload_n 1, 1) := by decide +kernel
theorem dX5_blacken_1 : decode cX5_blacken 1 = .ok (.ifCond .lt 11, 3) := by decide +kernel
theorem dX5_blacken_4 : decode cX5_blacken 4 = .ok (.iload_n 1, 1) := by decide +kernel
theorem dX5_blacken_5 : decode cX5_blacken 5 = .ok (.aload_n 0, 1) := by decide +kernel
theorem dX5_blacken_6 : decode cX5_blacken 6 = .ok (.invokevirtual 72, 3) := by decide +kernel
theorem dX5_blacken_9 : decode cX5_blacken 9 = .ok (.if_icmp .lt 5, 3) := by decide +kernel
theorem dX5_blacken_12 : decode cX5_blacken 12 = .ok (.iconst 0, 1) := by decide +kernel
theorem dX5_blacken_13 : decode cX5_blacken 13 = .ok (.ireturn, 1) := by decide +kernel
theorem dX5_blacken_14 : decode cX5_blacken 14 = .ok (.aload_n 0, 1) := by decide +kernel
theorem dX5_blacken_15 : decode cX5_blacken 15 = .ok (.getfield 9, 3) := by decide +kernel
theorem dX5_blacken_18 : decode cX5_blacken 18 = .ok (.iload_n 1, 1) := by decide +kernel
theorem dX5_blacken_19 : decode cX5_blacken 19 = .ok (.iconst 1, 1) := by decide +kernel
theorem dX5_blacken_20 : decode cX5_blacken 20 = .ok (.bastore, 1) := by decide +kernel
theorem dX5_blacken_21 : decode cX5_blacken 21 = .ok (.iconst 1, 1) := by decide +kernel
theorem dX5_blacken_22 : decode cX5_blacken 22 = .ok (.ireturn, 1) := by decide +kernel
noncomputable def f_X5_blacken (s : Nat) (l1 : Int32) (mem : Mem) : Option (Int32 × Mem) :=
  if l1 < 0 then (some (0, mem)) else (ob (f_X5_squareCount s mem) fun r6 => if l1 < r6 then (wr mem (s + 1) 16 l1 (vp_nar .boolean 1) fun m20 => some (1, m20)) else (some (0, mem)))
set_option maxRecDepth 100000 in
set_option maxHeartbeats 4000000 in
theorem m_X5_blacken {E : Ex} {ad : Nat → Nat} {sh sp : Nat} {tl : List Ent} {d : Nat} (hd : 1 ≤ d) {s : Nat} (hs : isS s) {l1 : Int32} {mem : Mem} {r : Int32 × Mem} (h : f_X5_blacken s l1 mem = some r) : Cl E yX5_blacken cX5_blacken 2 (some .boolean) d [.ref (ad s), .int l1] (some (.int r.1)) ad (LC sh sp ++ tl) mem (LC sh sp ++ tl) r.2 := by
  refine Cl.of [some (.ref (ad s)), some (.int l1)] (by decide +kernel) rfl (Nat.le_of_ble_eq_true rfl) (fun κ C hP => ?_)
  have C : Cx E κ cX5_blacken RX5 2 (some .boolean) d := C
  unfold f_X5_blacken at h
  refine g_iload_n (pc := 0) (i := 1) (x := l1) C dX5_blacken_0 rfl rfl ?_
  rcases ite_some' h with ⟨hc1, h⟩ | ⟨hc1, h⟩
  · refine g_if_lt_t (pc := 1) C 12 dX5_blacken_1 (by decide) hc1 ?_
    refine g_iconst (pc := 12) (v := 0) C dX5_blacken_12 rfl ?_
    cases h
    exact g_iret (pc := 13) C hP rfl rfl dX5_blacken_13
  · refine g_if_lt_f (pc := 1) C 12 dX5_blacken_1 (by decide) hc1 ?_
    refine g_iload_n (pc := 4) (i := 1) (x := l1) C dX5_blacken_4 rfl rfl ?_
    refine g_aload_n (pc := 5) (i := 0) (x := ad s) C dX5_blacken_5 rfl rfl ?_
    obtain ⟨r6, hcall6, h⟩ := ob_some h
    refine g_callV (pc := 6) C ce0 mi_X5_squareCount mv_X5_squareCount wm_X5_72 dX5_blacken_6 ok_X5 [] [.int l1] (lz_0 hs) (by omega) rfl rfl (Nat.le_of_ble_eq_true rfl) (m_X5_squareCount (d := d - 1) (by omega) hs hcall6) ?_
    show Gw E κ 2 0 0 9 [some (.ref (ad s)), some (.int l1)] [.int r6, .int l1] ad (LC sh sp ++ tl) mem
    rcases ite_some' h with ⟨hc9, h⟩ | ⟨hc9, h⟩
    · refine g_icmp_lt_t (pc := 9) C 14 dX5_blacken_9 (by decide) hc9 ?_
      refine g_aload_n (pc := 14) (i := 0) (x := ad s) C dX5_blacken_14 rfl rfl ?_
      refine g_get (pc := 15) (v := .ref (ad (s + 1))) C ok_X5 2 (by decide) wf_X5_9 dX5_blacken_15 (lz_0 hs) rfl ?_
      refine g_iload_n (pc := 18) (i := 1) (x := l1) C dX5_blacken_18 rfl rfl ?_
      refine g_iconst (pc := 19) (v := 1) C dX5_blacken_19 rfl ?_
      obtain ⟨m20, hm20, hi20, h⟩ := wr_some h
      refine g_zast (pc := 20) C dX5_blacken_20 (lz_1 hs) hi20 ?_
      refine g_mem hm20 ?_
      refine g_iconst (pc := 21) (v := 1) C dX5_blacken_21 rfl ?_
      cases h
      exact g_iret (pc := 22) C hP rfl rfl dX5_blacken_22
    · refine g_icmp_lt_f (pc := 9) C 14 dX5_blacken_9 (by decide) hc9 ?_
      refine g_iconst (pc := 12) (v := 0) C dX5_blacken_12 rfl ?_
      cases h
      exact g_iret (pc := 13) C hP rfl rfl dX5_blacken_13

theorem dX5_isListed_0 : decode cX5_isListed 0 = .ok (.iconst 0, 1) := by decide +kernel
theorem dX5_isListed_1 : decode cX5_isListed 1 = .ok (.istore_n 2, 1) := by decide +kernel
theorem dX5_isListed_2 : decode cX5_isListed 2 = .ok (.iload_n 2, 1) := by decide +kernel
theorem dX5_isListed_3 : decode cX5_isListed 3 = .ok (.aload_n 0, 1) := by decide +kernel
theorem dX5_isListed_4 : decode cX5_isListed 4 = .ok (.getfield 57, 3) := by decide +kernel
theorem dX5_isListed_7 : decode cX5_isListed 7 = .ok (.if_icmp .ge 21, 3) := by decide +kernel
theorem dX5_isListed_10 : decode cX5_isListed 10 = .ok (.aload_n 0, 1) := by decide +kernel
theorem dX5_isListed_11 : decode cX5_isListed 11 = .ok (.getfield 28, 3) := by decide +kernel
theorem dX5_isListed_14 : decode cX5_isListed 14 = .ok (.iload_n 2, 1) := by decide +kernel
theorem dX5_isListed_15 : decode cX5_isListed 15 = .ok (.iaload, 1) := by decide +kernel
theorem dX5_isListed_16 : decode cX5_isListed 16 = .ok (.iload_n 1, 1) := by decide +kernel
theorem dX5_isListed_17 : decode cX5_isListed 17 = .ok (.if_icmp .ne 5, 3) := by decide +kernel
theorem dX5_isListed_20 : decode cX5_isListed 20 = .ok (.iconst 1, 1) := by decide +kernel
theorem dX5_isListed_21 : decode cX5_isListed 21 = .ok (.ireturn, 1) := by decide +kernel
theorem dX5_isListed_22 : decode cX5_isListed 22 = .ok (.iinc 2 1, 3) := by decide +kernel
theorem dX5_isListed_25 : decode cX5_isListed 25 = .ok (.goto (-23), 3) := by decide +kernel
theorem dX5_isListed_28 : decode cX5_isListed 28 = .ok (.iconst 0, 1) := by decide +kernel
theorem dX5_isListed_29 : decode cX5_isListed 29 = .ok (.ireturn, 1) := by decide +kernel
noncomputable def f_X5_isListed_b2 (s : Nat) (l1 : Int32) (mem : Mem) (q : Int32) : Option ((Int32) ⊕ ((Int32) ⊕ (Int32))) :=
  if (mem s 7) ≤ q then (some (.inr (.inl q))) else (rd (mem (s + 6)) 9 q fun v15 => if v15 = l1 then (some (.inr (.inr 1))) else (lt' (q + 1) fun v22 => some (.inl v22)))
noncomputable def f_X5_isListed (s : Nat) (l1 : Int32) (mem : Mem) : Option (Int32) :=
  obs (lp (f_X5_isListed_b2 s l1 mem) FU 0) (fun q2 => some 0) (fun r => some r)
def P_X5_isListed_2 (E : Ex) (κ : Kx) (ad : Nat → Nat) (lay : List Ent) (s : Nat) (l1 : Int32) (mem : Mem) : (Int32) ⊕ ((Int32) ⊕ (Int32)) → Prop
  | .inl q => Gw E κ 3 0 0 2 [some (.ref (ad s)), some (.int l1), some (.int q)] [] ad lay mem
  | .inr (.inl q) => Gw E κ 3 0 0 28 [none, none, none] [] ad lay mem
  | .inr (.inr r) => Qr E κ (some (.int r)) ad lay mem
set_option maxRecDepth 100000 in
set_option maxHeartbeats 4000000 in
theorem b_X5_isListed_2 {E : Ex} {κ : Kx} {ad : Nat → Nat} {sh sp : Nat} {tl : List Ent} {d : Nat} {s : Nat} (C : Cx E κ cX5_isListed RX5 3 (some .boolean) d) (hd : 0 ≤ d) (hs : isS s) {l1 : Int32} {mem : Mem} {q : Int32} {x : (Int32) ⊕ ((Int32) ⊕ (Int32))} (h : f_X5_isListed_b2 s l1 mem q = some x) (hP : (P_X5_isListed_2 E κ ad (LC sh sp ++ tl) s l1 mem) x) : Gw E κ 3 0 0 2 [some (.ref (ad s)), some (.int l1), some (.int q)] [] ad (LC sh sp ++ tl) mem := by
  unfold f_X5_isListed_b2 at h
  refine g_iload_n (pc := 2) (i := 2) (x := q) C dX5_isListed_2 rfl rfl ?_
  refine g_aload_n (pc := 3) (i := 0) (x := ad s) C dX5_isListed_3 rfl rfl ?_
  refine g_get (pc := 4) (v := .int (mem s 7)) C ok_X5 7 (by decide) wf_X5_57 dX5_isListed_4 (lz_0 hs) rfl ?_
  rcases ite_some' h with ⟨hc7, h⟩ | ⟨hc7, h⟩
  · refine g_icmp_ge_t (pc := 7) C 28 dX5_isListed_7 (by decide) hc7 ?_
    refine g_mask (lv' := [none, none, none]) [false, false, false] rfl ?_
    cases h
    exact hP
  · refine g_icmp_ge_f (pc := 7) C 28 dX5_isListed_7 (by decide) hc7 ?_
    refine g_aload_n (pc := 10) (i := 0) (x := ad s) C dX5_isListed_10 rfl rfl ?_
    refine g_get (pc := 11) (v := .ref (ad (s + 6))) C ok_X5 9 (by decide) wf_X5_28 dX5_isListed_11 (lz_0 hs) rfl ?_
    refine g_iload_n (pc := 14) (i := 2) (x := q) C dX5_isListed_14 rfl rfl ?_
    obtain ⟨v15, hv15, hi15, h⟩ := rd_some h
    refine g_iald (pc := 15) C dX5_isListed_15 (lz_6 hs) hi15 ?_
    refine g_topi hv15 ?_
    refine g_iload_n (pc := 16) (i := 1) (x := l1) C dX5_isListed_16 rfl rfl ?_
    rcases ite_some' h with ⟨hc17, h⟩ | ⟨hc17, h⟩
    · refine g_icmp_ne_f (pc := 17) C 22 dX5_isListed_17 (by decide) hc17 ?_
      refine g_iconst (pc := 20) (v := 1) C dX5_isListed_20 rfl ?_
      cases h
      exact g_iret (pc := 21) C hP rfl rfl dX5_isListed_21
    · refine g_icmp_ne_t (pc := 17) C 22 dX5_isListed_17 (by decide) hc17 ?_
      obtain ⟨v22, hv22, h⟩ := lt_some h
      refine g_iinc (pc := 22) (i := 2) (x := q) (v := v22) (lv' := [some (.ref (ad s)), some (.int l1), some (.int v22)]) C dX5_isListed_22 rfl hv22.symm (by decide) rfl rfl ?_
      refine g_goto (pc := 25) C 2 dX5_isListed_25 (by decide) ?_
      cases h
      exact hP
set_option maxRecDepth 100000 in
set_option maxHeartbeats 4000000 in
theorem m_X5_isListed {E : Ex} {ad : Nat → Nat} {sh sp : Nat} {tl : List Ent} {d : Nat} (hd : 0 ≤ d) {s : Nat} (hs : isS s) {l1 : Int32} {mem : Mem} {r : Int32} (h : f_X5_isListed s l1 mem = some r) : Cl E yX5_isListed cX5_isListed 3 (some .boolean) d [.ref (ad s), .int l1] (some (.int r)) ad (LC sh sp ++ tl) mem (LC sh sp ++ tl) mem := by
  refine Cl.of [some (.ref (ad s)), some (.int l1), none] (by decide +kernel) rfl (Nat.le_of_ble_eq_true rfl) (fun κ C hP => ?_)
  have C : Cx E κ cX5_isListed RX5 3 (some .boolean) d := C
  unfold f_X5_isListed at h
  refine g_iconst (pc := 0) (v := 0) C dX5_isListed_0 rfl ?_
  refine g_istore_n (pc := 1) (i := 2) (lv' := [some (.ref (ad s)), some (.int l1), some (.int 0)]) C dX5_isListed_1 rfl (by decide) rfl rfl ?_
  rcases obs_some h with ⟨q2, hq, h⟩ | ⟨r, hq, h⟩
  · refine lp_gw (P_X5_isListed_2 E κ ad (LC sh sp ++ tl) s l1 mem) (fun q x hb hp => b_X5_isListed_2 C hd hs hb hp) _ 0 _ hq ?_
    show Gw E κ 3 0 0 28 [none, none, none] [] ad (LC sh sp ++ tl) mem
    refine g_iconst (pc := 28) (v := 0) C dX5_isListed_28 rfl ?_
    cases h
    exact g_iret (pc := 29) C hP rfl rfl dX5_isListed_29
  · refine lp_gw (P_X5_isListed_2 E κ ad (LC sh sp ++ tl) s l1 mem) (fun q x hb hp => b_X5_isListed_2 C hd hs hb hp) _ 0 _ hq ?_
    cases h
    exact hP

theorem dX5_letterOf_0 : decode cX5_letterOf 0 = .ok (.iload_n 0, 1) := by decide +kernel
theorem dX5_letterOf_1 : decode cX5_letterOf 1 = .ok (.iconst 3, 1) := by decide +kernel
theorem dX5_letterOf_2 : decode cX5_letterOf 2 = .ok (.iload_n 1, 1) := by decide +kernel
theorem dX5_letterOf_3 : decode cX5_letterOf 3 = .ok (.imul, 1) := by decide +kernel
theorem dX5_letterOf_4 : decode cX5_letterOf 4 = .ok (.ishr, 1) := by decide +kernel
theorem dX5_letterOf_5 : decode cX5_letterOf 5 = .ok (.bipush 7, 2) := by decide +kernel
theorem dX5_letterOf_7 : decode cX5_letterOf 7 = .ok (.iand, 1) := by decide +kernel
theorem dX5_letterOf_8 : decode cX5_letterOf 8 = .ok (.ireturn, 1) := by decide +kernel
noncomputable def f_X5_letterOf (l0 : Int32) (l1 : Int32) : Option (Int32) :=
  lt' ((l0 >>> ((3 * l1) &&& 31)) &&& 7) fun v8 => some v8
set_option maxRecDepth 100000 in
set_option maxHeartbeats 4000000 in
theorem m_X5_letterOf {E : Ex} {ad : Nat → Nat} {lay : List Ent} {d : Nat} (hd : 0 ≤ d)  {l0 : Int32} {l1 : Int32} {mem : Mem} {r : Int32} (h : f_X5_letterOf l0 l1 = some r) : Cl E yX5_letterOf cX5_letterOf 2 (some .int) d [.int l0, .int l1] (some (.int r)) ad lay mem lay mem := by
  refine Cl.of [some (.int l0), some (.int l1)] (by decide +kernel) rfl (Nat.le_of_ble_eq_true rfl) (fun κ C hP => ?_)
  have C : Cx E κ cX5_letterOf RX5 2 (some .int) d := C
  unfold f_X5_letterOf at h
  refine g_iload_n (pc := 0) (i := 0) (x := l0) C dX5_letterOf_0 rfl rfl ?_
  refine g_iconst (pc := 1) (v := 3) C dX5_letterOf_1 rfl ?_
  refine g_iload_n (pc := 2) (i := 1) (x := l1) C dX5_letterOf_2 rfl rfl ?_
  refine g_imul (pc := 3) C dX5_letterOf_3 ?_
  refine g_ishr (pc := 4) C dX5_letterOf_4 ?_
  refine g_bipush (pc := 5) (v := 7) C dX5_letterOf_5 rfl ?_
  refine g_iand (pc := 7) C dX5_letterOf_7 ?_
  obtain ⟨v8, hv8, h⟩ := lt_some h
  refine g_topi hv8 ?_
  cases h
  exact g_iret (pc := 8) C hP rfl rfl dX5_letterOf_8

theorem dX5_addWord_0 : decode cX5_addWord 0 = .ok (.iload_n 2, 1) := by decide +kernel
theorem dX5_addWord_1 : decode cX5_addWord 1 = .ok (.iconst 2, 1) := by decide +kernel
theorem dX5_addWord_2 : decode cX5_addWord 2 = .ok (.if_icmp .lt 25, 3) := by decide +kernel
theorem dX5_addWord_5 : decode cX5_addWord 5 = .ok (.iload_n 2, 1) := by decide +kernel
theorem dX5_addWord_6 : decode cX5_addWord 6 = .ok (.iconst 4, 1) := by decide +kernel
theorem dX5_addWord_7 : decode cX5_addWord 7 = .ok (.if_icmp .gt 20, 3) := by decide +kernel
theorem dX5_addWord_10 : decode cX5_addWord 10 = .ok (.aload_n 0, 1) := by decide +kernel
theorem dX5_addWord_11 : decode cX5_addWord 11 = .ok (.getfield 57, 3) := by decide +kernel
theorem dX5_addWord_14 : decode cX5_addWord 14 = .ok (.bipush 9, 2) := by decide +kernel
theorem dX5_addWord_16 : decode cX5_addWord 16 = .ok (.if_icmp .ge 11, 3) := by decide +kernel
theorem dX5_addWord_19 : decode cX5_addWord 19 = .ok (.aload_n 0, 1) := by decide +kernel
theorem dX5_addWord_20 : decode cX5_addWord 20 = .ok (.iload_n 1, 1) := by decide +kernel
theorem dX5_addWord_21 : decode cX5_addWord 21 = .ok (.invokevirtual 76, 3) := by decide +kernel
theorem dX5_addWord_24 : decode cX5_addWord 24 = .ok (.ifCond .eq 5, 3) := by decide +kernel
theorem dX5_addWord_27 : decode cX5_addWord 27 = .ok (.iconst 0, 1) := by decide +kernel
theorem dX5_addWord_28 : decode cX5_addWord 28 = .ok (.ireturn, 1) := by decide +kernel
theorem dX5_addWord_29 : decode cX5_addWord 29 = .ok (.aload_n 0, 1) := by decide +kernel
theorem dX5_addWord_30 : decode cX5_addWord 30 = .ok (.getfield 28, 3) := by decide +kernel
theorem dX5_addWord_33 : decode cX5_addWord 33 = .ok (.aload_n 0, 1) := by decide +kernel
theorem dX5_addWord_34 : decode cX5_addWord 34 = .ok (.getfield 57, 3) := by decide +kernel
theorem dX5_addWord_37 : decode cX5_addWord 37 = .ok (.iload_n 1, 1) := by decide +kernel
theorem dX5_addWord_38 : decode cX5_addWord 38 = .ok (.iastore, 1) := by decide +kernel
theorem dX5_addWord_39 : decode cX5_addWord 39 = .ok (.aload_n 0, 1) := by decide +kernel
theorem dX5_addWord_40 : decode cX5_addWord 40 = .ok (.getfield 25, 3) := by decide +kernel
theorem dX5_addWord_43 : decode cX5_addWord 43 = .ok (.aload_n 0, 1) := by decide +kernel
theorem dX5_addWord_44 : decode cX5_addWord 44 = .ok (.getfield 57, 3) := by decide +kernel
theorem dX5_addWord_47 : decode cX5_addWord 47 = .ok (.iload_n 2, 1) := by decide +kernel
theorem dX5_addWord_48 : decode cX5_addWord 48 = .ok (.iastore, 1) := by decide +kernel
theorem dX5_addWord_49 : decode cX5_addWord 49 = .ok (.aload_n 0, 1) := by decide +kernel
theorem dX5_addWord_50 : decode cX5_addWord 50 = .ok (.getfield 31, 3) := by decide +kernel
theorem dX5_addWord_53 : decode cX5_addWord 53 = .ok (.iload_n 2, 1) := by decide +kernel
theorem dX5_addWord_54 : decode cX5_addWord 54 = .ok (.dup2, 1) := by decide +kernel
theorem dX5_addWord_55 : decode cX5_addWord 55 = .ok (.iaload, 1) := by decide +kernel
theorem dX5_addWord_56 : decode cX5_addWord 56 = .ok (.iconst 1, 1) := by decide +kernel
theorem dX5_addWord_57 : decode cX5_addWord 57 = .ok (.aload_n 0, 1) := by decide +kernel
theorem dX5_addWord_58 : decode cX5_addWord 58 = .ok (.getfield 57, 3) := by decide +kernel
theorem dX5_addWord_61 : decode cX5_addWord 61 = .ok (.ishl, 1) := by decide +kernel
theorem dX5_addWord_62 : decode cX5_addWord 62 = .ok (.ior, 1) := by decide +kernel
theorem dX5_addWord_63 : decode cX5_addWord 63 = .ok (.iastore, 1) := by decide +kernel
theorem dX5_addWord_64 : decode cX5_addWord 64 = .ok (.iconst 0, 1) := by decide +kernel
theorem dX5_addWord_65 : decode cX5_addWord 65 = .ok (.istore_n 3, 1) := by decide +kernel
theorem dX5_addWord_66 : decode cX5_addWord 66 = .ok (.iload_n 3, 1) := by decide +kernel
theorem dX5_addWord_67 : decode cX5_addWord 67 = .ok (.iload_n 2, 1) := by decide +kernel
theorem dX5_addWord_68 : decode cX5_addWord 68 = .ok (.if_icmp .ge 33, 3) := by decide +kernel
theorem dX5_addWord_71 : decode cX5_addWord 71 = .ok (.aload_n 0, 1) := by decide +kernel
theorem dX5_addWord_72 : decode cX5_addWord 72 = .ok (.getfield 34, 3) := by decide +kernel
theorem dX5_addWord_75 : decode cX5_addWord 75 = .ok (.iload_n 3, 1) := by decide +kernel
theorem dX5_addWord_76 : decode cX5_addWord 76 = .ok (.bipush 7, 2) := by decide +kernel
theorem dX5_addWord_78 : decode cX5_addWord 78 = .ok (.imul, 1) := by decide +kernel
theorem dX5_addWord_79 : decode cX5_addWord 79 = .ok (.iload_n 1, 1) := by decide +kernel
theorem dX5_addWord_80 : decode cX5_addWord 80 = .ok (.iload_n 3, 1) := by decide +kernel
theorem dX5_addWord_81 : decode cX5_addWord 81 = .ok (.invokestatic 80, 3) := by decide +kernel
theorem dX5_addWord_84 : decode cX5_addWord 84 = .ok (.iadd, 1) := by decide +kernel
theorem dX5_addWord_85 : decode cX5_addWord 85 = .ok (.dup2, 1) := by decide +kernel
theorem dX5_addWord_86 : decode cX5_addWord 86 = .ok (.iaload, 1) := by decide +kernel
theorem dX5_addWord_87 : decode cX5_addWord 87 = .ok (.iconst 1, 1) := by decide +kernel
theorem dX5_addWord_88 : decode cX5_addWord 88 = .ok (.aload_n 0, 1) := by decide +kernel
theorem dX5_addWord_89 : decode cX5_addWord 89 = .ok (.getfield 57, 3) := by decide +kernel
theorem dX5_addWord_92 : decode cX5_addWord 92 = .ok (.ishl, 1) := by decide +kernel
theorem dX5_addWord_93 : decode cX5_addWord 93 = .ok (.ior, 1) := by decide +kernel
theorem dX5_addWord_94 : decode cX5_addWord 94 = .ok (.iastore, 1) := by decide +kernel
theorem dX5_addWord_95 : decode cX5_addWord 95 = .ok (.iinc 3 1, 3) := by decide +kernel
theorem dX5_addWord_98 : decode cX5_addWord 98 = .ok (.goto (-32), 3) := by decide +kernel
theorem dX5_addWord_101 : decode cX5_addWord 101 = .ok (.aload_n 0, 1) := by decide +kernel
theorem dX5_addWord_102 : decode cX5_addWord 102 = .ok (.dup, 1) := by decide +kernel
theorem dX5_addWord_103 : decode cX5_addWord 103 = .ok (.getfield 57, 3) := by decide +kernel
theorem dX5_addWord_106 : decode cX5_addWord 106 = .ok (.iconst 1, 1) := by decide +kernel
theorem dX5_addWord_107 : decode cX5_addWord 107 = .ok (.iadd, 1) := by decide +kernel
theorem dX5_addWord_108 : decode cX5_addWord 108 = .ok (.putfield 57, 3) := by decide +kernel
theorem dX5_addWord_111 : decode cX5_addWord 111 = .ok (.iconst 1, 1) := by decide +kernel
theorem dX5_addWord_112 : decode cX5_addWord 112 = .ok (.ireturn, 1) := by decide +kernel
noncomputable def f_X5_addWord_b66 (s : Nat) (l1 : Int32) (l2 : Int32) (q : Int32 × Mem) : Option ((Int32 × Mem) ⊕ (Int32 × Mem)) :=
  if l2 ≤ q.1 then (some (.inr (q.1, q.2))) else (ob (f_X5_letterOf l1 q.1) fun r81 => rd (q.2 (s + 8)) 28 ((q.1 * 7) + r81) fun v86 => wr q.2 (s + 8) 28 ((q.1 * 7) + r81) (v86 ||| (1 <<< ((q.2 s 7) &&& 31))) fun m94 => lt' (q.1 + 1) fun v95 => some (.inl (v95, m94)))
noncomputable def f_X5_addWord (s : Nat) (l1 : Int32) (l2 : Int32) (mem : Mem) : Option (Int32 × Mem) :=
  if l2 < 2 then (some (0, mem)) else (if 4 < l2 then (some (0, mem)) else (if 9 ≤ (mem s 7) then (some (0, mem)) else (ob (f_X5_isListed s l1 mem) fun r21 => if r21 = 0 then (wr mem (s + 6) 9 (mem s 7) l1 fun m38 => wr m38 (s + 5) 9 (m38 s 7) l2 fun m48 => rd (m48 (s + 7)) 5 l2 fun v55 => wr m48 (s + 7) 5 l2 (v55 ||| (1 <<< ((m48 s 7) &&& 31))) fun m63 => ob (lp (f_X5_addWord_b66 s l1 l2) FU (0, m63)) fun q66 => lt' (mset q66.2 s 7 ((q66.2 s 7) + 1)) fun m108 => some (1, m108)) else (some (0, mem)))))
def P_X5_addWord_66 (E : Ex) (κ : Kx) (ad : Nat → Nat) (lay : List Ent) (s : Nat) (l1 : Int32) (l2 : Int32) : (Int32 × Mem) ⊕ (Int32 × Mem) → Prop
  | .inl q => Gw E κ 4 0 0 66 [some (.ref (ad s)), some (.int l1), some (.int l2), some (.int q.1)] [] ad lay q.2
  | .inr q => Gw E κ 4 0 0 101 [some (.ref (ad s)), none, none, none] [] ad lay q.2
set_option maxRecDepth 100000 in
set_option maxHeartbeats 4000000 in
theorem b_X5_addWord_66 {E : Ex} {κ : Kx} {ad : Nat → Nat} {sh sp : Nat} {tl : List Ent} {d : Nat} {s : Nat} (C : Cx E κ cX5_addWord RX5 4 (some .boolean) d) (hd : 1 ≤ d) (hs : isS s) {l1 : Int32} {l2 : Int32} {q : Int32 × Mem} {x : (Int32 × Mem) ⊕ (Int32 × Mem)} (h : f_X5_addWord_b66 s l1 l2 q = some x) (hP : (P_X5_addWord_66 E κ ad (LC sh sp ++ tl) s l1 l2) x) : Gw E κ 4 0 0 66 [some (.ref (ad s)), some (.int l1), some (.int l2), some (.int q.1)] [] ad (LC sh sp ++ tl) q.2 := by
  unfold f_X5_addWord_b66 at h
  refine g_iload_n (pc := 66) (i := 3) (x := q.1) C dX5_addWord_66 rfl rfl ?_
  refine g_iload_n (pc := 67) (i := 2) (x := l2) C dX5_addWord_67 rfl rfl ?_
  rcases ite_some' h with ⟨hc68, h⟩ | ⟨hc68, h⟩
  · refine g_icmp_ge_t (pc := 68) C 101 dX5_addWord_68 (by decide) hc68 ?_
    refine g_mask (lv' := [some (.ref (ad s)), none, none, none]) [true, false, false, false] rfl ?_
    cases h
    exact hP
  · refine g_icmp_ge_f (pc := 68) C 101 dX5_addWord_68 (by decide) hc68 ?_
    refine g_aload_n (pc := 71) (i := 0) (x := ad s) C dX5_addWord_71 rfl rfl ?_
    refine g_get (pc := 72) (v := .ref (ad (s + 8))) C ok_X5 11 (by decide) wf_X5_34 dX5_addWord_72 (lz_0 hs) rfl ?_
    refine g_iload_n (pc := 75) (i := 3) (x := q.1) C dX5_addWord_75 rfl rfl ?_
    refine g_bipush (pc := 76) (v := 7) C dX5_addWord_76 rfl ?_
    refine g_imul (pc := 78) C dX5_addWord_78 ?_
    refine g_iload_n (pc := 79) (i := 1) (x := l1) C dX5_addWord_79 rfl rfl ?_
    refine g_iload_n (pc := 80) (i := 3) (x := q.1) C dX5_addWord_80 rfl rfl ?_
    obtain ⟨r81, hcall81, h⟩ := ob_some h
    refine g_callS (pc := 81) C ce0 mi_X5_letterOf ms_X5_letterOf wm_X5_80 dX5_addWord_81 [.int l1, .int q.1] [.int (q.1 * 7), .ref (ad (s + 8))] (by omega) rfl rfl (Nat.le_of_ble_eq_true rfl) (m_X5_letterOf (d := d - 1) (by omega)  hcall81) ?_
    show Gw E κ 4 0 0 84 [some (.ref (ad s)), some (.int l1), some (.int l2), some (.int q.1)] [.int r81, .int (q.1 * 7), .ref (ad (s + 8))] ad (LC sh sp ++ tl) q.2
    refine g_iadd (pc := 84) C dX5_addWord_84 ?_
    refine g_dup2 (pc := 85) C dX5_addWord_85 rfl rfl ?_
    obtain ⟨v86, hv86, hi86, h⟩ := rd_some h
    refine g_iald (pc := 86) C dX5_addWord_86 (lz_8 hs) hi86 ?_
    refine g_topi hv86 ?_
    refine g_iconst (pc := 87) (v := 1) C dX5_addWord_87 rfl ?_
    refine g_aload_n (pc := 88) (i := 0) (x := ad s) C dX5_addWord_88 rfl rfl ?_
    refine g_get (pc := 89) (v := .int (q.2 s 7)) C ok_X5 7 (by decide) wf_X5_57 dX5_addWord_89 (lz_0 hs) rfl ?_
    refine g_ishl (pc := 92) C dX5_addWord_92 ?_
    refine g_ior (pc := 93) C dX5_addWord_93 ?_
    obtain ⟨m94, hm94, hi94, h⟩ := wr_some h
    refine g_iast (pc := 94) C dX5_addWord_94 (lz_8 hs) hi94 ?_
    refine g_mem hm94 ?_
    obtain ⟨v95, hv95, h⟩ := lt_some h
    refine g_iinc (pc := 95) (i := 3) (x := q.1) (v := v95) (lv' := [some (.ref (ad s)), some (.int l1), some (.int l2), some (.int v95)]) C dX5_addWord_95 rfl hv95.symm (by decide) rfl rfl ?_
    refine g_goto (pc := 98) C 66 dX5_addWord_98 (by decide) ?_
    cases h
    exact hP
set_option maxRecDepth 100000 in
set_option maxHeartbeats 4000000 in
theorem m_X5_addWord {E : Ex} {ad : Nat → Nat} {sh sp : Nat} {tl : List Ent} {d : Nat} (hd : 1 ≤ d) {s : Nat} (hs : isS s) {l1 : Int32} {l2 : Int32} {mem : Mem} {r : Int32 × Mem} (h : f_X5_addWord s l1 l2 mem = some r) : Cl E yX5_addWord cX5_addWord 4 (some .boolean) d [.ref (ad s), .int l1, .int l2] (some (.int r.1)) ad (LC sh sp ++ tl) mem (LC sh sp ++ tl) r.2 := by
  refine Cl.of [some (.ref (ad s)), some (.int l1), some (.int l2), none] (by decide +kernel) rfl (Nat.le_of_ble_eq_true rfl) (fun κ C hP => ?_)
  have C : Cx E κ cX5_addWord RX5 4 (some .boolean) d := C
  unfold f_X5_addWord at h
  refine g_iload_n (pc := 0) (i := 2) (x := l2) C dX5_addWord_0 rfl rfl ?_
  refine g_iconst (pc := 1) (v := 2) C dX5_addWord_1 rfl ?_
  rcases ite_some' h with ⟨hc2, h⟩ | ⟨hc2, h⟩
  · refine g_icmp_lt_t (pc := 2) C 27 dX5_addWord_2 (by decide) hc2 ?_
    refine g_iconst (pc := 27) (v := 0) C dX5_addWord_27 rfl ?_
    cases h
    exact g_iret (pc := 28) C hP rfl rfl dX5_addWord_28
  · refine g_icmp_lt_f (pc := 2) C 27 dX5_addWord_2 (by decide) hc2 ?_
    refine g_iload_n (pc := 5) (i := 2) (x := l2) C dX5_addWord_5 rfl rfl ?_
    refine g_iconst (pc := 6) (v := 4) C dX5_addWord_6 rfl ?_
    rcases ite_some' h with ⟨hc7, h⟩ | ⟨hc7, h⟩
    · refine g_icmp_gt_t (pc := 7) C 27 dX5_addWord_7 (by decide) hc7 ?_
      refine g_iconst (pc := 27) (v := 0) C dX5_addWord_27 rfl ?_
      cases h
      exact g_iret (pc := 28) C hP rfl rfl dX5_addWord_28
    · refine g_icmp_gt_f (pc := 7) C 27 dX5_addWord_7 (by decide) hc7 ?_
      refine g_aload_n (pc := 10) (i := 0) (x := ad s) C dX5_addWord_10 rfl rfl ?_
      refine g_get (pc := 11) (v := .int (mem s 7)) C ok_X5 7 (by decide) wf_X5_57 dX5_addWord_11 (lz_0 hs) rfl ?_
      refine g_bipush (pc := 14) (v := 9) C dX5_addWord_14 rfl ?_
      rcases ite_some' h with ⟨hc16, h⟩ | ⟨hc16, h⟩
      · refine g_icmp_ge_t (pc := 16) C 27 dX5_addWord_16 (by decide) hc16 ?_
        refine g_iconst (pc := 27) (v := 0) C dX5_addWord_27 rfl ?_
        cases h
        exact g_iret (pc := 28) C hP rfl rfl dX5_addWord_28
      · refine g_icmp_ge_f (pc := 16) C 27 dX5_addWord_16 (by decide) hc16 ?_
        refine g_aload_n (pc := 19) (i := 0) (x := ad s) C dX5_addWord_19 rfl rfl ?_
        refine g_iload_n (pc := 20) (i := 1) (x := l1) C dX5_addWord_20 rfl rfl ?_
        obtain ⟨r21, hcall21, h⟩ := ob_some h
        refine g_callV (pc := 21) C ce0 mi_X5_isListed mv_X5_isListed wm_X5_76 dX5_addWord_21 ok_X5 [.int l1] [] (lz_0 hs) (by omega) rfl rfl (Nat.le_of_ble_eq_true rfl) (m_X5_isListed (d := d - 1) (by omega) hs hcall21) ?_
        show Gw E κ 4 0 0 24 [some (.ref (ad s)), some (.int l1), some (.int l2), none] [.int r21] ad (LC sh sp ++ tl) mem
        rcases ite_some' h with ⟨hc24, h⟩ | ⟨hc24, h⟩
        · refine g_if_eq_t (pc := 24) C 29 dX5_addWord_24 (by decide) hc24 ?_
          refine g_aload_n (pc := 29) (i := 0) (x := ad s) C dX5_addWord_29 rfl rfl ?_
          refine g_get (pc := 30) (v := .ref (ad (s + 6))) C ok_X5 9 (by decide) wf_X5_28 dX5_addWord_30 (lz_0 hs) rfl ?_
          refine g_aload_n (pc := 33) (i := 0) (x := ad s) C dX5_addWord_33 rfl rfl ?_
          refine g_get (pc := 34) (v := .int (mem s 7)) C ok_X5 7 (by decide) wf_X5_57 dX5_addWord_34 (lz_0 hs) rfl ?_
          refine g_iload_n (pc := 37) (i := 1) (x := l1) C dX5_addWord_37 rfl rfl ?_
          obtain ⟨m38, hm38, hi38, h⟩ := wr_some h
          refine g_iast (pc := 38) C dX5_addWord_38 (lz_6 hs) hi38 ?_
          refine g_mem hm38 ?_
          refine g_aload_n (pc := 39) (i := 0) (x := ad s) C dX5_addWord_39 rfl rfl ?_
          refine g_get (pc := 40) (v := .ref (ad (s + 5))) C ok_X5 8 (by decide) wf_X5_25 dX5_addWord_40 (lz_0 hs) rfl ?_
          refine g_aload_n (pc := 43) (i := 0) (x := ad s) C dX5_addWord_43 rfl rfl ?_
          refine g_get (pc := 44) (v := .int (m38 s 7)) C ok_X5 7 (by decide) wf_X5_57 dX5_addWord_44 (lz_0 hs) rfl ?_
          refine g_iload_n (pc := 47) (i := 2) (x := l2) C dX5_addWord_47 rfl rfl ?_
          obtain ⟨m48, hm48, hi48, h⟩ := wr_some h
          refine g_iast (pc := 48) C dX5_addWord_48 (lz_5 hs) hi48 ?_
          refine g_mem hm48 ?_
          refine g_aload_n (pc := 49) (i := 0) (x := ad s) C dX5_addWord_49 rfl rfl ?_
          refine g_get (pc := 50) (v := .ref (ad (s + 7))) C ok_X5 10 (by decide) wf_X5_31 dX5_addWord_50 (lz_0 hs) rfl ?_
          refine g_iload_n (pc := 53) (i := 2) (x := l2) C dX5_addWord_53 rfl rfl ?_
          refine g_dup2 (pc := 54) C dX5_addWord_54 rfl rfl ?_
          obtain ⟨v55, hv55, hi55, h⟩ := rd_some h
          refine g_iald (pc := 55) C dX5_addWord_55 (lz_7 hs) hi55 ?_
          refine g_topi hv55 ?_
          refine g_iconst (pc := 56) (v := 1) C dX5_addWord_56 rfl ?_
          refine g_aload_n (pc := 57) (i := 0) (x := ad s) C dX5_addWord_57 rfl rfl ?_
          refine g_get (pc := 58) (v := .int (m48 s 7)) C ok_X5 7 (by decide) wf_X5_57 dX5_addWord_58 (lz_0 hs) rfl ?_
          refine g_ishl (pc := 61) C dX5_addWord_61 ?_
          refine g_ior (pc := 62) C dX5_addWord_62 ?_
          obtain ⟨m63, hm63, hi63, h⟩ := wr_some h
          refine g_iast (pc := 63) C dX5_addWord_63 (lz_7 hs) hi63 ?_
          refine g_mem hm63 ?_
          refine g_iconst (pc := 64) (v := 0) C dX5_addWord_64 rfl ?_
          refine g_istore_n (pc := 65) (i := 3) (lv' := [some (.ref (ad s)), some (.int l1), some (.int l2), some (.int 0)]) C dX5_addWord_65 rfl (by decide) rfl rfl ?_
          obtain ⟨q66, hq, h⟩ := ob_some h
          refine lp_gw (P_X5_addWord_66 E κ ad (LC sh sp ++ tl) s l1 l2) (fun q x hb hp => b_X5_addWord_66 C hd hs hb hp) _ (0, m63) _ hq ?_
          show Gw E κ 4 0 0 101 [some (.ref (ad s)), none, none, none] [] ad (LC sh sp ++ tl) q66.2
          refine g_aload_n (pc := 101) (i := 0) (x := ad s) C dX5_addWord_101 rfl rfl ?_
          refine g_dup (pc := 102) C dX5_addWord_102 rfl ?_
          refine g_get (pc := 103) (v := .int (q66.2 s 7)) C ok_X5 7 (by decide) wf_X5_57 dX5_addWord_103 (lz_0 hs) rfl ?_
          refine g_iconst (pc := 106) (v := 1) C dX5_addWord_106 rfl ?_
          refine g_iadd (pc := 107) C dX5_addWord_107 ?_
          obtain ⟨m108, hm108, h⟩ := lt_some h
          refine g_put (pc := 108) C ok_X5 7 (by decide) wf_X5_57 dX5_addWord_108 rfl rfl (lz_0 hs) ?_
          refine g_mem hm108 ?_
          refine g_iconst (pc := 111) (v := 1) C dX5_addWord_111 rfl ?_
          cases h
          exact g_iret (pc := 112) C hP rfl rfl dX5_addWord_112
        · refine g_if_eq_f (pc := 24) C 29 dX5_addWord_24 (by decide) hc24 ?_
          refine g_iconst (pc := 27) (v := 0) C dX5_addWord_27 rfl ?_
          cases h
          exact g_iret (pc := 28) C hP rfl rfl dX5_addWord_28

theorem dX5_putFirst_0 : decode cX5_putFirst 0 = .ok (.iload_n 1, 1) := by decide +kernel
theorem dX5_putFirst_1 : decode cX5_putFirst 1 = .ok (.ifCond .lt 22, 3) := by decide +kernel
theorem dX5_putFirst_4 : decode cX5_putFirst 4 = .ok (.iload_n 1, 1) := by decide +kernel
theorem dX5_putFirst_5 : decode cX5_putFirst 5 = .ok (.aload_n 0, 1) := by decide +kernel
theorem dX5_putFirst_6 : decode cX5_putFirst 6 = .ok (.invokevirtual 72, 3) := by decide +kernel
theorem dX5_putFirst_9 : decode cX5_putFirst 9 = .ok (.if_icmp .ge 14, 3) := by decide +kernel
theorem dX5_putFirst_12 : decode cX5_putFirst 12 = .ok (.iload_n 2, 1) := by decide +kernel
theorem dX5_putFirst_13 : decode cX5_putFirst 13 = .ok (.iconst 1, 1) := by decide +kernel
theorem dX5_putFirst_14 : decode cX5_putFirst 14 = .ok (.if_icmp .lt 9, 3) := by decide +kernel
theorem dX5_putFirst_17 : decode cX5_putFirst 17 = .ok (.iload_n 2, 1) := by decide +kernel
theorem dX5_putFirst_18 : decode cX5_putFirst 18 = .ok (.bipush 6, 2) := by decide +kernel
theorem dX5_putFirst_20 : decode cX5_putFirst 20 = .ok (.if_icmp .le 5, 3) := by decide +kernel
theorem dX5_putFirst_23 : decode cX5_putFirst 23 = .ok (.iconst 0, 1) := by decide +kernel
theorem dX5_putFirst_24 : decode cX5_putFirst 24 = .ok (.ireturn, 1) := by decide +kernel
theorem dX5_putFirst_25 : decode cX5_putFirst 25 = .ok (.aload_n 0, 1) := by decide +kernel
theorem dX5_putFirst_26 : decode cX5_putFirst 26 = .ok (.getfield 43, 3) := by decide +kernel
theorem dX5_putFirst_29 : decode cX5_putFirst 29 = .ok (.getfield 84, 3) := by decide +kernel
theorem dX5_putFirst_32 : decode cX5_putFirst 32 = .ok (.iload_n 1, 1) := by decide +kernel
theorem dX5_putFirst_33 : decode cX5_putFirst 33 = .ok (.iload_n 2, 1) := by decide +kernel
theorem dX5_putFirst_34 : decode cX5_putFirst 34 = .ok (.iastore, 1) := by decide +kernel
theorem dX5_putFirst_35 : decode cX5_putFirst 35 = .ok (.iconst 1, 1) := by decide +kernel
theorem dX5_putFirst_36 : decode cX5_putFirst 36 = .ok (.ireturn, 1) := by decide +kernel
noncomputable def f_X5_putFirst (s : Nat) (l1 : Int32) (l2 : Int32) (mem : Mem) : Option (Int32 × Mem) :=
  if l1 < 0 then (some (0, mem)) else (ob (f_X5_squareCount s mem) fun r6 => if r6 ≤ l1 then (some (0, mem)) else (if l2 < 1 then (some (0, mem)) else (if l2 ≤ 6 then (wr mem ((s + 10) + 1) 16 l1 l2 fun m34 => some (1, m34)) else (some (0, mem)))))
set_option maxRecDepth 100000 in
set_option maxHeartbeats 4000000 in
theorem m_X5_putFirst {E : Ex} {ad : Nat → Nat} {sh sp : Nat} {tl : List Ent} {d : Nat} (hd : 1 ≤ d) {s : Nat} (hs : isS s) {l1 : Int32} {l2 : Int32} {mem : Mem} {r : Int32 × Mem} (h : f_X5_putFirst s l1 l2 mem = some r) : Cl E yX5_putFirst cX5_putFirst 3 (some .boolean) d [.ref (ad s), .int l1, .int l2] (some (.int r.1)) ad (LC sh sp ++ tl) mem (LC sh sp ++ tl) r.2 := by
  refine Cl.of [some (.ref (ad s)), some (.int l1), some (.int l2)] (by decide +kernel) rfl (Nat.le_of_ble_eq_true rfl) (fun κ C hP => ?_)
  have C : Cx E κ cX5_putFirst RX5 3 (some .boolean) d := C
  unfold f_X5_putFirst at h
  refine g_iload_n (pc := 0) (i := 1) (x := l1) C dX5_putFirst_0 rfl rfl ?_
  rcases ite_some' h with ⟨hc1, h⟩ | ⟨hc1, h⟩
  · refine g_if_lt_t (pc := 1) C 23 dX5_putFirst_1 (by decide) hc1 ?_
    refine g_iconst (pc := 23) (v := 0) C dX5_putFirst_23 rfl ?_
    cases h
    exact g_iret (pc := 24) C hP rfl rfl dX5_putFirst_24
  · refine g_if_lt_f (pc := 1) C 23 dX5_putFirst_1 (by decide) hc1 ?_
    refine g_iload_n (pc := 4) (i := 1) (x := l1) C dX5_putFirst_4 rfl rfl ?_
    refine g_aload_n (pc := 5) (i := 0) (x := ad s) C dX5_putFirst_5 rfl rfl ?_
    obtain ⟨r6, hcall6, h⟩ := ob_some h
    refine g_callV (pc := 6) C ce0 mi_X5_squareCount mv_X5_squareCount wm_X5_72 dX5_putFirst_6 ok_X5 [] [.int l1] (lz_0 hs) (by omega) rfl rfl (Nat.le_of_ble_eq_true rfl) (m_X5_squareCount (d := d - 1) (by omega) hs hcall6) ?_
    show Gw E κ 3 0 0 9 [some (.ref (ad s)), some (.int l1), some (.int l2)] [.int r6, .int l1] ad (LC sh sp ++ tl) mem
    rcases ite_some' h with ⟨hc9, h⟩ | ⟨hc9, h⟩
    · refine g_icmp_ge_t (pc := 9) C 23 dX5_putFirst_9 (by decide) hc9 ?_
      refine g_iconst (pc := 23) (v := 0) C dX5_putFirst_23 rfl ?_
      cases h
      exact g_iret (pc := 24) C hP rfl rfl dX5_putFirst_24
    · refine g_icmp_ge_f (pc := 9) C 23 dX5_putFirst_9 (by decide) hc9 ?_
      refine g_iload_n (pc := 12) (i := 2) (x := l2) C dX5_putFirst_12 rfl rfl ?_
      refine g_iconst (pc := 13) (v := 1) C dX5_putFirst_13 rfl ?_
      rcases ite_some' h with ⟨hc14, h⟩ | ⟨hc14, h⟩
      · refine g_icmp_lt_t (pc := 14) C 23 dX5_putFirst_14 (by decide) hc14 ?_
        refine g_iconst (pc := 23) (v := 0) C dX5_putFirst_23 rfl ?_
        cases h
        exact g_iret (pc := 24) C hP rfl rfl dX5_putFirst_24
      · refine g_icmp_lt_f (pc := 14) C 23 dX5_putFirst_14 (by decide) hc14 ?_
        refine g_iload_n (pc := 17) (i := 2) (x := l2) C dX5_putFirst_17 rfl rfl ?_
        refine g_bipush (pc := 18) (v := 6) C dX5_putFirst_18 rfl ?_
        rcases ite_some' h with ⟨hc20, h⟩ | ⟨hc20, h⟩
        · refine g_icmp_le_t (pc := 20) C 25 dX5_putFirst_20 (by decide) hc20 ?_
          refine g_aload_n (pc := 25) (i := 0) (x := ad s) C dX5_putFirst_25 rfl rfl ?_
          refine g_get (pc := 26) (v := .ref (ad (s + 10))) C ok_X5 14 (by decide) wf_X5_43 dX5_putFirst_26 (lz_0 hs) rfl ?_
          refine g_getN (pc := 29) (v := .ref (ad ((s + 10) + 1))) C ok_X0 0 (by decide) nf_X5_84 dX5_putFirst_29 (ly_0 (tS hs)) rfl ?_
          refine g_iload_n (pc := 32) (i := 1) (x := l1) C dX5_putFirst_32 rfl rfl ?_
          refine g_iload_n (pc := 33) (i := 2) (x := l2) C dX5_putFirst_33 rfl rfl ?_
          obtain ⟨m34, hm34, hi34, h⟩ := wr_some h
          refine g_iast (pc := 34) C dX5_putFirst_34 (ly_1 (tS hs)) hi34 ?_
          refine g_mem hm34 ?_
          refine g_iconst (pc := 35) (v := 1) C dX5_putFirst_35 rfl ?_
          cases h
          exact g_iret (pc := 36) C hP rfl rfl dX5_putFirst_36
        · refine g_icmp_le_f (pc := 20) C 25 dX5_putFirst_20 (by decide) hc20 ?_
          refine g_iconst (pc := 23) (v := 0) C dX5_putFirst_23 rfl ?_
          cases h
          exact g_iret (pc := 24) C hP rfl rfl dX5_putFirst_24

theorem dX5_addSolver_0 : decode cX5_addSolver 0 = .ok (.iload_n 1, 1) := by decide +kernel
theorem dX5_addSolver_1 : decode cX5_addSolver 1 = .ok (.ifCond .lt 39, 3) := by decide +kernel
theorem dX5_addSolver_4 : decode cX5_addSolver 4 = .ok (.iload_n 1, 1) := by decide +kernel
theorem dX5_addSolver_5 : decode cX5_addSolver 5 = .ok (.iconst 4, 1) := by decide +kernel
theorem dX5_addSolver_6 : decode cX5_addSolver 6 = .ok (.if_icmp .gt 34, 3) := by decide +kernel
theorem dX5_addSolver_9 : decode cX5_addSolver 9 = .ok (.iload_n 2, 1) := by decide +kernel
theorem dX5_addSolver_10 : decode cX5_addSolver 10 = .ok (.ifCond .lt 30, 3) := by decide +kernel
theorem dX5_addSolver_13 : decode cX5_addSolver 13 = .ok (.iload_n 2, 1) := by decide +kernel
theorem dX5_addSolver_14 : decode cX5_addSolver 14 = .ok (.bipush 8, 2) := by decide +kernel
theorem dX5_addSolver_16 : decode cX5_addSolver 16 = .ok (.if_icmp .ge 24, 3) := by decide +kernel
theorem dX5_addSolver_19 : decode cX5_addSolver 19 = .ok (.iload_n 3, 1) := by decide +kernel
theorem dX5_addSolver_20 : decode cX5_addSolver 20 = .ok (.ifCond .lt 20, 3) := by decide +kernel
theorem dX5_addSolver_23 : decode cX5_addSolver 23 = .ok (.iload_n 3, 1) := by decide +kernel
theorem dX5_addSolver_24 : decode cX5_addSolver 24 = .ok (.aload_n 0, 1) := by decide +kernel
theorem dX5_addSolver_25 : decode cX5_addSolver 25 = .ok (.getfield 57, 3) := by decide +kernel
theorem dX5_addSolver_28 : decode cX5_addSolver 28 = .ok (.if_icmp .ge 12, 3) := by decide +kernel
theorem dX5_addSolver_31 : decode cX5_addSolver 31 = .ok (.aload_n 0, 1) := by decide +kernel
theorem dX5_addSolver_32 : decode cX5_addSolver 32 = .ok (.getfield 60, 3) := by decide +kernel
theorem dX5_addSolver_35 : decode cX5_addSolver 35 = .ok (.bipush 6, 2) := by decide +kernel
theorem dX5_addSolver_37 : decode cX5_addSolver 37 = .ok (.if_icmp .lt 5, 3) := by decide +kernel
theorem dX5_addSolver_40 : decode cX5_addSolver 40 = .ok (.iconst 0, 1) := by decide +kernel
theorem dX5_addSolver_41 : decode cX5_addSolver 41 = .ok (.ireturn, 1) := by decide +kernel
theorem dX5_addSolver_42 : decode cX5_addSolver 42 = .ok (.aload_n 0, 1) := by decide +kernel
theorem dX5_addSolver_43 : decode cX5_addSolver 43 = .ok (.getfield 37, 3) := by decide +kernel
theorem dX5_addSolver_46 : decode cX5_addSolver 46 = .ok (.aload_n 0, 1) := by decide +kernel
theorem dX5_addSolver_47 : decode cX5_addSolver 47 = .ok (.getfield 60, 3) := by decide +kernel
theorem dX5_addSolver_50 : decode cX5_addSolver 50 = .ok (.iload_n 1, 1) := by decide +kernel
theorem dX5_addSolver_51 : decode cX5_addSolver 51 = .ok (.iastore, 1) := by decide +kernel
theorem dX5_addSolver_52 : decode cX5_addSolver 52 = .ok (.aload_n 0, 1) := by decide +kernel
theorem dX5_addSolver_53 : decode cX5_addSolver 53 = .ok (.getfield 43, 3) := by decide +kernel
theorem dX5_addSolver_56 : decode cX5_addSolver 56 = .ok (.aload_n 0, 1) := by decide +kernel
theorem dX5_addSolver_57 : decode cX5_addSolver 57 = .ok (.getfield 60, 3) := by decide +kernel
theorem dX5_addSolver_60 : decode cX5_addSolver 60 = .ok (.iload_n 2, 1) := by decide +kernel
theorem dX5_addSolver_61 : decode cX5_addSolver 61 = .ok (.iload_n 3, 1) := by decide +kernel
theorem dX5_addSolver_62 : decode cX5_addSolver 62 = .ok (.invokevirtual 87, 3) := by decide +kernel
theorem dX5_addSolver_65 : decode cX5_addSolver 65 = .ok (.aload_n 0, 1) := by decide +kernel
theorem dX5_addSolver_66 : decode cX5_addSolver 66 = .ok (.dup, 1) := by decide +kernel
theorem dX5_addSolver_67 : decode cX5_addSolver 67 = .ok (.getfield 60, 3) := by decide +kernel
theorem dX5_addSolver_70 : decode cX5_addSolver 70 = .ok (.iconst 1, 1) := by decide +kernel
theorem dX5_addSolver_71 : decode cX5_addSolver 71 = .ok (.iadd, 1) := by decide +kernel
theorem dX5_addSolver_72 : decode cX5_addSolver 72 = .ok (.putfield 60, 3) := by decide +kernel
theorem dX5_addSolver_75 : decode cX5_addSolver 75 = .ok (.iconst 1, 1) := by decide +kernel
theorem dX5_addSolver_76 : decode cX5_addSolver 76 = .ok (.ireturn, 1) := by decide +kernel
noncomputable def f_X5_addSolver (s : Nat) (l1 : Int32) (l2 : Int32) (l3 : Int32) (mem : Mem) : Option (Int32 × Mem) :=
  if l1 < 0 then (some (0, mem)) else (if 4 < l1 then (some (0, mem)) else (if l2 < 0 then (some (0, mem)) else (if 8 ≤ l2 then (some (0, mem)) else (if l3 < 0 then (some (0, mem)) else (if (mem s 7) ≤ l3 then (some (0, mem)) else (if (mem s 12) < 6 then (wr mem (s + 9) 6 (mem s 12) l1 fun m51 => ob (f_X0_wish (s + 10) (m51 s 12) l2 l3 m51) fun m62 => lt' (mset m62 s 12 ((m62 s 12) + 1)) fun m72 => some (1, m72)) else (some (0, mem))))))))
set_option maxRecDepth 100000 in
set_option maxHeartbeats 4000000 in
theorem m_X5_addSolver {E : Ex} {ad : Nat → Nat} {sh sp : Nat} {tl : List Ent} {d : Nat} (hd : 1 ≤ d) {s : Nat} (hs : isS s) {l1 : Int32} {l2 : Int32} {l3 : Int32} {mem : Mem} {r : Int32 × Mem} (h : f_X5_addSolver s l1 l2 l3 mem = some r) : Cl E yX5_addSolver cX5_addSolver 4 (some .boolean) d [.ref (ad s), .int l1, .int l2, .int l3] (some (.int r.1)) ad (LC sh sp ++ tl) mem (LC sh sp ++ tl) r.2 := by
  refine Cl.of [some (.ref (ad s)), some (.int l1), some (.int l2), some (.int l3)] (by decide +kernel) rfl (Nat.le_of_ble_eq_true rfl) (fun κ C hP => ?_)
  have C : Cx E κ cX5_addSolver RX5 4 (some .boolean) d := C
  unfold f_X5_addSolver at h
  refine g_iload_n (pc := 0) (i := 1) (x := l1) C dX5_addSolver_0 rfl rfl ?_
  rcases ite_some' h with ⟨hc1, h⟩ | ⟨hc1, h⟩
  · refine g_if_lt_t (pc := 1) C 40 dX5_addSolver_1 (by decide) hc1 ?_
    refine g_iconst (pc := 40) (v := 0) C dX5_addSolver_40 rfl ?_
    cases h
    exact g_iret (pc := 41) C hP rfl rfl dX5_addSolver_41
  · refine g_if_lt_f (pc := 1) C 40 dX5_addSolver_1 (by decide) hc1 ?_
    refine g_iload_n (pc := 4) (i := 1) (x := l1) C dX5_addSolver_4 rfl rfl ?_
    refine g_iconst (pc := 5) (v := 4) C dX5_addSolver_5 rfl ?_
    rcases ite_some' h with ⟨hc6, h⟩ | ⟨hc6, h⟩
    · refine g_icmp_gt_t (pc := 6) C 40 dX5_addSolver_6 (by decide) hc6 ?_
      refine g_iconst (pc := 40) (v := 0) C dX5_addSolver_40 rfl ?_
      cases h
      exact g_iret (pc := 41) C hP rfl rfl dX5_addSolver_41
    · refine g_icmp_gt_f (pc := 6) C 40 dX5_addSolver_6 (by decide) hc6 ?_
      refine g_iload_n (pc := 9) (i := 2) (x := l2) C dX5_addSolver_9 rfl rfl ?_
      rcases ite_some' h with ⟨hc10, h⟩ | ⟨hc10, h⟩
      · refine g_if_lt_t (pc := 10) C 40 dX5_addSolver_10 (by decide) hc10 ?_
        refine g_iconst (pc := 40) (v := 0) C dX5_addSolver_40 rfl ?_
        cases h
        exact g_iret (pc := 41) C hP rfl rfl dX5_addSolver_41
      · refine g_if_lt_f (pc := 10) C 40 dX5_addSolver_10 (by decide) hc10 ?_
        refine g_iload_n (pc := 13) (i := 2) (x := l2) C dX5_addSolver_13 rfl rfl ?_
        refine g_bipush (pc := 14) (v := 8) C dX5_addSolver_14 rfl ?_
        rcases ite_some' h with ⟨hc16, h⟩ | ⟨hc16, h⟩
        · refine g_icmp_ge_t (pc := 16) C 40 dX5_addSolver_16 (by decide) hc16 ?_
          refine g_iconst (pc := 40) (v := 0) C dX5_addSolver_40 rfl ?_
          cases h
          exact g_iret (pc := 41) C hP rfl rfl dX5_addSolver_41
        · refine g_icmp_ge_f (pc := 16) C 40 dX5_addSolver_16 (by decide) hc16 ?_
          refine g_iload_n (pc := 19) (i := 3) (x := l3) C dX5_addSolver_19 rfl rfl ?_
          rcases ite_some' h with ⟨hc20, h⟩ | ⟨hc20, h⟩
          · refine g_if_lt_t (pc := 20) C 40 dX5_addSolver_20 (by decide) hc20 ?_
            refine g_iconst (pc := 40) (v := 0) C dX5_addSolver_40 rfl ?_
            cases h
            exact g_iret (pc := 41) C hP rfl rfl dX5_addSolver_41
          · refine g_if_lt_f (pc := 20) C 40 dX5_addSolver_20 (by decide) hc20 ?_
            refine g_iload_n (pc := 23) (i := 3) (x := l3) C dX5_addSolver_23 rfl rfl ?_
            refine g_aload_n (pc := 24) (i := 0) (x := ad s) C dX5_addSolver_24 rfl rfl ?_
            refine g_get (pc := 25) (v := .int (mem s 7)) C ok_X5 7 (by decide) wf_X5_57 dX5_addSolver_25 (lz_0 hs) rfl ?_
            rcases ite_some' h with ⟨hc28, h⟩ | ⟨hc28, h⟩
            · refine g_icmp_ge_t (pc := 28) C 40 dX5_addSolver_28 (by decide) hc28 ?_
              refine g_iconst (pc := 40) (v := 0) C dX5_addSolver_40 rfl ?_
              cases h
              exact g_iret (pc := 41) C hP rfl rfl dX5_addSolver_41
            · refine g_icmp_ge_f (pc := 28) C 40 dX5_addSolver_28 (by decide) hc28 ?_
              refine g_aload_n (pc := 31) (i := 0) (x := ad s) C dX5_addSolver_31 rfl rfl ?_
              refine g_get (pc := 32) (v := .int (mem s 12)) C ok_X5 12 (by decide) wf_X5_60 dX5_addSolver_32 (lz_0 hs) rfl ?_
              refine g_bipush (pc := 35) (v := 6) C dX5_addSolver_35 rfl ?_
              rcases ite_some' h with ⟨hc37, h⟩ | ⟨hc37, h⟩
              · refine g_icmp_lt_t (pc := 37) C 42 dX5_addSolver_37 (by decide) hc37 ?_
                refine g_aload_n (pc := 42) (i := 0) (x := ad s) C dX5_addSolver_42 rfl rfl ?_
                refine g_get (pc := 43) (v := .ref (ad (s + 9))) C ok_X5 13 (by decide) wf_X5_37 dX5_addSolver_43 (lz_0 hs) rfl ?_
                refine g_aload_n (pc := 46) (i := 0) (x := ad s) C dX5_addSolver_46 rfl rfl ?_
                refine g_get (pc := 47) (v := .int (mem s 12)) C ok_X5 12 (by decide) wf_X5_60 dX5_addSolver_47 (lz_0 hs) rfl ?_
                refine g_iload_n (pc := 50) (i := 1) (x := l1) C dX5_addSolver_50 rfl rfl ?_
                obtain ⟨m51, hm51, hi51, h⟩ := wr_some h
                refine g_iast (pc := 51) C dX5_addSolver_51 (lz_9 hs) hi51 ?_
                refine g_mem hm51 ?_
                refine g_aload_n (pc := 52) (i := 0) (x := ad s) C dX5_addSolver_52 rfl rfl ?_
                refine g_get (pc := 53) (v := .ref (ad (s + 10))) C ok_X5 14 (by decide) wf_X5_43 dX5_addSolver_53 (lz_0 hs) rfl ?_
                refine g_aload_n (pc := 56) (i := 0) (x := ad s) C dX5_addSolver_56 rfl rfl ?_
                refine g_get (pc := 57) (v := .int (m51 s 12)) C ok_X5 12 (by decide) wf_X5_60 dX5_addSolver_57 (lz_0 hs) rfl ?_
                refine g_iload_n (pc := 60) (i := 2) (x := l2) C dX5_addSolver_60 rfl rfl ?_
                refine g_iload_n (pc := 61) (i := 3) (x := l3) C dX5_addSolver_61 rfl rfl ?_
                obtain ⟨m62, hcall62, h⟩ := ob_some h
                refine g_callN (pc := 62) C ce0 mi_X0_wish mv_X0_wish nm_X5_87 dX5_addSolver_62 ok_X0 [.int (m51 s 12), .int l2, .int l3] [] (ly_0 (tS hs)) (by omega) rfl rfl (Nat.le_of_ble_eq_true rfl) (m_X0_wish (d := d - 1) (by omega) (tS hs) hcall62) ?_
                show Gw E κ 4 0 0 65 [some (.ref (ad s)), some (.int l1), some (.int l2), some (.int l3)] [] ad (LC sh sp ++ tl) m62
                refine g_aload_n (pc := 65) (i := 0) (x := ad s) C dX5_addSolver_65 rfl rfl ?_
                refine g_dup (pc := 66) C dX5_addSolver_66 rfl ?_
                refine g_get (pc := 67) (v := .int (m62 s 12)) C ok_X5 12 (by decide) wf_X5_60 dX5_addSolver_67 (lz_0 hs) rfl ?_
                refine g_iconst (pc := 70) (v := 1) C dX5_addSolver_70 rfl ?_
                refine g_iadd (pc := 71) C dX5_addSolver_71 ?_
                obtain ⟨m72, hm72, h⟩ := lt_some h
                refine g_put (pc := 72) C ok_X5 12 (by decide) wf_X5_60 dX5_addSolver_72 rfl rfl (lz_0 hs) ?_
                refine g_mem hm72 ?_
                refine g_iconst (pc := 75) (v := 1) C dX5_addSolver_75 rfl ?_
                cases h
                exact g_iret (pc := 76) C hP rfl rfl dX5_addSolver_76
              · refine g_icmp_lt_f (pc := 37) C 42 dX5_addSolver_37 (by decide) hc37 ?_
                refine g_iconst (pc := 40) (v := 0) C dX5_addSolver_40 rfl ?_
                cases h
                exact g_iret (pc := 41) C hP rfl rfl dX5_addSolver_41

theorem dX5_addPlace_0 : decode cX5_addPlace 0 = .ok (.iload_n 3, 1) := by decide +kernel
theorem dX5_addPlace_1 : decode cX5_addPlace 1 = .ok (.iconst 2, 1) := by decide +kernel
theorem dX5_addPlace_2 : decode cX5_addPlace 2 = .ok (.if_icmp .lt 12, 3) := by decide +kernel
theorem dX5_addPlace_5 : decode cX5_addPlace 5 = .ok (.aload_n 0, 1) := by decide +kernel
theorem dX5_addPlace_6 : decode cX5_addPlace 6 = .ok (.getfield 54, 3) := by decide +kernel
theorem dX5_addPlace_9 : decode cX5_addPlace 9 = .ok (.bipush 8, 2) := by decide +kernel
theorem dX5_addPlace_11 : decode cX5_addPlace 11 = .ok (.if_icmp .lt 4, 3) := by decide +kernel
theorem dX5_addPlace_14 : decode cX5_addPlace 14 = .ok (.return_, 1) := by decide +kernel
theorem dX5_addPlace_15 : decode cX5_addPlace 15 = .ok (.iconst 0, 1) := by decide +kernel
theorem dX5_addPlace_16 : decode cX5_addPlace 16 = .ok (.istore 5, 2) := by decide +kernel
theorem dX5_addPlace_18 : decode cX5_addPlace 18 = .ok (.iload 5, 2) := by decide +kernel
theorem dX5_addPlace_20 : decode cX5_addPlace 20 = .ok (.iload_n 3, 1) := by decide +kernel
theorem dX5_addPlace_21 : decode cX5_addPlace 21 = .ok (.if_icmp .ge 29, 3) := by decide +kernel
theorem dX5_addPlace_24 : decode cX5_addPlace 24 = .ok (.aload_n 0, 1) := by decide +kernel
theorem dX5_addPlace_25 : decode cX5_addPlace 25 = .ok (.getfield 19, 3) := by decide +kernel
theorem dX5_addPlace_28 : decode cX5_addPlace 28 = .ok (.aload_n 0, 1) := by decide +kernel
theorem dX5_addPlace_29 : decode cX5_addPlace 29 = .ok (.getfield 54, 3) := by decide +kernel
theorem dX5_addPlace_32 : decode cX5_addPlace 32 = .ok (.iconst 4, 1) := by decide +kernel
theorem dX5_addPlace_33 : decode cX5_addPlace 33 = .ok (.imul, 1) := by decide +kernel
theorem dX5_addPlace_34 : decode cX5_addPlace 34 = .ok (.iload 5, 2) := by decide +kernel
theorem dX5_addPlace_36 : decode cX5_addPlace 36 = .ok (.iadd, 1) := by decide +kernel
theorem dX5_addPlace_37 : decode cX5_addPlace 37 = .ok (.iload_n 1, 1) := by decide +kernel
theorem dX5_addPlace_38 : decode cX5_addPlace 38 = .ok (.iload 5, 2) := by decide +kernel
theorem dX5_addPlace_40 : decode cX5_addPlace 40 = .ok (.iload_n 2, 1) := by decide +kernel
theorem dX5_addPlace_41 : decode cX5_addPlace 41 = .ok (.imul, 1) := by decide +kernel
theorem dX5_addPlace_42 : decode cX5_addPlace 42 = .ok (.iadd, 1) := by decide +kernel
theorem dX5_addPlace_43 : decode cX5_addPlace 43 = .ok (.iastore, 1) := by decide +kernel
theorem dX5_addPlace_44 : decode cX5_addPlace 44 = .ok (.iinc 5 1, 3) := by decide +kernel
theorem dX5_addPlace_47 : decode cX5_addPlace 47 = .ok (.goto (-29), 3) := by decide +kernel
theorem dX5_addPlace_50 : decode cX5_addPlace 50 = .ok (.aload_n 0, 1) := by decide +kernel
theorem dX5_addPlace_51 : decode cX5_addPlace 51 = .ok (.getfield 15, 3) := by decide +kernel
theorem dX5_addPlace_54 : decode cX5_addPlace 54 = .ok (.aload_n 0, 1) := by decide +kernel
theorem dX5_addPlace_55 : decode cX5_addPlace 55 = .ok (.getfield 54, 3) := by decide +kernel
theorem dX5_addPlace_58 : decode cX5_addPlace 58 = .ok (.iload_n 3, 1) := by decide +kernel
theorem dX5_addPlace_59 : decode cX5_addPlace 59 = .ok (.iastore, 1) := by decide +kernel
theorem dX5_addPlace_60 : decode cX5_addPlace 60 = .ok (.aload_n 0, 1) := by decide +kernel
theorem dX5_addPlace_61 : decode cX5_addPlace 61 = .ok (.getfield 22, 3) := by decide +kernel
theorem dX5_addPlace_64 : decode cX5_addPlace 64 = .ok (.aload_n 0, 1) := by decide +kernel
theorem dX5_addPlace_65 : decode cX5_addPlace 65 = .ok (.getfield 54, 3) := by decide +kernel
theorem dX5_addPlace_68 : decode cX5_addPlace 68 = .ok (.iload 4, 2) := by decide +kernel
theorem dX5_addPlace_70 : decode cX5_addPlace 70 = .ok (.bastore, 1) := by decide +kernel
theorem dX5_addPlace_71 : decode cX5_addPlace 71 = .ok (.aload_n 0, 1) := by decide +kernel
theorem dX5_addPlace_72 : decode cX5_addPlace 72 = .ok (.dup, 1) := by decide +kernel
theorem dX5_addPlace_73 : decode cX5_addPlace 73 = .ok (.getfield 54, 3) := by decide +kernel
theorem dX5_addPlace_76 : decode cX5_addPlace 76 = .ok (.iconst 1, 1) := by decide +kernel
theorem dX5_addPlace_77 : decode cX5_addPlace 77 = .ok (.iadd, 1) := by decide +kernel
theorem dX5_addPlace_78 : decode cX5_addPlace 78 = .ok (.putfield 54, 3) := by decide +kernel
theorem dX5_addPlace_81 : decode cX5_addPlace 81 = .ok (.return_, 1) := by decide +kernel
noncomputable def f_X5_addPlace_b18 (s : Nat) (l1 : Int32) (l2 : Int32) (l3 : Int32) (l4 : Int32) (q : Int32 × Mem) : Option ((Int32 × Mem) ⊕ (Int32 × Mem)) :=
  if l3 ≤ q.1 then (some (.inr (q.1, q.2))) else (wr q.2 (s + 3) 32 (((q.2 s 3) * 4) + q.1) (l1 + (q.1 * l2)) fun m43 => lt' (q.1 + 1) fun v44 => some (.inl (v44, m43)))
noncomputable def f_X5_addPlace (s : Nat) (l1 : Int32) (l2 : Int32) (l3 : Int32) (l4 : Int32) (mem : Mem) : Option (Mem) :=
  if l3 < 2 then (some mem) else (if (mem s 3) < 8 then (ob (lp (f_X5_addPlace_b18 s l1 l2 l3 l4) FU (0, mem)) fun q18 => wr q18.2 (s + 2) 8 (q18.2 s 3) l3 fun m59 => wr m59 (s + 4) 8 (m59 s 3) (vp_nar .boolean l4) fun m70 => lt' (mset m70 s 3 ((m70 s 3) + 1)) fun m78 => some m78) else (some mem))
def P_X5_addPlace_18 (E : Ex) (κ : Kx) (ad : Nat → Nat) (lay : List Ent) (s : Nat) (l1 : Int32) (l2 : Int32) (l3 : Int32) (l4 : Int32) : (Int32 × Mem) ⊕ (Int32 × Mem) → Prop
  | .inl q => Gw E κ 6 0 0 18 [some (.ref (ad s)), some (.int l1), some (.int l2), some (.int l3), some (.int l4), some (.int q.1)] [] ad lay q.2
  | .inr q => Gw E κ 6 0 0 50 [some (.ref (ad s)), none, none, some (.int l3), some (.int l4), none] [] ad lay q.2
set_option maxRecDepth 100000 in
set_option maxHeartbeats 4000000 in
theorem b_X5_addPlace_18 {E : Ex} {κ : Kx} {ad : Nat → Nat} {sh sp : Nat} {tl : List Ent} {d : Nat} {s : Nat} (C : Cx E κ cX5_addPlace RX5 6 none d) (hd : 0 ≤ d) (hs : isS s) {l1 : Int32} {l2 : Int32} {l3 : Int32} {l4 : Int32} {q : Int32 × Mem} {x : (Int32 × Mem) ⊕ (Int32 × Mem)} (h : f_X5_addPlace_b18 s l1 l2 l3 l4 q = some x) (hP : (P_X5_addPlace_18 E κ ad (LC sh sp ++ tl) s l1 l2 l3 l4) x) : Gw E κ 6 0 0 18 [some (.ref (ad s)), some (.int l1), some (.int l2), some (.int l3), some (.int l4), some (.int q.1)] [] ad (LC sh sp ++ tl) q.2 := by
  unfold f_X5_addPlace_b18 at h
  refine g_iload (pc := 18) (i := 5) (x := q.1) C dX5_addPlace_18 rfl ?_
  refine g_iload_n (pc := 20) (i := 3) (x := l3) C dX5_addPlace_20 rfl rfl ?_
  rcases ite_some' h with ⟨hc21, h⟩ | ⟨hc21, h⟩
  · refine g_icmp_ge_t (pc := 21) C 50 dX5_addPlace_21 (by decide) hc21 ?_
    refine g_mask (lv' := [some (.ref (ad s)), none, none, some (.int l3), some (.int l4), none]) [true, false, false, true, true, false] rfl ?_
    cases h
    exact hP
  · refine g_icmp_ge_f (pc := 21) C 50 dX5_addPlace_21 (by decide) hc21 ?_
    refine g_aload_n (pc := 24) (i := 0) (x := ad s) C dX5_addPlace_24 rfl rfl ?_
    refine g_get (pc := 25) (v := .ref (ad (s + 3))) C ok_X5 5 (by decide) wf_X5_19 dX5_addPlace_25 (lz_0 hs) rfl ?_
    refine g_aload_n (pc := 28) (i := 0) (x := ad s) C dX5_addPlace_28 rfl rfl ?_
    refine g_get (pc := 29) (v := .int (q.2 s 3)) C ok_X5 3 (by decide) wf_X5_54 dX5_addPlace_29 (lz_0 hs) rfl ?_
    refine g_iconst (pc := 32) (v := 4) C dX5_addPlace_32 rfl ?_
    refine g_imul (pc := 33) C dX5_addPlace_33 ?_
    refine g_iload (pc := 34) (i := 5) (x := q.1) C dX5_addPlace_34 rfl ?_
    refine g_iadd (pc := 36) C dX5_addPlace_36 ?_
    refine g_iload_n (pc := 37) (i := 1) (x := l1) C dX5_addPlace_37 rfl rfl ?_
    refine g_iload (pc := 38) (i := 5) (x := q.1) C dX5_addPlace_38 rfl ?_
    refine g_iload_n (pc := 40) (i := 2) (x := l2) C dX5_addPlace_40 rfl rfl ?_
    refine g_imul (pc := 41) C dX5_addPlace_41 ?_
    refine g_iadd (pc := 42) C dX5_addPlace_42 ?_
    obtain ⟨m43, hm43, hi43, h⟩ := wr_some h
    refine g_iast (pc := 43) C dX5_addPlace_43 (lz_3 hs) hi43 ?_
    refine g_mem hm43 ?_
    obtain ⟨v44, hv44, h⟩ := lt_some h
    refine g_iinc (pc := 44) (i := 5) (x := q.1) (v := v44) (lv' := [some (.ref (ad s)), some (.int l1), some (.int l2), some (.int l3), some (.int l4), some (.int v44)]) C dX5_addPlace_44 rfl hv44.symm (by decide) rfl rfl ?_
    refine g_goto (pc := 47) C 18 dX5_addPlace_47 (by decide) ?_
    cases h
    exact hP
set_option maxRecDepth 100000 in
set_option maxHeartbeats 4000000 in
theorem m_X5_addPlace {E : Ex} {ad : Nat → Nat} {sh sp : Nat} {tl : List Ent} {d : Nat} (hd : 0 ≤ d) {s : Nat} (hs : isS s) {l1 : Int32} {l2 : Int32} {l3 : Int32} {l4 : Int32} {mem : Mem} {r : Mem} (h : f_X5_addPlace s l1 l2 l3 l4 mem = some r) : Cl E yX5_addPlace cX5_addPlace 6 none d [.ref (ad s), .int l1, .int l2, .int l3, .int l4] none ad (LC sh sp ++ tl) mem (LC sh sp ++ tl) r := by
  refine Cl.of [some (.ref (ad s)), some (.int l1), some (.int l2), some (.int l3), some (.int l4), none] (by decide +kernel) rfl (Nat.le_of_ble_eq_true rfl) (fun κ C hP => ?_)
  have C : Cx E κ cX5_addPlace RX5 6 none d := C
  unfold f_X5_addPlace at h
  refine g_iload_n (pc := 0) (i := 3) (x := l3) C dX5_addPlace_0 rfl rfl ?_
  refine g_iconst (pc := 1) (v := 2) C dX5_addPlace_1 rfl ?_
  rcases ite_some' h with ⟨hc2, h⟩ | ⟨hc2, h⟩
  · refine g_icmp_lt_t (pc := 2) C 14 dX5_addPlace_2 (by decide) hc2 ?_
    cases h
    exact g_vret (pc := 14) C hP rfl dX5_addPlace_14
  · refine g_icmp_lt_f (pc := 2) C 14 dX5_addPlace_2 (by decide) hc2 ?_
    refine g_aload_n (pc := 5) (i := 0) (x := ad s) C dX5_addPlace_5 rfl rfl ?_
    refine g_get (pc := 6) (v := .int (mem s 3)) C ok_X5 3 (by decide) wf_X5_54 dX5_addPlace_6 (lz_0 hs) rfl ?_
    refine g_bipush (pc := 9) (v := 8) C dX5_addPlace_9 rfl ?_
    rcases ite_some' h with ⟨hc11, h⟩ | ⟨hc11, h⟩
    · refine g_icmp_lt_t (pc := 11) C 15 dX5_addPlace_11 (by decide) hc11 ?_
      refine g_iconst (pc := 15) (v := 0) C dX5_addPlace_15 rfl ?_
      refine g_istore (pc := 16) (i := 5) (lv' := [some (.ref (ad s)), some (.int l1), some (.int l2), some (.int l3), some (.int l4), some (.int 0)]) C dX5_addPlace_16 (by decide) rfl rfl ?_
      obtain ⟨q18, hq, h⟩ := ob_some h
      refine lp_gw (P_X5_addPlace_18 E κ ad (LC sh sp ++ tl) s l1 l2 l3 l4) (fun q x hb hp => b_X5_addPlace_18 C hd hs hb hp) _ (0, mem) _ hq ?_
      show Gw E κ 6 0 0 50 [some (.ref (ad s)), none, none, some (.int l3), some (.int l4), none] [] ad (LC sh sp ++ tl) q18.2
      refine g_aload_n (pc := 50) (i := 0) (x := ad s) C dX5_addPlace_50 rfl rfl ?_
      refine g_get (pc := 51) (v := .ref (ad (s + 2))) C ok_X5 4 (by decide) wf_X5_15 dX5_addPlace_51 (lz_0 hs) rfl ?_
      refine g_aload_n (pc := 54) (i := 0) (x := ad s) C dX5_addPlace_54 rfl rfl ?_
      refine g_get (pc := 55) (v := .int (q18.2 s 3)) C ok_X5 3 (by decide) wf_X5_54 dX5_addPlace_55 (lz_0 hs) rfl ?_
      refine g_iload_n (pc := 58) (i := 3) (x := l3) C dX5_addPlace_58 rfl rfl ?_
      obtain ⟨m59, hm59, hi59, h⟩ := wr_some h
      refine g_iast (pc := 59) C dX5_addPlace_59 (lz_2 hs) hi59 ?_
      refine g_mem hm59 ?_
      refine g_aload_n (pc := 60) (i := 0) (x := ad s) C dX5_addPlace_60 rfl rfl ?_
      refine g_get (pc := 61) (v := .ref (ad (s + 4))) C ok_X5 6 (by decide) wf_X5_22 dX5_addPlace_61 (lz_0 hs) rfl ?_
      refine g_aload_n (pc := 64) (i := 0) (x := ad s) C dX5_addPlace_64 rfl rfl ?_
      refine g_get (pc := 65) (v := .int (m59 s 3)) C ok_X5 3 (by decide) wf_X5_54 dX5_addPlace_65 (lz_0 hs) rfl ?_
      refine g_iload (pc := 68) (i := 4) (x := l4) C dX5_addPlace_68 rfl ?_
      obtain ⟨m70, hm70, hi70, h⟩ := wr_some h
      refine g_zast (pc := 70) C dX5_addPlace_70 (lz_4 hs) hi70 ?_
      refine g_mem hm70 ?_
      refine g_aload_n (pc := 71) (i := 0) (x := ad s) C dX5_addPlace_71 rfl rfl ?_
      refine g_dup (pc := 72) C dX5_addPlace_72 rfl ?_
      refine g_get (pc := 73) (v := .int (m70 s 3)) C ok_X5 3 (by decide) wf_X5_54 dX5_addPlace_73 (lz_0 hs) rfl ?_
      refine g_iconst (pc := 76) (v := 1) C dX5_addPlace_76 rfl ?_
      refine g_iadd (pc := 77) C dX5_addPlace_77 ?_
      obtain ⟨m78, hm78, h⟩ := lt_some h
      refine g_put (pc := 78) C ok_X5 3 (by decide) wf_X5_54 dX5_addPlace_78 rfl rfl (lz_0 hs) ?_
      refine g_mem hm78 ?_
      cases h
      exact g_vret (pc := 81) C hP rfl dX5_addPlace_81
    · refine g_icmp_lt_f (pc := 11) C 15 dX5_addPlace_11 (by decide) hc11 ?_
      cases h
      exact g_vret (pc := 14) C hP rfl dX5_addPlace_14

theorem dX5_findPlaces_0 : decode cX5_findPlaces 0 = .ok (.iconst 0, 1) := by decide +kernel
theorem dX5_findPlaces_1 : decode cX5_findPlaces 1 = .ok (.istore 5, 2) := by decide +kernel
theorem dX5_findPlaces_3 : decode cX5_findPlaces 3 = .ok (.iconst 0, 1) := by decide +kernel
theorem dX5_findPlaces_4 : decode cX5_findPlaces 4 = .ok (.istore 6, 2) := by decide +kernel
theorem dX5_findPlaces_6 : decode cX5_findPlaces 6 = .ok (.iload 6, 2) := by decide +kernel
theorem dX5_findPlaces_8 : decode cX5_findPlaces 8 = .ok (.iload_n 3, 1) := by decide +kernel
theorem dX5_findPlaces_9 : decode cX5_findPlaces 9 = .ok (.if_icmp .gt 56, 3) := by decide +kernel
theorem dX5_findPlaces_12 : decode cX5_findPlaces 12 = .ok (.iload 6, 2) := by decide +kernel
theorem dX5_findPlaces_14 : decode cX5_findPlaces 14 = .ok (.iload_n 3, 1) := by decide +kernel
theorem dX5_findPlaces_15 : decode cX5_findPlaces 15 = .ok (.if_icmp .ge 23, 3) := by decide +kernel
theorem dX5_findPlaces_18 : decode cX5_findPlaces 18 = .ok (.aload_n 0, 1) := by decide +kernel
theorem dX5_findPlaces_19 : decode cX5_findPlaces 19 = .ok (.getfield 9, 3) := by decide +kernel
theorem dX5_findPlaces_22 : decode cX5_findPlaces 22 = .ok (.iload_n 1, 1) := by decide +kernel
theorem dX5_findPlaces_23 : decode cX5_findPlaces 23 = .ok (.iload 6, 2) := by decide +kernel
theorem dX5_findPlaces_25 : decode cX5_findPlaces 25 = .ok (.iload_n 2, 1) := by decide +kernel
theorem dX5_findPlaces_26 : decode cX5_findPlaces 26 = .ok (.imul, 1) := by decide +kernel
theorem dX5_findPlaces_27 : decode cX5_findPlaces 27 = .ok (.iadd, 1) := by decide +kernel
theorem dX5_findPlaces_28 : decode cX5_findPlaces 28 = .ok (.baload, 1) := by decide +kernel
theorem dX5_findPlaces_29 : decode cX5_findPlaces 29 = .ok (.ifCond .ne 9, 3) := by decide +kernel
theorem dX5_findPlaces_32 : decode cX5_findPlaces 32 = .ok (.iinc 5 1, 3) := by decide +kernel
theorem dX5_findPlaces_35 : decode cX5_findPlaces 35 = .ok (.goto 24, 3) := by decide +kernel
theorem dX5_findPlaces_38 : decode cX5_findPlaces 38 = .ok (.aload_n 0, 1) := by decide +kernel
theorem dX5_findPlaces_39 : decode cX5_findPlaces 39 = .ok (.iload_n 1, 1) := by decide +kernel
theorem dX5_findPlaces_40 : decode cX5_findPlaces 40 = .ok (.iload 6, 2) := by decide +kernel
theorem dX5_findPlaces_42 : decode cX5_findPlaces 42 = .ok (.iload 5, 2) := by decide +kernel
theorem dX5_findPlaces_44 : decode cX5_findPlaces 44 = .ok (.isub, 1) := by decide +kernel
theorem dX5_findPlaces_45 : decode cX5_findPlaces 45 = .ok (.iload_n 2, 1) := by decide +kernel
theorem dX5_findPlaces_46 : decode cX5_findPlaces 46 = .ok (.imul, 1) := by decide +kernel
theorem dX5_findPlaces_47 : decode cX5_findPlaces 47 = .ok (.iadd, 1) := by decide +kernel
theorem dX5_findPlaces_48 : decode cX5_findPlaces 48 = .ok (.iload_n 2, 1) := by decide +kernel
theorem dX5_findPlaces_49 : decode cX5_findPlaces 49 = .ok (.iload 5, 2) := by decide +kernel
theorem dX5_findPlaces_51 : decode cX5_findPlaces 51 = .ok (.iload 4, 2) := by decide +kernel
theorem dX5_findPlaces_53 : decode cX5_findPlaces 53 = .ok (.invokevirtual 95, 3) := by decide +kernel
theorem dX5_findPlaces_56 : decode cX5_findPlaces 56 = .ok (.iconst 0, 1) := by decide +kernel
theorem dX5_findPlaces_57 : decode cX5_findPlaces 57 = .ok (.istore 5, 2) := by decide +kernel
theorem dX5_findPlaces_59 : decode cX5_findPlaces 59 = .ok (.iinc 6 1, 3) := by decide +kernel
theorem dX5_findPlaces_62 : decode cX5_findPlaces 62 = .ok (.goto (-56), 3) := by decide +kernel
theorem dX5_findPlaces_65 : decode cX5_findPlaces 65 = .ok (.return_, 1) := by decide +kernel
noncomputable def f_X5_findPlaces_j38 (s : Nat) (l1 : Int32) (l2 : Int32) (l3 : Int32) (l4 : Int32) (l5 : Int32) (l6 : Int32) (mem : Mem) : Option ((Int32 × Int32 × Mem) ⊕ (Int32 × Int32 × Mem)) :=
  ob (f_X5_addPlace s (l1 + ((l6 - l5) * l2)) l2 l5 l4 mem) fun m53 => lt' (l6 + 1) fun v59 => some (.inl (0, v59, m53))
noncomputable def f_X5_findPlaces_b6 (s : Nat) (l1 : Int32) (l2 : Int32) (l3 : Int32) (l4 : Int32) (q : Int32 × Int32 × Mem) : Option ((Int32 × Int32 × Mem) ⊕ (Int32 × Int32 × Mem)) :=
  if l3 < q.2.1 then (some (.inr (q.1, q.2.1, q.2.2))) else (if l3 ≤ q.2.1 then (f_X5_findPlaces_j38 s l1 l2 l3 l4 q.1 q.2.1 q.2.2) else (rd (q.2.2 (s + 1)) 16 (l1 + (q.2.1 * l2)) fun v28 => if v28 = 0 then (lt' (q.1 + 1) fun v32 => lt' (q.2.1 + 1) fun v59 => some (.inl (v32, v59, q.2.2))) else (f_X5_findPlaces_j38 s l1 l2 l3 l4 q.1 q.2.1 q.2.2)))
noncomputable def f_X5_findPlaces (s : Nat) (l1 : Int32) (l2 : Int32) (l3 : Int32) (l4 : Int32) (mem : Mem) : Option (Mem) :=
  ob (lp (f_X5_findPlaces_b6 s l1 l2 l3 l4) FU (0, 0, mem)) fun q6 => some q6.2.2
def P_X5_findPlaces_6 (E : Ex) (κ : Kx) (ad : Nat → Nat) (lay : List Ent) (s : Nat) (l1 : Int32) (l2 : Int32) (l3 : Int32) (l4 : Int32) : (Int32 × Int32 × Mem) ⊕ (Int32 × Int32 × Mem) → Prop
  | .inl q => Gw E κ 7 0 0 6 [some (.ref (ad s)), some (.int l1), some (.int l2), some (.int l3), some (.int l4), some (.int q.1), some (.int q.2.1)] [] ad lay q.2.2
  | .inr q => Gw E κ 7 0 0 65 [none, none, none, none, none, none, none] [] ad lay q.2.2
set_option maxRecDepth 100000 in
set_option maxHeartbeats 4000000 in
theorem j_X5_findPlaces_38 {E : Ex} {κ : Kx} {ad : Nat → Nat} {sh sp : Nat} {tl : List Ent} {d : Nat} {s : Nat} (C : Cx E κ cX5_findPlaces RX5 7 none d) (hd : 1 ≤ d) (hs : isS s) {l1 : Int32} {l2 : Int32} {l3 : Int32} {l4 : Int32} {l5 : Int32} {l6 : Int32} {mem : Mem} {x : (Int32 × Int32 × Mem) ⊕ (Int32 × Int32 × Mem)} (h : f_X5_findPlaces_j38 s l1 l2 l3 l4 l5 l6 mem = some x) (hP : (P_X5_findPlaces_6 E κ ad (LC sh sp ++ tl) s l1 l2 l3 l4) x) : Gw E κ 7 0 0 38 [some (.ref (ad s)), some (.int l1), some (.int l2), some (.int l3), some (.int l4), some (.int l5), some (.int l6)] [] ad (LC sh sp ++ tl) mem := by
  unfold f_X5_findPlaces_j38 at h
  refine g_aload_n (pc := 38) (i := 0) (x := ad s) C dX5_findPlaces_38 rfl rfl ?_
  refine g_iload_n (pc := 39) (i := 1) (x := l1) C dX5_findPlaces_39 rfl rfl ?_
  refine g_iload (pc := 40) (i := 6) (x := l6) C dX5_findPlaces_40 rfl ?_
  refine g_iload (pc := 42) (i := 5) (x := l5) C dX5_findPlaces_42 rfl ?_
  refine g_isub (pc := 44) C dX5_findPlaces_44 ?_
  refine g_iload_n (pc := 45) (i := 2) (x := l2) C dX5_findPlaces_45 rfl rfl ?_
  refine g_imul (pc := 46) C dX5_findPlaces_46 ?_
  refine g_iadd (pc := 47) C dX5_findPlaces_47 ?_
  refine g_iload_n (pc := 48) (i := 2) (x := l2) C dX5_findPlaces_48 rfl rfl ?_
  refine g_iload (pc := 49) (i := 5) (x := l5) C dX5_findPlaces_49 rfl ?_
  refine g_iload (pc := 51) (i := 4) (x := l4) C dX5_findPlaces_51 rfl ?_
  obtain ⟨m53, hcall53, h⟩ := ob_some h
  refine g_callV (pc := 53) C ce0 mi_X5_addPlace mv_X5_addPlace wm_X5_95 dX5_findPlaces_53 ok_X5 [.int (l1 + ((l6 - l5) * l2)), .int l2, .int l5, .int l4] [] (lz_0 hs) (by omega) rfl rfl (Nat.le_of_ble_eq_true rfl) (m_X5_addPlace (d := d - 1) (by omega) hs hcall53) ?_
  show Gw E κ 7 0 0 56 [some (.ref (ad s)), some (.int l1), some (.int l2), some (.int l3), some (.int l4), some (.int l5), some (.int l6)] [] ad (LC sh sp ++ tl) m53
  refine g_iconst (pc := 56) (v := 0) C dX5_findPlaces_56 rfl ?_
  refine g_istore (pc := 57) (i := 5) (lv' := [some (.ref (ad s)), some (.int l1), some (.int l2), some (.int l3), some (.int l4), some (.int 0), some (.int l6)]) C dX5_findPlaces_57 (by decide) rfl rfl ?_
  obtain ⟨v59, hv59, h⟩ := lt_some h
  refine g_iinc (pc := 59) (i := 6) (x := l6) (v := v59) (lv' := [some (.ref (ad s)), some (.int l1), some (.int l2), some (.int l3), some (.int l4), some (.int 0), some (.int v59)]) C dX5_findPlaces_59 rfl hv59.symm (by decide) rfl rfl ?_
  refine g_goto (pc := 62) C 6 dX5_findPlaces_62 (by decide) ?_
  cases h
  exact hP
set_option maxRecDepth 100000 in
set_option maxHeartbeats 4000000 in
theorem b_X5_findPlaces_6 {E : Ex} {κ : Kx} {ad : Nat → Nat} {sh sp : Nat} {tl : List Ent} {d : Nat} {s : Nat} (C : Cx E κ cX5_findPlaces RX5 7 none d) (hd : 1 ≤ d) (hs : isS s) {l1 : Int32} {l2 : Int32} {l3 : Int32} {l4 : Int32} {q : Int32 × Int32 × Mem} {x : (Int32 × Int32 × Mem) ⊕ (Int32 × Int32 × Mem)} (h : f_X5_findPlaces_b6 s l1 l2 l3 l4 q = some x) (hP : (P_X5_findPlaces_6 E κ ad (LC sh sp ++ tl) s l1 l2 l3 l4) x) : Gw E κ 7 0 0 6 [some (.ref (ad s)), some (.int l1), some (.int l2), some (.int l3), some (.int l4), some (.int q.1), some (.int q.2.1)] [] ad (LC sh sp ++ tl) q.2.2 := by
  unfold f_X5_findPlaces_b6 at h
  refine g_iload (pc := 6) (i := 6) (x := q.2.1) C dX5_findPlaces_6 rfl ?_
  refine g_iload_n (pc := 8) (i := 3) (x := l3) C dX5_findPlaces_8 rfl rfl ?_
  rcases ite_some' h with ⟨hc9, h⟩ | ⟨hc9, h⟩
  · refine g_icmp_gt_t (pc := 9) C 65 dX5_findPlaces_9 (by decide) hc9 ?_
    refine g_mask (lv' := [none, none, none, none, none, none, none]) [false, false, false, false, false, false, false] rfl ?_
    cases h
    exact hP
  · refine g_icmp_gt_f (pc := 9) C 65 dX5_findPlaces_9 (by decide) hc9 ?_
    refine g_iload (pc := 12) (i := 6) (x := q.2.1) C dX5_findPlaces_12 rfl ?_
    refine g_iload_n (pc := 14) (i := 3) (x := l3) C dX5_findPlaces_14 rfl rfl ?_
    rcases ite_some' h with ⟨hc15, h⟩ | ⟨hc15, h⟩
    · refine g_icmp_ge_t (pc := 15) C 38 dX5_findPlaces_15 (by decide) hc15 ?_
      exact j_X5_findPlaces_38 C hd hs h hP
    · refine g_icmp_ge_f (pc := 15) C 38 dX5_findPlaces_15 (by decide) hc15 ?_
      refine g_aload_n (pc := 18) (i := 0) (x := ad s) C dX5_findPlaces_18 rfl rfl ?_
      refine g_get (pc := 19) (v := .ref (ad (s + 1))) C ok_X5 2 (by decide) wf_X5_9 dX5_findPlaces_19 (lz_0 hs) rfl ?_
      refine g_iload_n (pc := 22) (i := 1) (x := l1) C dX5_findPlaces_22 rfl rfl ?_
      refine g_iload (pc := 23) (i := 6) (x := q.2.1) C dX5_findPlaces_23 rfl ?_
      refine g_iload_n (pc := 25) (i := 2) (x := l2) C dX5_findPlaces_25 rfl rfl ?_
      refine g_imul (pc := 26) C dX5_findPlaces_26 ?_
      refine g_iadd (pc := 27) C dX5_findPlaces_27 ?_
      obtain ⟨v28, hv28, hi28, h⟩ := rd_some h
      refine g_zald (pc := 28) C dX5_findPlaces_28 (lz_1 hs) hi28 ?_
      refine g_topi hv28 ?_
      rcases ite_some' h with ⟨hc29, h⟩ | ⟨hc29, h⟩
      · refine g_if_ne_f (pc := 29) C 38 dX5_findPlaces_29 (by decide) hc29 ?_
        obtain ⟨v32, hv32, h⟩ := lt_some h
        refine g_iinc (pc := 32) (i := 5) (x := q.1) (v := v32) (lv' := [some (.ref (ad s)), some (.int l1), some (.int l2), some (.int l3), some (.int l4), some (.int v32), some (.int q.2.1)]) C dX5_findPlaces_32 rfl hv32.symm (by decide) rfl rfl ?_
        refine g_goto (pc := 35) C 59 dX5_findPlaces_35 (by decide) ?_
        obtain ⟨v59, hv59, h⟩ := lt_some h
        refine g_iinc (pc := 59) (i := 6) (x := q.2.1) (v := v59) (lv' := [some (.ref (ad s)), some (.int l1), some (.int l2), some (.int l3), some (.int l4), some (.int v32), some (.int v59)]) C dX5_findPlaces_59 rfl hv59.symm (by decide) rfl rfl ?_
        refine g_goto (pc := 62) C 6 dX5_findPlaces_62 (by decide) ?_
        cases h
        exact hP
      · refine g_if_ne_t (pc := 29) C 38 dX5_findPlaces_29 (by decide) hc29 ?_
        exact j_X5_findPlaces_38 C hd hs h hP
set_option maxRecDepth 100000 in
set_option maxHeartbeats 4000000 in
theorem m_X5_findPlaces {E : Ex} {ad : Nat → Nat} {sh sp : Nat} {tl : List Ent} {d : Nat} (hd : 1 ≤ d) {s : Nat} (hs : isS s) {l1 : Int32} {l2 : Int32} {l3 : Int32} {l4 : Int32} {mem : Mem} {r : Mem} (h : f_X5_findPlaces s l1 l2 l3 l4 mem = some r) : Cl E yX5_findPlaces cX5_findPlaces 7 none d [.ref (ad s), .int l1, .int l2, .int l3, .int l4] none ad (LC sh sp ++ tl) mem (LC sh sp ++ tl) r := by
  refine Cl.of [some (.ref (ad s)), some (.int l1), some (.int l2), some (.int l3), some (.int l4), none, none] (by decide +kernel) rfl (Nat.le_of_ble_eq_true rfl) (fun κ C hP => ?_)
  have C : Cx E κ cX5_findPlaces RX5 7 none d := C
  unfold f_X5_findPlaces at h
  refine g_iconst (pc := 0) (v := 0) C dX5_findPlaces_0 rfl ?_
  refine g_istore (pc := 1) (i := 5) (lv' := [some (.ref (ad s)), some (.int l1), some (.int l2), some (.int l3), some (.int l4), some (.int 0), none]) C dX5_findPlaces_1 (by decide) rfl rfl ?_
  refine g_iconst (pc := 3) (v := 0) C dX5_findPlaces_3 rfl ?_
  refine g_istore (pc := 4) (i := 6) (lv' := [some (.ref (ad s)), some (.int l1), some (.int l2), some (.int l3), some (.int l4), some (.int 0), some (.int 0)]) C dX5_findPlaces_4 (by decide) rfl rfl ?_
  obtain ⟨q6, hq, h⟩ := ob_some h
  refine lp_gw (P_X5_findPlaces_6 E κ ad (LC sh sp ++ tl) s l1 l2 l3 l4) (fun q x hb hp => b_X5_findPlaces_6 C hd hs hb hp) _ (0, 0, mem) _ hq ?_
  show Gw E κ 7 0 0 65 [none, none, none, none, none, none, none] [] ad (LC sh sp ++ tl) q6.2.2
  cases h
  exact g_vret (pc := 65) C hP rfl dX5_findPlaces_65

theorem dX5_finish_0 : decode cX5_finish 0 = .ok (.iconst 0, 1) := by decide +kernel
theorem dX5_finish_1 : decode cX5_finish 1 = .ok (.istore_n 1, 1) := by decide +kernel
theorem dX5_finish_2 : decode cX5_finish 2 = .ok (.iload_n 1, 1) := by decide +kernel
theorem dX5_finish_3 : decode cX5_finish 3 = .ok (.bipush 16, 2) := by decide +kernel
theorem dX5_finish_5 : decode cX5_finish 5 = .ok (.if_icmp .ge 28, 3) := by decide +kernel
theorem dX5_finish_8 : decode cX5_finish 8 = .ok (.aload_n 0, 1) := by decide +kernel
theorem dX5_finish_9 : decode cX5_finish 9 = .ok (.getfield 9, 3) := by decide +kernel
theorem dX5_finish_12 : decode cX5_finish 12 = .ok (.iload_n 1, 1) := by decide +kernel
theorem dX5_finish_13 : decode cX5_finish 13 = .ok (.baload, 1) := by decide +kernel
theorem dX5_finish_14 : decode cX5_finish 14 = .ok (.ifCond .eq 13, 3) := by decide +kernel
theorem dX5_finish_17 : decode cX5_finish 17 = .ok (.aload_n 0, 1) := by decide +kernel
theorem dX5_finish_18 : decode cX5_finish 18 = .ok (.getfield 43, 3) := by decide +kernel
theorem dX5_finish_21 : decode cX5_finish 21 = .ok (.getfield 84, 3) := by decide +kernel
theorem dX5_finish_24 : decode cX5_finish 24 = .ok (.iload_n 1, 1) := by decide +kernel
theorem dX5_finish_25 : decode cX5_finish 25 = .ok (.iconst 0, 1) := by decide +kernel
theorem dX5_finish_26 : decode cX5_finish 26 = .ok (.iastore, 1) := by decide +kernel
theorem dX5_finish_27 : decode cX5_finish 27 = .ok (.iinc 1 1, 3) := by decide +kernel
theorem dX5_finish_30 : decode cX5_finish 30 = .ok (.goto (-28), 3) := by decide +kernel
theorem dX5_finish_33 : decode cX5_finish 33 = .ok (.iconst 0, 1) := by decide +kernel
theorem dX5_finish_34 : decode cX5_finish 34 = .ok (.istore_n 1, 1) := by decide +kernel
theorem dX5_finish_35 : decode cX5_finish 35 = .ok (.iload_n 1, 1) := by decide +kernel
theorem dX5_finish_36 : decode cX5_finish 36 = .ok (.aload_n 0, 1) := by decide +kernel
theorem dX5_finish_37 : decode cX5_finish 37 = .ok (.getfield 47, 3) := by decide +kernel
theorem dX5_finish_40 : decode cX5_finish 40 = .ok (.if_icmp .ge 25, 3) := by decide +kernel
theorem dX5_finish_43 : decode cX5_finish 43 = .ok (.aload_n 0, 1) := by decide +kernel
theorem dX5_finish_44 : decode cX5_finish 44 = .ok (.iload_n 1, 1) := by decide +kernel
theorem dX5_finish_45 : decode cX5_finish 45 = .ok (.aload_n 0, 1) := by decide +kernel
theorem dX5_finish_46 : decode cX5_finish 46 = .ok (.getfield 51, 3) := by decide +kernel
theorem dX5_finish_49 : decode cX5_finish 49 = .ok (.imul, 1) := by decide +kernel
theorem dX5_finish_50 : decode cX5_finish 50 = .ok (.iconst 1, 1) := by decide +kernel
theorem dX5_finish_51 : decode cX5_finish 51 = .ok (.aload_n 0, 1) := by decide +kernel
theorem dX5_finish_52 : decode cX5_finish 52 = .ok (.getfield 51, 3) := by decide +kernel
theorem dX5_finish_55 : decode cX5_finish 55 = .ok (.iconst 0, 1) := by decide +kernel
theorem dX5_finish_56 : decode cX5_finish 56 = .ok (.invokevirtual 91, 3) := by decide +kernel
theorem dX5_finish_59 : decode cX5_finish 59 = .ok (.iinc 1 1, 3) := by decide +kernel
theorem dX5_finish_62 : decode cX5_finish 62 = .ok (.goto (-27), 3) := by decide +kernel
theorem dX5_finish_65 : decode cX5_finish 65 = .ok (.iconst 0, 1) := by decide +kernel
theorem dX5_finish_66 : decode cX5_finish 66 = .ok (.istore_n 1, 1) := by decide +kernel
theorem dX5_finish_67 : decode cX5_finish 67 = .ok (.iload_n 1, 1) := by decide +kernel
theorem dX5_finish_68 : decode cX5_finish 68 = .ok (.aload_n 0, 1) := by decide +kernel
theorem dX5_finish_69 : decode cX5_finish 69 = .ok (.getfield 51, 3) := by decide +kernel
theorem dX5_finish_72 : decode cX5_finish 72 = .ok (.if_icmp .ge 23, 3) := by decide +kernel
theorem dX5_finish_75 : decode cX5_finish 75 = .ok (.aload_n 0, 1) := by decide +kernel
theorem dX5_finish_76 : decode cX5_finish 76 = .ok (.iload_n 1, 1) := by decide +kernel
theorem dX5_finish_77 : decode cX5_finish 77 = .ok (.aload_n 0, 1) := by decide +kernel
theorem dX5_finish_78 : decode cX5_finish 78 = .ok (.getfield 51, 3) := by decide +kernel
theorem dX5_finish_81 : decode cX5_finish 81 = .ok (.aload_n 0, 1) := by decide +kernel
theorem dX5_finish_82 : decode cX5_finish 82 = .ok (.getfield 47, 3) := by decide +kernel
theorem dX5_finish_85 : decode cX5_finish 85 = .ok (.iconst 1, 1) := by decide +kernel
theorem dX5_finish_86 : decode cX5_finish 86 = .ok (.invokevirtual 91, 3) := by decide +kernel
theorem dX5_finish_89 : decode cX5_finish 89 = .ok (.iinc 1 1, 3) := by decide +kernel
theorem dX5_finish_92 : decode cX5_finish 92 = .ok (.goto (-25), 3) := by decide +kernel
theorem dX5_finish_95 : decode cX5_finish 95 = .ok (.return_, 1) := by decide +kernel
noncomputable def f_X5_finish_b2 (s : Nat) (q : Int32 × Mem) : Option ((Int32 × Mem) ⊕ (Int32 × Mem)) :=
  if 16 ≤ q.1 then (some (.inr (q.1, q.2))) else (rd (q.2 (s + 1)) 16 q.1 fun v13 => if v13 = 0 then (lt' (q.1 + 1) fun v27 => some (.inl (v27, q.2))) else (wr q.2 ((s + 10) + 1) 16 q.1 0 fun m26 => lt' (q.1 + 1) fun v27 => some (.inl (v27, m26))))
noncomputable def f_X5_finish_b35 (s : Nat) (q : Int32 × Mem) : Option ((Int32 × Mem) ⊕ (Int32 × Mem)) :=
  if (q.2 s 0) ≤ q.1 then (some (.inr (q.1, q.2))) else (ob (f_X5_findPlaces s (q.1 * (q.2 s 1)) 1 (q.2 s 1) 0 q.2) fun m56 => lt' (q.1 + 1) fun v59 => some (.inl (v59, m56)))
noncomputable def f_X5_finish_b67 (s : Nat) (q : Int32 × Mem) : Option ((Int32 × Mem) ⊕ (Int32 × Mem)) :=
  if (q.2 s 1) ≤ q.1 then (some (.inr (q.1, q.2))) else (ob (f_X5_findPlaces s q.1 (q.2 s 1) (q.2 s 0) 1 q.2) fun m86 => lt' (q.1 + 1) fun v89 => some (.inl (v89, m86)))
noncomputable def f_X5_finish (s : Nat)  (mem : Mem) : Option (Mem) :=
  ob (lp (f_X5_finish_b2 s) FU (0, mem)) fun q2 => ob (lp (f_X5_finish_b35 s) FU (0, q2.2)) fun q35 => ob (lp (f_X5_finish_b67 s) FU (0, q35.2)) fun q67 => some q67.2
def P_X5_finish_2 (E : Ex) (κ : Kx) (ad : Nat → Nat) (lay : List Ent) (s : Nat) : (Int32 × Mem) ⊕ (Int32 × Mem) → Prop
  | .inl q => Gw E κ 2 0 0 2 [some (.ref (ad s)), some (.int q.1)] [] ad lay q.2
  | .inr q => Gw E κ 2 0 0 33 [some (.ref (ad s)), none] [] ad lay q.2
def P_X5_finish_35 (E : Ex) (κ : Kx) (ad : Nat → Nat) (lay : List Ent) (s : Nat) : (Int32 × Mem) ⊕ (Int32 × Mem) → Prop
  | .inl q => Gw E κ 2 0 0 35 [some (.ref (ad s)), some (.int q.1)] [] ad lay q.2
  | .inr q => Gw E κ 2 0 0 65 [some (.ref (ad s)), none] [] ad lay q.2
def P_X5_finish_67 (E : Ex) (κ : Kx) (ad : Nat → Nat) (lay : List Ent) (s : Nat) : (Int32 × Mem) ⊕ (Int32 × Mem) → Prop
  | .inl q => Gw E κ 2 0 0 67 [some (.ref (ad s)), some (.int q.1)] [] ad lay q.2
  | .inr q => Gw E κ 2 0 0 95 [none, none] [] ad lay q.2
set_option maxRecDepth 100000 in
set_option maxHeartbeats 4000000 in
theorem b_X5_finish_2 {E : Ex} {κ : Kx} {ad : Nat → Nat} {sh sp : Nat} {tl : List Ent} {d : Nat} {s : Nat} (C : Cx E κ cX5_finish RX5 2 none d) (hd : 2 ≤ d) (hs : isS s) {q : Int32 × Mem} {x : (Int32 × Mem) ⊕ (Int32 × Mem)} (h : f_X5_finish_b2 s q = some x) (hP : (P_X5_finish_2 E κ ad (LC sh sp ++ tl) s) x) : Gw E κ 2 0 0 2 [some (.ref (ad s)), some (.int q.1)] [] ad (LC sh sp ++ tl) q.2 := by
  unfold f_X5_finish_b2 at h
  refine g_iload_n (pc := 2) (i := 1) (x := q.1) C dX5_finish_2 rfl rfl ?_
  refine g_bipush (pc := 3) (v := 16) C dX5_finish_3 rfl ?_
  rcases ite_some' h with ⟨hc5, h⟩ | ⟨hc5, h⟩
  · refine g_icmp_ge_t (pc := 5) C 33 dX5_finish_5 (by decide) hc5 ?_
    refine g_mask (lv' := [some (.ref (ad s)), none]) [true, false] rfl ?_
    cases h
    exact hP
  · refine g_icmp_ge_f (pc := 5) C 33 dX5_finish_5 (by decide) hc5 ?_
    refine g_aload_n (pc := 8) (i := 0) (x := ad s) C dX5_finish_8 rfl rfl ?_
    refine g_get (pc := 9) (v := .ref (ad (s + 1))) C ok_X5 2 (by decide) wf_X5_9 dX5_finish_9 (lz_0 hs) rfl ?_
    refine g_iload_n (pc := 12) (i := 1) (x := q.1) C dX5_finish_12 rfl rfl ?_
    obtain ⟨v13, hv13, hi13, h⟩ := rd_some h
    refine g_zald (pc := 13) C dX5_finish_13 (lz_1 hs) hi13 ?_
    refine g_topi hv13 ?_
    rcases ite_some' h with ⟨hc14, h⟩ | ⟨hc14, h⟩
    · refine g_if_eq_t (pc := 14) C 27 dX5_finish_14 (by decide) hc14 ?_
      obtain ⟨v27, hv27, h⟩ := lt_some h
      refine g_iinc (pc := 27) (i := 1) (x := q.1) (v := v27) (lv' := [some (.ref (ad s)), some (.int v27)]) C dX5_finish_27 rfl hv27.symm (by decide) rfl rfl ?_
      refine g_goto (pc := 30) C 2 dX5_finish_30 (by decide) ?_
      cases h
      exact hP
    · refine g_if_eq_f (pc := 14) C 27 dX5_finish_14 (by decide) hc14 ?_
      refine g_aload_n (pc := 17) (i := 0) (x := ad s) C dX5_finish_17 rfl rfl ?_
      refine g_get (pc := 18) (v := .ref (ad (s + 10))) C ok_X5 14 (by decide) wf_X5_43 dX5_finish_18 (lz_0 hs) rfl ?_
      refine g_getN (pc := 21) (v := .ref (ad ((s + 10) + 1))) C ok_X0 0 (by decide) nf_X5_84 dX5_finish_21 (ly_0 (tS hs)) rfl ?_
      refine g_iload_n (pc := 24) (i := 1) (x := q.1) C dX5_finish_24 rfl rfl ?_
      refine g_iconst (pc := 25) (v := 0) C dX5_finish_25 rfl ?_
      obtain ⟨m26, hm26, hi26, h⟩ := wr_some h
      refine g_iast (pc := 26) C dX5_finish_26 (ly_1 (tS hs)) hi26 ?_
      refine g_mem hm26 ?_
      obtain ⟨v27, hv27, h⟩ := lt_some h
      refine g_iinc (pc := 27) (i := 1) (x := q.1) (v := v27) (lv' := [some (.ref (ad s)), some (.int v27)]) C dX5_finish_27 rfl hv27.symm (by decide) rfl rfl ?_
      refine g_goto (pc := 30) C 2 dX5_finish_30 (by decide) ?_
      cases h
      exact hP
set_option maxRecDepth 100000 in
set_option maxHeartbeats 4000000 in
theorem b_X5_finish_35 {E : Ex} {κ : Kx} {ad : Nat → Nat} {sh sp : Nat} {tl : List Ent} {d : Nat} {s : Nat} (C : Cx E κ cX5_finish RX5 2 none d) (hd : 2 ≤ d) (hs : isS s) {q : Int32 × Mem} {x : (Int32 × Mem) ⊕ (Int32 × Mem)} (h : f_X5_finish_b35 s q = some x) (hP : (P_X5_finish_35 E κ ad (LC sh sp ++ tl) s) x) : Gw E κ 2 0 0 35 [some (.ref (ad s)), some (.int q.1)] [] ad (LC sh sp ++ tl) q.2 := by
  unfold f_X5_finish_b35 at h
  refine g_iload_n (pc := 35) (i := 1) (x := q.1) C dX5_finish_35 rfl rfl ?_
  refine g_aload_n (pc := 36) (i := 0) (x := ad s) C dX5_finish_36 rfl rfl ?_
  refine g_get (pc := 37) (v := .int (q.2 s 0)) C ok_X5 0 (by decide) wf_X5_47 dX5_finish_37 (lz_0 hs) rfl ?_
  rcases ite_some' h with ⟨hc40, h⟩ | ⟨hc40, h⟩
  · refine g_icmp_ge_t (pc := 40) C 65 dX5_finish_40 (by decide) hc40 ?_
    refine g_mask (lv' := [some (.ref (ad s)), none]) [true, false] rfl ?_
    cases h
    exact hP
  · refine g_icmp_ge_f (pc := 40) C 65 dX5_finish_40 (by decide) hc40 ?_
    refine g_aload_n (pc := 43) (i := 0) (x := ad s) C dX5_finish_43 rfl rfl ?_
    refine g_iload_n (pc := 44) (i := 1) (x := q.1) C dX5_finish_44 rfl rfl ?_
    refine g_aload_n (pc := 45) (i := 0) (x := ad s) C dX5_finish_45 rfl rfl ?_
    refine g_get (pc := 46) (v := .int (q.2 s 1)) C ok_X5 1 (by decide) wf_X5_51 dX5_finish_46 (lz_0 hs) rfl ?_
    refine g_imul (pc := 49) C dX5_finish_49 ?_
    refine g_iconst (pc := 50) (v := 1) C dX5_finish_50 rfl ?_
    refine g_aload_n (pc := 51) (i := 0) (x := ad s) C dX5_finish_51 rfl rfl ?_
    refine g_get (pc := 52) (v := .int (q.2 s 1)) C ok_X5 1 (by decide) wf_X5_51 dX5_finish_52 (lz_0 hs) rfl ?_
    refine g_iconst (pc := 55) (v := 0) C dX5_finish_55 rfl ?_
    obtain ⟨m56, hcall56, h⟩ := ob_some h
    refine g_callV (pc := 56) C ce0 mi_X5_findPlaces mv_X5_findPlaces wm_X5_91 dX5_finish_56 ok_X5 [.int (q.1 * (q.2 s 1)), .int 1, .int (q.2 s 1), .int 0] [] (lz_0 hs) (by omega) rfl rfl (Nat.le_of_ble_eq_true rfl) (m_X5_findPlaces (d := d - 1) (by omega) hs hcall56) ?_
    show Gw E κ 2 0 0 59 [some (.ref (ad s)), some (.int q.1)] [] ad (LC sh sp ++ tl) m56
    obtain ⟨v59, hv59, h⟩ := lt_some h
    refine g_iinc (pc := 59) (i := 1) (x := q.1) (v := v59) (lv' := [some (.ref (ad s)), some (.int v59)]) C dX5_finish_59 rfl hv59.symm (by decide) rfl rfl ?_
    refine g_goto (pc := 62) C 35 dX5_finish_62 (by decide) ?_
    cases h
    exact hP
set_option maxRecDepth 100000 in
set_option maxHeartbeats 4000000 in
theorem b_X5_finish_67 {E : Ex} {κ : Kx} {ad : Nat → Nat} {sh sp : Nat} {tl : List Ent} {d : Nat} {s : Nat} (C : Cx E κ cX5_finish RX5 2 none d) (hd : 2 ≤ d) (hs : isS s) {q : Int32 × Mem} {x : (Int32 × Mem) ⊕ (Int32 × Mem)} (h : f_X5_finish_b67 s q = some x) (hP : (P_X5_finish_67 E κ ad (LC sh sp ++ tl) s) x) : Gw E κ 2 0 0 67 [some (.ref (ad s)), some (.int q.1)] [] ad (LC sh sp ++ tl) q.2 := by
  unfold f_X5_finish_b67 at h
  refine g_iload_n (pc := 67) (i := 1) (x := q.1) C dX5_finish_67 rfl rfl ?_
  refine g_aload_n (pc := 68) (i := 0) (x := ad s) C dX5_finish_68 rfl rfl ?_
  refine g_get (pc := 69) (v := .int (q.2 s 1)) C ok_X5 1 (by decide) wf_X5_51 dX5_finish_69 (lz_0 hs) rfl ?_
  rcases ite_some' h with ⟨hc72, h⟩ | ⟨hc72, h⟩
  · refine g_icmp_ge_t (pc := 72) C 95 dX5_finish_72 (by decide) hc72 ?_
    refine g_mask (lv' := [none, none]) [false, false] rfl ?_
    cases h
    exact hP
  · refine g_icmp_ge_f (pc := 72) C 95 dX5_finish_72 (by decide) hc72 ?_
    refine g_aload_n (pc := 75) (i := 0) (x := ad s) C dX5_finish_75 rfl rfl ?_
    refine g_iload_n (pc := 76) (i := 1) (x := q.1) C dX5_finish_76 rfl rfl ?_
    refine g_aload_n (pc := 77) (i := 0) (x := ad s) C dX5_finish_77 rfl rfl ?_
    refine g_get (pc := 78) (v := .int (q.2 s 1)) C ok_X5 1 (by decide) wf_X5_51 dX5_finish_78 (lz_0 hs) rfl ?_
    refine g_aload_n (pc := 81) (i := 0) (x := ad s) C dX5_finish_81 rfl rfl ?_
    refine g_get (pc := 82) (v := .int (q.2 s 0)) C ok_X5 0 (by decide) wf_X5_47 dX5_finish_82 (lz_0 hs) rfl ?_
    refine g_iconst (pc := 85) (v := 1) C dX5_finish_85 rfl ?_
    obtain ⟨m86, hcall86, h⟩ := ob_some h
    refine g_callV (pc := 86) C ce0 mi_X5_findPlaces mv_X5_findPlaces wm_X5_91 dX5_finish_86 ok_X5 [.int q.1, .int (q.2 s 1), .int (q.2 s 0), .int 1] [] (lz_0 hs) (by omega) rfl rfl (Nat.le_of_ble_eq_true rfl) (m_X5_findPlaces (d := d - 1) (by omega) hs hcall86) ?_
    show Gw E κ 2 0 0 89 [some (.ref (ad s)), some (.int q.1)] [] ad (LC sh sp ++ tl) m86
    obtain ⟨v89, hv89, h⟩ := lt_some h
    refine g_iinc (pc := 89) (i := 1) (x := q.1) (v := v89) (lv' := [some (.ref (ad s)), some (.int v89)]) C dX5_finish_89 rfl hv89.symm (by decide) rfl rfl ?_
    refine g_goto (pc := 92) C 67 dX5_finish_92 (by decide) ?_
    cases h
    exact hP
set_option maxRecDepth 100000 in
set_option maxHeartbeats 4000000 in
theorem m_X5_finish {E : Ex} {ad : Nat → Nat} {sh sp : Nat} {tl : List Ent} {d : Nat} (hd : 2 ≤ d) {s : Nat} (hs : isS s)  {mem : Mem} {r : Mem} (h : f_X5_finish s mem = some r) : Cl E yX5_finish cX5_finish 2 none d [.ref (ad s)] none ad (LC sh sp ++ tl) mem (LC sh sp ++ tl) r := by
  refine Cl.of [some (.ref (ad s)), none] (by decide +kernel) rfl (Nat.le_of_ble_eq_true rfl) (fun κ C hP => ?_)
  have C : Cx E κ cX5_finish RX5 2 none d := C
  unfold f_X5_finish at h
  refine g_iconst (pc := 0) (v := 0) C dX5_finish_0 rfl ?_
  refine g_istore_n (pc := 1) (i := 1) (lv' := [some (.ref (ad s)), some (.int 0)]) C dX5_finish_1 rfl (by decide) rfl rfl ?_
  obtain ⟨q2, hq, h⟩ := ob_some h
  refine lp_gw (P_X5_finish_2 E κ ad (LC sh sp ++ tl) s) (fun q x hb hp => b_X5_finish_2 C hd hs hb hp) _ (0, mem) _ hq ?_
  show Gw E κ 2 0 0 33 [some (.ref (ad s)), none] [] ad (LC sh sp ++ tl) q2.2
  refine g_iconst (pc := 33) (v := 0) C dX5_finish_33 rfl ?_
  refine g_istore_n (pc := 34) (i := 1) (lv' := [some (.ref (ad s)), some (.int 0)]) C dX5_finish_34 rfl (by decide) rfl rfl ?_
  obtain ⟨q35, hq, h⟩ := ob_some h
  refine lp_gw (P_X5_finish_35 E κ ad (LC sh sp ++ tl) s) (fun q x hb hp => b_X5_finish_35 C hd hs hb hp) _ (0, q2.2) _ hq ?_
  show Gw E κ 2 0 0 65 [some (.ref (ad s)), none] [] ad (LC sh sp ++ tl) q35.2
  refine g_iconst (pc := 65) (v := 0) C dX5_finish_65 rfl ?_
  refine g_istore_n (pc := 66) (i := 1) (lv' := [some (.ref (ad s)), some (.int 0)]) C dX5_finish_66 rfl (by decide) rfl rfl ?_
  obtain ⟨q67, hq, h⟩ := ob_some h
  refine lp_gw (P_X5_finish_67 E κ ad (LC sh sp ++ tl) s) (fun q x hb hp => b_X5_finish_67 C hd hs hb hp) _ (0, q35.2) _ hq ?_
  show Gw E κ 2 0 0 95 [none, none] [] ad (LC sh sp ++ tl) q67.2
  cases h
  exact g_vret (pc := 95) C hP rfl dX5_finish_95

theorem dX5_isFilled_0 : decode cX5_isFilled 0 = .ok (.iconst 0, 1) := by decide +kernel
theorem dX5_isFilled_1 : decode cX5_isFilled 1 = .ok (.istore_n 3, 1) := by decide +kernel
theorem dX5_isFilled_2 : decode cX5_isFilled 2 = .ok (.iload_n 3, 1) := by decide +kernel
theorem dX5_isFilled_3 : decode cX5_isFilled 3 = .ok (.aload_n 0, 1) := by decide +kernel
theorem dX5_isFilled_4 : decode cX5_isFilled 4 = .ok (.getfield 15, 3) := by decide +kernel
theorem dX5_isFilled_7 : decode cX5_isFilled 7 = .ok (.iload_n 2, 1) := by decide +kernel
theorem dX5_isFilled_8 : decode cX5_isFilled 8 = .ok (.iaload, 1) := by decide +kernel
theorem dX5_isFilled_9 : decode cX5_isFilled 9 = .ok (.if_icmp .ge 29, 3) := by decide +kernel
theorem dX5_isFilled_12 : decode cX5_isFilled 12 = .ok (.aload_n 1, 1) := by decide +kernel
theorem dX5_isFilled_13 : decode cX5_isFilled 13 = .ok (.getfield 84, 3) := by decide +kernel
theorem dX5_isFilled_16 : decode cX5_isFilled 16 = .ok (.aload_n 0, 1) := by decide +kernel
theorem dX5_isFilled_17 : decode cX5_isFilled 17 = .ok (.getfield 19, 3) := by decide +kernel
theorem dX5_isFilled_20 : decode cX5_isFilled 20 = .ok (.iload_n 2, 1) := by decide +kernel
theorem dX5_isFilled_21 : decode cX5_isFilled 21 = .ok (.iconst 4, 1) := by decide +kernel
theorem dX5_isFilled_22 : decode cX5_isFilled 22 = .ok (.imul, 1) := by decide +kernel
theorem dX5_isFilled_23 : decode cX5_isFilled 23 = .ok (.iload_n 3, 1) := by decide +kernel
theorem dX5_isFilled_24 : decode cX5_isFilled 24 = .ok (.iadd, 1) := by decide +kernel
theorem dX5_isFilled_25 : decode cX5_isFilled 25 = .ok (.iaload, 1) := by decide +kernel
theorem dX5_isFilled_26 : decode cX5_isFilled 26 = .ok (.iaload, 1) := by decide +kernel
theorem dX5_isFilled_27 : decode cX5_isFilled 27 = .ok (.ifCond .ne 5, 3) := by decide +kernel
theorem dX5_isFilled_30 : decode cX5_isFilled 30 = .ok (.iconst 0, 1) := by decide +kernel
theorem dX5_isFilled_31 : decode cX5_isFilled 31 = .ok (.ireturn, 1) := by decide +kernel
theorem dX5_isFilled_32 : decode cX5_isFilled 32 = .ok (.iinc 3 1, 3) := by decide +kernel
theorem dX5_isFilled_35 : decode cX5_isFilled 35 = .ok (.goto (-33), 3) := by decide +kernel
theorem dX5_isFilled_38 : decode cX5_isFilled 38 = .ok (.iconst 1, 1) := by decide +kernel
theorem dX5_isFilled_39 : decode cX5_isFilled 39 = .ok (.ireturn, 1) := by decide +kernel
noncomputable def f_X5_isFilled_b2 (s t : Nat) (l2 : Int32) (mem : Mem) (q : Int32) : Option ((Int32) ⊕ ((Int32) ⊕ (Int32))) :=
  rd (mem (s + 2)) 8 l2 fun v8 => if v8 ≤ q then (some (.inr (.inl q))) else (rd (mem (s + 3)) 32 ((l2 * 4) + q) fun v25 => rd (mem (t + 1)) 16 v25 fun v26 => if v26 = 0 then (some (.inr (.inr 0))) else (lt' (q + 1) fun v32 => some (.inl v32)))
noncomputable def f_X5_isFilled (s t : Nat) (l2 : Int32) (mem : Mem) : Option (Int32) :=
  obs (lp (f_X5_isFilled_b2 s t l2 mem) FU 0) (fun q2 => some 1) (fun r => some r)
def P_X5_isFilled_2 (E : Ex) (κ : Kx) (ad : Nat → Nat) (lay : List Ent) (s t : Nat) (l2 : Int32) (mem : Mem) : (Int32) ⊕ ((Int32) ⊕ (Int32)) → Prop
  | .inl q => Gw E κ 4 0 0 2 [some (.ref (ad s)), some (.ref (ad t)), some (.int l2), some (.int q)] [] ad lay mem
  | .inr (.inl q) => Gw E κ 4 0 0 38 [none, none, none, none] [] ad lay mem
  | .inr (.inr r) => Qr E κ (some (.int r)) ad lay mem
set_option maxRecDepth 100000 in
set_option maxHeartbeats 4000000 in
theorem b_X5_isFilled_2 {E : Ex} {κ : Kx} {ad : Nat → Nat} {sh sp : Nat} {tl : List Ent} {d : Nat} {s t : Nat} (C : Cx E κ cX5_isFilled RX5 4 (some .boolean) d) (hd : 0 ≤ d) (hs : isS s) (ht : isT t) {l2 : Int32} {mem : Mem} {q : Int32} {x : (Int32) ⊕ ((Int32) ⊕ (Int32))} (h : f_X5_isFilled_b2 s t l2 mem q = some x) (hP : (P_X5_isFilled_2 E κ ad (LC sh sp ++ tl) s t l2 mem) x) : Gw E κ 4 0 0 2 [some (.ref (ad s)), some (.ref (ad t)), some (.int l2), some (.int q)] [] ad (LC sh sp ++ tl) mem := by
  unfold f_X5_isFilled_b2 at h
  refine g_iload_n (pc := 2) (i := 3) (x := q) C dX5_isFilled_2 rfl rfl ?_
  refine g_aload_n (pc := 3) (i := 0) (x := ad s) C dX5_isFilled_3 rfl rfl ?_
  refine g_get (pc := 4) (v := .ref (ad (s + 2))) C ok_X5 4 (by decide) wf_X5_15 dX5_isFilled_4 (lz_0 hs) rfl ?_
  refine g_iload_n (pc := 7) (i := 2) (x := l2) C dX5_isFilled_7 rfl rfl ?_
  obtain ⟨v8, hv8, hi8, h⟩ := rd_some h
  refine g_iald (pc := 8) C dX5_isFilled_8 (lz_2 hs) hi8 ?_
  refine g_topi hv8 ?_
  rcases ite_some' h with ⟨hc9, h⟩ | ⟨hc9, h⟩
  · refine g_icmp_ge_t (pc := 9) C 38 dX5_isFilled_9 (by decide) hc9 ?_
    refine g_mask (lv' := [none, none, none, none]) [false, false, false, false] rfl ?_
    cases h
    exact hP
  · refine g_icmp_ge_f (pc := 9) C 38 dX5_isFilled_9 (by decide) hc9 ?_
    refine g_aload_n (pc := 12) (i := 1) (x := ad t) C dX5_isFilled_12 rfl rfl ?_
    refine g_getN (pc := 13) (v := .ref (ad (t + 1))) C ok_X0 0 (by decide) nf_X5_84 dX5_isFilled_13 (ly_0 ht) rfl ?_
    refine g_aload_n (pc := 16) (i := 0) (x := ad s) C dX5_isFilled_16 rfl rfl ?_
    refine g_get (pc := 17) (v := .ref (ad (s + 3))) C ok_X5 5 (by decide) wf_X5_19 dX5_isFilled_17 (lz_0 hs) rfl ?_
    refine g_iload_n (pc := 20) (i := 2) (x := l2) C dX5_isFilled_20 rfl rfl ?_
    refine g_iconst (pc := 21) (v := 4) C dX5_isFilled_21 rfl ?_
    refine g_imul (pc := 22) C dX5_isFilled_22 ?_
    refine g_iload_n (pc := 23) (i := 3) (x := q) C dX5_isFilled_23 rfl rfl ?_
    refine g_iadd (pc := 24) C dX5_isFilled_24 ?_
    obtain ⟨v25, hv25, hi25, h⟩ := rd_some h
    refine g_iald (pc := 25) C dX5_isFilled_25 (lz_3 hs) hi25 ?_
    refine g_topi hv25 ?_
    obtain ⟨v26, hv26, hi26, h⟩ := rd_some h
    refine g_iald (pc := 26) C dX5_isFilled_26 (ly_1 ht) hi26 ?_
    refine g_topi hv26 ?_
    rcases ite_some' h with ⟨hc27, h⟩ | ⟨hc27, h⟩
    · refine g_if_ne_f (pc := 27) C 32 dX5_isFilled_27 (by decide) hc27 ?_
      refine g_iconst (pc := 30) (v := 0) C dX5_isFilled_30 rfl ?_
      cases h
      exact g_iret (pc := 31) C hP rfl rfl dX5_isFilled_31
    · refine g_if_ne_t (pc := 27) C 32 dX5_isFilled_27 (by decide) hc27 ?_
      obtain ⟨v32, hv32, h⟩ := lt_some h
      refine g_iinc (pc := 32) (i := 3) (x := q) (v := v32) (lv' := [some (.ref (ad s)), some (.ref (ad t)), some (.int l2), some (.int v32)]) C dX5_isFilled_32 rfl hv32.symm (by decide) rfl rfl ?_
      refine g_goto (pc := 35) C 2 dX5_isFilled_35 (by decide) ?_
      cases h
      exact hP
set_option maxRecDepth 100000 in
set_option maxHeartbeats 4000000 in
theorem m_X5_isFilled {E : Ex} {ad : Nat → Nat} {sh sp : Nat} {tl : List Ent} {d : Nat} (hd : 0 ≤ d) {s t : Nat} (hs : isS s) (ht : isT t) {l2 : Int32} {mem : Mem} {r : Int32} (h : f_X5_isFilled s t l2 mem = some r) : Cl E yX5_isFilled cX5_isFilled 4 (some .boolean) d [.ref (ad s), .ref (ad t), .int l2] (some (.int r)) ad (LC sh sp ++ tl) mem (LC sh sp ++ tl) mem := by
  refine Cl.of [some (.ref (ad s)), some (.ref (ad t)), some (.int l2), none] (by decide +kernel) rfl (Nat.le_of_ble_eq_true rfl) (fun κ C hP => ?_)
  have C : Cx E κ cX5_isFilled RX5 4 (some .boolean) d := C
  unfold f_X5_isFilled at h
  refine g_iconst (pc := 0) (v := 0) C dX5_isFilled_0 rfl ?_
  refine g_istore_n (pc := 1) (i := 3) (lv' := [some (.ref (ad s)), some (.ref (ad t)), some (.int l2), some (.int 0)]) C dX5_isFilled_1 rfl (by decide) rfl rfl ?_
  rcases obs_some h with ⟨q2, hq, h⟩ | ⟨r, hq, h⟩
  · refine lp_gw (P_X5_isFilled_2 E κ ad (LC sh sp ++ tl) s t l2 mem) (fun q x hb hp => b_X5_isFilled_2 C hd hs ht hb hp) _ 0 _ hq ?_
    show Gw E κ 4 0 0 38 [none, none, none, none] [] ad (LC sh sp ++ tl) mem
    refine g_iconst (pc := 38) (v := 1) C dX5_isFilled_38 rfl ?_
    cases h
    exact g_iret (pc := 39) C hP rfl rfl dX5_isFilled_39
  · refine lp_gw (P_X5_isFilled_2 E κ ad (LC sh sp ++ tl) s t l2 mem) (fun q x hb hp => b_X5_isFilled_2 C hd hs ht hb hp) _ 0 _ hq ?_
    cases h
    exact hP

theorem dX5_agreeing_0 : decode cX5_agreeing 0 = .ok (.aload_n 0, 1) := by decide +kernel
theorem dX5_agreeing_1 : decode cX5_agreeing 1 = .ok (.getfield 15, 3) := by decide +kernel
theorem dX5_agreeing_4 : decode cX5_agreeing 4 = .ok (.iload_n 2, 1) := by decide +kernel
theorem dX5_agreeing_5 : decode cX5_agreeing 5 = .ok (.iaload, 1) := by decide +kernel
theorem dX5_agreeing_6 : decode cX5_agreeing 6 = .ok (.istore_n 3, 1) := by decide +kernel
theorem dX5_agreeing_7 : decode cX5_agreeing 7 = .ok (.aload_n 0, 1) := by decide +kernel
theorem dX5_agreeing_8 : decode cX5_agreeing 8 = .ok (.getfield 31, 3) := by decide +kernel
theorem dX5_agreeing_11 : decode cX5_agreeing 11 = .ok (.iload_n 3, 1) := by decide +kernel
theorem dX5_agreeing_12 : decode cX5_agreeing 12 = .ok (.iaload, 1) := by decide +kernel
theorem dX5_agreeing_13 : decode cX5_agreeing 13 = .ok (.istore 4, 2) := by decide +kernel
theorem dX5_agreeing_15 : decode cX5_agreeing 15 = .ok (.iconst 0, 1) := by decide +kernel
theorem dX5_agreeing_16 : decode cX5_agreeing 16 = .ok (.istore 5, 2) := by decide +kernel
theorem dX5_agreeing_18 : decode cX5_agreeing 18 = .ok (.iload 5, 2) := by decide +kernel
theorem dX5_agreeing_20 : decode cX5_agreeing 20 = .ok (.iload_n 3, 1) := by decide +kernel
theorem dX5_agreeing_21 : decode cX5_agreeing 21 = .ok (.if_icmp .ge 50, 3) := by decide +kernel
theorem dX5_agreeing_24 : decode cX5_agreeing 24 = .ok (.aload_n 1, 1) := by decide +kernel
theorem dX5_agreeing_25 : decode cX5_agreeing 25 = .ok (.getfield 84, 3) := by decide +kernel
theorem dX5_agreeing_28 : decode cX5_agreeing 28 = .ok (.aload_n 0, 1) := by decide +kernel
theorem dX5_agreeing_29 : decode cX5_agreeing 29 = .ok (.getfield 19, 3) := by decide +kernel
theorem dX5_agreeing_32 : decode cX5_agreeing 32 = .ok (.iload_n 2, 1) := by decide +kernel
theorem dX5_agreeing_33 : decode cX5_agreeing 33 = .ok (.iconst 4, 1) := by decide +kernel
theorem dX5_agreeing_34 : decode cX5_agreeing 34 = .ok (.imul, 1) := by decide +kernel
theorem dX5_agreeing_35 : decode cX5_agreeing 35 = .ok (.iload 5, 2) := by decide +kernel
theorem dX5_agreeing_37 : decode cX5_agreeing 37 = .ok (.iadd, 1) := by decide +kernel
theorem dX5_agreeing_38 : decode cX5_agreeing 38 = .ok (.iaload, 1) := by decide +kernel
theorem dX5_agreeing_39 : decode cX5_agreeing 39 = .ok (.iaload, 1) := by decide +kernel
theorem dX5_agreeing_40 : decode cX5_agreeing 40 = .ok (.istore 6, 2) := by decide +kernel
theorem dX5_agreeing_42 : decode cX5_agreeing 42 = .ok (.iload 6, 2) := by decide +kernel
theorem dX5_agreeing_44 : decode cX5_agreeing 44 = .ok (.ifCond .eq 21, 3) := by decide +kernel
theorem dX5_agreeing_47 : decode cX5_agreeing 47 = .ok (.iload 4, 2) := by decide +kernel
theorem dX5_agreeing_49 : decode cX5_agreeing 49 = .ok (.aload_n 0, 1) := by decide +kernel
theorem dX5_agreeing_50 : decode cX5_agreeing 50 = .ok (.getfield 34, 3) := by decide +kernel
theorem dX5_agreeing_53 : decode cX5_agreeing 53 = .ok (.iload 5, 2) := by decide +kernel
theorem dX5_agreeing_55 : decode cX5_agreeing 55 = .ok (.bipush 7, 2) := by decide +kernel
theorem dX5_agreeing_57 : decode cX5_agreeing 57 = .ok (.imul, 1) := by decide +kernel
theorem dX5_agreeing_58 : decode cX5_agreeing 58 = .ok (.iload 6, 2) := by decide +kernel
theorem dX5_agreeing_60 : decode cX5_agreeing 60 = .ok (.iadd, 1) := by decide +kernel
theorem dX5_agreeing_61 : decode cX5_agreeing 61 = .ok (.iaload, 1) := by decide +kernel
theorem dX5_agreeing_62 : decode cX5_agreeing 62 = .ok (.iand, 1) := by decide +kernel
theorem dX5_agreeing_63 : decode cX5_agreeing 63 = .ok (.istore 4, 2) := by decide +kernel
theorem dX5_agreeing_65 : decode cX5_agreeing 65 = .ok (.iinc 5 1, 3) := by decide +kernel
theorem dX5_agreeing_68 : decode cX5_agreeing 68 = .ok (.goto (-50), 3) := by decide +kernel
theorem dX5_agreeing_71 : decode cX5_agreeing 71 = .ok (.iload 4, 2) := by decide +kernel
theorem dX5_agreeing_73 : decode cX5_agreeing 73 = .ok (.ireturn, 1) := by decide +kernel
noncomputable def f_X5_agreeing_b18 (s t : Nat) (l2 : Int32) (l3 : Int32) (mem : Mem) (q : Int32 × Int32) : Option ((Int32 × Int32) ⊕ (Int32 × Int32)) :=
  if l3 ≤ q.2 then (some (.inr (q.1, q.2))) else (rd (mem (s + 3)) 32 ((l2 * 4) + q.2) fun v38 => rd (mem (t + 1)) 16 v38 fun v39 => if v39 = 0 then (lt' (q.2 + 1) fun v65 => some (.inl (q.1, v65))) else (rd (mem (s + 8)) 28 ((q.2 * 7) + v39) fun v61 => lt' (q.1 &&& v61) fun v63 => lt' (q.2 + 1) fun v65 => some (.inl (v63, v65))))
noncomputable def f_X5_agreeing (s t : Nat) (l2 : Int32) (mem : Mem) : Option (Int32) :=
  rd (mem (s + 2)) 8 l2 fun v5 => rd (mem (s + 7)) 5 v5 fun v12 => ob (lp (f_X5_agreeing_b18 s t l2 v5 mem) FU (v12, 0)) fun q18 => some q18.1
def P_X5_agreeing_18 (E : Ex) (κ : Kx) (ad : Nat → Nat) (lay : List Ent) (s t : Nat) (l2 : Int32) (l3 : Int32) (mem : Mem) : (Int32 × Int32) ⊕ (Int32 × Int32) → Prop
  | .inl q => Gw E κ 7 0 0 18 [some (.ref (ad s)), some (.ref (ad t)), some (.int l2), some (.int l3), some (.int q.1), some (.int q.2), none] [] ad lay mem
  | .inr q => Gw E κ 7 0 0 71 [none, none, none, none, some (.int q.1), none, none] [] ad lay mem
set_option maxRecDepth 100000 in
set_option maxHeartbeats 4000000 in
theorem b_X5_agreeing_18 {E : Ex} {κ : Kx} {ad : Nat → Nat} {sh sp : Nat} {tl : List Ent} {d : Nat} {s t : Nat} (C : Cx E κ cX5_agreeing RX5 7 (some .int) d) (hd : 0 ≤ d) (hs : isS s) (ht : isT t) {l2 : Int32} {l3 : Int32} {mem : Mem} {q : Int32 × Int32} {x : (Int32 × Int32) ⊕ (Int32 × Int32)} (h : f_X5_agreeing_b18 s t l2 l3 mem q = some x) (hP : (P_X5_agreeing_18 E κ ad (LC sh sp ++ tl) s t l2 l3 mem) x) : Gw E κ 7 0 0 18 [some (.ref (ad s)), some (.ref (ad t)), some (.int l2), some (.int l3), some (.int q.1), some (.int q.2), none] [] ad (LC sh sp ++ tl) mem := by
  unfold f_X5_agreeing_b18 at h
  refine g_iload (pc := 18) (i := 5) (x := q.2) C dX5_agreeing_18 rfl ?_
  refine g_iload_n (pc := 20) (i := 3) (x := l3) C dX5_agreeing_20 rfl rfl ?_
  rcases ite_some' h with ⟨hc21, h⟩ | ⟨hc21, h⟩
  · refine g_icmp_ge_t (pc := 21) C 71 dX5_agreeing_21 (by decide) hc21 ?_
    refine g_mask (lv' := [none, none, none, none, some (.int q.1), none, none]) [false, false, false, false, true, false, false] rfl ?_
    cases h
    exact hP
  · refine g_icmp_ge_f (pc := 21) C 71 dX5_agreeing_21 (by decide) hc21 ?_
    refine g_aload_n (pc := 24) (i := 1) (x := ad t) C dX5_agreeing_24 rfl rfl ?_
    refine g_getN (pc := 25) (v := .ref (ad (t + 1))) C ok_X0 0 (by decide) nf_X5_84 dX5_agreeing_25 (ly_0 ht) rfl ?_
    refine g_aload_n (pc := 28) (i := 0) (x := ad s) C dX5_agreeing_28 rfl rfl ?_
    refine g_get (pc := 29) (v := .ref (ad (s + 3))) C ok_X5 5 (by decide) wf_X5_19 dX5_agreeing_29 (lz_0 hs) rfl ?_
    refine g_iload_n (pc := 32) (i := 2) (x := l2) C dX5_agreeing_32 rfl rfl ?_
    refine g_iconst (pc := 33) (v := 4) C dX5_agreeing_33 rfl ?_
    refine g_imul (pc := 34) C dX5_agreeing_34 ?_
    refine g_iload (pc := 35) (i := 5) (x := q.2) C dX5_agreeing_35 rfl ?_
    refine g_iadd (pc := 37) C dX5_agreeing_37 ?_
    obtain ⟨v38, hv38, hi38, h⟩ := rd_some h
    refine g_iald (pc := 38) C dX5_agreeing_38 (lz_3 hs) hi38 ?_
    refine g_topi hv38 ?_
    obtain ⟨v39, hv39, hi39, h⟩ := rd_some h
    refine g_iald (pc := 39) C dX5_agreeing_39 (ly_1 ht) hi39 ?_
    refine g_topi hv39 ?_
    refine g_istore (pc := 40) (i := 6) (lv' := [some (.ref (ad s)), some (.ref (ad t)), some (.int l2), some (.int l3), some (.int q.1), some (.int q.2), some (.int v39)]) C dX5_agreeing_40 (by decide) rfl rfl ?_
    refine g_iload (pc := 42) (i := 6) (x := v39) C dX5_agreeing_42 rfl ?_
    rcases ite_some' h with ⟨hc44, h⟩ | ⟨hc44, h⟩
    · refine g_if_eq_t (pc := 44) C 65 dX5_agreeing_44 (by decide) hc44 ?_
      obtain ⟨v65, hv65, h⟩ := lt_some h
      refine g_iinc (pc := 65) (i := 5) (x := q.2) (v := v65) (lv' := [some (.ref (ad s)), some (.ref (ad t)), some (.int l2), some (.int l3), some (.int q.1), some (.int v65), some (.int v39)]) C dX5_agreeing_65 rfl hv65.symm (by decide) rfl rfl ?_
      refine g_goto (pc := 68) C 18 dX5_agreeing_68 (by decide) ?_
      refine g_mask (lv' := [some (.ref (ad s)), some (.ref (ad t)), some (.int l2), some (.int l3), some (.int q.1), some (.int v65), none]) [true, true, true, true, true, true, false] rfl ?_
      cases h
      exact hP
    · refine g_if_eq_f (pc := 44) C 65 dX5_agreeing_44 (by decide) hc44 ?_
      refine g_iload (pc := 47) (i := 4) (x := q.1) C dX5_agreeing_47 rfl ?_
      refine g_aload_n (pc := 49) (i := 0) (x := ad s) C dX5_agreeing_49 rfl rfl ?_
      refine g_get (pc := 50) (v := .ref (ad (s + 8))) C ok_X5 11 (by decide) wf_X5_34 dX5_agreeing_50 (lz_0 hs) rfl ?_
      refine g_iload (pc := 53) (i := 5) (x := q.2) C dX5_agreeing_53 rfl ?_
      refine g_bipush (pc := 55) (v := 7) C dX5_agreeing_55 rfl ?_
      refine g_imul (pc := 57) C dX5_agreeing_57 ?_
      refine g_iload (pc := 58) (i := 6) (x := v39) C dX5_agreeing_58 rfl ?_
      refine g_iadd (pc := 60) C dX5_agreeing_60 ?_
      obtain ⟨v61, hv61, hi61, h⟩ := rd_some h
      refine g_iald (pc := 61) C dX5_agreeing_61 (lz_8 hs) hi61 ?_
      refine g_topi hv61 ?_
      refine g_iand (pc := 62) C dX5_agreeing_62 ?_
      obtain ⟨v63, hv63, h⟩ := lt_some h
      refine g_topi hv63 ?_
      refine g_istore (pc := 63) (i := 4) (lv' := [some (.ref (ad s)), some (.ref (ad t)), some (.int l2), some (.int l3), some (.int v63), some (.int q.2), some (.int v39)]) C dX5_agreeing_63 (by decide) rfl rfl ?_
      obtain ⟨v65, hv65, h⟩ := lt_some h
      refine g_iinc (pc := 65) (i := 5) (x := q.2) (v := v65) (lv' := [some (.ref (ad s)), some (.ref (ad t)), some (.int l2), some (.int l3), some (.int v63), some (.int v65), some (.int v39)]) C dX5_agreeing_65 rfl hv65.symm (by decide) rfl rfl ?_
      refine g_goto (pc := 68) C 18 dX5_agreeing_68 (by decide) ?_
      refine g_mask (lv' := [some (.ref (ad s)), some (.ref (ad t)), some (.int l2), some (.int l3), some (.int v63), some (.int v65), none]) [true, true, true, true, true, true, false] rfl ?_
      cases h
      exact hP
set_option maxRecDepth 100000 in
set_option maxHeartbeats 4000000 in
theorem m_X5_agreeing {E : Ex} {ad : Nat → Nat} {sh sp : Nat} {tl : List Ent} {d : Nat} (hd : 0 ≤ d) {s t : Nat} (hs : isS s) (ht : isT t) {l2 : Int32} {mem : Mem} {r : Int32} (h : f_X5_agreeing s t l2 mem = some r) : Cl E yX5_agreeing cX5_agreeing 7 (some .int) d [.ref (ad s), .ref (ad t), .int l2] (some (.int r)) ad (LC sh sp ++ tl) mem (LC sh sp ++ tl) mem := by
  refine Cl.of [some (.ref (ad s)), some (.ref (ad t)), some (.int l2), none, none, none, none] (by decide +kernel) rfl (Nat.le_of_ble_eq_true rfl) (fun κ C hP => ?_)
  have C : Cx E κ cX5_agreeing RX5 7 (some .int) d := C
  unfold f_X5_agreeing at h
  refine g_aload_n (pc := 0) (i := 0) (x := ad s) C dX5_agreeing_0 rfl rfl ?_
  refine g_get (pc := 1) (v := .ref (ad (s + 2))) C ok_X5 4 (by decide) wf_X5_15 dX5_agreeing_1 (lz_0 hs) rfl ?_
  refine g_iload_n (pc := 4) (i := 2) (x := l2) C dX5_agreeing_4 rfl rfl ?_
  obtain ⟨v5, hv5, hi5, h⟩ := rd_some h
  refine g_iald (pc := 5) C dX5_agreeing_5 (lz_2 hs) hi5 ?_
  refine g_topi hv5 ?_
  refine g_istore_n (pc := 6) (i := 3) (lv' := [some (.ref (ad s)), some (.ref (ad t)), some (.int l2), some (.int v5), none, none, none]) C dX5_agreeing_6 rfl (by decide) rfl rfl ?_
  refine g_aload_n (pc := 7) (i := 0) (x := ad s) C dX5_agreeing_7 rfl rfl ?_
  refine g_get (pc := 8) (v := .ref (ad (s + 7))) C ok_X5 10 (by decide) wf_X5_31 dX5_agreeing_8 (lz_0 hs) rfl ?_
  refine g_iload_n (pc := 11) (i := 3) (x := v5) C dX5_agreeing_11 rfl rfl ?_
  obtain ⟨v12, hv12, hi12, h⟩ := rd_some h
  refine g_iald (pc := 12) C dX5_agreeing_12 (lz_7 hs) hi12 ?_
  refine g_topi hv12 ?_
  refine g_istore (pc := 13) (i := 4) (lv' := [some (.ref (ad s)), some (.ref (ad t)), some (.int l2), some (.int v5), some (.int v12), none, none]) C dX5_agreeing_13 (by decide) rfl rfl ?_
  refine g_iconst (pc := 15) (v := 0) C dX5_agreeing_15 rfl ?_
  refine g_istore (pc := 16) (i := 5) (lv' := [some (.ref (ad s)), some (.ref (ad t)), some (.int l2), some (.int v5), some (.int v12), some (.int 0), none]) C dX5_agreeing_16 (by decide) rfl rfl ?_
  obtain ⟨q18, hq, h⟩ := ob_some h
  refine lp_gw (P_X5_agreeing_18 E κ ad (LC sh sp ++ tl) s t l2 v5 mem) (fun q x hb hp => b_X5_agreeing_18 C hd hs ht hb hp) _ (v12, 0) _ hq ?_
  show Gw E κ 7 0 0 71 [none, none, none, none, some (.int q18.1), none, none] [] ad (LC sh sp ++ tl) mem
  refine g_iload (pc := 71) (i := 4) (x := q18.1) C dX5_agreeing_71 rfl ?_
  cases h
  exact g_iret (pc := 73) C hP rfl rfl dX5_agreeing_73

theorem dX5_fits_0 : decode cX5_fits 0 = .ok (.iload_n 2, 1) := by decide +kernel
theorem dX5_fits_1 : decode cX5_fits 1 = .ok (.aload_n 0, 1) := by decide +kernel
theorem dX5_fits_2 : decode cX5_fits 2 = .ok (.getfield 54, 3) := by decide +kernel
theorem dX5_fits_5 : decode cX5_fits 5 = .ok (.if_icmp .ge 29, 3) := by decide +kernel
theorem dX5_fits_8 : decode cX5_fits 8 = .ok (.aload_n 0, 1) := by decide +kernel
theorem dX5_fits_9 : decode cX5_fits 9 = .ok (.aload_n 1, 1) := by decide +kernel
theorem dX5_fits_10 : decode cX5_fits 10 = .ok (.iload_n 2, 1) := by decide +kernel
theorem dX5_fits_11 : decode cX5_fits 11 = .ok (.invokevirtual 98, 3) := by decide +kernel
theorem dX5_fits_14 : decode cX5_fits 14 = .ok (.ifCond .ne 20, 3) := by decide +kernel
theorem dX5_fits_17 : decode cX5_fits 17 = .ok (.aload_n 0, 1) := by decide +kernel
theorem dX5_fits_18 : decode cX5_fits 18 = .ok (.aload_n 1, 1) := by decide +kernel
theorem dX5_fits_19 : decode cX5_fits 19 = .ok (.iload_n 2, 1) := by decide +kernel
theorem dX5_fits_20 : decode cX5_fits 20 = .ok (.invokevirtual 102, 3) := by decide +kernel
theorem dX5_fits_23 : decode cX5_fits 23 = .ok (.iload_n 3, 1) := by decide +kernel
theorem dX5_fits_24 : decode cX5_fits 24 = .ok (.ishr, 1) := by decide +kernel
theorem dX5_fits_25 : decode cX5_fits 25 = .ok (.iconst 1, 1) := by decide +kernel
theorem dX5_fits_26 : decode cX5_fits 26 = .ok (.iand, 1) := by decide +kernel
theorem dX5_fits_27 : decode cX5_fits 27 = .ok (.ifCond .eq 7, 3) := by decide +kernel
theorem dX5_fits_30 : decode cX5_fits 30 = .ok (.iconst 1, 1) := by decide +kernel
theorem dX5_fits_31 : decode cX5_fits 31 = .ok (.goto 4, 3) := by decide +kernel
theorem dX5_fits_34 : decode cX5_fits 34 = .ok (.iconst 0, 1) := by decide +kernel
theorem dX5_fits_35 : decode cX5_fits 35 = .ok (.ireturn, 1) := by decide +kernel
noncomputable def f_X5_fits (s t : Nat) (l2 : Int32) (l3 : Int32) (mem : Mem) : Option (Int32) :=
  if (mem s 3) ≤ l2 then (some 0) else (ob (f_X5_isFilled s t l2 mem) fun r11 => if r11 = 0 then (ob (f_X5_agreeing s t l2 mem) fun r20 => if ((r20 >>> (l3 &&& 31)) &&& 1) = 0 then (some 0) else (some 1)) else (some 0))
set_option maxRecDepth 100000 in
set_option maxHeartbeats 4000000 in
theorem m_X5_fits {E : Ex} {ad : Nat → Nat} {sh sp : Nat} {tl : List Ent} {d : Nat} (hd : 1 ≤ d) {s t : Nat} (hs : isS s) (ht : isT t) {l2 : Int32} {l3 : Int32} {mem : Mem} {r : Int32} (h : f_X5_fits s t l2 l3 mem = some r) : Cl E yX5_fits cX5_fits 4 (some .boolean) d [.ref (ad s), .ref (ad t), .int l2, .int l3] (some (.int r)) ad (LC sh sp ++ tl) mem (LC sh sp ++ tl) mem := by
  refine Cl.of [some (.ref (ad s)), some (.ref (ad t)), some (.int l2), some (.int l3)] (by decide +kernel) rfl (Nat.le_of_ble_eq_true rfl) (fun κ C hP => ?_)
  have C : Cx E κ cX5_fits RX5 4 (some .boolean) d := C
  unfold f_X5_fits at h
  refine g_iload_n (pc := 0) (i := 2) (x := l2) C dX5_fits_0 rfl rfl ?_
  refine g_aload_n (pc := 1) (i := 0) (x := ad s) C dX5_fits_1 rfl rfl ?_
  refine g_get (pc := 2) (v := .int (mem s 3)) C ok_X5 3 (by decide) wf_X5_54 dX5_fits_2 (lz_0 hs) rfl ?_
  rcases ite_some' h with ⟨hc5, h⟩ | ⟨hc5, h⟩
  · refine g_icmp_ge_t (pc := 5) C 34 dX5_fits_5 (by decide) hc5 ?_
    refine g_iconst (pc := 34) (v := 0) C dX5_fits_34 rfl ?_
    cases h
    exact g_iret (pc := 35) C hP rfl rfl dX5_fits_35
  · refine g_icmp_ge_f (pc := 5) C 34 dX5_fits_5 (by decide) hc5 ?_
    refine g_aload_n (pc := 8) (i := 0) (x := ad s) C dX5_fits_8 rfl rfl ?_
    refine g_aload_n (pc := 9) (i := 1) (x := ad t) C dX5_fits_9 rfl rfl ?_
    refine g_iload_n (pc := 10) (i := 2) (x := l2) C dX5_fits_10 rfl rfl ?_
    obtain ⟨r11, hcall11, h⟩ := ob_some h
    refine g_callV (pc := 11) C ce0 mi_X5_isFilled mv_X5_isFilled wm_X5_98 dX5_fits_11 ok_X5 [.ref (ad t), .int l2] [] (lz_0 hs) (by omega) rfl rfl (Nat.le_of_ble_eq_true rfl) (m_X5_isFilled (d := d - 1) (by omega) hs ht hcall11) ?_
    show Gw E κ 4 0 0 14 [some (.ref (ad s)), some (.ref (ad t)), some (.int l2), some (.int l3)] [.int r11] ad (LC sh sp ++ tl) mem
    rcases ite_some' h with ⟨hc14, h⟩ | ⟨hc14, h⟩
    · refine g_if_ne_f (pc := 14) C 34 dX5_fits_14 (by decide) hc14 ?_
      refine g_aload_n (pc := 17) (i := 0) (x := ad s) C dX5_fits_17 rfl rfl ?_
      refine g_aload_n (pc := 18) (i := 1) (x := ad t) C dX5_fits_18 rfl rfl ?_
      refine g_iload_n (pc := 19) (i := 2) (x := l2) C dX5_fits_19 rfl rfl ?_
      obtain ⟨r20, hcall20, h⟩ := ob_some h
      refine g_callV (pc := 20) C ce0 mi_X5_agreeing mv_X5_agreeing wm_X5_102 dX5_fits_20 ok_X5 [.ref (ad t), .int l2] [] (lz_0 hs) (by omega) rfl rfl (Nat.le_of_ble_eq_true rfl) (m_X5_agreeing (d := d - 1) (by omega) hs ht hcall20) ?_
      show Gw E κ 4 0 0 23 [some (.ref (ad s)), some (.ref (ad t)), some (.int l2), some (.int l3)] [.int r20] ad (LC sh sp ++ tl) mem
      refine g_iload_n (pc := 23) (i := 3) (x := l3) C dX5_fits_23 rfl rfl ?_
      refine g_ishr (pc := 24) C dX5_fits_24 ?_
      refine g_iconst (pc := 25) (v := 1) C dX5_fits_25 rfl ?_
      refine g_iand (pc := 26) C dX5_fits_26 ?_
      rcases ite_some' h with ⟨hc27, h⟩ | ⟨hc27, h⟩
      · refine g_if_eq_t (pc := 27) C 34 dX5_fits_27 (by decide) hc27 ?_
        refine g_iconst (pc := 34) (v := 0) C dX5_fits_34 rfl ?_
        cases h
        exact g_iret (pc := 35) C hP rfl rfl dX5_fits_35
      · refine g_if_eq_f (pc := 27) C 34 dX5_fits_27 (by decide) hc27 ?_
        refine g_iconst (pc := 30) (v := 1) C dX5_fits_30 rfl ?_
        refine g_goto (pc := 31) C 35 dX5_fits_31 (by decide) ?_
        cases h
        exact g_iret (pc := 35) C hP rfl rfl dX5_fits_35
    · refine g_if_ne_t (pc := 14) C 34 dX5_fits_14 (by decide) hc14 ?_
      refine g_iconst (pc := 34) (v := 0) C dX5_fits_34 rfl ?_
      cases h
      exact g_iret (pc := 35) C hP rfl rfl dX5_fits_35

theorem dX5_lowestOpen_0 : decode cX5_lowestOpen 0 = .ok (.iconst 0, 1) := by decide +kernel
theorem dX5_lowestOpen_1 : decode cX5_lowestOpen 1 = .ok (.istore_n 2, 1) := by decide +kernel
theorem dX5_lowestOpen_2 : decode cX5_lowestOpen 2 = .ok (.iload_n 2, 1) := by decide +kernel
theorem dX5_lowestOpen_3 : decode cX5_lowestOpen 3 = .ok (.aload_n 0, 1) := by decide +kernel
theorem dX5_lowestOpen_4 : decode cX5_lowestOpen 4 = .ok (.getfield 54, 3) := by decide +kernel
theorem dX5_lowestOpen_7 : decode cX5_lowestOpen 7 = .ok (.if_icmp .ge 20, 3) := by decide +kernel
theorem dX5_lowestOpen_10 : decode cX5_lowestOpen 10 = .ok (.aload_n 0, 1) := by decide +kernel
theorem dX5_lowestOpen_11 : decode cX5_lowestOpen 11 = .ok (.aload_n 1, 1) := by decide +kernel
theorem dX5_lowestOpen_12 : decode cX5_lowestOpen 12 = .ok (.iload_n 2, 1) := by decide +kernel
theorem dX5_lowestOpen_13 : decode cX5_lowestOpen 13 = .ok (.invokevirtual 98, 3) := by decide +kernel
theorem dX5_lowestOpen_16 : decode cX5_lowestOpen 16 = .ok (.ifCond .ne 5, 3) := by decide +kernel
theorem dX5_lowestOpen_19 : decode cX5_lowestOpen 19 = .ok (.iload_n 2, 1) := by decide +kernel
theorem dX5_lowestOpen_20 : decode cX5_lowestOpen 20 = .ok (.ireturn, 1) := by decide +kernel
theorem dX5_lowestOpen_21 : decode cX5_lowestOpen 21 = .ok (.iinc 2 1, 3) := by decide +kernel
theorem dX5_lowestOpen_24 : decode cX5_lowestOpen 24 = .ok (.goto (-22), 3) := by decide +kernel
theorem dX5_lowestOpen_27 : decode cX5_lowestOpen 27 = .ok (.bipush (-4), 2) := by decide +kernel
theorem dX5_lowestOpen_29 : decode cX5_lowestOpen 29 = .ok (.ireturn, 1) := by decide +kernel
noncomputable def f_X5_lowestOpen_b2 (s t : Nat) (mem : Mem) (q : Int32) : Option ((Int32) ⊕ ((Int32) ⊕ (Int32))) :=
  if (mem s 3) ≤ q then (some (.inr (.inl q))) else (ob (f_X5_isFilled s t q mem) fun r13 => if r13 = 0 then (some (.inr (.inr q))) else (lt' (q + 1) fun v21 => some (.inl v21)))
noncomputable def f_X5_lowestOpen (s t : Nat)  (mem : Mem) : Option (Int32) :=
  obs (lp (f_X5_lowestOpen_b2 s t mem) FU 0) (fun q2 => some ((-4))) (fun r => some r)
def P_X5_lowestOpen_2 (E : Ex) (κ : Kx) (ad : Nat → Nat) (lay : List Ent) (s t : Nat) (mem : Mem) : (Int32) ⊕ ((Int32) ⊕ (Int32)) → Prop
  | .inl q => Gw E κ 3 0 0 2 [some (.ref (ad s)), some (.ref (ad t)), some (.int q)] [] ad lay mem
  | .inr (.inl q) => Gw E κ 3 0 0 27 [none, none, none] [] ad lay mem
  | .inr (.inr r) => Qr E κ (some (.int r)) ad lay mem
set_option maxRecDepth 100000 in
set_option maxHeartbeats 4000000 in
theorem b_X5_lowestOpen_2 {E : Ex} {κ : Kx} {ad : Nat → Nat} {sh sp : Nat} {tl : List Ent} {d : Nat} {s t : Nat} (C : Cx E κ cX5_lowestOpen RX5 3 (some .int) d) (hd : 1 ≤ d) (hs : isS s) (ht : isT t) {mem : Mem} {q : Int32} {x : (Int32) ⊕ ((Int32) ⊕ (Int32))} (h : f_X5_lowestOpen_b2 s t mem q = some x) (hP : (P_X5_lowestOpen_2 E κ ad (LC sh sp ++ tl) s t mem) x) : Gw E κ 3 0 0 2 [some (.ref (ad s)), some (.ref (ad t)), some (.int q)] [] ad (LC sh sp ++ tl) mem := by
  unfold f_X5_lowestOpen_b2 at h
  refine g_iload_n (pc := 2) (i := 2) (x := q) C dX5_lowestOpen_2 rfl rfl ?_
  refine g_aload_n (pc := 3) (i := 0) (x := ad s) C dX5_lowestOpen_3 rfl rfl ?_
  refine g_get (pc := 4) (v := .int (mem s 3)) C ok_X5 3 (by decide) wf_X5_54 dX5_lowestOpen_4 (lz_0 hs) rfl ?_
  rcases ite_some' h with ⟨hc7, h⟩ | ⟨hc7, h⟩
  · refine g_icmp_ge_t (pc := 7) C 27 dX5_lowestOpen_7 (by decide) hc7 ?_
    refine g_mask (lv' := [none, none, none]) [false, false, false] rfl ?_
    cases h
    exact hP
  · refine g_icmp_ge_f (pc := 7) C 27 dX5_lowestOpen_7 (by decide) hc7 ?_
    refine g_aload_n (pc := 10) (i := 0) (x := ad s) C dX5_lowestOpen_10 rfl rfl ?_
    refine g_aload_n (pc := 11) (i := 1) (x := ad t) C dX5_lowestOpen_11 rfl rfl ?_
    refine g_iload_n (pc := 12) (i := 2) (x := q) C dX5_lowestOpen_12 rfl rfl ?_
    obtain ⟨r13, hcall13, h⟩ := ob_some h
    refine g_callV (pc := 13) C ce0 mi_X5_isFilled mv_X5_isFilled wm_X5_98 dX5_lowestOpen_13 ok_X5 [.ref (ad t), .int q] [] (lz_0 hs) (by omega) rfl rfl (Nat.le_of_ble_eq_true rfl) (m_X5_isFilled (d := d - 1) (by omega) hs ht hcall13) ?_
    show Gw E κ 3 0 0 16 [some (.ref (ad s)), some (.ref (ad t)), some (.int q)] [.int r13] ad (LC sh sp ++ tl) mem
    rcases ite_some' h with ⟨hc16, h⟩ | ⟨hc16, h⟩
    · refine g_if_ne_f (pc := 16) C 21 dX5_lowestOpen_16 (by decide) hc16 ?_
      refine g_iload_n (pc := 19) (i := 2) (x := q) C dX5_lowestOpen_19 rfl rfl ?_
      cases h
      exact g_iret (pc := 20) C hP rfl rfl dX5_lowestOpen_20
    · refine g_if_ne_t (pc := 16) C 21 dX5_lowestOpen_16 (by decide) hc16 ?_
      obtain ⟨v21, hv21, h⟩ := lt_some h
      refine g_iinc (pc := 21) (i := 2) (x := q) (v := v21) (lv' := [some (.ref (ad s)), some (.ref (ad t)), some (.int v21)]) C dX5_lowestOpen_21 rfl hv21.symm (by decide) rfl rfl ?_
      refine g_goto (pc := 24) C 2 dX5_lowestOpen_24 (by decide) ?_
      cases h
      exact hP
set_option maxRecDepth 100000 in
set_option maxHeartbeats 4000000 in
theorem m_X5_lowestOpen {E : Ex} {ad : Nat → Nat} {sh sp : Nat} {tl : List Ent} {d : Nat} (hd : 1 ≤ d) {s t : Nat} (hs : isS s) (ht : isT t)  {mem : Mem} {r : Int32} (h : f_X5_lowestOpen s t mem = some r) : Cl E yX5_lowestOpen cX5_lowestOpen 3 (some .int) d [.ref (ad s), .ref (ad t)] (some (.int r)) ad (LC sh sp ++ tl) mem (LC sh sp ++ tl) mem := by
  refine Cl.of [some (.ref (ad s)), some (.ref (ad t)), none] (by decide +kernel) rfl (Nat.le_of_ble_eq_true rfl) (fun κ C hP => ?_)
  have C : Cx E κ cX5_lowestOpen RX5 3 (some .int) d := C
  unfold f_X5_lowestOpen at h
  refine g_iconst (pc := 0) (v := 0) C dX5_lowestOpen_0 rfl ?_
  refine g_istore_n (pc := 1) (i := 2) (lv' := [some (.ref (ad s)), some (.ref (ad t)), some (.int 0)]) C dX5_lowestOpen_1 rfl (by decide) rfl rfl ?_
  rcases obs_some h with ⟨q2, hq, h⟩ | ⟨r, hq, h⟩
  · refine lp_gw (P_X5_lowestOpen_2 E κ ad (LC sh sp ++ tl) s t mem) (fun q x hb hp => b_X5_lowestOpen_2 C hd hs ht hb hp) _ 0 _ hq ?_
    show Gw E κ 3 0 0 27 [none, none, none] [] ad (LC sh sp ++ tl) mem
    refine g_bipush (pc := 27) (v := (-4)) C dX5_lowestOpen_27 rfl ?_
    cases h
    exact g_iret (pc := 29) C hP rfl rfl dX5_lowestOpen_29
  · refine lp_gw (P_X5_lowestOpen_2 E κ ad (LC sh sp ++ tl) s t mem) (fun q x hb hp => b_X5_lowestOpen_2 C hd hs ht hb hp) _ 0 _ hq ?_
    cases h
    exact hP

theorem dX5_sends_0 : decode cX5_sends 0 = .ok (.aload_n 1, 1) := by decide +kernel
theorem dX5_sends_1 : decode cX5_sends 1 = .ok (.getfield 106, 3) := by decide +kernel
theorem dX5_sends_4 : decode cX5_sends 4 = .ok (.iload_n 2, 1) := by decide +kernel
theorem dX5_sends_5 : decode cX5_sends 5 = .ok (.iaload, 1) := by decide +kernel
theorem dX5_sends_6 : decode cX5_sends 6 = .ok (.istore_n 3, 1) := by decide +kernel
theorem dX5_sends_7 : decode cX5_sends 7 = .ok (.aload_n 0, 1) := by decide +kernel
theorem dX5_sends_8 : decode cX5_sends 8 = .ok (.aload_n 1, 1) := by decide +kernel
theorem dX5_sends_9 : decode cX5_sends 9 = .ok (.iload_n 3, 1) := by decide +kernel
theorem dX5_sends_10 : decode cX5_sends 10 = .ok (.aload_n 1, 1) := by decide +kernel
theorem dX5_sends_11 : decode cX5_sends 11 = .ok (.getfield 109, 3) := by decide +kernel
theorem dX5_sends_14 : decode cX5_sends 14 = .ok (.iload_n 2, 1) := by decide +kernel
theorem dX5_sends_15 : decode cX5_sends 15 = .ok (.iaload, 1) := by decide +kernel
theorem dX5_sends_16 : decode cX5_sends 16 = .ok (.invokevirtual 112, 3) := by decide +kernel
theorem dX5_sends_19 : decode cX5_sends 19 = .ok (.ifCond .eq 26, 3) := by decide +kernel
theorem dX5_sends_22 : decode cX5_sends 22 = .ok (.aload_n 0, 1) := by decide +kernel
theorem dX5_sends_23 : decode cX5_sends 23 = .ok (.getfield 37, 3) := by decide +kernel
theorem dX5_sends_26 : decode cX5_sends 26 = .ok (.iload_n 2, 1) := by decide +kernel
theorem dX5_sends_27 : decode cX5_sends 27 = .ok (.iaload, 1) := by decide +kernel
theorem dX5_sends_28 : decode cX5_sends 28 = .ok (.iconst 3, 1) := by decide +kernel
theorem dX5_sends_29 : decode cX5_sends 29 = .ok (.if_icmp .ne 12, 3) := by decide +kernel
theorem dX5_sends_32 : decode cX5_sends 32 = .ok (.iload_n 3, 1) := by decide +kernel
theorem dX5_sends_33 : decode cX5_sends 33 = .ok (.aload_n 0, 1) := by decide +kernel
theorem dX5_sends_34 : decode cX5_sends 34 = .ok (.aload_n 1, 1) := by decide +kernel
theorem dX5_sends_35 : decode cX5_sends 35 = .ok (.invokevirtual 116, 3) := by decide +kernel
theorem dX5_sends_38 : decode cX5_sends 38 = .ok (.if_icmp .ne 7, 3) := by decide +kernel
theorem dX5_sends_41 : decode cX5_sends 41 = .ok (.iconst 1, 1) := by decide +kernel
theorem dX5_sends_42 : decode cX5_sends 42 = .ok (.goto 4, 3) := by decide +kernel
theorem dX5_sends_45 : decode cX5_sends 45 = .ok (.iconst 0, 1) := by decide +kernel
theorem dX5_sends_46 : decode cX5_sends 46 = .ok (.ireturn, 1) := by decide +kernel
noncomputable def f_X5_sends (s t : Nat) (l2 : Int32) (mem : Mem) : Option (Int32) :=
  rd (mem (t + 2)) 6 l2 fun v5 => rd (mem (t + 3)) 6 l2 fun v15 => ob (f_X5_fits s t v5 v15 mem) fun r16 => if r16 = 0 then (some 0) else (rd (mem (s + 9)) 6 l2 fun v27 => if v27 = 3 then (ob (f_X5_lowestOpen s t mem) fun r35 => if v5 = r35 then (some 1) else (some 0)) else (some 1))
set_option maxRecDepth 100000 in
set_option maxHeartbeats 4000000 in
theorem m_X5_sends {E : Ex} {ad : Nat → Nat} {sh sp : Nat} {tl : List Ent} {d : Nat} (hd : 2 ≤ d) {s t : Nat} (hs : isS s) (ht : isT t) {l2 : Int32} {mem : Mem} {r : Int32} (h : f_X5_sends s t l2 mem = some r) : Cl E yX5_sends cX5_sends 4 (some .boolean) d [.ref (ad s), .ref (ad t), .int l2] (some (.int r)) ad (LC sh sp ++ tl) mem (LC sh sp ++ tl) mem := by
  refine Cl.of [some (.ref (ad s)), some (.ref (ad t)), some (.int l2), none] (by decide +kernel) rfl (Nat.le_of_ble_eq_true rfl) (fun κ C hP => ?_)
  have C : Cx E κ cX5_sends RX5 4 (some .boolean) d := C
  unfold f_X5_sends at h
  refine g_aload_n (pc := 0) (i := 1) (x := ad t) C dX5_sends_0 rfl rfl ?_
  refine g_getN (pc := 1) (v := .ref (ad (t + 2))) C ok_X0 1 (by decide) nf_X5_106 dX5_sends_1 (ly_0 ht) rfl ?_
  refine g_iload_n (pc := 4) (i := 2) (x := l2) C dX5_sends_4 rfl rfl ?_
  obtain ⟨v5, hv5, hi5, h⟩ := rd_some h
  refine g_iald (pc := 5) C dX5_sends_5 (ly_2 ht) hi5 ?_
  refine g_topi hv5 ?_
  refine g_istore_n (pc := 6) (i := 3) (lv' := [some (.ref (ad s)), some (.ref (ad t)), some (.int l2), some (.int v5)]) C dX5_sends_6 rfl (by decide) rfl rfl ?_
  refine g_aload_n (pc := 7) (i := 0) (x := ad s) C dX5_sends_7 rfl rfl ?_
  refine g_aload_n (pc := 8) (i := 1) (x := ad t) C dX5_sends_8 rfl rfl ?_
  refine g_iload_n (pc := 9) (i := 3) (x := v5) C dX5_sends_9 rfl rfl ?_
  refine g_aload_n (pc := 10) (i := 1) (x := ad t) C dX5_sends_10 rfl rfl ?_
  refine g_getN (pc := 11) (v := .ref (ad (t + 3))) C ok_X0 2 (by decide) nf_X5_109 dX5_sends_11 (ly_0 ht) rfl ?_
  refine g_iload_n (pc := 14) (i := 2) (x := l2) C dX5_sends_14 rfl rfl ?_
  obtain ⟨v15, hv15, hi15, h⟩ := rd_some h
  refine g_iald (pc := 15) C dX5_sends_15 (ly_3 ht) hi15 ?_
  refine g_topi hv15 ?_
  obtain ⟨r16, hcall16, h⟩ := ob_some h
  refine g_callV (pc := 16) C ce0 mi_X5_fits mv_X5_fits wm_X5_112 dX5_sends_16 ok_X5 [.ref (ad t), .int v5, .int v15] [] (lz_0 hs) (by omega) rfl rfl (Nat.le_of_ble_eq_true rfl) (m_X5_fits (d := d - 1) (by omega) hs ht hcall16) ?_
  show Gw E κ 4 0 0 19 [some (.ref (ad s)), some (.ref (ad t)), some (.int l2), some (.int v5)] [.int r16] ad (LC sh sp ++ tl) mem
  rcases ite_some' h with ⟨hc19, h⟩ | ⟨hc19, h⟩
  · refine g_if_eq_t (pc := 19) C 45 dX5_sends_19 (by decide) hc19 ?_
    refine g_iconst (pc := 45) (v := 0) C dX5_sends_45 rfl ?_
    cases h
    exact g_iret (pc := 46) C hP rfl rfl dX5_sends_46
  · refine g_if_eq_f (pc := 19) C 45 dX5_sends_19 (by decide) hc19 ?_
    refine g_aload_n (pc := 22) (i := 0) (x := ad s) C dX5_sends_22 rfl rfl ?_
    refine g_get (pc := 23) (v := .ref (ad (s + 9))) C ok_X5 13 (by decide) wf_X5_37 dX5_sends_23 (lz_0 hs) rfl ?_
    refine g_iload_n (pc := 26) (i := 2) (x := l2) C dX5_sends_26 rfl rfl ?_
    obtain ⟨v27, hv27, hi27, h⟩ := rd_some h
    refine g_iald (pc := 27) C dX5_sends_27 (lz_9 hs) hi27 ?_
    refine g_topi hv27 ?_
    refine g_iconst (pc := 28) (v := 3) C dX5_sends_28 rfl ?_
    rcases ite_some' h with ⟨hc29, h⟩ | ⟨hc29, h⟩
    · refine g_icmp_ne_f (pc := 29) C 41 dX5_sends_29 (by decide) hc29 ?_
      refine g_iload_n (pc := 32) (i := 3) (x := v5) C dX5_sends_32 rfl rfl ?_
      refine g_aload_n (pc := 33) (i := 0) (x := ad s) C dX5_sends_33 rfl rfl ?_
      refine g_aload_n (pc := 34) (i := 1) (x := ad t) C dX5_sends_34 rfl rfl ?_
      obtain ⟨r35, hcall35, h⟩ := ob_some h
      refine g_callV (pc := 35) C ce0 mi_X5_lowestOpen mv_X5_lowestOpen wm_X5_116 dX5_sends_35 ok_X5 [.ref (ad t)] [.int v5] (lz_0 hs) (by omega) rfl rfl (Nat.le_of_ble_eq_true rfl) (m_X5_lowestOpen (d := d - 1) (by omega) hs ht hcall35) ?_
      show Gw E κ 4 0 0 38 [some (.ref (ad s)), some (.ref (ad t)), some (.int l2), some (.int v5)] [.int r35, .int v5] ad (LC sh sp ++ tl) mem
      rcases ite_some' h with ⟨hc38, h⟩ | ⟨hc38, h⟩
      · refine g_icmp_ne_f (pc := 38) C 45 dX5_sends_38 (by decide) hc38 ?_
        refine g_iconst (pc := 41) (v := 1) C dX5_sends_41 rfl ?_
        refine g_goto (pc := 42) C 46 dX5_sends_42 (by decide) ?_
        cases h
        exact g_iret (pc := 46) C hP rfl rfl dX5_sends_46
      · refine g_icmp_ne_t (pc := 38) C 45 dX5_sends_38 (by decide) hc38 ?_
        refine g_iconst (pc := 45) (v := 0) C dX5_sends_45 rfl ?_
        cases h
        exact g_iret (pc := 46) C hP rfl rfl dX5_sends_46
    · refine g_icmp_ne_t (pc := 29) C 41 dX5_sends_29 (by decide) hc29 ?_
      refine g_iconst (pc := 41) (v := 1) C dX5_sends_41 rfl ?_
      refine g_goto (pc := 42) C 46 dX5_sends_42 (by decide) ?_
      cases h
      exact g_iret (pc := 46) C hP rfl rfl dX5_sends_46

theorem dX5_vowelsIn_0 : decode cX5_vowelsIn 0 = .ok (.iconst 0, 1) := by decide +kernel
theorem dX5_vowelsIn_1 : decode cX5_vowelsIn 1 = .ok (.istore_n 2, 1) := by decide +kernel
theorem dX5_vowelsIn_2 : decode cX5_vowelsIn 2 = .ok (.iconst 0, 1) := by decide +kernel
theorem dX5_vowelsIn_3 : decode cX5_vowelsIn 3 = .ok (.istore_n 3, 1) := by decide +kernel
theorem dX5_vowelsIn_4 : decode cX5_vowelsIn 4 = .ok (.iload_n 3, 1) := by decide +kernel
theorem dX5_vowelsIn_5 : decode cX5_vowelsIn 5 = .ok (.aload_n 0, 1) := by decide +kernel
theorem dX5_vowelsIn_6 : decode cX5_vowelsIn 6 = .ok (.getfield 25, 3) := by decide +kernel
theorem dX5_vowelsIn_9 : decode cX5_vowelsIn 9 = .ok (.iload_n 1, 1) := by decide +kernel
theorem dX5_vowelsIn_10 : decode cX5_vowelsIn 10 = .ok (.iaload, 1) := by decide +kernel
theorem dX5_vowelsIn_11 : decode cX5_vowelsIn 11 = .ok (.if_icmp .ge 36, 3) := by decide +kernel
theorem dX5_vowelsIn_14 : decode cX5_vowelsIn 14 = .ok (.aload_n 0, 1) := by decide +kernel
theorem dX5_vowelsIn_15 : decode cX5_vowelsIn 15 = .ok (.getfield 28, 3) := by decide +kernel
theorem dX5_vowelsIn_18 : decode cX5_vowelsIn 18 = .ok (.iload_n 1, 1) := by decide +kernel
theorem dX5_vowelsIn_19 : decode cX5_vowelsIn 19 = .ok (.iaload, 1) := by decide +kernel
theorem dX5_vowelsIn_20 : decode cX5_vowelsIn 20 = .ok (.iload_n 3, 1) := by decide +kernel
theorem dX5_vowelsIn_21 : decode cX5_vowelsIn 21 = .ok (.invokestatic 80, 3) := by decide +kernel
theorem dX5_vowelsIn_24 : decode cX5_vowelsIn 24 = .ok (.istore 4, 2) := by decide +kernel
theorem dX5_vowelsIn_26 : decode cX5_vowelsIn 26 = .ok (.iload 4, 2) := by decide +kernel
theorem dX5_vowelsIn_28 : decode cX5_vowelsIn 28 = .ok (.iconst 1, 1) := by decide +kernel
theorem dX5_vowelsIn_29 : decode cX5_vowelsIn 29 = .ok (.if_icmp .eq 9, 3) := by decide +kernel
theorem dX5_vowelsIn_32 : decode cX5_vowelsIn 32 = .ok (.iload 4, 2) := by decide +kernel
theorem dX5_vowelsIn_34 : decode cX5_vowelsIn 34 = .ok (.iconst 5, 1) := by decide +kernel
theorem dX5_vowelsIn_35 : decode cX5_vowelsIn 35 = .ok (.if_icmp .ne 6, 3) := by decide +kernel
theorem dX5_vowelsIn_38 : decode cX5_vowelsIn 38 = .ok (.iinc 2 1, 3) := by decide +kernel
theorem dX5_vowelsIn_41 : decode cX5_vowelsIn 41 = .ok (.iinc 3 1, 3) := by decide +kernel
theorem dX5_vowelsIn_44 : decode cX5_vowelsIn 44 = .ok (.goto (-40), 3) := by decide +kernel
theorem dX5_vowelsIn_47 : decode cX5_vowelsIn 47 = .ok (.iload_n 2, 1) := by decide +kernel
theorem dX5_vowelsIn_48 : decode cX5_vowelsIn 48 = .ok (.ireturn, 1) := by decide +kernel
noncomputable def f_X5_vowelsIn_b4 (s : Nat) (l1 : Int32) (mem : Mem) (q : Int32 × Int32) : Option ((Int32 × Int32) ⊕ (Int32 × Int32)) :=
  rd (mem (s + 5)) 9 l1 fun v10 => if v10 ≤ q.2 then (some (.inr (q.1, q.2))) else (rd (mem (s + 6)) 9 l1 fun v19 => ob (f_X5_letterOf v19 q.2) fun r21 => if r21 = 1 then (lt' (q.1 + 1) fun v38 => lt' (q.2 + 1) fun v41 => some (.inl (v38, v41))) else (if r21 = 5 then (lt' (q.1 + 1) fun v38 => lt' (q.2 + 1) fun v41 => some (.inl (v38, v41))) else (lt' (q.2 + 1) fun v41 => some (.inl (q.1, v41)))))
noncomputable def f_X5_vowelsIn (s : Nat) (l1 : Int32) (mem : Mem) : Option (Int32) :=
  ob (lp (f_X5_vowelsIn_b4 s l1 mem) FU (0, 0)) fun q4 => some q4.1
def P_X5_vowelsIn_4 (E : Ex) (κ : Kx) (ad : Nat → Nat) (lay : List Ent) (s : Nat) (l1 : Int32) (mem : Mem) : (Int32 × Int32) ⊕ (Int32 × Int32) → Prop
  | .inl q => Gw E κ 5 0 0 4 [some (.ref (ad s)), some (.int l1), some (.int q.1), some (.int q.2), none] [] ad lay mem
  | .inr q => Gw E κ 5 0 0 47 [none, none, some (.int q.1), none, none] [] ad lay mem
set_option maxRecDepth 100000 in
set_option maxHeartbeats 4000000 in
theorem b_X5_vowelsIn_4 {E : Ex} {κ : Kx} {ad : Nat → Nat} {sh sp : Nat} {tl : List Ent} {d : Nat} {s : Nat} (C : Cx E κ cX5_vowelsIn RX5 5 (some .int) d) (hd : 1 ≤ d) (hs : isS s) {l1 : Int32} {mem : Mem} {q : Int32 × Int32} {x : (Int32 × Int32) ⊕ (Int32 × Int32)} (h : f_X5_vowelsIn_b4 s l1 mem q = some x) (hP : (P_X5_vowelsIn_4 E κ ad (LC sh sp ++ tl) s l1 mem) x) : Gw E κ 5 0 0 4 [some (.ref (ad s)), some (.int l1), some (.int q.1), some (.int q.2), none] [] ad (LC sh sp ++ tl) mem := by
  unfold f_X5_vowelsIn_b4 at h
  refine g_iload_n (pc := 4) (i := 3) (x := q.2) C dX5_vowelsIn_4 rfl rfl ?_
  refine g_aload_n (pc := 5) (i := 0) (x := ad s) C dX5_vowelsIn_5 rfl rfl ?_
  refine g_get (pc := 6) (v := .ref (ad (s + 5))) C ok_X5 8 (by decide) wf_X5_25 dX5_vowelsIn_6 (lz_0 hs) rfl ?_
  refine g_iload_n (pc := 9) (i := 1) (x := l1) C dX5_vowelsIn_9 rfl rfl ?_
  obtain ⟨v10, hv10, hi10, h⟩ := rd_some h
  refine g_iald (pc := 10) C dX5_vowelsIn_10 (lz_5 hs) hi10 ?_
  refine g_topi hv10 ?_
  rcases ite_some' h with ⟨hc11, h⟩ | ⟨hc11, h⟩
  · refine g_icmp_ge_t (pc := 11) C 47 dX5_vowelsIn_11 (by decide) hc11 ?_
    refine g_mask (lv' := [none, none, some (.int q.1), none, none]) [false, false, true, false, false] rfl ?_
    cases h
    exact hP
  · refine g_icmp_ge_f (pc := 11) C 47 dX5_vowelsIn_11 (by decide) hc11 ?_
    refine g_aload_n (pc := 14) (i := 0) (x := ad s) C dX5_vowelsIn_14 rfl rfl ?_
    refine g_get (pc := 15) (v := .ref (ad (s + 6))) C ok_X5 9 (by decide) wf_X5_28 dX5_vowelsIn_15 (lz_0 hs) rfl ?_
    refine g_iload_n (pc := 18) (i := 1) (x := l1) C dX5_vowelsIn_18 rfl rfl ?_
    obtain ⟨v19, hv19, hi19, h⟩ := rd_some h
    refine g_iald (pc := 19) C dX5_vowelsIn_19 (lz_6 hs) hi19 ?_
    refine g_topi hv19 ?_
    refine g_iload_n (pc := 20) (i := 3) (x := q.2) C dX5_vowelsIn_20 rfl rfl ?_
    obtain ⟨r21, hcall21, h⟩ := ob_some h
    refine g_callS (pc := 21) C ce0 mi_X5_letterOf ms_X5_letterOf wm_X5_80 dX5_vowelsIn_21 [.int v19, .int q.2] [] (by omega) rfl rfl (Nat.le_of_ble_eq_true rfl) (m_X5_letterOf (d := d - 1) (by omega)  hcall21) ?_
    show Gw E κ 5 0 0 24 [some (.ref (ad s)), some (.int l1), some (.int q.1), some (.int q.2), none] [.int r21] ad (LC sh sp ++ tl) mem
    refine g_istore (pc := 24) (i := 4) (lv' := [some (.ref (ad s)), some (.int l1), some (.int q.1), some (.int q.2), some (.int r21)]) C dX5_vowelsIn_24 (by decide) rfl rfl ?_
    refine g_iload (pc := 26) (i := 4) (x := r21) C dX5_vowelsIn_26 rfl ?_
    refine g_iconst (pc := 28) (v := 1) C dX5_vowelsIn_28 rfl ?_
    rcases ite_some' h with ⟨hc29, h⟩ | ⟨hc29, h⟩
    · refine g_icmp_eq_t (pc := 29) C 38 dX5_vowelsIn_29 (by decide) hc29 ?_
      obtain ⟨v38, hv38, h⟩ := lt_some h
      refine g_iinc (pc := 38) (i := 2) (x := q.1) (v := v38) (lv' := [some (.ref (ad s)), some (.int l1), some (.int v38), some (.int q.2), some (.int r21)]) C dX5_vowelsIn_38 rfl hv38.symm (by decide) rfl rfl ?_
      obtain ⟨v41, hv41, h⟩ := lt_some h
      refine g_iinc (pc := 41) (i := 3) (x := q.2) (v := v41) (lv' := [some (.ref (ad s)), some (.int l1), some (.int v38), some (.int v41), some (.int r21)]) C dX5_vowelsIn_41 rfl hv41.symm (by decide) rfl rfl ?_
      refine g_goto (pc := 44) C 4 dX5_vowelsIn_44 (by decide) ?_
      refine g_mask (lv' := [some (.ref (ad s)), some (.int l1), some (.int v38), some (.int v41), none]) [true, true, true, true, false] rfl ?_
      cases h
      exact hP
    · refine g_icmp_eq_f (pc := 29) C 38 dX5_vowelsIn_29 (by decide) hc29 ?_
      refine g_iload (pc := 32) (i := 4) (x := r21) C dX5_vowelsIn_32 rfl ?_
      refine g_iconst (pc := 34) (v := 5) C dX5_vowelsIn_34 rfl ?_
      rcases ite_some' h with ⟨hc35, h⟩ | ⟨hc35, h⟩
      · refine g_icmp_ne_f (pc := 35) C 41 dX5_vowelsIn_35 (by decide) hc35 ?_
        obtain ⟨v38, hv38, h⟩ := lt_some h
        refine g_iinc (pc := 38) (i := 2) (x := q.1) (v := v38) (lv' := [some (.ref (ad s)), some (.int l1), some (.int v38), some (.int q.2), some (.int r21)]) C dX5_vowelsIn_38 rfl hv38.symm (by decide) rfl rfl ?_
        obtain ⟨v41, hv41, h⟩ := lt_some h
        refine g_iinc (pc := 41) (i := 3) (x := q.2) (v := v41) (lv' := [some (.ref (ad s)), some (.int l1), some (.int v38), some (.int v41), some (.int r21)]) C dX5_vowelsIn_41 rfl hv41.symm (by decide) rfl rfl ?_
        refine g_goto (pc := 44) C 4 dX5_vowelsIn_44 (by decide) ?_
        refine g_mask (lv' := [some (.ref (ad s)), some (.int l1), some (.int v38), some (.int v41), none]) [true, true, true, true, false] rfl ?_
        cases h
        exact hP
      · refine g_icmp_ne_t (pc := 35) C 41 dX5_vowelsIn_35 (by decide) hc35 ?_
        obtain ⟨v41, hv41, h⟩ := lt_some h
        refine g_iinc (pc := 41) (i := 3) (x := q.2) (v := v41) (lv' := [some (.ref (ad s)), some (.int l1), some (.int q.1), some (.int v41), some (.int r21)]) C dX5_vowelsIn_41 rfl hv41.symm (by decide) rfl rfl ?_
        refine g_goto (pc := 44) C 4 dX5_vowelsIn_44 (by decide) ?_
        refine g_mask (lv' := [some (.ref (ad s)), some (.int l1), some (.int q.1), some (.int v41), none]) [true, true, true, true, false] rfl ?_
        cases h
        exact hP
set_option maxRecDepth 100000 in
set_option maxHeartbeats 4000000 in
theorem m_X5_vowelsIn {E : Ex} {ad : Nat → Nat} {sh sp : Nat} {tl : List Ent} {d : Nat} (hd : 1 ≤ d) {s : Nat} (hs : isS s) {l1 : Int32} {mem : Mem} {r : Int32} (h : f_X5_vowelsIn s l1 mem = some r) : Cl E yX5_vowelsIn cX5_vowelsIn 5 (some .int) d [.ref (ad s), .int l1] (some (.int r)) ad (LC sh sp ++ tl) mem (LC sh sp ++ tl) mem := by
  refine Cl.of [some (.ref (ad s)), some (.int l1), none, none, none] (by decide +kernel) rfl (Nat.le_of_ble_eq_true rfl) (fun κ C hP => ?_)
  have C : Cx E κ cX5_vowelsIn RX5 5 (some .int) d := C
  unfold f_X5_vowelsIn at h
  refine g_iconst (pc := 0) (v := 0) C dX5_vowelsIn_0 rfl ?_
  refine g_istore_n (pc := 1) (i := 2) (lv' := [some (.ref (ad s)), some (.int l1), some (.int 0), none, none]) C dX5_vowelsIn_1 rfl (by decide) rfl rfl ?_
  refine g_iconst (pc := 2) (v := 0) C dX5_vowelsIn_2 rfl ?_
  refine g_istore_n (pc := 3) (i := 3) (lv' := [some (.ref (ad s)), some (.int l1), some (.int 0), some (.int 0), none]) C dX5_vowelsIn_3 rfl (by decide) rfl rfl ?_
  obtain ⟨q4, hq, h⟩ := ob_some h
  refine lp_gw (P_X5_vowelsIn_4 E κ ad (LC sh sp ++ tl) s l1 mem) (fun q x hb hp => b_X5_vowelsIn_4 C hd hs hb hp) _ (0, 0) _ hq ?_
  show Gw E κ 5 0 0 47 [none, none, some (.int q4.1), none, none] [] ad (LC sh sp ++ tl) mem
  refine g_iload_n (pc := 47) (i := 2) (x := q4.1) C dX5_vowelsIn_47 rfl rfl ?_
  cases h
  exact g_iret (pc := 48) C hP rfl rfl dX5_vowelsIn_48

theorem dX5_put_0 : decode cX5_put 0 = .ok (.iconst 0, 1) := by decide +kernel
theorem dX5_put_1 : decode cX5_put 1 = .ok (.istore 4, 2) := by decide +kernel
theorem dX5_put_3 : decode cX5_put 3 = .ok (.iload 4, 2) := by decide +kernel
theorem dX5_put_5 : decode cX5_put 5 = .ok (.aload_n 0, 1) := by decide +kernel
theorem dX5_put_6 : decode cX5_put 6 = .ok (.getfield 15, 3) := by decide +kernel
theorem dX5_put_9 : decode cX5_put 9 = .ok (.iload_n 2, 1) := by decide +kernel
theorem dX5_put_10 : decode cX5_put 10 = .ok (.iaload, 1) := by decide +kernel
theorem dX5_put_11 : decode cX5_put 11 = .ok (.if_icmp .ge 31, 3) := by decide +kernel
theorem dX5_put_14 : decode cX5_put 14 = .ok (.aload_n 1, 1) := by decide +kernel
theorem dX5_put_15 : decode cX5_put 15 = .ok (.getfield 84, 3) := by decide +kernel
theorem dX5_put_18 : decode cX5_put 18 = .ok (.aload_n 0, 1) := by decide +kernel
theorem dX5_put_19 : decode cX5_put 19 = .ok (.getfield 19, 3) := by decide +kernel
theorem dX5_put_22 : decode cX5_put 22 = .ok (.iload_n 2, 1) := by decide +kernel
theorem dX5_put_23 : decode cX5_put 23 = .ok (.iconst 4, 1) := by decide +kernel
theorem dX5_put_24 : decode cX5_put 24 = .ok (.imul, 1) := by decide +kernel
theorem dX5_put_25 : decode cX5_put 25 = .ok (.iload 4, 2) := by decide +kernel
theorem dX5_put_27 : decode cX5_put 27 = .ok (.iadd, 1) := by decide +kernel
theorem dX5_put_28 : decode cX5_put 28 = .ok (.iaload, 1) := by decide +kernel
theorem dX5_put_29 : decode cX5_put 29 = .ok (.iload_n 3, 1) := by decide +kernel
theorem dX5_put_30 : decode cX5_put 30 = .ok (.iload 4, 2) := by decide +kernel
theorem dX5_put_32 : decode cX5_put 32 = .ok (.invokestatic 80, 3) := by decide +kernel
theorem dX5_put_35 : decode cX5_put 35 = .ok (.iastore, 1) := by decide +kernel
theorem dX5_put_36 : decode cX5_put 36 = .ok (.iinc 4 1, 3) := by decide +kernel
theorem dX5_put_39 : decode cX5_put 39 = .ok (.goto (-36), 3) := by decide +kernel
theorem dX5_put_42 : decode cX5_put 42 = .ok (.return_, 1) := by decide +kernel
noncomputable def f_X5_put_b3 (s t : Nat) (l2 : Int32) (l3 : Int32) (q : Int32 × Mem) : Option ((Int32 × Mem) ⊕ (Int32 × Mem)) :=
  rd (q.2 (s + 2)) 8 l2 fun v10 => if v10 ≤ q.1 then (some (.inr (q.1, q.2))) else (rd (q.2 (s + 3)) 32 ((l2 * 4) + q.1) fun v28 => ob (f_X5_letterOf l3 q.1) fun r32 => wr q.2 (t + 1) 16 v28 r32 fun m35 => lt' (q.1 + 1) fun v36 => some (.inl (v36, m35)))
noncomputable def f_X5_put (s t : Nat) (l2 : Int32) (l3 : Int32) (mem : Mem) : Option (Mem) :=
  ob (lp (f_X5_put_b3 s t l2 l3) FU (0, mem)) fun q3 => some q3.2
def P_X5_put_3 (E : Ex) (κ : Kx) (ad : Nat → Nat) (lay : List Ent) (s t : Nat) (l2 : Int32) (l3 : Int32) : (Int32 × Mem) ⊕ (Int32 × Mem) → Prop
  | .inl q => Gw E κ 5 0 0 3 [some (.ref (ad s)), some (.ref (ad t)), some (.int l2), some (.int l3), some (.int q.1)] [] ad lay q.2
  | .inr q => Gw E κ 5 0 0 42 [none, none, none, none, none] [] ad lay q.2
set_option maxRecDepth 100000 in
set_option maxHeartbeats 4000000 in
theorem b_X5_put_3 {E : Ex} {κ : Kx} {ad : Nat → Nat} {sh sp : Nat} {tl : List Ent} {d : Nat} {s t : Nat} (C : Cx E κ cX5_put RX5 5 none d) (hd : 1 ≤ d) (hs : isS s) (ht : isT t) {l2 : Int32} {l3 : Int32} {q : Int32 × Mem} {x : (Int32 × Mem) ⊕ (Int32 × Mem)} (h : f_X5_put_b3 s t l2 l3 q = some x) (hP : (P_X5_put_3 E κ ad (LC sh sp ++ tl) s t l2 l3) x) : Gw E κ 5 0 0 3 [some (.ref (ad s)), some (.ref (ad t)), some (.int l2), some (.int l3), some (.int q.1)] [] ad (LC sh sp ++ tl) q.2 := by
  unfold f_X5_put_b3 at h
  refine g_iload (pc := 3) (i := 4) (x := q.1) C dX5_put_3 rfl ?_
  refine g_aload_n (pc := 5) (i := 0) (x := ad s) C dX5_put_5 rfl rfl ?_
  refine g_get (pc := 6) (v := .ref (ad (s + 2))) C ok_X5 4 (by decide) wf_X5_15 dX5_put_6 (lz_0 hs) rfl ?_
  refine g_iload_n (pc := 9) (i := 2) (x := l2) C dX5_put_9 rfl rfl ?_
  obtain ⟨v10, hv10, hi10, h⟩ := rd_some h
  refine g_iald (pc := 10) C dX5_put_10 (lz_2 hs) hi10 ?_
  refine g_topi hv10 ?_
  rcases ite_some' h with ⟨hc11, h⟩ | ⟨hc11, h⟩
  · refine g_icmp_ge_t (pc := 11) C 42 dX5_put_11 (by decide) hc11 ?_
    refine g_mask (lv' := [none, none, none, none, none]) [false, false, false, false, false] rfl ?_
    cases h
    exact hP
  · refine g_icmp_ge_f (pc := 11) C 42 dX5_put_11 (by decide) hc11 ?_
    refine g_aload_n (pc := 14) (i := 1) (x := ad t) C dX5_put_14 rfl rfl ?_
    refine g_getN (pc := 15) (v := .ref (ad (t + 1))) C ok_X0 0 (by decide) nf_X5_84 dX5_put_15 (ly_0 ht) rfl ?_
    refine g_aload_n (pc := 18) (i := 0) (x := ad s) C dX5_put_18 rfl rfl ?_
    refine g_get (pc := 19) (v := .ref (ad (s + 3))) C ok_X5 5 (by decide) wf_X5_19 dX5_put_19 (lz_0 hs) rfl ?_
    refine g_iload_n (pc := 22) (i := 2) (x := l2) C dX5_put_22 rfl rfl ?_
    refine g_iconst (pc := 23) (v := 4) C dX5_put_23 rfl ?_
    refine g_imul (pc := 24) C dX5_put_24 ?_
    refine g_iload (pc := 25) (i := 4) (x := q.1) C dX5_put_25 rfl ?_
    refine g_iadd (pc := 27) C dX5_put_27 ?_
    obtain ⟨v28, hv28, hi28, h⟩ := rd_some h
    refine g_iald (pc := 28) C dX5_put_28 (lz_3 hs) hi28 ?_
    refine g_topi hv28 ?_
    refine g_iload_n (pc := 29) (i := 3) (x := l3) C dX5_put_29 rfl rfl ?_
    refine g_iload (pc := 30) (i := 4) (x := q.1) C dX5_put_30 rfl ?_
    obtain ⟨r32, hcall32, h⟩ := ob_some h
    refine g_callS (pc := 32) C ce0 mi_X5_letterOf ms_X5_letterOf wm_X5_80 dX5_put_32 [.int l3, .int q.1] [.int v28, .ref (ad (t + 1))] (by omega) rfl rfl (Nat.le_of_ble_eq_true rfl) (m_X5_letterOf (d := d - 1) (by omega)  hcall32) ?_
    show Gw E κ 5 0 0 35 [some (.ref (ad s)), some (.ref (ad t)), some (.int l2), some (.int l3), some (.int q.1)] [.int r32, .int v28, .ref (ad (t + 1))] ad (LC sh sp ++ tl) q.2
    obtain ⟨m35, hm35, hi35, h⟩ := wr_some h
    refine g_iast (pc := 35) C dX5_put_35 (ly_1 ht) hi35 ?_
    refine g_mem hm35 ?_
    obtain ⟨v36, hv36, h⟩ := lt_some h
    refine g_iinc (pc := 36) (i := 4) (x := q.1) (v := v36) (lv' := [some (.ref (ad s)), some (.ref (ad t)), some (.int l2), some (.int l3), some (.int v36)]) C dX5_put_36 rfl hv36.symm (by decide) rfl rfl ?_
    refine g_goto (pc := 39) C 3 dX5_put_39 (by decide) ?_
    cases h
    exact hP
set_option maxRecDepth 100000 in
set_option maxHeartbeats 4000000 in
theorem m_X5_put {E : Ex} {ad : Nat → Nat} {sh sp : Nat} {tl : List Ent} {d : Nat} (hd : 1 ≤ d) {s t : Nat} (hs : isS s) (ht : isT t) {l2 : Int32} {l3 : Int32} {mem : Mem} {r : Mem} (h : f_X5_put s t l2 l3 mem = some r) : Cl E yX5_put cX5_put 5 none d [.ref (ad s), .ref (ad t), .int l2, .int l3] none ad (LC sh sp ++ tl) mem (LC sh sp ++ tl) r := by
  refine Cl.of [some (.ref (ad s)), some (.ref (ad t)), some (.int l2), some (.int l3), none] (by decide +kernel) rfl (Nat.le_of_ble_eq_true rfl) (fun κ C hP => ?_)
  have C : Cx E κ cX5_put RX5 5 none d := C
  unfold f_X5_put at h
  refine g_iconst (pc := 0) (v := 0) C dX5_put_0 rfl ?_
  refine g_istore (pc := 1) (i := 4) (lv' := [some (.ref (ad s)), some (.ref (ad t)), some (.int l2), some (.int l3), some (.int 0)]) C dX5_put_1 (by decide) rfl rfl ?_
  obtain ⟨q3, hq, h⟩ := ob_some h
  refine lp_gw (P_X5_put_3 E κ ad (LC sh sp ++ tl) s t l2 l3) (fun q x hb hp => b_X5_put_3 C hd hs ht hb hp) _ (0, mem) _ hq ?_
  show Gw E κ 5 0 0 42 [none, none, none, none, none] [] ad (LC sh sp ++ tl) q3.2
  cases h
  exact g_vret (pc := 42) C hP rfl dX5_put_42

theorem dX5_codeOf_0 : decode cX5_codeOf 0 = .ok (.iconst 0, 1) := by decide +kernel
theorem dX5_codeOf_1 : decode cX5_codeOf 1 = .ok (.istore_n 3, 1) := by decide +kernel
theorem dX5_codeOf_2 : decode cX5_codeOf 2 = .ok (.iconst 0, 1) := by decide +kernel
theorem dX5_codeOf_3 : decode cX5_codeOf 3 = .ok (.istore 4, 2) := by decide +kernel
theorem dX5_codeOf_5 : decode cX5_codeOf 5 = .ok (.iload 4, 2) := by decide +kernel
theorem dX5_codeOf_7 : decode cX5_codeOf 7 = .ok (.aload_n 0, 1) := by decide +kernel
theorem dX5_codeOf_8 : decode cX5_codeOf 8 = .ok (.getfield 15, 3) := by decide +kernel
theorem dX5_codeOf_11 : decode cX5_codeOf 11 = .ok (.iload_n 2, 1) := by decide +kernel
theorem dX5_codeOf_12 : decode cX5_codeOf 12 = .ok (.iaload, 1) := by decide +kernel
theorem dX5_codeOf_13 : decode cX5_codeOf 13 = .ok (.if_icmp .ge 33, 3) := by decide +kernel
theorem dX5_codeOf_16 : decode cX5_codeOf 16 = .ok (.iload_n 3, 1) := by decide +kernel
theorem dX5_codeOf_17 : decode cX5_codeOf 17 = .ok (.aload_n 1, 1) := by decide +kernel
theorem dX5_codeOf_18 : decode cX5_codeOf 18 = .ok (.getfield 84, 3) := by decide +kernel
theorem dX5_codeOf_21 : decode cX5_codeOf 21 = .ok (.aload_n 0, 1) := by decide +kernel
theorem dX5_codeOf_22 : decode cX5_codeOf 22 = .ok (.getfield 19, 3) := by decide +kernel
theorem dX5_codeOf_25 : decode cX5_codeOf 25 = .ok (.iload_n 2, 1) := by decide +kernel
theorem dX5_codeOf_26 : decode cX5_codeOf 26 = .ok (.iconst 4, 1) := by decide +kernel
theorem dX5_codeOf_27 : decode cX5_codeOf 27 = .ok (.imul, 1) := by decide +kernel
theorem dX5_codeOf_28 : decode cX5_codeOf 28 = .ok (.iload 4, 2) := by decide +kernel
theorem dX5_codeOf_30 : decode cX5_codeOf 30 = .ok (.iadd, 1) := by decide +kernel
theorem dX5_codeOf_31 : decode cX5_codeOf 31 = .ok (.iaload, 1) := by decide +kernel
theorem dX5_codeOf_32 : decode cX5_codeOf 32 = .ok (.iaload, 1) := by decide +kernel
theorem dX5_codeOf_33 : decode cX5_codeOf 33 = .ok (.iconst 3, 1) := by decide +kernel
theorem dX5_codeOf_34 : decode cX5_codeOf 34 = .ok (.iload 4, 2) := by decide +kernel
theorem dX5_codeOf_36 : decode cX5_codeOf 36 = .ok (.imul, 1) := by decide +kernel
theorem dX5_codeOf_37 : decode cX5_codeOf 37 = .ok (.ishl, 1) := by decide +kernel
theorem dX5_codeOf_38 : decode cX5_codeOf 38 = .ok (.ior, 1) := by decide +kernel
theorem dX5_codeOf_39 : decode cX5_codeOf 39 = .ok (.istore_n 3, 1) := by decide +kernel
theorem dX5_codeOf_40 : decode cX5_codeOf 40 = .ok (.iinc 4 1, 3) := by decide +kernel
theorem dX5_codeOf_43 : decode cX5_codeOf 43 = .ok (.goto (-38), 3) := by decide +kernel
theorem dX5_codeOf_46 : decode cX5_codeOf 46 = .ok (.iload_n 3, 1) := by decide +kernel
theorem dX5_codeOf_47 : decode cX5_codeOf 47 = .ok (.ireturn, 1) := by decide +kernel
noncomputable def f_X5_codeOf_b5 (s t : Nat) (l2 : Int32) (mem : Mem) (q : Int32 × Int32) : Option ((Int32 × Int32) ⊕ (Int32 × Int32)) :=
  rd (mem (s + 2)) 8 l2 fun v12 => if v12 ≤ q.2 then (some (.inr (q.1, q.2))) else (rd (mem (s + 3)) 32 ((l2 * 4) + q.2) fun v31 => rd (mem (t + 1)) 16 v31 fun v32 => lt' (q.1 ||| (v32 <<< ((3 * q.2) &&& 31))) fun v39 => lt' (q.2 + 1) fun v40 => some (.inl (v39, v40)))
noncomputable def f_X5_codeOf (s t : Nat) (l2 : Int32) (mem : Mem) : Option (Int32) :=
  ob (lp (f_X5_codeOf_b5 s t l2 mem) FU (0, 0)) fun q5 => some q5.1
def P_X5_codeOf_5 (E : Ex) (κ : Kx) (ad : Nat → Nat) (lay : List Ent) (s t : Nat) (l2 : Int32) (mem : Mem) : (Int32 × Int32) ⊕ (Int32 × Int32) → Prop
  | .inl q => Gw E κ 5 0 0 5 [some (.ref (ad s)), some (.ref (ad t)), some (.int l2), some (.int q.1), some (.int q.2)] [] ad lay mem
  | .inr q => Gw E κ 5 0 0 46 [none, none, none, some (.int q.1), none] [] ad lay mem
set_option maxRecDepth 100000 in
set_option maxHeartbeats 4000000 in
theorem b_X5_codeOf_5 {E : Ex} {κ : Kx} {ad : Nat → Nat} {sh sp : Nat} {tl : List Ent} {d : Nat} {s t : Nat} (C : Cx E κ cX5_codeOf RX5 5 (some .int) d) (hd : 0 ≤ d) (hs : isS s) (ht : isT t) {l2 : Int32} {mem : Mem} {q : Int32 × Int32} {x : (Int32 × Int32) ⊕ (Int32 × Int32)} (h : f_X5_codeOf_b5 s t l2 mem q = some x) (hP : (P_X5_codeOf_5 E κ ad (LC sh sp ++ tl) s t l2 mem) x) : Gw E κ 5 0 0 5 [some (.ref (ad s)), some (.ref (ad t)), some (.int l2), some (.int q.1), some (.int q.2)] [] ad (LC sh sp ++ tl) mem := by
  unfold f_X5_codeOf_b5 at h
  refine g_iload (pc := 5) (i := 4) (x := q.2) C dX5_codeOf_5 rfl ?_
  refine g_aload_n (pc := 7) (i := 0) (x := ad s) C dX5_codeOf_7 rfl rfl ?_
  refine g_get (pc := 8) (v := .ref (ad (s + 2))) C ok_X5 4 (by decide) wf_X5_15 dX5_codeOf_8 (lz_0 hs) rfl ?_
  refine g_iload_n (pc := 11) (i := 2) (x := l2) C dX5_codeOf_11 rfl rfl ?_
  obtain ⟨v12, hv12, hi12, h⟩ := rd_some h
  refine g_iald (pc := 12) C dX5_codeOf_12 (lz_2 hs) hi12 ?_
  refine g_topi hv12 ?_
  rcases ite_some' h with ⟨hc13, h⟩ | ⟨hc13, h⟩
  · refine g_icmp_ge_t (pc := 13) C 46 dX5_codeOf_13 (by decide) hc13 ?_
    refine g_mask (lv' := [none, none, none, some (.int q.1), none]) [false, false, false, true, false] rfl ?_
    cases h
    exact hP
  · refine g_icmp_ge_f (pc := 13) C 46 dX5_codeOf_13 (by decide) hc13 ?_
    refine g_iload_n (pc := 16) (i := 3) (x := q.1) C dX5_codeOf_16 rfl rfl ?_
    refine g_aload_n (pc := 17) (i := 1) (x := ad t) C dX5_codeOf_17 rfl rfl ?_
    refine g_getN (pc := 18) (v := .ref (ad (t + 1))) C ok_X0 0 (by decide) nf_X5_84 dX5_codeOf_18 (ly_0 ht) rfl ?_
    refine g_aload_n (pc := 21) (i := 0) (x := ad s) C dX5_codeOf_21 rfl rfl ?_
    refine g_get (pc := 22) (v := .ref (ad (s + 3))) C ok_X5 5 (by decide) wf_X5_19 dX5_codeOf_22 (lz_0 hs) rfl ?_
    refine g_iload_n (pc := 25) (i := 2) (x := l2) C dX5_codeOf_25 rfl rfl ?_
    refine g_iconst (pc := 26) (v := 4) C dX5_codeOf_26 rfl ?_
    refine g_imul (pc := 27) C dX5_codeOf_27 ?_
    refine g_iload (pc := 28) (i := 4) (x := q.2) C dX5_codeOf_28 rfl ?_
    refine g_iadd (pc := 30) C dX5_codeOf_30 ?_
    obtain ⟨v31, hv31, hi31, h⟩ := rd_some h
    refine g_iald (pc := 31) C dX5_codeOf_31 (lz_3 hs) hi31 ?_
    refine g_topi hv31 ?_
    obtain ⟨v32, hv32, hi32, h⟩ := rd_some h
    refine g_iald (pc := 32) C dX5_codeOf_32 (ly_1 ht) hi32 ?_
    refine g_topi hv32 ?_
    refine g_iconst (pc := 33) (v := 3) C dX5_codeOf_33 rfl ?_
    refine g_iload (pc := 34) (i := 4) (x := q.2) C dX5_codeOf_34 rfl ?_
    refine g_imul (pc := 36) C dX5_codeOf_36 ?_
    refine g_ishl (pc := 37) C dX5_codeOf_37 ?_
    refine g_ior (pc := 38) C dX5_codeOf_38 ?_
    obtain ⟨v39, hv39, h⟩ := lt_some h
    refine g_topi hv39 ?_
    refine g_istore_n (pc := 39) (i := 3) (lv' := [some (.ref (ad s)), some (.ref (ad t)), some (.int l2), some (.int v39), some (.int q.2)]) C dX5_codeOf_39 rfl (by decide) rfl rfl ?_
    obtain ⟨v40, hv40, h⟩ := lt_some h
    refine g_iinc (pc := 40) (i := 4) (x := q.2) (v := v40) (lv' := [some (.ref (ad s)), some (.ref (ad t)), some (.int l2), some (.int v39), some (.int v40)]) C dX5_codeOf_40 rfl hv40.symm (by decide) rfl rfl ?_
    refine g_goto (pc := 43) C 5 dX5_codeOf_43 (by decide) ?_
    cases h
    exact hP
set_option maxRecDepth 100000 in
set_option maxHeartbeats 4000000 in
theorem m_X5_codeOf {E : Ex} {ad : Nat → Nat} {sh sp : Nat} {tl : List Ent} {d : Nat} (hd : 0 ≤ d) {s t : Nat} (hs : isS s) (ht : isT t) {l2 : Int32} {mem : Mem} {r : Int32} (h : f_X5_codeOf s t l2 mem = some r) : Cl E yX5_codeOf cX5_codeOf 5 (some .int) d [.ref (ad s), .ref (ad t), .int l2] (some (.int r)) ad (LC sh sp ++ tl) mem (LC sh sp ++ tl) mem := by
  refine Cl.of [some (.ref (ad s)), some (.ref (ad t)), some (.int l2), none, none] (by decide +kernel) rfl (Nat.le_of_ble_eq_true rfl) (fun κ C hP => ?_)
  have C : Cx E κ cX5_codeOf RX5 5 (some .int) d := C
  unfold f_X5_codeOf at h
  refine g_iconst (pc := 0) (v := 0) C dX5_codeOf_0 rfl ?_
  refine g_istore_n (pc := 1) (i := 3) (lv' := [some (.ref (ad s)), some (.ref (ad t)), some (.int l2), some (.int 0), none]) C dX5_codeOf_1 rfl (by decide) rfl rfl ?_
  refine g_iconst (pc := 2) (v := 0) C dX5_codeOf_2 rfl ?_
  refine g_istore (pc := 3) (i := 4) (lv' := [some (.ref (ad s)), some (.ref (ad t)), some (.int l2), some (.int 0), some (.int 0)]) C dX5_codeOf_3 (by decide) rfl rfl ?_
  obtain ⟨q5, hq, h⟩ := ob_some h
  refine lp_gw (P_X5_codeOf_5 E κ ad (LC sh sp ++ tl) s t l2 mem) (fun q x hb hp => b_X5_codeOf_5 C hd hs ht hb hp) _ (0, 0) _ hq ?_
  show Gw E κ 5 0 0 46 [none, none, none, some (.int q5.1), none] [] ad (LC sh sp ++ tl) mem
  refine g_iload_n (pc := 46) (i := 3) (x := q5.1) C dX5_codeOf_46 rfl rfl ?_
  cases h
  exact g_iret (pc := 47) C hP rfl rfl dX5_codeOf_47

theorem dX5_lettersIn_0 : decode cX5_lettersIn 0 = .ok (.iconst 0, 1) := by decide +kernel
theorem dX5_lettersIn_1 : decode cX5_lettersIn 1 = .ok (.istore_n 3, 1) := by decide +kernel
theorem dX5_lettersIn_2 : decode cX5_lettersIn 2 = .ok (.iconst 0, 1) := by decide +kernel
theorem dX5_lettersIn_3 : decode cX5_lettersIn 3 = .ok (.istore 4, 2) := by decide +kernel
theorem dX5_lettersIn_5 : decode cX5_lettersIn 5 = .ok (.iload 4, 2) := by decide +kernel
theorem dX5_lettersIn_7 : decode cX5_lettersIn 7 = .ok (.aload_n 0, 1) := by decide +kernel
theorem dX5_lettersIn_8 : decode cX5_lettersIn 8 = .ok (.getfield 15, 3) := by decide +kernel
theorem dX5_lettersIn_11 : decode cX5_lettersIn 11 = .ok (.iload_n 2, 1) := by decide +kernel
theorem dX5_lettersIn_12 : decode cX5_lettersIn 12 = .ok (.iaload, 1) := by decide +kernel
theorem dX5_lettersIn_13 : decode cX5_lettersIn 13 = .ok (.if_icmp .ge 31, 3) := by decide +kernel
theorem dX5_lettersIn_16 : decode cX5_lettersIn 16 = .ok (.aload_n 1, 1) := by decide +kernel
theorem dX5_lettersIn_17 : decode cX5_lettersIn 17 = .ok (.getfield 84, 3) := by decide +kernel
theorem dX5_lettersIn_20 : decode cX5_lettersIn 20 = .ok (.aload_n 0, 1) := by decide +kernel
theorem dX5_lettersIn_21 : decode cX5_lettersIn 21 = .ok (.getfield 19, 3) := by decide +kernel
theorem dX5_lettersIn_24 : decode cX5_lettersIn 24 = .ok (.iload_n 2, 1) := by decide +kernel
theorem dX5_lettersIn_25 : decode cX5_lettersIn 25 = .ok (.iconst 4, 1) := by decide +kernel
theorem dX5_lettersIn_26 : decode cX5_lettersIn 26 = .ok (.imul, 1) := by decide +kernel
theorem dX5_lettersIn_27 : decode cX5_lettersIn 27 = .ok (.iload 4, 2) := by decide +kernel
theorem dX5_lettersIn_29 : decode cX5_lettersIn 29 = .ok (.iadd, 1) := by decide +kernel
theorem dX5_lettersIn_30 : decode cX5_lettersIn 30 = .ok (.iaload, 1) := by decide +kernel
theorem dX5_lettersIn_31 : decode cX5_lettersIn 31 = .ok (.iaload, 1) := by decide +kernel
theorem dX5_lettersIn_32 : decode cX5_lettersIn 32 = .ok (.ifCond .eq 6, 3) := by decide +kernel
theorem dX5_lettersIn_35 : decode cX5_lettersIn 35 = .ok (.iinc 3 1, 3) := by decide +kernel
theorem dX5_lettersIn_38 : decode cX5_lettersIn 38 = .ok (.iinc 4 1, 3) := by decide +kernel
theorem dX5_lettersIn_41 : decode cX5_lettersIn 41 = .ok (.goto (-36), 3) := by decide +kernel
theorem dX5_lettersIn_44 : decode cX5_lettersIn 44 = .ok (.iload_n 3, 1) := by decide +kernel
theorem dX5_lettersIn_45 : decode cX5_lettersIn 45 = .ok (.ireturn, 1) := by decide +kernel
noncomputable def f_X5_lettersIn_b5 (s t : Nat) (l2 : Int32) (mem : Mem) (q : Int32 × Int32) : Option ((Int32 × Int32) ⊕ (Int32 × Int32)) :=
  rd (mem (s + 2)) 8 l2 fun v12 => if v12 ≤ q.2 then (some (.inr (q.1, q.2))) else (rd (mem (s + 3)) 32 ((l2 * 4) + q.2) fun v30 => rd (mem (t + 1)) 16 v30 fun v31 => if v31 = 0 then (lt' (q.2 + 1) fun v38 => some (.inl (q.1, v38))) else (lt' (q.1 + 1) fun v35 => lt' (q.2 + 1) fun v38 => some (.inl (v35, v38))))
noncomputable def f_X5_lettersIn (s t : Nat) (l2 : Int32) (mem : Mem) : Option (Int32) :=
  ob (lp (f_X5_lettersIn_b5 s t l2 mem) FU (0, 0)) fun q5 => some q5.1
def P_X5_lettersIn_5 (E : Ex) (κ : Kx) (ad : Nat → Nat) (lay : List Ent) (s t : Nat) (l2 : Int32) (mem : Mem) : (Int32 × Int32) ⊕ (Int32 × Int32) → Prop
  | .inl q => Gw E κ 5 0 0 5 [some (.ref (ad s)), some (.ref (ad t)), some (.int l2), some (.int q.1), some (.int q.2)] [] ad lay mem
  | .inr q => Gw E κ 5 0 0 44 [none, none, none, some (.int q.1), none] [] ad lay mem
set_option maxRecDepth 100000 in
set_option maxHeartbeats 4000000 in
theorem b_X5_lettersIn_5 {E : Ex} {κ : Kx} {ad : Nat → Nat} {sh sp : Nat} {tl : List Ent} {d : Nat} {s t : Nat} (C : Cx E κ cX5_lettersIn RX5 5 (some .int) d) (hd : 0 ≤ d) (hs : isS s) (ht : isT t) {l2 : Int32} {mem : Mem} {q : Int32 × Int32} {x : (Int32 × Int32) ⊕ (Int32 × Int32)} (h : f_X5_lettersIn_b5 s t l2 mem q = some x) (hP : (P_X5_lettersIn_5 E κ ad (LC sh sp ++ tl) s t l2 mem) x) : Gw E κ 5 0 0 5 [some (.ref (ad s)), some (.ref (ad t)), some (.int l2), some (.int q.1), some (.int q.2)] [] ad (LC sh sp ++ tl) mem := by
  unfold f_X5_lettersIn_b5 at h
  refine g_iload (pc := 5) (i := 4) (x := q.2) C dX5_lettersIn_5 rfl ?_
  refine g_aload_n (pc := 7) (i := 0) (x := ad s) C dX5_lettersIn_7 rfl rfl ?_
  refine g_get (pc := 8) (v := .ref (ad (s + 2))) C ok_X5 4 (by decide) wf_X5_15 dX5_lettersIn_8 (lz_0 hs) rfl ?_
  refine g_iload_n (pc := 11) (i := 2) (x := l2) C dX5_lettersIn_11 rfl rfl ?_
  obtain ⟨v12, hv12, hi12, h⟩ := rd_some h
  refine g_iald (pc := 12) C dX5_lettersIn_12 (lz_2 hs) hi12 ?_
  refine g_topi hv12 ?_
  rcases ite_some' h with ⟨hc13, h⟩ | ⟨hc13, h⟩
  · refine g_icmp_ge_t (pc := 13) C 44 dX5_lettersIn_13 (by decide) hc13 ?_
    refine g_mask (lv' := [none, none, none, some (.int q.1), none]) [false, false, false, true, false] rfl ?_
    cases h
    exact hP
  · refine g_icmp_ge_f (pc := 13) C 44 dX5_lettersIn_13 (by decide) hc13 ?_
    refine g_aload_n (pc := 16) (i := 1) (x := ad t) C dX5_lettersIn_16 rfl rfl ?_
    refine g_getN (pc := 17) (v := .ref (ad (t + 1))) C ok_X0 0 (by decide) nf_X5_84 dX5_lettersIn_17 (ly_0 ht) rfl ?_
    refine g_aload_n (pc := 20) (i := 0) (x := ad s) C dX5_lettersIn_20 rfl rfl ?_
    refine g_get (pc := 21) (v := .ref (ad (s + 3))) C ok_X5 5 (by decide) wf_X5_19 dX5_lettersIn_21 (lz_0 hs) rfl ?_
    refine g_iload_n (pc := 24) (i := 2) (x := l2) C dX5_lettersIn_24 rfl rfl ?_
    refine g_iconst (pc := 25) (v := 4) C dX5_lettersIn_25 rfl ?_
    refine g_imul (pc := 26) C dX5_lettersIn_26 ?_
    refine g_iload (pc := 27) (i := 4) (x := q.2) C dX5_lettersIn_27 rfl ?_
    refine g_iadd (pc := 29) C dX5_lettersIn_29 ?_
    obtain ⟨v30, hv30, hi30, h⟩ := rd_some h
    refine g_iald (pc := 30) C dX5_lettersIn_30 (lz_3 hs) hi30 ?_
    refine g_topi hv30 ?_
    obtain ⟨v31, hv31, hi31, h⟩ := rd_some h
    refine g_iald (pc := 31) C dX5_lettersIn_31 (ly_1 ht) hi31 ?_
    refine g_topi hv31 ?_
    rcases ite_some' h with ⟨hc32, h⟩ | ⟨hc32, h⟩
    · refine g_if_eq_t (pc := 32) C 38 dX5_lettersIn_32 (by decide) hc32 ?_
      obtain ⟨v38, hv38, h⟩ := lt_some h
      refine g_iinc (pc := 38) (i := 4) (x := q.2) (v := v38) (lv' := [some (.ref (ad s)), some (.ref (ad t)), some (.int l2), some (.int q.1), some (.int v38)]) C dX5_lettersIn_38 rfl hv38.symm (by decide) rfl rfl ?_
      refine g_goto (pc := 41) C 5 dX5_lettersIn_41 (by decide) ?_
      cases h
      exact hP
    · refine g_if_eq_f (pc := 32) C 38 dX5_lettersIn_32 (by decide) hc32 ?_
      obtain ⟨v35, hv35, h⟩ := lt_some h
      refine g_iinc (pc := 35) (i := 3) (x := q.1) (v := v35) (lv' := [some (.ref (ad s)), some (.ref (ad t)), some (.int l2), some (.int v35), some (.int q.2)]) C dX5_lettersIn_35 rfl hv35.symm (by decide) rfl rfl ?_
      obtain ⟨v38, hv38, h⟩ := lt_some h
      refine g_iinc (pc := 38) (i := 4) (x := q.2) (v := v38) (lv' := [some (.ref (ad s)), some (.ref (ad t)), some (.int l2), some (.int v35), some (.int v38)]) C dX5_lettersIn_38 rfl hv38.symm (by decide) rfl rfl ?_
      refine g_goto (pc := 41) C 5 dX5_lettersIn_41 (by decide) ?_
      cases h
      exact hP
set_option maxRecDepth 100000 in
set_option maxHeartbeats 4000000 in
theorem m_X5_lettersIn {E : Ex} {ad : Nat → Nat} {sh sp : Nat} {tl : List Ent} {d : Nat} (hd : 0 ≤ d) {s t : Nat} (hs : isS s) (ht : isT t) {l2 : Int32} {mem : Mem} {r : Int32} (h : f_X5_lettersIn s t l2 mem = some r) : Cl E yX5_lettersIn cX5_lettersIn 5 (some .int) d [.ref (ad s), .ref (ad t), .int l2] (some (.int r)) ad (LC sh sp ++ tl) mem (LC sh sp ++ tl) mem := by
  refine Cl.of [some (.ref (ad s)), some (.ref (ad t)), some (.int l2), none, none] (by decide +kernel) rfl (Nat.le_of_ble_eq_true rfl) (fun κ C hP => ?_)
  have C : Cx E κ cX5_lettersIn RX5 5 (some .int) d := C
  unfold f_X5_lettersIn at h
  refine g_iconst (pc := 0) (v := 0) C dX5_lettersIn_0 rfl ?_
  refine g_istore_n (pc := 1) (i := 3) (lv' := [some (.ref (ad s)), some (.ref (ad t)), some (.int l2), some (.int 0), none]) C dX5_lettersIn_1 rfl (by decide) rfl rfl ?_
  refine g_iconst (pc := 2) (v := 0) C dX5_lettersIn_2 rfl ?_
  refine g_istore (pc := 3) (i := 4) (lv' := [some (.ref (ad s)), some (.ref (ad t)), some (.int l2), some (.int 0), some (.int 0)]) C dX5_lettersIn_3 (by decide) rfl rfl ?_
  obtain ⟨q5, hq, h⟩ := ob_some h
  refine lp_gw (P_X5_lettersIn_5 E κ ad (LC sh sp ++ tl) s t l2 mem) (fun q x hb hp => b_X5_lettersIn_5 C hd hs ht hb hp) _ (0, 0) _ hq ?_
  show Gw E κ 5 0 0 44 [none, none, none, some (.int q5.1), none] [] ad (LC sh sp ++ tl) mem
  refine g_iload_n (pc := 44) (i := 3) (x := q5.1) C dX5_lettersIn_44 rfl rfl ?_
  cases h
  exact g_iret (pc := 45) C hP rfl rfl dX5_lettersIn_45

theorem dX5_fitting_0 : decode cX5_fitting 0 = .ok (.aload_n 0, 1) := by decide +kernel
theorem dX5_fitting_1 : decode cX5_fitting 1 = .ok (.aload_n 1, 1) := by decide +kernel
theorem dX5_fitting_2 : decode cX5_fitting 2 = .ok (.iload_n 2, 1) := by decide +kernel
theorem dX5_fitting_3 : decode cX5_fitting 3 = .ok (.invokevirtual 98, 3) := by decide +kernel
theorem dX5_fitting_6 : decode cX5_fitting 6 = .ok (.ifCond .eq 7, 3) := by decide +kernel
theorem dX5_fitting_9 : decode cX5_fitting 9 = .ok (.iconst 0, 1) := by decide +kernel
theorem dX5_fitting_10 : decode cX5_fitting 10 = .ok (.goto 9, 3) := by decide +kernel
theorem dX5_fitting_13 : decode cX5_fitting 13 = .ok (.aload_n 0, 1) := by decide +kernel
theorem dX5_fitting_14 : decode cX5_fitting 14 = .ok (.aload_n 1, 1) := by decide +kernel
theorem dX5_fitting_15 : decode cX5_fitting 15 = .ok (.iload_n 2, 1) := by decide +kernel
theorem dX5_fitting_16 : decode cX5_fitting 16 = .ok (.invokevirtual 102, 3) := by decide +kernel
theorem dX5_fitting_19 : decode cX5_fitting 19 = .ok (.ireturn, 1) := by decide +kernel
noncomputable def f_X5_fitting (s t : Nat) (l2 : Int32) (mem : Mem) : Option (Int32) :=
  ob (f_X5_isFilled s t l2 mem) fun r3 => if r3 = 0 then (ob (f_X5_agreeing s t l2 mem) fun r16 => some r16) else (some 0)
set_option maxRecDepth 100000 in
set_option maxHeartbeats 4000000 in
theorem m_X5_fitting {E : Ex} {ad : Nat → Nat} {sh sp : Nat} {tl : List Ent} {d : Nat} (hd : 1 ≤ d) {s t : Nat} (hs : isS s) (ht : isT t) {l2 : Int32} {mem : Mem} {r : Int32} (h : f_X5_fitting s t l2 mem = some r) : Cl E yX5_fitting cX5_fitting 3 (some .int) d [.ref (ad s), .ref (ad t), .int l2] (some (.int r)) ad (LC sh sp ++ tl) mem (LC sh sp ++ tl) mem := by
  refine Cl.of [some (.ref (ad s)), some (.ref (ad t)), some (.int l2)] (by decide +kernel) rfl (Nat.le_of_ble_eq_true rfl) (fun κ C hP => ?_)
  have C : Cx E κ cX5_fitting RX5 3 (some .int) d := C
  unfold f_X5_fitting at h
  refine g_aload_n (pc := 0) (i := 0) (x := ad s) C dX5_fitting_0 rfl rfl ?_
  refine g_aload_n (pc := 1) (i := 1) (x := ad t) C dX5_fitting_1 rfl rfl ?_
  refine g_iload_n (pc := 2) (i := 2) (x := l2) C dX5_fitting_2 rfl rfl ?_
  obtain ⟨r3, hcall3, h⟩ := ob_some h
  refine g_callV (pc := 3) C ce0 mi_X5_isFilled mv_X5_isFilled wm_X5_98 dX5_fitting_3 ok_X5 [.ref (ad t), .int l2] [] (lz_0 hs) (by omega) rfl rfl (Nat.le_of_ble_eq_true rfl) (m_X5_isFilled (d := d - 1) (by omega) hs ht hcall3) ?_
  show Gw E κ 3 0 0 6 [some (.ref (ad s)), some (.ref (ad t)), some (.int l2)] [.int r3] ad (LC sh sp ++ tl) mem
  rcases ite_some' h with ⟨hc6, h⟩ | ⟨hc6, h⟩
  · refine g_if_eq_t (pc := 6) C 13 dX5_fitting_6 (by decide) hc6 ?_
    refine g_aload_n (pc := 13) (i := 0) (x := ad s) C dX5_fitting_13 rfl rfl ?_
    refine g_aload_n (pc := 14) (i := 1) (x := ad t) C dX5_fitting_14 rfl rfl ?_
    refine g_iload_n (pc := 15) (i := 2) (x := l2) C dX5_fitting_15 rfl rfl ?_
    obtain ⟨r16, hcall16, h⟩ := ob_some h
    refine g_callV (pc := 16) C ce0 mi_X5_agreeing mv_X5_agreeing wm_X5_102 dX5_fitting_16 ok_X5 [.ref (ad t), .int l2] [] (lz_0 hs) (by omega) rfl rfl (Nat.le_of_ble_eq_true rfl) (m_X5_agreeing (d := d - 1) (by omega) hs ht hcall16) ?_
    show Gw E κ 3 0 0 19 [some (.ref (ad s)), some (.ref (ad t)), some (.int l2)] [.int r16] ad (LC sh sp ++ tl) mem
    cases h
    exact g_iret (pc := 19) C hP rfl rfl dX5_fitting_19
  · refine g_if_eq_f (pc := 6) C 13 dX5_fitting_6 (by decide) hc6 ?_
    refine g_iconst (pc := 9) (v := 0) C dX5_fitting_9 rfl ?_
    refine g_goto (pc := 10) C 19 dX5_fitting_10 (by decide) ?_
    cases h
    exact g_iret (pc := 19) C hP rfl rfl dX5_fitting_19
