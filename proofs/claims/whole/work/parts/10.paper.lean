theorem dX0_copy_0 : decode cX0_copy 0 = .ok (.aload_n 1, 1) := by decide +kernel
theorem dX0_copy_1 : decode cX0_copy 1 = .ok (.getfield 9, 3) := by decide +kernel
theorem dX0_copy_4 : decode cX0_copy 4 = .ok (.iconst 0, 1) := by decide +kernel
theorem dX0_copy_5 : decode cX0_copy 5 = .ok (.aload_n 0, 1) := by decide +kernel
theorem dX0_copy_6 : decode cX0_copy 6 = .ok (.getfield 9, 3) := by decide +kernel
theorem dX0_copy_9 : decode cX0_copy 9 = .ok (.iconst 0, 1) := by decide +kernel
theorem dX0_copy_10 : decode cX0_copy 10 = .ok (.bipush 16, 2) := by decide +kernel
theorem dX0_copy_12 : decode cX0_copy 12 = .ok (.invokestatic 21, 3) := by decide +kernel
theorem dX0_copy_15 : decode cX0_copy 15 = .ok (.aload_n 1, 1) := by decide +kernel
theorem dX0_copy_16 : decode cX0_copy 16 = .ok (.getfield 15, 3) := by decide +kernel
theorem dX0_copy_19 : decode cX0_copy 19 = .ok (.iconst 0, 1) := by decide +kernel
theorem dX0_copy_20 : decode cX0_copy 20 = .ok (.aload_n 0, 1) := by decide +kernel
theorem dX0_copy_21 : decode cX0_copy 21 = .ok (.getfield 15, 3) := by decide +kernel
theorem dX0_copy_24 : decode cX0_copy 24 = .ok (.iconst 0, 1) := by decide +kernel
theorem dX0_copy_25 : decode cX0_copy 25 = .ok (.bipush 6, 2) := by decide +kernel
theorem dX0_copy_27 : decode cX0_copy 27 = .ok (.invokestatic 21, 3) := by decide +kernel
theorem dX0_copy_30 : decode cX0_copy 30 = .ok (.aload_n 1, 1) := by decide +kernel
theorem dX0_copy_31 : decode cX0_copy 31 = .ok (.getfield 18, 3) := by decide +kernel
theorem dX0_copy_34 : decode cX0_copy 34 = .ok (.iconst 0, 1) := by decide +kernel
theorem dX0_copy_35 : decode cX0_copy 35 = .ok (.aload_n 0, 1) := by decide +kernel
theorem dX0_copy_36 : decode cX0_copy 36 = .ok (.getfield 18, 3) := by decide +kernel
theorem dX0_copy_39 : decode cX0_copy 39 = .ok (.iconst 0, 1) := by decide +kernel
theorem dX0_copy_40 : decode cX0_copy 40 = .ok (.bipush 6, 2) := by decide +kernel
theorem dX0_copy_42 : decode cX0_copy 42 = .ok (.invokestatic 21, 3) := by decide +kernel
theorem dX0_copy_45 : decode cX0_copy 45 = .ok (.return_, 1) := by decide +kernel
noncomputable def f_X0_copy (t t2 : Nat)  (mem : Mem) : Option (Mem) :=
  acp mem (t2 + 1) 16 (t + 1) 16 0 0 16 fun m12 => acp m12 (t2 + 2) 6 (t + 2) 6 0 0 6 fun m27 => acp m27 (t2 + 3) 6 (t + 3) 6 0 0 6 fun m42 => some m42
set_option maxRecDepth 100000 in
set_option maxHeartbeats 4000000 in
theorem m_X0_copy {E : Ex} {ad : Nat → Nat} {sh sp : Nat} {tl : List Ent} {d : Nat} (hd : 2 ≤ d) {t t2 : Nat} (ht : isT t) (ht2 : isT t2)  {mem : Mem} {r : Mem} (h : f_X0_copy t t2 mem = some r) : Cl E yX0_copy cX0_copy 2 none d [.ref (ad t), .ref (ad t2)] none ad (LC sh sp ++ tl) mem (LC sh sp ++ tl) r := by
  refine Cl.of [some (.ref (ad t)), some (.ref (ad t2))] (by decide +kernel) rfl (Nat.le_of_ble_eq_true rfl) (fun κ C hP => ?_)
  have C : Cx E κ cX0_copy RX0 2 none d := C
  unfold f_X0_copy at h
  refine g_aload_n (pc := 0) (i := 1) (x := ad t2) C dX0_copy_0 rfl rfl ?_
  refine g_get (pc := 1) (v := .ref (ad (t2 + 1))) C ok_X0 0 (by decide) wf_X0_9 dX0_copy_1 (ly_0 ht2) rfl ?_
  refine g_iconst (pc := 4) (v := 0) C dX0_copy_4 rfl ?_
  refine g_aload_n (pc := 5) (i := 0) (x := ad t) C dX0_copy_5 rfl rfl ?_
  refine g_get (pc := 6) (v := .ref (ad (t + 1))) C ok_X0 0 (by decide) wf_X0_9 dX0_copy_6 (ly_0 ht) rfl ?_
  refine g_iconst (pc := 9) (v := 0) C dX0_copy_9 rfl ?_
  refine g_bipush (pc := 10) (v := 16) C dX0_copy_10 rfl ?_
  obtain ⟨m12, hm12, hcp12, h⟩ := acp_some h
  refine g_copy (pc := 12) C (by omega) wm_X0_21 wn_native wn_static wn_init dX0_copy_12 (ly_1 ht2) (ly_1 ht) (Nat.le_of_ble_eq_true rfl) hcp12 ?_
  refine g_mem hm12 ?_
  refine g_aload_n (pc := 15) (i := 1) (x := ad t2) C dX0_copy_15 rfl rfl ?_
  refine g_get (pc := 16) (v := .ref (ad (t2 + 2))) C ok_X0 1 (by decide) wf_X0_15 dX0_copy_16 (ly_0 ht2) rfl ?_
  refine g_iconst (pc := 19) (v := 0) C dX0_copy_19 rfl ?_
  refine g_aload_n (pc := 20) (i := 0) (x := ad t) C dX0_copy_20 rfl rfl ?_
  refine g_get (pc := 21) (v := .ref (ad (t + 2))) C ok_X0 1 (by decide) wf_X0_15 dX0_copy_21 (ly_0 ht) rfl ?_
  refine g_iconst (pc := 24) (v := 0) C dX0_copy_24 rfl ?_
  refine g_bipush (pc := 25) (v := 6) C dX0_copy_25 rfl ?_
  obtain ⟨m27, hm27, hcp27, h⟩ := acp_some h
  refine g_copy (pc := 27) C (by omega) wm_X0_21 wn_native wn_static wn_init dX0_copy_27 (ly_2 ht2) (ly_2 ht) (Nat.le_of_ble_eq_true rfl) hcp27 ?_
  refine g_mem hm27 ?_
  refine g_aload_n (pc := 30) (i := 1) (x := ad t2) C dX0_copy_30 rfl rfl ?_
  refine g_get (pc := 31) (v := .ref (ad (t2 + 3))) C ok_X0 2 (by decide) wf_X0_18 dX0_copy_31 (ly_0 ht2) rfl ?_
  refine g_iconst (pc := 34) (v := 0) C dX0_copy_34 rfl ?_
  refine g_aload_n (pc := 35) (i := 0) (x := ad t) C dX0_copy_35 rfl rfl ?_
  refine g_get (pc := 36) (v := .ref (ad (t + 3))) C ok_X0 2 (by decide) wf_X0_18 dX0_copy_36 (ly_0 ht) rfl ?_
  refine g_iconst (pc := 39) (v := 0) C dX0_copy_39 rfl ?_
  refine g_bipush (pc := 40) (v := 6) C dX0_copy_40 rfl ?_
  obtain ⟨m42, hm42, hcp42, h⟩ := acp_some h
  refine g_copy (pc := 42) C (by omega) wm_X0_21 wn_native wn_static wn_init dX0_copy_42 (ly_3 ht2) (ly_3 ht) (Nat.le_of_ble_eq_true rfl) hcp42 ?_
  refine g_mem hm42 ?_
  cases h
  exact g_vret (pc := 45) C hP rfl dX0_copy_45

theorem dJ7_fill_53178_0 : decode cJ7_fill_53178 0 = .ok (.iconst 0, 1) := by decide +kernel
theorem dJ7_fill_53178_1 : decode cJ7_fill_53178 1 = .ok (.istore_n 2, 1) := by decide +kernel
theorem dJ7_fill_53178_2 : decode cJ7_fill_53178 2 = .ok (.aload_n 0, 1) := by decide +kernel
theorem dJ7_fill_53178_3 : decode cJ7_fill_53178 3 = .ok (.arraylength, 1) := by decide +kernel
theorem dJ7_fill_53178_4 : decode cJ7_fill_53178 4 = .ok (.istore_n 3, 1) := by decide +kernel
theorem dJ7_fill_53178_5 : decode cJ7_fill_53178 5 = .ok (.iload_n 2, 1) := by decide +kernel
theorem dJ7_fill_53178_6 : decode cJ7_fill_53178 6 = .ok (.iload_n 3, 1) := by decide +kernel
theorem dJ7_fill_53178_7 : decode cJ7_fill_53178 7 = .ok (.if_icmp .ge 13, 3) := by decide +kernel
theorem dJ7_fill_53178_10 : decode cJ7_fill_53178 10 = .ok (.aload_n 0, 1) := by decide +kernel
theorem dJ7_fill_53178_11 : decode cJ7_fill_53178 11 = .ok (.iload_n 2, 1) := by decide +kernel
theorem dJ7_fill_53178_12 : decode cJ7_fill_53178 12 = .ok (.iload_n 1, 1) := by decide +kernel
theorem dJ7_fill_53178_13 : decode cJ7_fill_53178 13 = .ok (.iastore, 1) := by decide +kernel
theorem dJ7_fill_53178_14 : decode cJ7_fill_53178 14 = .ok (.iinc 2 1, 3) := by decide +kernel
theorem dJ7_fill_53178_17 : decode cJ7_fill_53178 17 = .ok (.goto (-12), 3) := by decide +kernel
theorem dJ7_fill_53178_20 : decode cJ7_fill_53178 20 = .ok (.return_, 1) := by decide +kernel
noncomputable def f_J7_fill_53178_b5 (a n : Nat) (l1 : Int32) (l3 : Int32) (q : Int32 × Mem) : Option ((Int32 × Mem) ⊕ (Int32 × Mem)) :=
  if l3 ≤ q.1 then (some (.inr (q.1, q.2))) else (wr q.2 a n q.1 l1 fun m13 => lt' (q.1 + 1) fun v14 => some (.inl (v14, m13)))
noncomputable def f_J7_fill_53178 (a n : Nat) (l1 : Int32) (mem : Mem) : Option (Mem) :=
  lt' (nI n) fun v4 => ob (lp (f_J7_fill_53178_b5 a n l1 v4) FU (0, mem)) fun q5 => some q5.2
def P_J7_fill_53178_5 (E : Ex) (κ : Kx) (ad : Nat → Nat) (lay : List Ent) (a n : Nat) (l1 : Int32) (l3 : Int32) : (Int32 × Mem) ⊕ (Int32 × Mem) → Prop
  | .inl q => Gw E κ 4 0 0 5 [some (.ref (ad a)), some (.int l1), some (.int q.1), some (.int l3)] [] ad lay q.2
  | .inr q => Gw E κ 4 0 0 20 [none, none, none, none] [] ad lay q.2
set_option maxRecDepth 100000 in
set_option maxHeartbeats 4000000 in
theorem b_J7_fill_53178_5 {E : Ex} {κ : Kx} {ad : Nat → Nat} {lay : List Ent} {d : Nat} {a n : Nat} (C : Cx E κ cJ7_fill_53178 RJ7 4 none d) (hd : 0 ≤ d) (hl : lay[a]? = some (.inl (false, n))) {l1 : Int32} {l3 : Int32} {q : Int32 × Mem} {x : (Int32 × Mem) ⊕ (Int32 × Mem)} (h : f_J7_fill_53178_b5 a n l1 l3 q = some x) (hP : (P_J7_fill_53178_5 E κ ad lay a n l1 l3) x) : Gw E κ 4 0 0 5 [some (.ref (ad a)), some (.int l1), some (.int q.1), some (.int l3)] [] ad lay q.2 := by
  unfold f_J7_fill_53178_b5 at h
  refine g_iload_n (pc := 5) (i := 2) (x := q.1) C dJ7_fill_53178_5 rfl rfl ?_
  refine g_iload_n (pc := 6) (i := 3) (x := l3) C dJ7_fill_53178_6 rfl rfl ?_
  rcases ite_some' h with ⟨hc7, h⟩ | ⟨hc7, h⟩
  · refine g_icmp_ge_t (pc := 7) C 20 dJ7_fill_53178_7 (by decide) hc7 ?_
    refine g_mask (lv' := [none, none, none, none]) [false, false, false, false] rfl ?_
    cases h
    exact hP
  · refine g_icmp_ge_f (pc := 7) C 20 dJ7_fill_53178_7 (by decide) hc7 ?_
    refine g_aload_n (pc := 10) (i := 0) (x := ad a) C dJ7_fill_53178_10 rfl rfl ?_
    refine g_iload_n (pc := 11) (i := 2) (x := q.1) C dJ7_fill_53178_11 rfl rfl ?_
    refine g_iload_n (pc := 12) (i := 1) (x := l1) C dJ7_fill_53178_12 rfl rfl ?_
    obtain ⟨m13, hm13, hi13, h⟩ := wr_some h
    refine g_iast (pc := 13) C dJ7_fill_53178_13 hl hi13 ?_
    refine g_mem hm13 ?_
    obtain ⟨v14, hv14, h⟩ := lt_some h
    refine g_iinc (pc := 14) (i := 2) (x := q.1) (v := v14) (lv' := [some (.ref (ad a)), some (.int l1), some (.int v14), some (.int l3)]) C dJ7_fill_53178_14 rfl hv14.symm (by decide) rfl rfl ?_
    refine g_goto (pc := 17) C 5 dJ7_fill_53178_17 (by decide) ?_
    cases h
    exact hP
set_option maxRecDepth 100000 in
set_option maxHeartbeats 4000000 in
theorem m_J7_fill_53178 {E : Ex} {ad : Nat → Nat} {lay : List Ent} {d : Nat} (hd : 0 ≤ d) {a n : Nat} (hl : lay[a]? = some (.inl (false, n))) {l1 : Int32} {mem : Mem} {r : Mem} (h : f_J7_fill_53178 a n l1 mem = some r) : Cl E yJ7_fill_53178 cJ7_fill_53178 4 none d [.ref (ad a), .int l1] none ad lay mem lay r := by
  refine Cl.of [some (.ref (ad a)), some (.int l1), none, none] (by decide +kernel) rfl (Nat.le_of_ble_eq_true rfl) (fun κ C hP => ?_)
  have C : Cx E κ cJ7_fill_53178 RJ7 4 none d := C
  unfold f_J7_fill_53178 at h
  refine g_iconst (pc := 0) (v := 0) C dJ7_fill_53178_0 rfl ?_
  refine g_istore_n (pc := 1) (i := 2) (lv' := [some (.ref (ad a)), some (.int l1), some (.int 0), none]) C dJ7_fill_53178_1 rfl (by decide) rfl rfl ?_
  refine g_aload_n (pc := 2) (i := 0) (x := ad a) C dJ7_fill_53178_2 rfl rfl ?_
  refine g_alen (pc := 3) C dJ7_fill_53178_3 hl ?_
  obtain ⟨v4, hv4, h⟩ := lt_some h
  refine g_topi hv4 ?_
  refine g_istore_n (pc := 4) (i := 3) (lv' := [some (.ref (ad a)), some (.int l1), some (.int 0), some (.int v4)]) C dJ7_fill_53178_4 rfl (by decide) rfl rfl ?_
  obtain ⟨q5, hq, h⟩ := ob_some h
  refine lp_gw (P_J7_fill_53178_5 E κ ad lay a n l1 v4) (fun q x hb hp => b_J7_fill_53178_5 C hd hl hb hp) _ (0, mem) _ hq ?_
  show Gw E κ 4 0 0 20 [none, none, none, none] [] ad lay q5.2
  cases h
  exact g_vret (pc := 20) C hP rfl dJ7_fill_53178_20

theorem dX0_clear_0 : decode cX0_clear 0 = .ok (.aload_n 0, 1) := by decide +kernel
theorem dX0_clear_1 : decode cX0_clear 1 = .ok (.getfield 9, 3) := by decide +kernel
theorem dX0_clear_4 : decode cX0_clear 4 = .ok (.iconst 0, 1) := by decide +kernel
theorem dX0_clear_5 : decode cX0_clear 5 = .ok (.invokestatic 27, 3) := by decide +kernel
theorem dX0_clear_8 : decode cX0_clear 8 = .ok (.aload_n 0, 1) := by decide +kernel
theorem dX0_clear_9 : decode cX0_clear 9 = .ok (.getfield 15, 3) := by decide +kernel
theorem dX0_clear_12 : decode cX0_clear 12 = .ok (.iconst 0, 1) := by decide +kernel
theorem dX0_clear_13 : decode cX0_clear 13 = .ok (.invokestatic 27, 3) := by decide +kernel
theorem dX0_clear_16 : decode cX0_clear 16 = .ok (.aload_n 0, 1) := by decide +kernel
theorem dX0_clear_17 : decode cX0_clear 17 = .ok (.getfield 18, 3) := by decide +kernel
theorem dX0_clear_20 : decode cX0_clear 20 = .ok (.iconst 0, 1) := by decide +kernel
theorem dX0_clear_21 : decode cX0_clear 21 = .ok (.invokestatic 27, 3) := by decide +kernel
theorem dX0_clear_24 : decode cX0_clear 24 = .ok (.return_, 1) := by decide +kernel
noncomputable def f_X0_clear (t : Nat)  (mem : Mem) : Option (Mem) :=
  ob (f_J7_fill_53178 (t + 1) 16 0 mem) fun m5 => ob (f_J7_fill_53178 (t + 2) 6 0 m5) fun m13 => ob (f_J7_fill_53178 (t + 3) 6 0 m13) fun m21 => some m21
set_option maxRecDepth 100000 in
set_option maxHeartbeats 4000000 in
theorem m_X0_clear {E : Ex} {ad : Nat → Nat} {sh sp : Nat} {tl : List Ent} {d : Nat} (hd : 1 ≤ d) {t : Nat} (ht : isT t)  {mem : Mem} {r : Mem} (h : f_X0_clear t mem = some r) : Cl E yX0_clear cX0_clear 1 none d [.ref (ad t)] none ad (LC sh sp ++ tl) mem (LC sh sp ++ tl) r := by
  refine Cl.of [some (.ref (ad t))] (by decide +kernel) rfl (Nat.le_of_ble_eq_true rfl) (fun κ C hP => ?_)
  have C : Cx E κ cX0_clear RX0 1 none d := C
  unfold f_X0_clear at h
  refine g_aload_n (pc := 0) (i := 0) (x := ad t) C dX0_clear_0 rfl rfl ?_
  refine g_get (pc := 1) (v := .ref (ad (t + 1))) C ok_X0 0 (by decide) wf_X0_9 dX0_clear_1 (ly_0 ht) rfl ?_
  refine g_iconst (pc := 4) (v := 0) C dX0_clear_4 rfl ?_
  obtain ⟨m5, hcall5, h⟩ := ob_some h
  refine g_callS (pc := 5) C ce0 mi_J7_fill_53178 ms_J7_fill_53178 wm_X0_27 dX0_clear_5 [.ref (ad (t + 1)), .int 0] [] (by omega) rfl rfl (Nat.le_of_ble_eq_true rfl) (m_J7_fill_53178 (d := d - 1) (by omega) (ly_1 ht) hcall5) ?_
  show Gw E κ 1 0 0 8 [some (.ref (ad t))] [] ad (LC sh sp ++ tl) m5
  refine g_aload_n (pc := 8) (i := 0) (x := ad t) C dX0_clear_8 rfl rfl ?_
  refine g_get (pc := 9) (v := .ref (ad (t + 2))) C ok_X0 1 (by decide) wf_X0_15 dX0_clear_9 (ly_0 ht) rfl ?_
  refine g_iconst (pc := 12) (v := 0) C dX0_clear_12 rfl ?_
  obtain ⟨m13, hcall13, h⟩ := ob_some h
  refine g_callS (pc := 13) C ce0 mi_J7_fill_53178 ms_J7_fill_53178 wm_X0_27 dX0_clear_13 [.ref (ad (t + 2)), .int 0] [] (by omega) rfl rfl (Nat.le_of_ble_eq_true rfl) (m_J7_fill_53178 (d := d - 1) (by omega) (ly_2 ht) hcall13) ?_
  show Gw E κ 1 0 0 16 [some (.ref (ad t))] [] ad (LC sh sp ++ tl) m13
  refine g_aload_n (pc := 16) (i := 0) (x := ad t) C dX0_clear_16 rfl rfl ?_
  refine g_get (pc := 17) (v := .ref (ad (t + 3))) C ok_X0 2 (by decide) wf_X0_18 dX0_clear_17 (ly_0 ht) rfl ?_
  refine g_iconst (pc := 20) (v := 0) C dX0_clear_20 rfl ?_
  obtain ⟨m21, hcall21, h⟩ := ob_some h
  refine g_callS (pc := 21) C ce0 mi_J7_fill_53178 ms_J7_fill_53178 wm_X0_27 dX0_clear_21 [.ref (ad (t + 3)), .int 0] [] (by omega) rfl rfl (Nat.le_of_ble_eq_true rfl) (m_J7_fill_53178 (d := d - 1) (by omega) (ly_3 ht) hcall21) ?_
  show Gw E κ 1 0 0 24 [some (.ref (ad t))] [] ad (LC sh sp ++ tl) m21
  cases h
  exact g_vret (pc := 24) C hP rfl dX0_clear_24

theorem dX0_wish_0 : decode cX0_wish 0 = .ok (.aload_n 0, 1) := by decide +kernel
theorem dX0_wish_1 : decode cX0_wish 1 = .ok (.getfield 15, 3) := by decide +kernel
theorem dX0_wish_4 : decode cX0_wish 4 = .ok (.iload_n 1, 1) := by decide +kernel
theorem dX0_wish_5 : decode cX0_wish 5 = .ok (.iload_n 2, 1) := by decide +kernel
theorem dX0_wish_6 : decode cX0_wish 6 = .ok (.iastore, 1) := by decide +kernel
theorem dX0_wish_7 : decode cX0_wish 7 = .ok (.aload_n 0, 1) := by decide +kernel
theorem dX0_wish_8 : decode cX0_wish 8 = .ok (.getfield 18, 3) := by decide +kernel
theorem dX0_wish_11 : decode cX0_wish 11 = .ok (.iload_n 1, 1) := by decide +kernel
theorem dX0_wish_12 : decode cX0_wish 12 = .ok (.iload_n 3, 1) := by decide +kernel
theorem dX0_wish_13 : decode cX0_wish 13 = .ok (.iastore, 1) := by decide +kernel
theorem dX0_wish_14 : decode cX0_wish 14 = .ok (.return_, 1) := by decide +kernel
noncomputable def f_X0_wish (t : Nat) (l1 : Int32) (l2 : Int32) (l3 : Int32) (mem : Mem) : Option (Mem) :=
  wr mem (t + 2) 6 l1 l2 fun m6 => wr m6 (t + 3) 6 l1 l3 fun m13 => some m13
set_option maxRecDepth 100000 in
set_option maxHeartbeats 4000000 in
theorem m_X0_wish {E : Ex} {ad : Nat → Nat} {sh sp : Nat} {tl : List Ent} {d : Nat} (hd : 0 ≤ d) {t : Nat} (ht : isT t) {l1 : Int32} {l2 : Int32} {l3 : Int32} {mem : Mem} {r : Mem} (h : f_X0_wish t l1 l2 l3 mem = some r) : Cl E yX0_wish cX0_wish 4 none d [.ref (ad t), .int l1, .int l2, .int l3] none ad (LC sh sp ++ tl) mem (LC sh sp ++ tl) r := by
  refine Cl.of [some (.ref (ad t)), some (.int l1), some (.int l2), some (.int l3)] (by decide +kernel) rfl (Nat.le_of_ble_eq_true rfl) (fun κ C hP => ?_)
  have C : Cx E κ cX0_wish RX0 4 none d := C
  unfold f_X0_wish at h
  refine g_aload_n (pc := 0) (i := 0) (x := ad t) C dX0_wish_0 rfl rfl ?_
  refine g_get (pc := 1) (v := .ref (ad (t + 2))) C ok_X0 1 (by decide) wf_X0_15 dX0_wish_1 (ly_0 ht) rfl ?_
  refine g_iload_n (pc := 4) (i := 1) (x := l1) C dX0_wish_4 rfl rfl ?_
  refine g_iload_n (pc := 5) (i := 2) (x := l2) C dX0_wish_5 rfl rfl ?_
  obtain ⟨m6, hm6, hi6, h⟩ := wr_some h
  refine g_iast (pc := 6) C dX0_wish_6 (ly_2 ht) hi6 ?_
  refine g_mem hm6 ?_
  refine g_aload_n (pc := 7) (i := 0) (x := ad t) C dX0_wish_7 rfl rfl ?_
  refine g_get (pc := 8) (v := .ref (ad (t + 3))) C ok_X0 2 (by decide) wf_X0_18 dX0_wish_8 (ly_0 ht) rfl ?_
  refine g_iload_n (pc := 11) (i := 1) (x := l1) C dX0_wish_11 rfl rfl ?_
  refine g_iload_n (pc := 12) (i := 3) (x := l3) C dX0_wish_12 rfl rfl ?_
  obtain ⟨m13, hm13, hi13, h⟩ := wr_some h
  refine g_iast (pc := 13) C dX0_wish_13 (ly_3 ht) hi13 ?_
  refine g_mem hm13 ?_
  cases h
  exact g_vret (pc := 14) C hP rfl dX0_wish_14

theorem dX0_isWanted_0 : decode cX0_isWanted 0 = .ok (.aload_n 0, 1) := by decide +kernel
theorem dX0_isWanted_1 : decode cX0_isWanted 1 = .ok (.getfield 15, 3) := by decide +kernel
theorem dX0_isWanted_4 : decode cX0_isWanted 4 = .ok (.iload_n 1, 1) := by decide +kernel
theorem dX0_isWanted_5 : decode cX0_isWanted 5 = .ok (.iaload, 1) := by decide +kernel
theorem dX0_isWanted_6 : decode cX0_isWanted 6 = .ok (.iload_n 2, 1) := by decide +kernel
theorem dX0_isWanted_7 : decode cX0_isWanted 7 = .ok (.if_icmp .ne 17, 3) := by decide +kernel
theorem dX0_isWanted_10 : decode cX0_isWanted 10 = .ok (.aload_n 0, 1) := by decide +kernel
theorem dX0_isWanted_11 : decode cX0_isWanted 11 = .ok (.getfield 18, 3) := by decide +kernel
theorem dX0_isWanted_14 : decode cX0_isWanted 14 = .ok (.iload_n 1, 1) := by decide +kernel
theorem dX0_isWanted_15 : decode cX0_isWanted 15 = .ok (.iaload, 1) := by decide +kernel
theorem dX0_isWanted_16 : decode cX0_isWanted 16 = .ok (.iload_n 3, 1) := by decide +kernel
theorem dX0_isWanted_17 : decode cX0_isWanted 17 = .ok (.if_icmp .ne 7, 3) := by decide +kernel
theorem dX0_isWanted_20 : decode cX0_isWanted 20 = .ok (.iconst 1, 1) := by decide +kernel
theorem dX0_isWanted_21 : decode cX0_isWanted 21 = .ok (.goto 4, 3) := by decide +kernel
theorem dX0_isWanted_24 : decode cX0_isWanted 24 = .ok (.iconst 0, 1) := by decide +kernel
theorem dX0_isWanted_25 : decode cX0_isWanted 25 = .ok (.ireturn, 1) := by decide +kernel
noncomputable def f_X0_isWanted (t : Nat) (l1 : Int32) (l2 : Int32) (l3 : Int32) (mem : Mem) : Option (Int32) :=
  rd (mem (t + 2)) 6 l1 fun v5 => if v5 = l2 then (rd (mem (t + 3)) 6 l1 fun v15 => if v15 = l3 then (some 1) else (some 0)) else (some 0)
set_option maxRecDepth 100000 in
set_option maxHeartbeats 4000000 in
theorem m_X0_isWanted {E : Ex} {ad : Nat → Nat} {sh sp : Nat} {tl : List Ent} {d : Nat} (hd : 0 ≤ d) {t : Nat} (ht : isT t) {l1 : Int32} {l2 : Int32} {l3 : Int32} {mem : Mem} {r : Int32} (h : f_X0_isWanted t l1 l2 l3 mem = some r) : Cl E yX0_isWanted cX0_isWanted 4 (some .boolean) d [.ref (ad t), .int l1, .int l2, .int l3] (some (.int r)) ad (LC sh sp ++ tl) mem (LC sh sp ++ tl) mem := by
  refine Cl.of [some (.ref (ad t)), some (.int l1), some (.int l2), some (.int l3)] (by decide +kernel) rfl (Nat.le_of_ble_eq_true rfl) (fun κ C hP => ?_)
  have C : Cx E κ cX0_isWanted RX0 4 (some .boolean) d := C
  unfold f_X0_isWanted at h
  refine g_aload_n (pc := 0) (i := 0) (x := ad t) C dX0_isWanted_0 rfl rfl ?_
  refine g_get (pc := 1) (v := .ref (ad (t + 2))) C ok_X0 1 (by decide) wf_X0_15 dX0_isWanted_1 (ly_0 ht) rfl ?_
  refine g_iload_n (pc := 4) (i := 1) (x := l1) C dX0_isWanted_4 rfl rfl ?_
  obtain ⟨v5, hv5, hi5, h⟩ := rd_some h
  refine g_iald (pc := 5) C dX0_isWanted_5 (ly_2 ht) hi5 ?_
  refine g_topi hv5 ?_
  refine g_iload_n (pc := 6) (i := 2) (x := l2) C dX0_isWanted_6 rfl rfl ?_
  rcases ite_some' h with ⟨hc7, h⟩ | ⟨hc7, h⟩
  · refine g_icmp_ne_f (pc := 7) C 24 dX0_isWanted_7 (by decide) hc7 ?_
    refine g_aload_n (pc := 10) (i := 0) (x := ad t) C dX0_isWanted_10 rfl rfl ?_
    refine g_get (pc := 11) (v := .ref (ad (t + 3))) C ok_X0 2 (by decide) wf_X0_18 dX0_isWanted_11 (ly_0 ht) rfl ?_
    refine g_iload_n (pc := 14) (i := 1) (x := l1) C dX0_isWanted_14 rfl rfl ?_
    obtain ⟨v15, hv15, hi15, h⟩ := rd_some h
    refine g_iald (pc := 15) C dX0_isWanted_15 (ly_3 ht) hi15 ?_
    refine g_topi hv15 ?_
    refine g_iload_n (pc := 16) (i := 3) (x := l3) C dX0_isWanted_16 rfl rfl ?_
    rcases ite_some' h with ⟨hc17, h⟩ | ⟨hc17, h⟩
    · refine g_icmp_ne_f (pc := 17) C 24 dX0_isWanted_17 (by decide) hc17 ?_
      refine g_iconst (pc := 20) (v := 1) C dX0_isWanted_20 rfl ?_
      refine g_goto (pc := 21) C 25 dX0_isWanted_21 (by decide) ?_
      cases h
      exact g_iret (pc := 25) C hP rfl rfl dX0_isWanted_25
    · refine g_icmp_ne_t (pc := 17) C 24 dX0_isWanted_17 (by decide) hc17 ?_
      refine g_iconst (pc := 24) (v := 0) C dX0_isWanted_24 rfl ?_
      cases h
      exact g_iret (pc := 25) C hP rfl rfl dX0_isWanted_25
  · refine g_icmp_ne_t (pc := 7) C 24 dX0_isWanted_7 (by decide) hc7 ?_
    refine g_iconst (pc := 24) (v := 0) C dX0_isWanted_24 rfl ?_
    cases h
    exact g_iret (pc := 25) C hP rfl rfl dX0_isWanted_25

theorem dX0_standing_0 : decode cX0_standing 0 = .ok (.iconst 0, 1) := by decide +kernel
theorem dX0_standing_1 : decode cX0_standing 1 = .ok (.istore_n 1, 1) := by decide +kernel
theorem dX0_standing_2 : decode cX0_standing 2 = .ok (.iconst 0, 1) := by decide +kernel
theorem dX0_standing_3 : decode cX0_standing 3 = .ok (.istore_n 2, 1) := by decide +kernel
theorem dX0_standing_4 : decode cX0_standing 4 = .ok (.iload_n 2, 1) := by decide +kernel
theorem dX0_standing_5 : decode cX0_standing 5 = .ok (.bipush 16, 2) := by decide +kernel
theorem dX0_standing_7 : decode cX0_standing 7 = .ok (.if_icmp .ge 21, 3) := by decide +kernel
theorem dX0_standing_10 : decode cX0_standing 10 = .ok (.aload_n 0, 1) := by decide +kernel
theorem dX0_standing_11 : decode cX0_standing 11 = .ok (.getfield 9, 3) := by decide +kernel
theorem dX0_standing_14 : decode cX0_standing 14 = .ok (.iload_n 2, 1) := by decide +kernel
theorem dX0_standing_15 : decode cX0_standing 15 = .ok (.iaload, 1) := by decide +kernel
theorem dX0_standing_16 : decode cX0_standing 16 = .ok (.ifCond .eq 6, 3) := by decide +kernel
theorem dX0_standing_19 : decode cX0_standing 19 = .ok (.iinc 1 1, 3) := by decide +kernel
theorem dX0_standing_22 : decode cX0_standing 22 = .ok (.iinc 2 1, 3) := by decide +kernel
theorem dX0_standing_25 : decode cX0_standing 25 = .ok (.goto (-21), 3) := by decide +kernel
theorem dX0_standing_28 : decode cX0_standing 28 = .ok (.iload_n 1, 1) := by decide +kernel
theorem dX0_standing_29 : decode cX0_standing 29 = .ok (.ireturn, 1) := by decide +kernel
noncomputable def f_X0_standing_b4 (t : Nat) (mem : Mem) (q : Int32 × Int32) : Option ((Int32 × Int32) ⊕ (Int32 × Int32)) :=
  if 16 ≤ q.2 then (some (.inr (q.1, q.2))) else (rd (mem (t + 1)) 16 q.2 fun v15 => if v15 = 0 then (lt' (q.2 + 1) fun v22 => some (.inl (q.1, v22))) else (lt' (q.1 + 1) fun v19 => lt' (q.2 + 1) fun v22 => some (.inl (v19, v22))))
noncomputable def f_X0_standing (t : Nat)  (mem : Mem) : Option (Int32) :=
  ob (lp (f_X0_standing_b4 t mem) FU (0, 0)) fun q4 => some q4.1
def P_X0_standing_4 (E : Ex) (κ : Kx) (ad : Nat → Nat) (lay : List Ent) (t : Nat) (mem : Mem) : (Int32 × Int32) ⊕ (Int32 × Int32) → Prop
  | .inl q => Gw E κ 3 0 0 4 [some (.ref (ad t)), some (.int q.1), some (.int q.2)] [] ad lay mem
  | .inr q => Gw E κ 3 0 0 28 [none, some (.int q.1), none] [] ad lay mem
set_option maxRecDepth 100000 in
set_option maxHeartbeats 4000000 in
theorem b_X0_standing_4 {E : Ex} {κ : Kx} {ad : Nat → Nat} {sh sp : Nat} {tl : List Ent} {d : Nat} {t : Nat} (C : Cx E κ cX0_standing RX0 3 (some .int) d) (hd : 0 ≤ d) (ht : isT t) {mem : Mem} {q : Int32 × Int32} {x : (Int32 × Int32) ⊕ (Int32 × Int32)} (h : f_X0_standing_b4 t mem q = some x) (hP : (P_X0_standing_4 E κ ad (LC sh sp ++ tl) t mem) x) : Gw E κ 3 0 0 4 [some (.ref (ad t)), some (.int q.1), some (.int q.2)] [] ad (LC sh sp ++ tl) mem := by
  unfold f_X0_standing_b4 at h
  refine g_iload_n (pc := 4) (i := 2) (x := q.2) C dX0_standing_4 rfl rfl ?_
  refine g_bipush (pc := 5) (v := 16) C dX0_standing_5 rfl ?_
  rcases ite_some' h with ⟨hc7, h⟩ | ⟨hc7, h⟩
  · refine g_icmp_ge_t (pc := 7) C 28 dX0_standing_7 (by decide) hc7 ?_
    refine g_mask (lv' := [none, some (.int q.1), none]) [false, true, false] rfl ?_
    cases h
    exact hP
  · refine g_icmp_ge_f (pc := 7) C 28 dX0_standing_7 (by decide) hc7 ?_
    refine g_aload_n (pc := 10) (i := 0) (x := ad t) C dX0_standing_10 rfl rfl ?_
    refine g_get (pc := 11) (v := .ref (ad (t + 1))) C ok_X0 0 (by decide) wf_X0_9 dX0_standing_11 (ly_0 ht) rfl ?_
    refine g_iload_n (pc := 14) (i := 2) (x := q.2) C dX0_standing_14 rfl rfl ?_
    obtain ⟨v15, hv15, hi15, h⟩ := rd_some h
    refine g_iald (pc := 15) C dX0_standing_15 (ly_1 ht) hi15 ?_
    refine g_topi hv15 ?_
    rcases ite_some' h with ⟨hc16, h⟩ | ⟨hc16, h⟩
    · refine g_if_eq_t (pc := 16) C 22 dX0_standing_16 (by decide) hc16 ?_
      obtain ⟨v22, hv22, h⟩ := lt_some h
      refine g_iinc (pc := 22) (i := 2) (x := q.2) (v := v22) (lv' := [some (.ref (ad t)), some (.int q.1), some (.int v22)]) C dX0_standing_22 rfl hv22.symm (by decide) rfl rfl ?_
      refine g_goto (pc := 25) C 4 dX0_standing_25 (by decide) ?_
      cases h
      exact hP
    · refine g_if_eq_f (pc := 16) C 22 dX0_standing_16 (by decide) hc16 ?_
      obtain ⟨v19, hv19, h⟩ := lt_some h
      refine g_iinc (pc := 19) (i := 1) (x := q.1) (v := v19) (lv' := [some (.ref (ad t)), some (.int v19), some (.int q.2)]) C dX0_standing_19 rfl hv19.symm (by decide) rfl rfl ?_
      obtain ⟨v22, hv22, h⟩ := lt_some h
      refine g_iinc (pc := 22) (i := 2) (x := q.2) (v := v22) (lv' := [some (.ref (ad t)), some (.int v19), some (.int v22)]) C dX0_standing_22 rfl hv22.symm (by decide) rfl rfl ?_
      refine g_goto (pc := 25) C 4 dX0_standing_25 (by decide) ?_
      cases h
      exact hP
set_option maxRecDepth 100000 in
set_option maxHeartbeats 4000000 in
theorem m_X0_standing {E : Ex} {ad : Nat → Nat} {sh sp : Nat} {tl : List Ent} {d : Nat} (hd : 0 ≤ d) {t : Nat} (ht : isT t)  {mem : Mem} {r : Int32} (h : f_X0_standing t mem = some r) : Cl E yX0_standing cX0_standing 3 (some .int) d [.ref (ad t)] (some (.int r)) ad (LC sh sp ++ tl) mem (LC sh sp ++ tl) mem := by
  refine Cl.of [some (.ref (ad t)), none, none] (by decide +kernel) rfl (Nat.le_of_ble_eq_true rfl) (fun κ C hP => ?_)
  have C : Cx E κ cX0_standing RX0 3 (some .int) d := C
  unfold f_X0_standing at h
  refine g_iconst (pc := 0) (v := 0) C dX0_standing_0 rfl ?_
  refine g_istore_n (pc := 1) (i := 1) (lv' := [some (.ref (ad t)), some (.int 0), none]) C dX0_standing_1 rfl (by decide) rfl rfl ?_
  refine g_iconst (pc := 2) (v := 0) C dX0_standing_2 rfl ?_
  refine g_istore_n (pc := 3) (i := 2) (lv' := [some (.ref (ad t)), some (.int 0), some (.int 0)]) C dX0_standing_3 rfl (by decide) rfl rfl ?_
  obtain ⟨q4, hq, h⟩ := ob_some h
  refine lp_gw (P_X0_standing_4 E κ ad (LC sh sp ++ tl) t mem) (fun q x hb hp => b_X0_standing_4 C hd ht hb hp) _ (0, 0) _ hq ?_
  show Gw E κ 3 0 0 28 [none, some (.int q4.1), none] [] ad (LC sh sp ++ tl) mem
  refine g_iload_n (pc := 28) (i := 1) (x := q4.1) C dX0_standing_28 rfl rfl ?_
  cases h
  exact g_iret (pc := 29) C hP rfl rfl dX0_standing_29
