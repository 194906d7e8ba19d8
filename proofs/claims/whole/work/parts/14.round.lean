theorem dX3_sendersAhead_0 : decode cX3_sendersAhead 0 = .ok (.iconst 0, 1) := by decide +kernel
theorem dX3_sendersAhead_1 : decode cX3_sendersAhead 1 = .ok (.istore_n 3, 1) := by decide +kernel
theorem dX3_sendersAhead_2 : decode cX3_sendersAhead 2 = .ok (.iconst 0, 1) := by decide +kernel
theorem dX3_sendersAhead_3 : decode cX3_sendersAhead 3 = .ok (.istore 4, 2) := by decide +kernel
theorem dX3_sendersAhead_5 : decode cX3_sendersAhead 5 = .ok (.iload 4, 2) := by decide +kernel
theorem dX3_sendersAhead_7 : decode cX3_sendersAhead 7 = .ok (.iload_n 2, 1) := by decide +kernel
theorem dX3_sendersAhead_8 : decode cX3_sendersAhead 8 = .ok (.if_icmp .ge 43, 3) := by decide +kernel
theorem dX3_sendersAhead_11 : decode cX3_sendersAhead 11 = .ok (.aload_n 0, 1) := by decide +kernel
theorem dX3_sendersAhead_12 : decode cX3_sendersAhead 12 = .ok (.getfield 9, 3) := by decide +kernel
theorem dX3_sendersAhead_15 : decode cX3_sendersAhead 15 = .ok (.iload 4, 2) := by decide +kernel
theorem dX3_sendersAhead_17 : decode cX3_sendersAhead 17 = .ok (.iaload, 1) := by decide +kernel
theorem dX3_sendersAhead_18 : decode cX3_sendersAhead 18 = .ok (.ifCond .le 27, 3) := by decide +kernel
theorem dX3_sendersAhead_21 : decode cX3_sendersAhead 21 = .ok (.aload_n 1, 1) := by decide +kernel
theorem dX3_sendersAhead_22 : decode cX3_sendersAhead 22 = .ok (.iload 4, 2) := by decide +kernel
theorem dX3_sendersAhead_24 : decode cX3_sendersAhead 24 = .ok (.aload_n 1, 1) := by decide +kernel
theorem dX3_sendersAhead_25 : decode cX3_sendersAhead 25 = .ok (.getfield 35, 3) := by decide +kernel
theorem dX3_sendersAhead_28 : decode cX3_sendersAhead 28 = .ok (.iload_n 2, 1) := by decide +kernel
theorem dX3_sendersAhead_29 : decode cX3_sendersAhead 29 = .ok (.iaload, 1) := by decide +kernel
theorem dX3_sendersAhead_30 : decode cX3_sendersAhead 30 = .ok (.aload_n 1, 1) := by decide +kernel
theorem dX3_sendersAhead_31 : decode cX3_sendersAhead 31 = .ok (.getfield 40, 3) := by decide +kernel
theorem dX3_sendersAhead_34 : decode cX3_sendersAhead 34 = .ok (.iload_n 2, 1) := by decide +kernel
theorem dX3_sendersAhead_35 : decode cX3_sendersAhead 35 = .ok (.iaload, 1) := by decide +kernel
theorem dX3_sendersAhead_36 : decode cX3_sendersAhead 36 = .ok (.invokevirtual 70, 3) := by decide +kernel
theorem dX3_sendersAhead_39 : decode cX3_sendersAhead 39 = .ok (.ifCond .eq 6, 3) := by decide +kernel
theorem dX3_sendersAhead_42 : decode cX3_sendersAhead 42 = .ok (.iinc 3 1, 3) := by decide +kernel
theorem dX3_sendersAhead_45 : decode cX3_sendersAhead 45 = .ok (.iinc 4 1, 3) := by decide +kernel
theorem dX3_sendersAhead_48 : decode cX3_sendersAhead 48 = .ok (.goto (-43), 3) := by decide +kernel
theorem dX3_sendersAhead_51 : decode cX3_sendersAhead 51 = .ok (.iload_n 3, 1) := by decide +kernel
theorem dX3_sendersAhead_52 : decode cX3_sendersAhead 52 = .ok (.ireturn, 1) := by decide +kernel
noncomputable def f_X3_sendersAhead_b5 (t : Nat) (l2 : Int32) (mem : Mem) (q : Int32 × Int32) : Option ((Int32 × Int32) ⊕ (Int32 × Int32)) :=
  if l2 ≤ q.2 then (some (.inr (q.1, q.2))) else (rd (mem 40) 6 q.2 fun v17 => if v17 ≤ 0 then (lt' (q.2 + 1) fun v45 => some (.inl (q.1, v45))) else (rd (mem (t + 2)) 6 l2 fun v29 => rd (mem (t + 3)) 6 l2 fun v35 => ob (f_X0_isWanted t q.2 v29 v35 mem) fun r36 => if r36 = 0 then (lt' (q.2 + 1) fun v45 => some (.inl (q.1, v45))) else (lt' (q.1 + 1) fun v42 => lt' (q.2 + 1) fun v45 => some (.inl (v42, v45)))))
noncomputable def f_X3_sendersAhead (t : Nat) (l2 : Int32) (mem : Mem) : Option (Int32) :=
  ob (lp (f_X3_sendersAhead_b5 t l2 mem) FU (0, 0)) fun q5 => some q5.1
def P_X3_sendersAhead_5 (E : Ex) (κ : Kx) (ad : Nat → Nat) (lay : List Ent) (t : Nat) (l2 : Int32) (mem : Mem) : (Int32 × Int32) ⊕ (Int32 × Int32) → Prop
  | .inl q => Gw E κ 5 0 0 5 [some (.ref (ad 39)), some (.ref (ad t)), some (.int l2), some (.int q.1), some (.int q.2)] [] ad lay mem
  | .inr q => Gw E κ 5 0 0 51 [none, none, none, some (.int q.1), none] [] ad lay mem
set_option maxRecDepth 100000 in
set_option maxHeartbeats 4000000 in
theorem b_X3_sendersAhead_5 {E : Ex} {κ : Kx} {ad : Nat → Nat} {sh sp : Nat} {tl : List Ent} {d : Nat} {t : Nat} (C : Cx E κ cX3_sendersAhead RX3 5 (some .int) d) (hd : 1 ≤ d) (ht : isT t) {l2 : Int32} {mem : Mem} {q : Int32 × Int32} {x : (Int32 × Int32) ⊕ (Int32 × Int32)} (h : f_X3_sendersAhead_b5 t l2 mem q = some x) (hP : (P_X3_sendersAhead_5 E κ ad (LC sh sp ++ tl) t l2 mem) x) : Gw E κ 5 0 0 5 [some (.ref (ad 39)), some (.ref (ad t)), some (.int l2), some (.int q.1), some (.int q.2)] [] ad (LC sh sp ++ tl) mem := by
  unfold f_X3_sendersAhead_b5 at h
  refine g_iload (pc := 5) (i := 4) (x := q.2) C dX3_sendersAhead_5 rfl ?_
  refine g_iload_n (pc := 7) (i := 2) (x := l2) C dX3_sendersAhead_7 rfl rfl ?_
  rcases ite_some' h with ⟨hc8, h⟩ | ⟨hc8, h⟩
  · refine g_icmp_ge_t (pc := 8) C 51 dX3_sendersAhead_8 (by decide) hc8 ?_
    refine g_mask (lv' := [none, none, none, some (.int q.1), none]) [false, false, false, true, false] rfl ?_
    cases h
    exact hP
  · refine g_icmp_ge_f (pc := 8) C 51 dX3_sendersAhead_8 (by decide) hc8 ?_
    refine g_aload_n (pc := 11) (i := 0) (x := ad 39) C dX3_sendersAhead_11 rfl rfl ?_
    refine g_get (pc := 12) (v := .ref (ad 40)) C ok_X3 0 (by decide) wf_X3_9 dX3_sendersAhead_12 la_39 rfl ?_
    refine g_iload (pc := 15) (i := 4) (x := q.2) C dX3_sendersAhead_15 rfl ?_
    obtain ⟨v17, hv17, hi17, h⟩ := rd_some h
    refine g_iald (pc := 17) C dX3_sendersAhead_17 la_40 hi17 ?_
    refine g_topi hv17 ?_
    rcases ite_some' h with ⟨hc18, h⟩ | ⟨hc18, h⟩
    · refine g_if_le_t (pc := 18) C 45 dX3_sendersAhead_18 (by decide) hc18 ?_
      obtain ⟨v45, hv45, h⟩ := lt_some h
      refine g_iinc (pc := 45) (i := 4) (x := q.2) (v := v45) (lv' := [some (.ref (ad 39)), some (.ref (ad t)), some (.int l2), some (.int q.1), some (.int v45)]) C dX3_sendersAhead_45 rfl hv45.symm (by decide) rfl rfl ?_
      refine g_goto (pc := 48) C 5 dX3_sendersAhead_48 (by decide) ?_
      cases h
      exact hP
    · refine g_if_le_f (pc := 18) C 45 dX3_sendersAhead_18 (by decide) hc18 ?_
      refine g_aload_n (pc := 21) (i := 1) (x := ad t) C dX3_sendersAhead_21 rfl rfl ?_
      refine g_iload (pc := 22) (i := 4) (x := q.2) C dX3_sendersAhead_22 rfl ?_
      refine g_aload_n (pc := 24) (i := 1) (x := ad t) C dX3_sendersAhead_24 rfl rfl ?_
      refine g_getN (pc := 25) (v := .ref (ad (t + 2))) C ok_X0 1 (by decide) nf_X3_35 dX3_sendersAhead_25 (ly_0 ht) rfl ?_
      refine g_iload_n (pc := 28) (i := 2) (x := l2) C dX3_sendersAhead_28 rfl rfl ?_
      obtain ⟨v29, hv29, hi29, h⟩ := rd_some h
      refine g_iald (pc := 29) C dX3_sendersAhead_29 (ly_2 ht) hi29 ?_
      refine g_topi hv29 ?_
      refine g_aload_n (pc := 30) (i := 1) (x := ad t) C dX3_sendersAhead_30 rfl rfl ?_
      refine g_getN (pc := 31) (v := .ref (ad (t + 3))) C ok_X0 2 (by decide) nf_X3_40 dX3_sendersAhead_31 (ly_0 ht) rfl ?_
      refine g_iload_n (pc := 34) (i := 2) (x := l2) C dX3_sendersAhead_34 rfl rfl ?_
      obtain ⟨v35, hv35, hi35, h⟩ := rd_some h
      refine g_iald (pc := 35) C dX3_sendersAhead_35 (ly_3 ht) hi35 ?_
      refine g_topi hv35 ?_
      obtain ⟨r36, hcall36, h⟩ := ob_some h
      refine g_callN (pc := 36) C ce0 mi_X0_isWanted mv_X0_isWanted nm_X3_70 dX3_sendersAhead_36 ok_X0 [.int q.2, .int v29, .int v35] [] (ly_0 ht) (by omega) rfl rfl (Nat.le_of_ble_eq_true rfl) (m_X0_isWanted (d := d - 1) (by omega) ht hcall36) ?_
      show Gw E κ 5 0 0 39 [some (.ref (ad 39)), some (.ref (ad t)), some (.int l2), some (.int q.1), some (.int q.2)] [.int r36] ad (LC sh sp ++ tl) mem
      rcases ite_some' h with ⟨hc39, h⟩ | ⟨hc39, h⟩
      · refine g_if_eq_t (pc := 39) C 45 dX3_sendersAhead_39 (by decide) hc39 ?_
        obtain ⟨v45, hv45, h⟩ := lt_some h
        refine g_iinc (pc := 45) (i := 4) (x := q.2) (v := v45) (lv' := [some (.ref (ad 39)), some (.ref (ad t)), some (.int l2), some (.int q.1), some (.int v45)]) C dX3_sendersAhead_45 rfl hv45.symm (by decide) rfl rfl ?_
        refine g_goto (pc := 48) C 5 dX3_sendersAhead_48 (by decide) ?_
        cases h
        exact hP
      · refine g_if_eq_f (pc := 39) C 45 dX3_sendersAhead_39 (by decide) hc39 ?_
        obtain ⟨v42, hv42, h⟩ := lt_some h
        refine g_iinc (pc := 42) (i := 3) (x := q.1) (v := v42) (lv' := [some (.ref (ad 39)), some (.ref (ad t)), some (.int l2), some (.int v42), some (.int q.2)]) C dX3_sendersAhead_42 rfl hv42.symm (by decide) rfl rfl ?_
        obtain ⟨v45, hv45, h⟩ := lt_some h
        refine g_iinc (pc := 45) (i := 4) (x := q.2) (v := v45) (lv' := [some (.ref (ad 39)), some (.ref (ad t)), some (.int l2), some (.int v42), some (.int v45)]) C dX3_sendersAhead_45 rfl hv45.symm (by decide) rfl rfl ?_
        refine g_goto (pc := 48) C 5 dX3_sendersAhead_48 (by decide) ?_
        cases h
        exact hP
set_option maxRecDepth 100000 in
set_option maxHeartbeats 4000000 in
theorem m_X3_sendersAhead {E : Ex} {ad : Nat → Nat} {sh sp : Nat} {tl : List Ent} {d : Nat} (hd : 1 ≤ d) {t : Nat} (ht : isT t) {l2 : Int32} {mem : Mem} {r : Int32} (h : f_X3_sendersAhead t l2 mem = some r) : Cl E yX3_sendersAhead cX3_sendersAhead 5 (some .int) d [.ref (ad 39), .ref (ad t), .int l2] (some (.int r)) ad (LC sh sp ++ tl) mem (LC sh sp ++ tl) mem := by
  refine Cl.of [some (.ref (ad 39)), some (.ref (ad t)), some (.int l2), none, none] (by decide +kernel) rfl (Nat.le_of_ble_eq_true rfl) (fun κ C hP => ?_)
  have C : Cx E κ cX3_sendersAhead RX3 5 (some .int) d := C
  unfold f_X3_sendersAhead at h
  refine g_iconst (pc := 0) (v := 0) C dX3_sendersAhead_0 rfl ?_
  refine g_istore_n (pc := 1) (i := 3) (lv' := [some (.ref (ad 39)), some (.ref (ad t)), some (.int l2), some (.int 0), none]) C dX3_sendersAhead_1 rfl (by decide) rfl rfl ?_
  refine g_iconst (pc := 2) (v := 0) C dX3_sendersAhead_2 rfl ?_
  refine g_istore (pc := 3) (i := 4) (lv' := [some (.ref (ad 39)), some (.ref (ad t)), some (.int l2), some (.int 0), some (.int 0)]) C dX3_sendersAhead_3 (by decide) rfl rfl ?_
  obtain ⟨q5, hq, h⟩ := ob_some h
  refine lp_gw (P_X3_sendersAhead_5 E κ ad (LC sh sp ++ tl) t l2 mem) (fun q x hb hp => b_X3_sendersAhead_5 C hd ht hb hp) _ (0, 0) _ hq ?_
  show Gw E κ 5 0 0 51 [none, none, none, some (.int q5.1), none] [] ad (LC sh sp ++ tl) mem
  refine g_iload_n (pc := 51) (i := 3) (x := q5.1) C dX3_sendersAhead_51 rfl rfl ?_
  cases h
  exact g_iret (pc := 52) C hP rfl rfl dX3_sendersAhead_52

theorem dX3_amountOf_0 : decode cX3_amountOf 0 = .ok (.aload_n 1, 1) := by decide +kernel
theorem dX3_amountOf_1 : decode cX3_amountOf 1 = .ok (.getfield 59, 3) := by decide +kernel
theorem dX3_amountOf_4 : decode cX3_amountOf 4 = .ok (.iload_n 3, 1) := by decide +kernel
theorem dX3_amountOf_5 : decode cX3_amountOf 5 = .ok (.iaload, 1) := by decide +kernel
theorem dX3_amountOf_6 : decode cX3_amountOf 6 = .ok (.tableswitch 56 1 4 #[30, 32, 45, 47], 30) := by decide +kernel
theorem dX3_amountOf_36 : decode cX3_amountOf 36 = .ok (.iconst 2, 1) := by decide +kernel
theorem dX3_amountOf_37 : decode cX3_amountOf 37 = .ok (.ireturn, 1) := by decide +kernel
theorem dX3_amountOf_38 : decode cX3_amountOf 38 = .ok (.iconst 1, 1) := by decide +kernel
theorem dX3_amountOf_39 : decode cX3_amountOf 39 = .ok (.aload_n 1, 1) := by decide +kernel
theorem dX3_amountOf_40 : decode cX3_amountOf 40 = .ok (.aload_n 2, 1) := by decide +kernel
theorem dX3_amountOf_41 : decode cX3_amountOf 41 = .ok (.getfield 40, 3) := by decide +kernel
theorem dX3_amountOf_44 : decode cX3_amountOf 44 = .ok (.iload_n 3, 1) := by decide +kernel
theorem dX3_amountOf_45 : decode cX3_amountOf 45 = .ok (.iaload, 1) := by decide +kernel
theorem dX3_amountOf_46 : decode cX3_amountOf 46 = .ok (.invokevirtual 62, 3) := by decide +kernel
theorem dX3_amountOf_49 : decode cX3_amountOf 49 = .ok (.iadd, 1) := by decide +kernel
theorem dX3_amountOf_50 : decode cX3_amountOf 50 = .ok (.ireturn, 1) := by decide +kernel
theorem dX3_amountOf_51 : decode cX3_amountOf 51 = .ok (.iconst 3, 1) := by decide +kernel
theorem dX3_amountOf_52 : decode cX3_amountOf 52 = .ok (.ireturn, 1) := by decide +kernel
theorem dX3_amountOf_53 : decode cX3_amountOf 53 = .ok (.iconst 1, 1) := by decide +kernel
theorem dX3_amountOf_54 : decode cX3_amountOf 54 = .ok (.aload_n 0, 1) := by decide +kernel
theorem dX3_amountOf_55 : decode cX3_amountOf 55 = .ok (.aload_n 2, 1) := by decide +kernel
theorem dX3_amountOf_56 : decode cX3_amountOf 56 = .ok (.iload_n 3, 1) := by decide +kernel
theorem dX3_amountOf_57 : decode cX3_amountOf 57 = .ok (.invokevirtual 66, 3) := by decide +kernel
theorem dX3_amountOf_60 : decode cX3_amountOf 60 = .ok (.iadd, 1) := by decide +kernel
theorem dX3_amountOf_61 : decode cX3_amountOf 61 = .ok (.ireturn, 1) := by decide +kernel
theorem dX3_amountOf_62 : decode cX3_amountOf 62 = .ok (.iconst 1, 1) := by decide +kernel
theorem dX3_amountOf_63 : decode cX3_amountOf 63 = .ok (.ireturn, 1) := by decide +kernel
noncomputable def f_X3_amountOf (s t : Nat) (l3 : Int32) (mem : Mem) : Option (Int32) :=
  rd (mem (s + 9)) 6 l3 fun v5 => if v5 = 1 then (some 2) else (if v5 = 2 then (rd (mem (t + 3)) 6 l3 fun v45 => ob (f_X5_vowelsIn s v45 mem) fun r46 => lt' (1 + r46) fun v50 => some v50) else (if v5 = 3 then (some 3) else (if v5 = 4 then (ob (f_X3_sendersAhead t l3 mem) fun r57 => lt' (1 + r57) fun v61 => some v61) else (some 1))))
set_option maxRecDepth 100000 in
set_option maxHeartbeats 4000000 in
theorem m_X3_amountOf {E : Ex} {ad : Nat → Nat} {sh sp : Nat} {tl : List Ent} {d : Nat} (hd : 2 ≤ d) {s t : Nat} (hs : isS s) (ht : isT t) {l3 : Int32} {mem : Mem} {r : Int32} (h : f_X3_amountOf s t l3 mem = some r) : Cl E yX3_amountOf cX3_amountOf 4 (some .int) d [.ref (ad 39), .ref (ad s), .ref (ad t), .int l3] (some (.int r)) ad (LC sh sp ++ tl) mem (LC sh sp ++ tl) mem := by
  refine Cl.of [some (.ref (ad 39)), some (.ref (ad s)), some (.ref (ad t)), some (.int l3)] (by decide +kernel) rfl (Nat.le_of_ble_eq_true rfl) (fun κ C hP => ?_)
  have C : Cx E κ cX3_amountOf RX3 4 (some .int) d := C
  unfold f_X3_amountOf at h
  refine g_aload_n (pc := 0) (i := 1) (x := ad s) C dX3_amountOf_0 rfl rfl ?_
  refine g_getN (pc := 1) (v := .ref (ad (s + 9))) C ok_X5 13 (by decide) nf_X3_59 dX3_amountOf_1 (lz_0 hs) rfl ?_
  refine g_iload_n (pc := 4) (i := 3) (x := l3) C dX3_amountOf_4 rfl rfl ?_
  obtain ⟨v5, hv5, hi5, h⟩ := rd_some h
  refine g_iald (pc := 5) C dX3_amountOf_5 (lz_9 hs) hi5 ?_
  refine g_topi hv5 ?_
  rcases ite_some' h with ⟨hc6_0, h⟩ | ⟨hc6_0, h⟩
  · refine g_tsw (pc := 6) (n := 1) C 1 36 hc6_0 rfl dX3_amountOf_6 (by decide) (by decide) rfl (by decide) ?_
    refine g_iconst (pc := 36) (v := 2) C dX3_amountOf_36 rfl ?_
    cases h
    exact g_iret (pc := 37) C hP rfl rfl dX3_amountOf_37
  · skip
    rcases ite_some' h with ⟨hc6_1, h⟩ | ⟨hc6_1, h⟩
    · refine g_tsw (pc := 6) (n := 2) C 2 38 hc6_1 rfl dX3_amountOf_6 (by decide) (by decide) rfl (by decide) ?_
      refine g_iconst (pc := 38) (v := 1) C dX3_amountOf_38 rfl ?_
      refine g_aload_n (pc := 39) (i := 1) (x := ad s) C dX3_amountOf_39 rfl rfl ?_
      refine g_aload_n (pc := 40) (i := 2) (x := ad t) C dX3_amountOf_40 rfl rfl ?_
      refine g_getN (pc := 41) (v := .ref (ad (t + 3))) C ok_X0 2 (by decide) nf_X3_40 dX3_amountOf_41 (ly_0 ht) rfl ?_
      refine g_iload_n (pc := 44) (i := 3) (x := l3) C dX3_amountOf_44 rfl rfl ?_
      obtain ⟨v45, hv45, hi45, h⟩ := rd_some h
      refine g_iald (pc := 45) C dX3_amountOf_45 (ly_3 ht) hi45 ?_
      refine g_topi hv45 ?_
      obtain ⟨r46, hcall46, h⟩ := ob_some h
      refine g_callN (pc := 46) C ce0 mi_X5_vowelsIn mv_X5_vowelsIn nm_X3_62 dX3_amountOf_46 ok_X5 [.int v45] [.int 1] (lz_0 hs) (by omega) rfl rfl (Nat.le_of_ble_eq_true rfl) (m_X5_vowelsIn (d := d - 1) (by omega) hs hcall46) ?_
      show Gw E κ 4 0 0 49 [some (.ref (ad 39)), some (.ref (ad s)), some (.ref (ad t)), some (.int l3)] [.int r46, .int 1] ad (LC sh sp ++ tl) mem
      refine g_iadd (pc := 49) C dX3_amountOf_49 ?_
      obtain ⟨v50, hv50, h⟩ := lt_some h
      refine g_topi hv50 ?_
      cases h
      exact g_iret (pc := 50) C hP rfl rfl dX3_amountOf_50
    · skip
      rcases ite_some' h with ⟨hc6_2, h⟩ | ⟨hc6_2, h⟩
      · refine g_tsw (pc := 6) (n := 3) C 3 51 hc6_2 rfl dX3_amountOf_6 (by decide) (by decide) rfl (by decide) ?_
        refine g_iconst (pc := 51) (v := 3) C dX3_amountOf_51 rfl ?_
        cases h
        exact g_iret (pc := 52) C hP rfl rfl dX3_amountOf_52
      · skip
        rcases ite_some' h with ⟨hc6_3, h⟩ | ⟨hc6_3, h⟩
        · refine g_tsw (pc := 6) (n := 4) C 4 53 hc6_3 rfl dX3_amountOf_6 (by decide) (by decide) rfl (by decide) ?_
          refine g_iconst (pc := 53) (v := 1) C dX3_amountOf_53 rfl ?_
          refine g_aload_n (pc := 54) (i := 0) (x := ad 39) C dX3_amountOf_54 rfl rfl ?_
          refine g_aload_n (pc := 55) (i := 2) (x := ad t) C dX3_amountOf_55 rfl rfl ?_
          refine g_iload_n (pc := 56) (i := 3) (x := l3) C dX3_amountOf_56 rfl rfl ?_
          obtain ⟨r57, hcall57, h⟩ := ob_some h
          refine g_callV (pc := 57) C ce0 mi_X3_sendersAhead mv_X3_sendersAhead wm_X3_66 dX3_amountOf_57 ok_X3 [.ref (ad t), .int l3] [.int 1] la_39 (by omega) rfl rfl (Nat.le_of_ble_eq_true rfl) (m_X3_sendersAhead (d := d - 1) (by omega) ht hcall57) ?_
          show Gw E κ 4 0 0 60 [some (.ref (ad 39)), some (.ref (ad s)), some (.ref (ad t)), some (.int l3)] [.int r57, .int 1] ad (LC sh sp ++ tl) mem
          refine g_iadd (pc := 60) C dX3_amountOf_60 ?_
          obtain ⟨v61, hv61, h⟩ := lt_some h
          refine g_topi hv61 ?_
          cases h
          exact g_iret (pc := 61) C hP rfl rfl dX3_amountOf_61
        · skip
          refine g_tswD (pc := 6) C 62 dX3_amountOf_6 (by have z0 := i32_ne 1 hc6_0 (n := 1) rfl; have z1 := i32_ne 2 hc6_1 (n := 2) rfl; have z2 := i32_ne 3 hc6_2 (n := 3) rfl; have z3 := i32_ne 4 hc6_3 (n := 4) rfl; omega) (by decide) ?_
          refine g_iconst (pc := 62) (v := 1) C dX3_amountOf_62 rfl ?_
          cases h
          exact g_iret (pc := 63) C hP rfl rfl dX3_amountOf_63

theorem dX3_send_0 : decode cX3_send 0 = .ok (.iconst 0, 1) := by decide +kernel
theorem dX3_send_1 : decode cX3_send 1 = .ok (.istore 4, 2) := by decide +kernel
theorem dX3_send_3 : decode cX3_send 3 = .ok (.iload 4, 2) := by decide +kernel
theorem dX3_send_5 : decode cX3_send 5 = .ok (.aload_n 1, 1) := by decide +kernel
theorem dX3_send_6 : decode cX3_send 6 = .ok (.getfield 29, 3) := by decide +kernel
theorem dX3_send_9 : decode cX3_send 9 = .ok (.if_icmp .ge 59, 3) := by decide +kernel
theorem dX3_send_12 : decode cX3_send 12 = .ok (.iload_n 3, 1) := by decide +kernel
theorem dX3_send_13 : decode cX3_send 13 = .ok (.iload 4, 2) := by decide +kernel
theorem dX3_send_15 : decode cX3_send 15 = .ok (.ishr, 1) := by decide +kernel
theorem dX3_send_16 : decode cX3_send 16 = .ok (.iconst 1, 1) := by decide +kernel
theorem dX3_send_17 : decode cX3_send 17 = .ok (.iand, 1) := by decide +kernel
theorem dX3_send_18 : decode cX3_send 18 = .ok (.ifCond .eq 7, 3) := by decide +kernel
theorem dX3_send_21 : decode cX3_send 21 = .ok (.iconst 1, 1) := by decide +kernel
theorem dX3_send_22 : decode cX3_send 22 = .ok (.goto 4, 3) := by decide +kernel
theorem dX3_send_25 : decode cX3_send 25 = .ok (.iconst 0, 1) := by decide +kernel
theorem dX3_send_26 : decode cX3_send 26 = .ok (.istore 5, 2) := by decide +kernel
theorem dX3_send_28 : decode cX3_send 28 = .ok (.aload_n 0, 1) := by decide +kernel
theorem dX3_send_29 : decode cX3_send 29 = .ok (.getfield 9, 3) := by decide +kernel
theorem dX3_send_32 : decode cX3_send 32 = .ok (.iload 4, 2) := by decide +kernel
theorem dX3_send_34 : decode cX3_send 34 = .ok (.iload 5, 2) := by decide +kernel
theorem dX3_send_36 : decode cX3_send 36 = .ok (.ifCond .eq 24, 3) := by decide +kernel
theorem dX3_send_39 : decode cX3_send 39 = .ok (.aload_n 1, 1) := by decide +kernel
theorem dX3_send_40 : decode cX3_send 40 = .ok (.aload_n 2, 1) := by decide +kernel
theorem dX3_send_41 : decode cX3_send 41 = .ok (.iload 4, 2) := by decide +kernel
theorem dX3_send_43 : decode cX3_send 43 = .ok (.invokevirtual 51, 3) := by decide +kernel
theorem dX3_send_46 : decode cX3_send 46 = .ok (.ifCond .eq 14, 3) := by decide +kernel
theorem dX3_send_49 : decode cX3_send 49 = .ok (.aload_n 0, 1) := by decide +kernel
theorem dX3_send_50 : decode cX3_send 50 = .ok (.aload_n 1, 1) := by decide +kernel
theorem dX3_send_51 : decode cX3_send 51 = .ok (.aload_n 2, 1) := by decide +kernel
theorem dX3_send_52 : decode cX3_send 52 = .ok (.iload 4, 2) := by decide +kernel
theorem dX3_send_54 : decode cX3_send 54 = .ok (.invokevirtual 55, 3) := by decide +kernel
theorem dX3_send_57 : decode cX3_send 57 = .ok (.goto 4, 3) := by decide +kernel
theorem dX3_send_60 : decode cX3_send 60 = .ok (.iconst 0, 1) := by decide +kernel
theorem dX3_send_61 : decode cX3_send 61 = .ok (.iastore, 1) := by decide +kernel
theorem dX3_send_62 : decode cX3_send 62 = .ok (.iinc 4 1, 3) := by decide +kernel
theorem dX3_send_65 : decode cX3_send 65 = .ok (.goto (-62), 3) := by decide +kernel
theorem dX3_send_68 : decode cX3_send 68 = .ok (.return_, 1) := by decide +kernel
noncomputable def f_X3_send_j26 (s t : Nat) (l3 : Int32) (l4 : Int32) (w0 : Int32) (mem : Mem) : Option ((Int32 × Mem) ⊕ (Int32 × Mem)) :=
  if w0 = 0 then (wr mem 40 6 l4 0 fun m61 => lt' (l4 + 1) fun v62 => some (.inl (v62, m61))) else (ob (f_X5_sends s t l4 mem) fun r43 => if r43 = 0 then (wr mem 40 6 l4 0 fun m61 => lt' (l4 + 1) fun v62 => some (.inl (v62, m61))) else (ob (f_X3_amountOf s t l4 mem) fun r54 => wr mem 40 6 l4 r54 fun m61 => lt' (l4 + 1) fun v62 => some (.inl (v62, m61))))
noncomputable def f_X3_send_b3 (s t : Nat) (l3 : Int32) (q : Int32 × Mem) : Option ((Int32 × Mem) ⊕ (Int32 × Mem)) :=
  if (q.2 s 12) ≤ q.1 then (some (.inr (q.1, q.2))) else (if ((l3 >>> (q.1 &&& 31)) &&& 1) = 0 then (f_X3_send_j26 s t l3 q.1 0 q.2) else (f_X3_send_j26 s t l3 q.1 1 q.2))
noncomputable def f_X3_send (s t : Nat) (l3 : Int32) (mem : Mem) : Option (Mem) :=
  ob (lp (f_X3_send_b3 s t l3) FU (0, mem)) fun q3 => some q3.2
def P_X3_send_3 (E : Ex) (κ : Kx) (ad : Nat → Nat) (lay : List Ent) (s t : Nat) (l3 : Int32) : (Int32 × Mem) ⊕ (Int32 × Mem) → Prop
  | .inl q => Gw E κ 6 0 0 3 [some (.ref (ad 39)), some (.ref (ad s)), some (.ref (ad t)), some (.int l3), some (.int q.1), none] [] ad lay q.2
  | .inr q => Gw E κ 6 0 0 68 [none, none, none, none, none, none] [] ad lay q.2
set_option maxRecDepth 100000 in
set_option maxHeartbeats 4000000 in
theorem j_X3_send_26 {E : Ex} {κ : Kx} {ad : Nat → Nat} {sh sp : Nat} {tl : List Ent} {d : Nat} {s t : Nat} (C : Cx E κ cX3_send RX3 6 none d) (hd : 3 ≤ d) (hs : isS s) (ht : isT t) {l3 : Int32} {l4 : Int32} {w0 : Int32} {mem : Mem} {x : (Int32 × Mem) ⊕ (Int32 × Mem)} (h : f_X3_send_j26 s t l3 l4 w0 mem = some x) (hP : (P_X3_send_3 E κ ad (LC sh sp ++ tl) s t l3) x) : Gw E κ 6 0 0 26 [some (.ref (ad 39)), some (.ref (ad s)), some (.ref (ad t)), some (.int l3), some (.int l4), none] [.int w0] ad (LC sh sp ++ tl) mem := by
  unfold f_X3_send_j26 at h
  refine g_istore (pc := 26) (i := 5) (lv' := [some (.ref (ad 39)), some (.ref (ad s)), some (.ref (ad t)), some (.int l3), some (.int l4), some (.int w0)]) C dX3_send_26 (by decide) rfl rfl ?_
  refine g_aload_n (pc := 28) (i := 0) (x := ad 39) C dX3_send_28 rfl rfl ?_
  refine g_get (pc := 29) (v := .ref (ad 40)) C ok_X3 0 (by decide) wf_X3_9 dX3_send_29 la_39 rfl ?_
  refine g_iload (pc := 32) (i := 4) (x := l4) C dX3_send_32 rfl ?_
  refine g_iload (pc := 34) (i := 5) (x := w0) C dX3_send_34 rfl ?_
  rcases ite_some' h with ⟨hc36, h⟩ | ⟨hc36, h⟩
  · refine g_if_eq_t (pc := 36) C 60 dX3_send_36 (by decide) hc36 ?_
    refine g_iconst (pc := 60) (v := 0) C dX3_send_60 rfl ?_
    obtain ⟨m61, hm61, hi61, h⟩ := wr_some h
    refine g_iast (pc := 61) C dX3_send_61 la_40 hi61 ?_
    refine g_mem hm61 ?_
    obtain ⟨v62, hv62, h⟩ := lt_some h
    refine g_iinc (pc := 62) (i := 4) (x := l4) (v := v62) (lv' := [some (.ref (ad 39)), some (.ref (ad s)), some (.ref (ad t)), some (.int l3), some (.int v62), some (.int w0)]) C dX3_send_62 rfl hv62.symm (by decide) rfl rfl ?_
    refine g_goto (pc := 65) C 3 dX3_send_65 (by decide) ?_
    refine g_mask (lv' := [some (.ref (ad 39)), some (.ref (ad s)), some (.ref (ad t)), some (.int l3), some (.int v62), none]) [true, true, true, true, true, false] rfl ?_
    cases h
    exact hP
  · refine g_if_eq_f (pc := 36) C 60 dX3_send_36 (by decide) hc36 ?_
    refine g_aload_n (pc := 39) (i := 1) (x := ad s) C dX3_send_39 rfl rfl ?_
    refine g_aload_n (pc := 40) (i := 2) (x := ad t) C dX3_send_40 rfl rfl ?_
    refine g_iload (pc := 41) (i := 4) (x := l4) C dX3_send_41 rfl ?_
    obtain ⟨r43, hcall43, h⟩ := ob_some h
    refine g_callN (pc := 43) C ce0 mi_X5_sends mv_X5_sends nm_X3_51 dX3_send_43 ok_X5 [.ref (ad t), .int l4] [.int l4, .ref (ad 40)] (lz_0 hs) (by omega) rfl rfl (Nat.le_of_ble_eq_true rfl) (m_X5_sends (d := d - 1) (by omega) hs ht hcall43) ?_
    show Gw E κ 6 0 0 46 [some (.ref (ad 39)), some (.ref (ad s)), some (.ref (ad t)), some (.int l3), some (.int l4), some (.int w0)] [.int r43, .int l4, .ref (ad 40)] ad (LC sh sp ++ tl) mem
    rcases ite_some' h with ⟨hc46, h⟩ | ⟨hc46, h⟩
    · refine g_if_eq_t (pc := 46) C 60 dX3_send_46 (by decide) hc46 ?_
      refine g_iconst (pc := 60) (v := 0) C dX3_send_60 rfl ?_
      obtain ⟨m61, hm61, hi61, h⟩ := wr_some h
      refine g_iast (pc := 61) C dX3_send_61 la_40 hi61 ?_
      refine g_mem hm61 ?_
      obtain ⟨v62, hv62, h⟩ := lt_some h
      refine g_iinc (pc := 62) (i := 4) (x := l4) (v := v62) (lv' := [some (.ref (ad 39)), some (.ref (ad s)), some (.ref (ad t)), some (.int l3), some (.int v62), some (.int w0)]) C dX3_send_62 rfl hv62.symm (by decide) rfl rfl ?_
      refine g_goto (pc := 65) C 3 dX3_send_65 (by decide) ?_
      refine g_mask (lv' := [some (.ref (ad 39)), some (.ref (ad s)), some (.ref (ad t)), some (.int l3), some (.int v62), none]) [true, true, true, true, true, false] rfl ?_
      cases h
      exact hP
    · refine g_if_eq_f (pc := 46) C 60 dX3_send_46 (by decide) hc46 ?_
      refine g_aload_n (pc := 49) (i := 0) (x := ad 39) C dX3_send_49 rfl rfl ?_
      refine g_aload_n (pc := 50) (i := 1) (x := ad s) C dX3_send_50 rfl rfl ?_
      refine g_aload_n (pc := 51) (i := 2) (x := ad t) C dX3_send_51 rfl rfl ?_
      refine g_iload (pc := 52) (i := 4) (x := l4) C dX3_send_52 rfl ?_
      obtain ⟨r54, hcall54, h⟩ := ob_some h
      refine g_callV (pc := 54) C ce0 mi_X3_amountOf mv_X3_amountOf wm_X3_55 dX3_send_54 ok_X3 [.ref (ad s), .ref (ad t), .int l4] [.int l4, .ref (ad 40)] la_39 (by omega) rfl rfl (Nat.le_of_ble_eq_true rfl) (m_X3_amountOf (d := d - 1) (by omega) hs ht hcall54) ?_
      show Gw E κ 6 0 0 57 [some (.ref (ad 39)), some (.ref (ad s)), some (.ref (ad t)), some (.int l3), some (.int l4), some (.int w0)] [.int r54, .int l4, .ref (ad 40)] ad (LC sh sp ++ tl) mem
      refine g_goto (pc := 57) C 61 dX3_send_57 (by decide) ?_
      obtain ⟨m61, hm61, hi61, h⟩ := wr_some h
      refine g_iast (pc := 61) C dX3_send_61 la_40 hi61 ?_
      refine g_mem hm61 ?_
      obtain ⟨v62, hv62, h⟩ := lt_some h
      refine g_iinc (pc := 62) (i := 4) (x := l4) (v := v62) (lv' := [some (.ref (ad 39)), some (.ref (ad s)), some (.ref (ad t)), some (.int l3), some (.int v62), some (.int w0)]) C dX3_send_62 rfl hv62.symm (by decide) rfl rfl ?_
      refine g_goto (pc := 65) C 3 dX3_send_65 (by decide) ?_
      refine g_mask (lv' := [some (.ref (ad 39)), some (.ref (ad s)), some (.ref (ad t)), some (.int l3), some (.int v62), none]) [true, true, true, true, true, false] rfl ?_
      cases h
      exact hP
set_option maxRecDepth 100000 in
set_option maxHeartbeats 4000000 in
theorem b_X3_send_3 {E : Ex} {κ : Kx} {ad : Nat → Nat} {sh sp : Nat} {tl : List Ent} {d : Nat} {s t : Nat} (C : Cx E κ cX3_send RX3 6 none d) (hd : 3 ≤ d) (hs : isS s) (ht : isT t) {l3 : Int32} {q : Int32 × Mem} {x : (Int32 × Mem) ⊕ (Int32 × Mem)} (h : f_X3_send_b3 s t l3 q = some x) (hP : (P_X3_send_3 E κ ad (LC sh sp ++ tl) s t l3) x) : Gw E κ 6 0 0 3 [some (.ref (ad 39)), some (.ref (ad s)), some (.ref (ad t)), some (.int l3), some (.int q.1), none] [] ad (LC sh sp ++ tl) q.2 := by
  unfold f_X3_send_b3 at h
  refine g_iload (pc := 3) (i := 4) (x := q.1) C dX3_send_3 rfl ?_
  refine g_aload_n (pc := 5) (i := 1) (x := ad s) C dX3_send_5 rfl rfl ?_
  refine g_getN (pc := 6) (v := .int (q.2 s 12)) C ok_X5 12 (by decide) nf_X3_29 dX3_send_6 (lz_0 hs) rfl ?_
  rcases ite_some' h with ⟨hc9, h⟩ | ⟨hc9, h⟩
  · refine g_icmp_ge_t (pc := 9) C 68 dX3_send_9 (by decide) hc9 ?_
    refine g_mask (lv' := [none, none, none, none, none, none]) [false, false, false, false, false, false] rfl ?_
    cases h
    exact hP
  · refine g_icmp_ge_f (pc := 9) C 68 dX3_send_9 (by decide) hc9 ?_
    refine g_iload_n (pc := 12) (i := 3) (x := l3) C dX3_send_12 rfl rfl ?_
    refine g_iload (pc := 13) (i := 4) (x := q.1) C dX3_send_13 rfl ?_
    refine g_ishr (pc := 15) C dX3_send_15 ?_
    refine g_iconst (pc := 16) (v := 1) C dX3_send_16 rfl ?_
    refine g_iand (pc := 17) C dX3_send_17 ?_
    rcases ite_some' h with ⟨hc18, h⟩ | ⟨hc18, h⟩
    · refine g_if_eq_t (pc := 18) C 25 dX3_send_18 (by decide) hc18 ?_
      refine g_iconst (pc := 25) (v := 0) C dX3_send_25 rfl ?_
      exact j_X3_send_26 C hd hs ht h hP
    · refine g_if_eq_f (pc := 18) C 25 dX3_send_18 (by decide) hc18 ?_
      refine g_iconst (pc := 21) (v := 1) C dX3_send_21 rfl ?_
      refine g_goto (pc := 22) C 26 dX3_send_22 (by decide) ?_
      exact j_X3_send_26 C hd hs ht h hP
set_option maxRecDepth 100000 in
set_option maxHeartbeats 4000000 in
theorem m_X3_send {E : Ex} {ad : Nat → Nat} {sh sp : Nat} {tl : List Ent} {d : Nat} (hd : 3 ≤ d) {s t : Nat} (hs : isS s) (ht : isT t) {l3 : Int32} {mem : Mem} {r : Mem} (h : f_X3_send s t l3 mem = some r) : Cl E yX3_send cX3_send 6 none d [.ref (ad 39), .ref (ad s), .ref (ad t), .int l3] none ad (LC sh sp ++ tl) mem (LC sh sp ++ tl) r := by
  refine Cl.of [some (.ref (ad 39)), some (.ref (ad s)), some (.ref (ad t)), some (.int l3), none, none] (by decide +kernel) rfl (Nat.le_of_ble_eq_true rfl) (fun κ C hP => ?_)
  have C : Cx E κ cX3_send RX3 6 none d := C
  unfold f_X3_send at h
  refine g_iconst (pc := 0) (v := 0) C dX3_send_0 rfl ?_
  refine g_istore (pc := 1) (i := 4) (lv' := [some (.ref (ad 39)), some (.ref (ad s)), some (.ref (ad t)), some (.int l3), some (.int 0), none]) C dX3_send_1 (by decide) rfl rfl ?_
  obtain ⟨q3, hq, h⟩ := ob_some h
  refine lp_gw (P_X3_send_3 E κ ad (LC sh sp ++ tl) s t l3) (fun q x hb hp => b_X3_send_3 C hd hs ht hb hp) _ (0, mem) _ hq ?_
  show Gw E κ 6 0 0 68 [none, none, none, none, none, none] [] ad (LC sh sp ++ tl) q3.2
  cases h
  exact g_vret (pc := 68) C hP rfl dX3_send_68

theorem dX3_totalOf_0 : decode cX3_totalOf 0 = .ok (.iconst 0, 1) := by decide +kernel
theorem dX3_totalOf_1 : decode cX3_totalOf 1 = .ok (.istore 5, 2) := by decide +kernel
theorem dX3_totalOf_3 : decode cX3_totalOf 3 = .ok (.iconst 0, 1) := by decide +kernel
theorem dX3_totalOf_4 : decode cX3_totalOf 4 = .ok (.istore 6, 2) := by decide +kernel
theorem dX3_totalOf_6 : decode cX3_totalOf 6 = .ok (.iload 6, 2) := by decide +kernel
theorem dX3_totalOf_8 : decode cX3_totalOf 8 = .ok (.aload_n 1, 1) := by decide +kernel
theorem dX3_totalOf_9 : decode cX3_totalOf 9 = .ok (.getfield 29, 3) := by decide +kernel
theorem dX3_totalOf_12 : decode cX3_totalOf 12 = .ok (.if_icmp .ge 33, 3) := by decide +kernel
theorem dX3_totalOf_15 : decode cX3_totalOf 15 = .ok (.aload_n 2, 1) := by decide +kernel
theorem dX3_totalOf_16 : decode cX3_totalOf 16 = .ok (.iload 6, 2) := by decide +kernel
theorem dX3_totalOf_18 : decode cX3_totalOf 18 = .ok (.iload_n 3, 1) := by decide +kernel
theorem dX3_totalOf_19 : decode cX3_totalOf 19 = .ok (.iload 4, 2) := by decide +kernel
theorem dX3_totalOf_21 : decode cX3_totalOf 21 = .ok (.invokevirtual 70, 3) := by decide +kernel
theorem dX3_totalOf_24 : decode cX3_totalOf 24 = .ok (.ifCond .eq 15, 3) := by decide +kernel
theorem dX3_totalOf_27 : decode cX3_totalOf 27 = .ok (.iload 5, 2) := by decide +kernel
theorem dX3_totalOf_29 : decode cX3_totalOf 29 = .ok (.aload_n 0, 1) := by decide +kernel
theorem dX3_totalOf_30 : decode cX3_totalOf 30 = .ok (.getfield 9, 3) := by decide +kernel
theorem dX3_totalOf_33 : decode cX3_totalOf 33 = .ok (.iload 6, 2) := by decide +kernel
theorem dX3_totalOf_35 : decode cX3_totalOf 35 = .ok (.iaload, 1) := by decide +kernel
theorem dX3_totalOf_36 : decode cX3_totalOf 36 = .ok (.iadd, 1) := by decide +kernel
theorem dX3_totalOf_37 : decode cX3_totalOf 37 = .ok (.istore 5, 2) := by decide +kernel
theorem dX3_totalOf_39 : decode cX3_totalOf 39 = .ok (.iinc 6 1, 3) := by decide +kernel
theorem dX3_totalOf_42 : decode cX3_totalOf 42 = .ok (.goto (-36), 3) := by decide +kernel
theorem dX3_totalOf_45 : decode cX3_totalOf 45 = .ok (.iload 5, 2) := by decide +kernel
theorem dX3_totalOf_47 : decode cX3_totalOf 47 = .ok (.ireturn, 1) := by decide +kernel
noncomputable def f_X3_totalOf_b6 (s t : Nat) (l3 : Int32) (l4 : Int32) (mem : Mem) (q : Int32 × Int32) : Option ((Int32 × Int32) ⊕ (Int32 × Int32)) :=
  if (mem s 12) ≤ q.2 then (some (.inr (q.1, q.2))) else (ob (f_X0_isWanted t q.2 l3 l4 mem) fun r21 => if r21 = 0 then (lt' (q.2 + 1) fun v39 => some (.inl (q.1, v39))) else (rd (mem 40) 6 q.2 fun v35 => lt' (q.1 + v35) fun v37 => lt' (q.2 + 1) fun v39 => some (.inl (v37, v39))))
noncomputable def f_X3_totalOf (s t : Nat) (l3 : Int32) (l4 : Int32) (mem : Mem) : Option (Int32) :=
  ob (lp (f_X3_totalOf_b6 s t l3 l4 mem) FU (0, 0)) fun q6 => some q6.1
def P_X3_totalOf_6 (E : Ex) (κ : Kx) (ad : Nat → Nat) (lay : List Ent) (s t : Nat) (l3 : Int32) (l4 : Int32) (mem : Mem) : (Int32 × Int32) ⊕ (Int32 × Int32) → Prop
  | .inl q => Gw E κ 7 0 0 6 [some (.ref (ad 39)), some (.ref (ad s)), some (.ref (ad t)), some (.int l3), some (.int l4), some (.int q.1), some (.int q.2)] [] ad lay mem
  | .inr q => Gw E κ 7 0 0 45 [none, none, none, none, none, some (.int q.1), none] [] ad lay mem
set_option maxRecDepth 100000 in
set_option maxHeartbeats 4000000 in
theorem b_X3_totalOf_6 {E : Ex} {κ : Kx} {ad : Nat → Nat} {sh sp : Nat} {tl : List Ent} {d : Nat} {s t : Nat} (C : Cx E κ cX3_totalOf RX3 7 (some .int) d) (hd : 1 ≤ d) (hs : isS s) (ht : isT t) {l3 : Int32} {l4 : Int32} {mem : Mem} {q : Int32 × Int32} {x : (Int32 × Int32) ⊕ (Int32 × Int32)} (h : f_X3_totalOf_b6 s t l3 l4 mem q = some x) (hP : (P_X3_totalOf_6 E κ ad (LC sh sp ++ tl) s t l3 l4 mem) x) : Gw E κ 7 0 0 6 [some (.ref (ad 39)), some (.ref (ad s)), some (.ref (ad t)), some (.int l3), some (.int l4), some (.int q.1), some (.int q.2)] [] ad (LC sh sp ++ tl) mem := by
  unfold f_X3_totalOf_b6 at h
  refine g_iload (pc := 6) (i := 6) (x := q.2) C dX3_totalOf_6 rfl ?_
  refine g_aload_n (pc := 8) (i := 1) (x := ad s) C dX3_totalOf_8 rfl rfl ?_
  refine g_getN (pc := 9) (v := .int (mem s 12)) C ok_X5 12 (by decide) nf_X3_29 dX3_totalOf_9 (lz_0 hs) rfl ?_
  rcases ite_some' h with ⟨hc12, h⟩ | ⟨hc12, h⟩
  · refine g_icmp_ge_t (pc := 12) C 45 dX3_totalOf_12 (by decide) hc12 ?_
    refine g_mask (lv' := [none, none, none, none, none, some (.int q.1), none]) [false, false, false, false, false, true, false] rfl ?_
    cases h
    exact hP
  · refine g_icmp_ge_f (pc := 12) C 45 dX3_totalOf_12 (by decide) hc12 ?_
    refine g_aload_n (pc := 15) (i := 2) (x := ad t) C dX3_totalOf_15 rfl rfl ?_
    refine g_iload (pc := 16) (i := 6) (x := q.2) C dX3_totalOf_16 rfl ?_
    refine g_iload_n (pc := 18) (i := 3) (x := l3) C dX3_totalOf_18 rfl rfl ?_
    refine g_iload (pc := 19) (i := 4) (x := l4) C dX3_totalOf_19 rfl ?_
    obtain ⟨r21, hcall21, h⟩ := ob_some h
    refine g_callN (pc := 21) C ce0 mi_X0_isWanted mv_X0_isWanted nm_X3_70 dX3_totalOf_21 ok_X0 [.int q.2, .int l3, .int l4] [] (ly_0 ht) (by omega) rfl rfl (Nat.le_of_ble_eq_true rfl) (m_X0_isWanted (d := d - 1) (by omega) ht hcall21) ?_
    show Gw E κ 7 0 0 24 [some (.ref (ad 39)), some (.ref (ad s)), some (.ref (ad t)), some (.int l3), some (.int l4), some (.int q.1), some (.int q.2)] [.int r21] ad (LC sh sp ++ tl) mem
    rcases ite_some' h with ⟨hc24, h⟩ | ⟨hc24, h⟩
    · refine g_if_eq_t (pc := 24) C 39 dX3_totalOf_24 (by decide) hc24 ?_
      obtain ⟨v39, hv39, h⟩ := lt_some h
      refine g_iinc (pc := 39) (i := 6) (x := q.2) (v := v39) (lv' := [some (.ref (ad 39)), some (.ref (ad s)), some (.ref (ad t)), some (.int l3), some (.int l4), some (.int q.1), some (.int v39)]) C dX3_totalOf_39 rfl hv39.symm (by decide) rfl rfl ?_
      refine g_goto (pc := 42) C 6 dX3_totalOf_42 (by decide) ?_
      cases h
      exact hP
    · refine g_if_eq_f (pc := 24) C 39 dX3_totalOf_24 (by decide) hc24 ?_
      refine g_iload (pc := 27) (i := 5) (x := q.1) C dX3_totalOf_27 rfl ?_
      refine g_aload_n (pc := 29) (i := 0) (x := ad 39) C dX3_totalOf_29 rfl rfl ?_
      refine g_get (pc := 30) (v := .ref (ad 40)) C ok_X3 0 (by decide) wf_X3_9 dX3_totalOf_30 la_39 rfl ?_
      refine g_iload (pc := 33) (i := 6) (x := q.2) C dX3_totalOf_33 rfl ?_
      obtain ⟨v35, hv35, hi35, h⟩ := rd_some h
      refine g_iald (pc := 35) C dX3_totalOf_35 la_40 hi35 ?_
      refine g_topi hv35 ?_
      refine g_iadd (pc := 36) C dX3_totalOf_36 ?_
      obtain ⟨v37, hv37, h⟩ := lt_some h
      refine g_topi hv37 ?_
      refine g_istore (pc := 37) (i := 5) (lv' := [some (.ref (ad 39)), some (.ref (ad s)), some (.ref (ad t)), some (.int l3), some (.int l4), some (.int v37), some (.int q.2)]) C dX3_totalOf_37 (by decide) rfl rfl ?_
      obtain ⟨v39, hv39, h⟩ := lt_some h
      refine g_iinc (pc := 39) (i := 6) (x := q.2) (v := v39) (lv' := [some (.ref (ad 39)), some (.ref (ad s)), some (.ref (ad t)), some (.int l3), some (.int l4), some (.int v37), some (.int v39)]) C dX3_totalOf_39 rfl hv39.symm (by decide) rfl rfl ?_
      refine g_goto (pc := 42) C 6 dX3_totalOf_42 (by decide) ?_
      cases h
      exact hP
set_option maxRecDepth 100000 in
set_option maxHeartbeats 4000000 in
theorem m_X3_totalOf {E : Ex} {ad : Nat → Nat} {sh sp : Nat} {tl : List Ent} {d : Nat} (hd : 1 ≤ d) {s t : Nat} (hs : isS s) (ht : isT t) {l3 : Int32} {l4 : Int32} {mem : Mem} {r : Int32} (h : f_X3_totalOf s t l3 l4 mem = some r) : Cl E yX3_totalOf cX3_totalOf 7 (some .int) d [.ref (ad 39), .ref (ad s), .ref (ad t), .int l3, .int l4] (some (.int r)) ad (LC sh sp ++ tl) mem (LC sh sp ++ tl) mem := by
  refine Cl.of [some (.ref (ad 39)), some (.ref (ad s)), some (.ref (ad t)), some (.int l3), some (.int l4), none, none] (by decide +kernel) rfl (Nat.le_of_ble_eq_true rfl) (fun κ C hP => ?_)
  have C : Cx E κ cX3_totalOf RX3 7 (some .int) d := C
  unfold f_X3_totalOf at h
  refine g_iconst (pc := 0) (v := 0) C dX3_totalOf_0 rfl ?_
  refine g_istore (pc := 1) (i := 5) (lv' := [some (.ref (ad 39)), some (.ref (ad s)), some (.ref (ad t)), some (.int l3), some (.int l4), some (.int 0), none]) C dX3_totalOf_1 (by decide) rfl rfl ?_
  refine g_iconst (pc := 3) (v := 0) C dX3_totalOf_3 rfl ?_
  refine g_istore (pc := 4) (i := 6) (lv' := [some (.ref (ad 39)), some (.ref (ad s)), some (.ref (ad t)), some (.int l3), some (.int l4), some (.int 0), some (.int 0)]) C dX3_totalOf_4 (by decide) rfl rfl ?_
  obtain ⟨q6, hq, h⟩ := ob_some h
  refine lp_gw (P_X3_totalOf_6 E κ ad (LC sh sp ++ tl) s t l3 l4 mem) (fun q x hb hp => b_X3_totalOf_6 C hd hs ht hb hp) _ (0, 0) _ hq ?_
  show Gw E κ 7 0 0 45 [none, none, none, none, none, some (.int q6.1), none] [] ad (LC sh sp ++ tl) mem
  refine g_iload (pc := 45) (i := 5) (x := q6.1) C dX3_totalOf_45 rfl ?_
  cases h
  exact g_iret (pc := 47) C hP rfl rfl dX3_totalOf_47

theorem dX3_isAhead_0 : decode cX3_isAhead 0 = .ok (.aload_n 0, 1) := by decide +kernel
theorem dX3_isAhead_1 : decode cX3_isAhead 1 = .ok (.getfield 15, 3) := by decide +kernel
theorem dX3_isAhead_4 : decode cX3_isAhead 4 = .ok (.iload_n 2, 1) := by decide +kernel
theorem dX3_isAhead_5 : decode cX3_isAhead 5 = .ok (.iaload, 1) := by decide +kernel
theorem dX3_isAhead_6 : decode cX3_isAhead 6 = .ok (.aload_n 0, 1) := by decide +kernel
theorem dX3_isAhead_7 : decode cX3_isAhead 7 = .ok (.getfield 15, 3) := by decide +kernel
theorem dX3_isAhead_10 : decode cX3_isAhead 10 = .ok (.iload_n 3, 1) := by decide +kernel
theorem dX3_isAhead_11 : decode cX3_isAhead 11 = .ok (.iaload, 1) := by decide +kernel
theorem dX3_isAhead_12 : decode cX3_isAhead 12 = .ok (.if_icmp .eq 24, 3) := by decide +kernel
theorem dX3_isAhead_15 : decode cX3_isAhead 15 = .ok (.aload_n 0, 1) := by decide +kernel
theorem dX3_isAhead_16 : decode cX3_isAhead 16 = .ok (.getfield 15, 3) := by decide +kernel
theorem dX3_isAhead_19 : decode cX3_isAhead 19 = .ok (.iload_n 2, 1) := by decide +kernel
theorem dX3_isAhead_20 : decode cX3_isAhead 20 = .ok (.iaload, 1) := by decide +kernel
theorem dX3_isAhead_21 : decode cX3_isAhead 21 = .ok (.aload_n 0, 1) := by decide +kernel
theorem dX3_isAhead_22 : decode cX3_isAhead 22 = .ok (.getfield 15, 3) := by decide +kernel
theorem dX3_isAhead_25 : decode cX3_isAhead 25 = .ok (.iload_n 3, 1) := by decide +kernel
theorem dX3_isAhead_26 : decode cX3_isAhead 26 = .ok (.iaload, 1) := by decide +kernel
theorem dX3_isAhead_27 : decode cX3_isAhead 27 = .ok (.if_icmp .le 7, 3) := by decide +kernel
theorem dX3_isAhead_30 : decode cX3_isAhead 30 = .ok (.iconst 1, 1) := by decide +kernel
theorem dX3_isAhead_31 : decode cX3_isAhead 31 = .ok (.goto 4, 3) := by decide +kernel
theorem dX3_isAhead_34 : decode cX3_isAhead 34 = .ok (.iconst 0, 1) := by decide +kernel
theorem dX3_isAhead_35 : decode cX3_isAhead 35 = .ok (.ireturn, 1) := by decide +kernel
theorem dX3_isAhead_36 : decode cX3_isAhead 36 = .ok (.aload_n 1, 1) := by decide +kernel
theorem dX3_isAhead_37 : decode cX3_isAhead 37 = .ok (.getfield 35, 3) := by decide +kernel
theorem dX3_isAhead_40 : decode cX3_isAhead 40 = .ok (.iload_n 2, 1) := by decide +kernel
theorem dX3_isAhead_41 : decode cX3_isAhead 41 = .ok (.iaload, 1) := by decide +kernel
theorem dX3_isAhead_42 : decode cX3_isAhead 42 = .ok (.aload_n 1, 1) := by decide +kernel
theorem dX3_isAhead_43 : decode cX3_isAhead 43 = .ok (.getfield 35, 3) := by decide +kernel
theorem dX3_isAhead_46 : decode cX3_isAhead 46 = .ok (.iload_n 3, 1) := by decide +kernel
theorem dX3_isAhead_47 : decode cX3_isAhead 47 = .ok (.iaload, 1) := by decide +kernel
theorem dX3_isAhead_48 : decode cX3_isAhead 48 = .ok (.if_icmp .eq 24, 3) := by decide +kernel
theorem dX3_isAhead_51 : decode cX3_isAhead 51 = .ok (.aload_n 1, 1) := by decide +kernel
theorem dX3_isAhead_52 : decode cX3_isAhead 52 = .ok (.getfield 35, 3) := by decide +kernel
theorem dX3_isAhead_55 : decode cX3_isAhead 55 = .ok (.iload_n 2, 1) := by decide +kernel
theorem dX3_isAhead_56 : decode cX3_isAhead 56 = .ok (.iaload, 1) := by decide +kernel
theorem dX3_isAhead_57 : decode cX3_isAhead 57 = .ok (.aload_n 1, 1) := by decide +kernel
theorem dX3_isAhead_58 : decode cX3_isAhead 58 = .ok (.getfield 35, 3) := by decide +kernel
theorem dX3_isAhead_61 : decode cX3_isAhead 61 = .ok (.iload_n 3, 1) := by decide +kernel
theorem dX3_isAhead_62 : decode cX3_isAhead 62 = .ok (.iaload, 1) := by decide +kernel
theorem dX3_isAhead_63 : decode cX3_isAhead 63 = .ok (.if_icmp .ge 7, 3) := by decide +kernel
theorem dX3_isAhead_66 : decode cX3_isAhead 66 = .ok (.iconst 1, 1) := by decide +kernel
theorem dX3_isAhead_67 : decode cX3_isAhead 67 = .ok (.goto 4, 3) := by decide +kernel
theorem dX3_isAhead_70 : decode cX3_isAhead 70 = .ok (.iconst 0, 1) := by decide +kernel
theorem dX3_isAhead_71 : decode cX3_isAhead 71 = .ok (.ireturn, 1) := by decide +kernel
theorem dX3_isAhead_72 : decode cX3_isAhead 72 = .ok (.aload_n 1, 1) := by decide +kernel
theorem dX3_isAhead_73 : decode cX3_isAhead 73 = .ok (.getfield 40, 3) := by decide +kernel
theorem dX3_isAhead_76 : decode cX3_isAhead 76 = .ok (.iload_n 2, 1) := by decide +kernel
theorem dX3_isAhead_77 : decode cX3_isAhead 77 = .ok (.iaload, 1) := by decide +kernel
theorem dX3_isAhead_78 : decode cX3_isAhead 78 = .ok (.aload_n 1, 1) := by decide +kernel
theorem dX3_isAhead_79 : decode cX3_isAhead 79 = .ok (.getfield 40, 3) := by decide +kernel
theorem dX3_isAhead_82 : decode cX3_isAhead 82 = .ok (.iload_n 3, 1) := by decide +kernel
theorem dX3_isAhead_83 : decode cX3_isAhead 83 = .ok (.iaload, 1) := by decide +kernel
theorem dX3_isAhead_84 : decode cX3_isAhead 84 = .ok (.if_icmp .ge 7, 3) := by decide +kernel
theorem dX3_isAhead_87 : decode cX3_isAhead 87 = .ok (.iconst 1, 1) := by decide +kernel
theorem dX3_isAhead_88 : decode cX3_isAhead 88 = .ok (.goto 4, 3) := by decide +kernel
theorem dX3_isAhead_91 : decode cX3_isAhead 91 = .ok (.iconst 0, 1) := by decide +kernel
theorem dX3_isAhead_92 : decode cX3_isAhead 92 = .ok (.ireturn, 1) := by decide +kernel
noncomputable def f_X3_isAhead (t : Nat) (l2 : Int32) (l3 : Int32) (mem : Mem) : Option (Int32) :=
  rd (mem 41) 6 l2 fun v5 => rd (mem 41) 6 l3 fun v11 => if v5 = v11 then (rd (mem (t + 2)) 6 l2 fun v41 => rd (mem (t + 2)) 6 l3 fun v47 => if v41 = v47 then (rd (mem (t + 3)) 6 l2 fun v77 => rd (mem (t + 3)) 6 l3 fun v83 => if v83 ≤ v77 then (some 0) else (some 1)) else (rd (mem (t + 2)) 6 l2 fun v56 => rd (mem (t + 2)) 6 l3 fun v62 => if v62 ≤ v56 then (some 0) else (some 1))) else (rd (mem 41) 6 l2 fun v20 => rd (mem 41) 6 l3 fun v26 => if v20 ≤ v26 then (some 0) else (some 1))
set_option maxRecDepth 100000 in
set_option maxHeartbeats 4000000 in
theorem m_X3_isAhead {E : Ex} {ad : Nat → Nat} {sh sp : Nat} {tl : List Ent} {d : Nat} (hd : 0 ≤ d) {t : Nat} (ht : isT t) {l2 : Int32} {l3 : Int32} {mem : Mem} {r : Int32} (h : f_X3_isAhead t l2 l3 mem = some r) : Cl E yX3_isAhead cX3_isAhead 4 (some .boolean) d [.ref (ad 39), .ref (ad t), .int l2, .int l3] (some (.int r)) ad (LC sh sp ++ tl) mem (LC sh sp ++ tl) mem := by
  refine Cl.of [some (.ref (ad 39)), some (.ref (ad t)), some (.int l2), some (.int l3)] (by decide +kernel) rfl (Nat.le_of_ble_eq_true rfl) (fun κ C hP => ?_)
  have C : Cx E κ cX3_isAhead RX3 4 (some .boolean) d := C
  unfold f_X3_isAhead at h
  refine g_aload_n (pc := 0) (i := 0) (x := ad 39) C dX3_isAhead_0 rfl rfl ?_
  refine g_get (pc := 1) (v := .ref (ad 41)) C ok_X3 1 (by decide) wf_X3_15 dX3_isAhead_1 la_39 rfl ?_
  refine g_iload_n (pc := 4) (i := 2) (x := l2) C dX3_isAhead_4 rfl rfl ?_
  obtain ⟨v5, hv5, hi5, h⟩ := rd_some h
  refine g_iald (pc := 5) C dX3_isAhead_5 la_41 hi5 ?_
  refine g_topi hv5 ?_
  refine g_aload_n (pc := 6) (i := 0) (x := ad 39) C dX3_isAhead_6 rfl rfl ?_
  refine g_get (pc := 7) (v := .ref (ad 41)) C ok_X3 1 (by decide) wf_X3_15 dX3_isAhead_7 la_39 rfl ?_
  refine g_iload_n (pc := 10) (i := 3) (x := l3) C dX3_isAhead_10 rfl rfl ?_
  obtain ⟨v11, hv11, hi11, h⟩ := rd_some h
  refine g_iald (pc := 11) C dX3_isAhead_11 la_41 hi11 ?_
  refine g_topi hv11 ?_
  rcases ite_some' h with ⟨hc12, h⟩ | ⟨hc12, h⟩
  · refine g_icmp_eq_t (pc := 12) C 36 dX3_isAhead_12 (by decide) hc12 ?_
    refine g_aload_n (pc := 36) (i := 1) (x := ad t) C dX3_isAhead_36 rfl rfl ?_
    refine g_getN (pc := 37) (v := .ref (ad (t + 2))) C ok_X0 1 (by decide) nf_X3_35 dX3_isAhead_37 (ly_0 ht) rfl ?_
    refine g_iload_n (pc := 40) (i := 2) (x := l2) C dX3_isAhead_40 rfl rfl ?_
    obtain ⟨v41, hv41, hi41, h⟩ := rd_some h
    refine g_iald (pc := 41) C dX3_isAhead_41 (ly_2 ht) hi41 ?_
    refine g_topi hv41 ?_
    refine g_aload_n (pc := 42) (i := 1) (x := ad t) C dX3_isAhead_42 rfl rfl ?_
    refine g_getN (pc := 43) (v := .ref (ad (t + 2))) C ok_X0 1 (by decide) nf_X3_35 dX3_isAhead_43 (ly_0 ht) rfl ?_
    refine g_iload_n (pc := 46) (i := 3) (x := l3) C dX3_isAhead_46 rfl rfl ?_
    obtain ⟨v47, hv47, hi47, h⟩ := rd_some h
    refine g_iald (pc := 47) C dX3_isAhead_47 (ly_2 ht) hi47 ?_
    refine g_topi hv47 ?_
    rcases ite_some' h with ⟨hc48, h⟩ | ⟨hc48, h⟩
    · refine g_icmp_eq_t (pc := 48) C 72 dX3_isAhead_48 (by decide) hc48 ?_
      refine g_aload_n (pc := 72) (i := 1) (x := ad t) C dX3_isAhead_72 rfl rfl ?_
      refine g_getN (pc := 73) (v := .ref (ad (t + 3))) C ok_X0 2 (by decide) nf_X3_40 dX3_isAhead_73 (ly_0 ht) rfl ?_
      refine g_iload_n (pc := 76) (i := 2) (x := l2) C dX3_isAhead_76 rfl rfl ?_
      obtain ⟨v77, hv77, hi77, h⟩ := rd_some h
      refine g_iald (pc := 77) C dX3_isAhead_77 (ly_3 ht) hi77 ?_
      refine g_topi hv77 ?_
      refine g_aload_n (pc := 78) (i := 1) (x := ad t) C dX3_isAhead_78 rfl rfl ?_
      refine g_getN (pc := 79) (v := .ref (ad (t + 3))) C ok_X0 2 (by decide) nf_X3_40 dX3_isAhead_79 (ly_0 ht) rfl ?_
      refine g_iload_n (pc := 82) (i := 3) (x := l3) C dX3_isAhead_82 rfl rfl ?_
      obtain ⟨v83, hv83, hi83, h⟩ := rd_some h
      refine g_iald (pc := 83) C dX3_isAhead_83 (ly_3 ht) hi83 ?_
      refine g_topi hv83 ?_
      rcases ite_some' h with ⟨hc84, h⟩ | ⟨hc84, h⟩
      · refine g_icmp_ge_t (pc := 84) C 91 dX3_isAhead_84 (by decide) hc84 ?_
        refine g_iconst (pc := 91) (v := 0) C dX3_isAhead_91 rfl ?_
        cases h
        exact g_iret (pc := 92) C hP rfl rfl dX3_isAhead_92
      · refine g_icmp_ge_f (pc := 84) C 91 dX3_isAhead_84 (by decide) hc84 ?_
        refine g_iconst (pc := 87) (v := 1) C dX3_isAhead_87 rfl ?_
        refine g_goto (pc := 88) C 92 dX3_isAhead_88 (by decide) ?_
        cases h
        exact g_iret (pc := 92) C hP rfl rfl dX3_isAhead_92
    · refine g_icmp_eq_f (pc := 48) C 72 dX3_isAhead_48 (by decide) hc48 ?_
      refine g_aload_n (pc := 51) (i := 1) (x := ad t) C dX3_isAhead_51 rfl rfl ?_
      refine g_getN (pc := 52) (v := .ref (ad (t + 2))) C ok_X0 1 (by decide) nf_X3_35 dX3_isAhead_52 (ly_0 ht) rfl ?_
      refine g_iload_n (pc := 55) (i := 2) (x := l2) C dX3_isAhead_55 rfl rfl ?_
      obtain ⟨v56, hv56, hi56, h⟩ := rd_some h
      refine g_iald (pc := 56) C dX3_isAhead_56 (ly_2 ht) hi56 ?_
      refine g_topi hv56 ?_
      refine g_aload_n (pc := 57) (i := 1) (x := ad t) C dX3_isAhead_57 rfl rfl ?_
      refine g_getN (pc := 58) (v := .ref (ad (t + 2))) C ok_X0 1 (by decide) nf_X3_35 dX3_isAhead_58 (ly_0 ht) rfl ?_
      refine g_iload_n (pc := 61) (i := 3) (x := l3) C dX3_isAhead_61 rfl rfl ?_
      obtain ⟨v62, hv62, hi62, h⟩ := rd_some h
      refine g_iald (pc := 62) C dX3_isAhead_62 (ly_2 ht) hi62 ?_
      refine g_topi hv62 ?_
      rcases ite_some' h with ⟨hc63, h⟩ | ⟨hc63, h⟩
      · refine g_icmp_ge_t (pc := 63) C 70 dX3_isAhead_63 (by decide) hc63 ?_
        refine g_iconst (pc := 70) (v := 0) C dX3_isAhead_70 rfl ?_
        cases h
        exact g_iret (pc := 71) C hP rfl rfl dX3_isAhead_71
      · refine g_icmp_ge_f (pc := 63) C 70 dX3_isAhead_63 (by decide) hc63 ?_
        refine g_iconst (pc := 66) (v := 1) C dX3_isAhead_66 rfl ?_
        refine g_goto (pc := 67) C 71 dX3_isAhead_67 (by decide) ?_
        cases h
        exact g_iret (pc := 71) C hP rfl rfl dX3_isAhead_71
  · refine g_icmp_eq_f (pc := 12) C 36 dX3_isAhead_12 (by decide) hc12 ?_
    refine g_aload_n (pc := 15) (i := 0) (x := ad 39) C dX3_isAhead_15 rfl rfl ?_
    refine g_get (pc := 16) (v := .ref (ad 41)) C ok_X3 1 (by decide) wf_X3_15 dX3_isAhead_16 la_39 rfl ?_
    refine g_iload_n (pc := 19) (i := 2) (x := l2) C dX3_isAhead_19 rfl rfl ?_
    obtain ⟨v20, hv20, hi20, h⟩ := rd_some h
    refine g_iald (pc := 20) C dX3_isAhead_20 la_41 hi20 ?_
    refine g_topi hv20 ?_
    refine g_aload_n (pc := 21) (i := 0) (x := ad 39) C dX3_isAhead_21 rfl rfl ?_
    refine g_get (pc := 22) (v := .ref (ad 41)) C ok_X3 1 (by decide) wf_X3_15 dX3_isAhead_22 la_39 rfl ?_
    refine g_iload_n (pc := 25) (i := 3) (x := l3) C dX3_isAhead_25 rfl rfl ?_
    obtain ⟨v26, hv26, hi26, h⟩ := rd_some h
    refine g_iald (pc := 26) C dX3_isAhead_26 la_41 hi26 ?_
    refine g_topi hv26 ?_
    rcases ite_some' h with ⟨hc27, h⟩ | ⟨hc27, h⟩
    · refine g_icmp_le_t (pc := 27) C 34 dX3_isAhead_27 (by decide) hc27 ?_
      refine g_iconst (pc := 34) (v := 0) C dX3_isAhead_34 rfl ?_
      cases h
      exact g_iret (pc := 35) C hP rfl rfl dX3_isAhead_35
    · refine g_icmp_le_f (pc := 27) C 34 dX3_isAhead_27 (by decide) hc27 ?_
      refine g_iconst (pc := 30) (v := 1) C dX3_isAhead_30 rfl ?_
      refine g_goto (pc := 31) C 35 dX3_isAhead_31 (by decide) ?_
      cases h
      exact g_iret (pc := 35) C hP rfl rfl dX3_isAhead_35

theorem dX3_nextInTurn_0 : decode cX3_nextInTurn 0 = .ok (.bipush (-4), 2) := by decide +kernel
theorem dX3_nextInTurn_2 : decode cX3_nextInTurn 2 = .ok (.istore_n 3, 1) := by decide +kernel
theorem dX3_nextInTurn_3 : decode cX3_nextInTurn 3 = .ok (.iconst 0, 1) := by decide +kernel
theorem dX3_nextInTurn_4 : decode cX3_nextInTurn 4 = .ok (.istore 4, 2) := by decide +kernel
theorem dX3_nextInTurn_6 : decode cX3_nextInTurn 6 = .ok (.iload 4, 2) := by decide +kernel
theorem dX3_nextInTurn_8 : decode cX3_nextInTurn 8 = .ok (.aload_n 1, 1) := by decide +kernel
theorem dX3_nextInTurn_9 : decode cX3_nextInTurn 9 = .ok (.getfield 29, 3) := by decide +kernel
theorem dX3_nextInTurn_12 : decode cX3_nextInTurn 12 = .ok (.if_icmp .ge 37, 3) := by decide +kernel
theorem dX3_nextInTurn_15 : decode cX3_nextInTurn 15 = .ok (.aload_n 0, 1) := by decide +kernel
theorem dX3_nextInTurn_16 : decode cX3_nextInTurn 16 = .ok (.getfield 18, 3) := by decide +kernel
theorem dX3_nextInTurn_19 : decode cX3_nextInTurn 19 = .ok (.iload 4, 2) := by decide +kernel
theorem dX3_nextInTurn_21 : decode cX3_nextInTurn 21 = .ok (.baload, 1) := by decide +kernel
theorem dX3_nextInTurn_22 : decode cX3_nextInTurn 22 = .ok (.ifCond .eq 21, 3) := by decide +kernel
theorem dX3_nextInTurn_25 : decode cX3_nextInTurn 25 = .ok (.iload_n 3, 1) := by decide +kernel
theorem dX3_nextInTurn_26 : decode cX3_nextInTurn 26 = .ok (.ifCond .lt 14, 3) := by decide +kernel
theorem dX3_nextInTurn_29 : decode cX3_nextInTurn 29 = .ok (.aload_n 0, 1) := by decide +kernel
theorem dX3_nextInTurn_30 : decode cX3_nextInTurn 30 = .ok (.aload_n 2, 1) := by decide +kernel
theorem dX3_nextInTurn_31 : decode cX3_nextInTurn 31 = .ok (.iload 4, 2) := by decide +kernel
theorem dX3_nextInTurn_33 : decode cX3_nextInTurn 33 = .ok (.iload_n 3, 1) := by decide +kernel
theorem dX3_nextInTurn_34 : decode cX3_nextInTurn 34 = .ok (.invokevirtual 89, 3) := by decide +kernel
theorem dX3_nextInTurn_37 : decode cX3_nextInTurn 37 = .ok (.ifCond .eq 6, 3) := by decide +kernel
theorem dX3_nextInTurn_40 : decode cX3_nextInTurn 40 = .ok (.iload 4, 2) := by decide +kernel
theorem dX3_nextInTurn_42 : decode cX3_nextInTurn 42 = .ok (.istore_n 3, 1) := by decide +kernel
theorem dX3_nextInTurn_43 : decode cX3_nextInTurn 43 = .ok (.iinc 4 1, 3) := by decide +kernel
theorem dX3_nextInTurn_46 : decode cX3_nextInTurn 46 = .ok (.goto (-40), 3) := by decide +kernel
theorem dX3_nextInTurn_49 : decode cX3_nextInTurn 49 = .ok (.iload_n 3, 1) := by decide +kernel
theorem dX3_nextInTurn_50 : decode cX3_nextInTurn 50 = .ok (.ireturn, 1) := by decide +kernel
noncomputable def f_X3_nextInTurn_b6 (s t : Nat) (mem : Mem) (q : Int32 × Int32) : Option ((Int32 × Int32) ⊕ (Int32 × Int32)) :=
  if (mem s 12) ≤ q.2 then (some (.inr (q.1, q.2))) else (rd (mem 42) 6 q.2 fun v21 => if v21 = 0 then (lt' (q.2 + 1) fun v43 => some (.inl (q.1, v43))) else (if q.1 < 0 then (lt' (q.2 + 1) fun v43 => some (.inl (q.2, v43))) else (ob (f_X3_isAhead t q.2 q.1 mem) fun r34 => if r34 = 0 then (lt' (q.2 + 1) fun v43 => some (.inl (q.1, v43))) else (lt' (q.2 + 1) fun v43 => some (.inl (q.2, v43))))))
noncomputable def f_X3_nextInTurn (s t : Nat)  (mem : Mem) : Option (Int32) :=
  ob (lp (f_X3_nextInTurn_b6 s t mem) FU ((-4), 0)) fun q6 => some q6.1
def P_X3_nextInTurn_6 (E : Ex) (κ : Kx) (ad : Nat → Nat) (lay : List Ent) (s t : Nat) (mem : Mem) : (Int32 × Int32) ⊕ (Int32 × Int32) → Prop
  | .inl q => Gw E κ 5 0 0 6 [some (.ref (ad 39)), some (.ref (ad s)), some (.ref (ad t)), some (.int q.1), some (.int q.2)] [] ad lay mem
  | .inr q => Gw E κ 5 0 0 49 [none, none, none, some (.int q.1), none] [] ad lay mem
set_option maxRecDepth 100000 in
set_option maxHeartbeats 4000000 in
theorem b_X3_nextInTurn_6 {E : Ex} {κ : Kx} {ad : Nat → Nat} {sh sp : Nat} {tl : List Ent} {d : Nat} {s t : Nat} (C : Cx E κ cX3_nextInTurn RX3 5 (some .int) d) (hd : 1 ≤ d) (hs : isS s) (ht : isT t) {mem : Mem} {q : Int32 × Int32} {x : (Int32 × Int32) ⊕ (Int32 × Int32)} (h : f_X3_nextInTurn_b6 s t mem q = some x) (hP : (P_X3_nextInTurn_6 E κ ad (LC sh sp ++ tl) s t mem) x) : Gw E κ 5 0 0 6 [some (.ref (ad 39)), some (.ref (ad s)), some (.ref (ad t)), some (.int q.1), some (.int q.2)] [] ad (LC sh sp ++ tl) mem := by
  unfold f_X3_nextInTurn_b6 at h
  refine g_iload (pc := 6) (i := 4) (x := q.2) C dX3_nextInTurn_6 rfl ?_
  refine g_aload_n (pc := 8) (i := 1) (x := ad s) C dX3_nextInTurn_8 rfl rfl ?_
  refine g_getN (pc := 9) (v := .int (mem s 12)) C ok_X5 12 (by decide) nf_X3_29 dX3_nextInTurn_9 (lz_0 hs) rfl ?_
  rcases ite_some' h with ⟨hc12, h⟩ | ⟨hc12, h⟩
  · refine g_icmp_ge_t (pc := 12) C 49 dX3_nextInTurn_12 (by decide) hc12 ?_
    refine g_mask (lv' := [none, none, none, some (.int q.1), none]) [false, false, false, true, false] rfl ?_
    cases h
    exact hP
  · refine g_icmp_ge_f (pc := 12) C 49 dX3_nextInTurn_12 (by decide) hc12 ?_
    refine g_aload_n (pc := 15) (i := 0) (x := ad 39) C dX3_nextInTurn_15 rfl rfl ?_
    refine g_get (pc := 16) (v := .ref (ad 42)) C ok_X3 2 (by decide) wf_X3_18 dX3_nextInTurn_16 la_39 rfl ?_
    refine g_iload (pc := 19) (i := 4) (x := q.2) C dX3_nextInTurn_19 rfl ?_
    obtain ⟨v21, hv21, hi21, h⟩ := rd_some h
    refine g_zald (pc := 21) C dX3_nextInTurn_21 la_42 hi21 ?_
    refine g_topi hv21 ?_
    rcases ite_some' h with ⟨hc22, h⟩ | ⟨hc22, h⟩
    · refine g_if_eq_t (pc := 22) C 43 dX3_nextInTurn_22 (by decide) hc22 ?_
      obtain ⟨v43, hv43, h⟩ := lt_some h
      refine g_iinc (pc := 43) (i := 4) (x := q.2) (v := v43) (lv' := [some (.ref (ad 39)), some (.ref (ad s)), some (.ref (ad t)), some (.int q.1), some (.int v43)]) C dX3_nextInTurn_43 rfl hv43.symm (by decide) rfl rfl ?_
      refine g_goto (pc := 46) C 6 dX3_nextInTurn_46 (by decide) ?_
      cases h
      exact hP
    · refine g_if_eq_f (pc := 22) C 43 dX3_nextInTurn_22 (by decide) hc22 ?_
      refine g_iload_n (pc := 25) (i := 3) (x := q.1) C dX3_nextInTurn_25 rfl rfl ?_
      rcases ite_some' h with ⟨hc26, h⟩ | ⟨hc26, h⟩
      · refine g_if_lt_t (pc := 26) C 40 dX3_nextInTurn_26 (by decide) hc26 ?_
        refine g_iload (pc := 40) (i := 4) (x := q.2) C dX3_nextInTurn_40 rfl ?_
        refine g_istore_n (pc := 42) (i := 3) (lv' := [some (.ref (ad 39)), some (.ref (ad s)), some (.ref (ad t)), some (.int q.2), some (.int q.2)]) C dX3_nextInTurn_42 rfl (by decide) rfl rfl ?_
        obtain ⟨v43, hv43, h⟩ := lt_some h
        refine g_iinc (pc := 43) (i := 4) (x := q.2) (v := v43) (lv' := [some (.ref (ad 39)), some (.ref (ad s)), some (.ref (ad t)), some (.int q.2), some (.int v43)]) C dX3_nextInTurn_43 rfl hv43.symm (by decide) rfl rfl ?_
        refine g_goto (pc := 46) C 6 dX3_nextInTurn_46 (by decide) ?_
        cases h
        exact hP
      · refine g_if_lt_f (pc := 26) C 40 dX3_nextInTurn_26 (by decide) hc26 ?_
        refine g_aload_n (pc := 29) (i := 0) (x := ad 39) C dX3_nextInTurn_29 rfl rfl ?_
        refine g_aload_n (pc := 30) (i := 2) (x := ad t) C dX3_nextInTurn_30 rfl rfl ?_
        refine g_iload (pc := 31) (i := 4) (x := q.2) C dX3_nextInTurn_31 rfl ?_
        refine g_iload_n (pc := 33) (i := 3) (x := q.1) C dX3_nextInTurn_33 rfl rfl ?_
        obtain ⟨r34, hcall34, h⟩ := ob_some h
        refine g_callV (pc := 34) C ce0 mi_X3_isAhead mv_X3_isAhead wm_X3_89 dX3_nextInTurn_34 ok_X3 [.ref (ad t), .int q.2, .int q.1] [] la_39 (by omega) rfl rfl (Nat.le_of_ble_eq_true rfl) (m_X3_isAhead (d := d - 1) (by omega) ht hcall34) ?_
        show Gw E κ 5 0 0 37 [some (.ref (ad 39)), some (.ref (ad s)), some (.ref (ad t)), some (.int q.1), some (.int q.2)] [.int r34] ad (LC sh sp ++ tl) mem
        rcases ite_some' h with ⟨hc37, h⟩ | ⟨hc37, h⟩
        · refine g_if_eq_t (pc := 37) C 43 dX3_nextInTurn_37 (by decide) hc37 ?_
          obtain ⟨v43, hv43, h⟩ := lt_some h
          refine g_iinc (pc := 43) (i := 4) (x := q.2) (v := v43) (lv' := [some (.ref (ad 39)), some (.ref (ad s)), some (.ref (ad t)), some (.int q.1), some (.int v43)]) C dX3_nextInTurn_43 rfl hv43.symm (by decide) rfl rfl ?_
          refine g_goto (pc := 46) C 6 dX3_nextInTurn_46 (by decide) ?_
          cases h
          exact hP
        · refine g_if_eq_f (pc := 37) C 43 dX3_nextInTurn_37 (by decide) hc37 ?_
          refine g_iload (pc := 40) (i := 4) (x := q.2) C dX3_nextInTurn_40 rfl ?_
          refine g_istore_n (pc := 42) (i := 3) (lv' := [some (.ref (ad 39)), some (.ref (ad s)), some (.ref (ad t)), some (.int q.2), some (.int q.2)]) C dX3_nextInTurn_42 rfl (by decide) rfl rfl ?_
          obtain ⟨v43, hv43, h⟩ := lt_some h
          refine g_iinc (pc := 43) (i := 4) (x := q.2) (v := v43) (lv' := [some (.ref (ad 39)), some (.ref (ad s)), some (.ref (ad t)), some (.int q.2), some (.int v43)]) C dX3_nextInTurn_43 rfl hv43.symm (by decide) rfl rfl ?_
          refine g_goto (pc := 46) C 6 dX3_nextInTurn_46 (by decide) ?_
          cases h
          exact hP
set_option maxRecDepth 100000 in
set_option maxHeartbeats 4000000 in
theorem m_X3_nextInTurn {E : Ex} {ad : Nat → Nat} {sh sp : Nat} {tl : List Ent} {d : Nat} (hd : 1 ≤ d) {s t : Nat} (hs : isS s) (ht : isT t)  {mem : Mem} {r : Int32} (h : f_X3_nextInTurn s t mem = some r) : Cl E yX3_nextInTurn cX3_nextInTurn 5 (some .int) d [.ref (ad 39), .ref (ad s), .ref (ad t)] (some (.int r)) ad (LC sh sp ++ tl) mem (LC sh sp ++ tl) mem := by
  refine Cl.of [some (.ref (ad 39)), some (.ref (ad s)), some (.ref (ad t)), none, none] (by decide +kernel) rfl (Nat.le_of_ble_eq_true rfl) (fun κ C hP => ?_)
  have C : Cx E κ cX3_nextInTurn RX3 5 (some .int) d := C
  unfold f_X3_nextInTurn at h
  refine g_bipush (pc := 0) (v := (-4)) C dX3_nextInTurn_0 rfl ?_
  refine g_istore_n (pc := 2) (i := 3) (lv' := [some (.ref (ad 39)), some (.ref (ad s)), some (.ref (ad t)), some (.int (-4)), none]) C dX3_nextInTurn_2 rfl (by decide) rfl rfl ?_
  refine g_iconst (pc := 3) (v := 0) C dX3_nextInTurn_3 rfl ?_
  refine g_istore (pc := 4) (i := 4) (lv' := [some (.ref (ad 39)), some (.ref (ad s)), some (.ref (ad t)), some (.int (-4)), some (.int 0)]) C dX3_nextInTurn_4 (by decide) rfl rfl ?_
  obtain ⟨q6, hq, h⟩ := ob_some h
  refine lp_gw (P_X3_nextInTurn_6 E κ ad (LC sh sp ++ tl) s t mem) (fun q x hb hp => b_X3_nextInTurn_6 C hd hs ht hb hp) _ ((-4), 0) _ hq ?_
  show Gw E κ 5 0 0 49 [none, none, none, some (.int q6.1), none] [] ad (LC sh sp ++ tl) mem
  refine g_iload_n (pc := 49) (i := 3) (x := q6.1) C dX3_nextInTurn_49 rfl rfl ?_
  cases h
  exact g_iret (pc := 50) C hP rfl rfl dX3_nextInTurn_50

theorem dX3_printNext_0 : decode cX3_printNext 0 = .ok (.aload_n 0, 1) := by decide +kernel
theorem dX3_printNext_1 : decode cX3_printNext 1 = .ok (.aload_n 1, 1) := by decide +kernel
theorem dX3_printNext_2 : decode cX3_printNext 2 = .ok (.aload_n 2, 1) := by decide +kernel
theorem dX3_printNext_3 : decode cX3_printNext 3 = .ok (.invokevirtual 74, 3) := by decide +kernel
theorem dX3_printNext_6 : decode cX3_printNext 6 = .ok (.istore_n 3, 1) := by decide +kernel
theorem dX3_printNext_7 : decode cX3_printNext 7 = .ok (.iload_n 3, 1) := by decide +kernel
theorem dX3_printNext_8 : decode cX3_printNext 8 = .ok (.ifCond .ge 5, 3) := by decide +kernel
theorem dX3_printNext_11 : decode cX3_printNext 11 = .ok (.iconst 0, 1) := by decide +kernel
theorem dX3_printNext_12 : decode cX3_printNext 12 = .ok (.ireturn, 1) := by decide +kernel
theorem dX3_printNext_13 : decode cX3_printNext 13 = .ok (.aload_n 0, 1) := by decide +kernel
theorem dX3_printNext_14 : decode cX3_printNext 14 = .ok (.getfield 18, 3) := by decide +kernel
theorem dX3_printNext_17 : decode cX3_printNext 17 = .ok (.iload_n 3, 1) := by decide +kernel
theorem dX3_printNext_18 : decode cX3_printNext 18 = .ok (.iconst 0, 1) := by decide +kernel
theorem dX3_printNext_19 : decode cX3_printNext 19 = .ok (.bastore, 1) := by decide +kernel
theorem dX3_printNext_20 : decode cX3_printNext 20 = .ok (.aload_n 2, 1) := by decide +kernel
theorem dX3_printNext_21 : decode cX3_printNext 21 = .ok (.getfield 35, 3) := by decide +kernel
theorem dX3_printNext_24 : decode cX3_printNext 24 = .ok (.iload_n 3, 1) := by decide +kernel
theorem dX3_printNext_25 : decode cX3_printNext 25 = .ok (.iaload, 1) := by decide +kernel
theorem dX3_printNext_26 : decode cX3_printNext 26 = .ok (.istore 4, 2) := by decide +kernel
theorem dX3_printNext_28 : decode cX3_printNext 28 = .ok (.aload_n 2, 1) := by decide +kernel
theorem dX3_printNext_29 : decode cX3_printNext 29 = .ok (.getfield 40, 3) := by decide +kernel
theorem dX3_printNext_32 : decode cX3_printNext 32 = .ok (.iload_n 3, 1) := by decide +kernel
theorem dX3_printNext_33 : decode cX3_printNext 33 = .ok (.iaload, 1) := by decide +kernel
theorem dX3_printNext_34 : decode cX3_printNext 34 = .ok (.istore 5, 2) := by decide +kernel
theorem dX3_printNext_36 : decode cX3_printNext 36 = .ok (.aload_n 1, 1) := by decide +kernel
theorem dX3_printNext_37 : decode cX3_printNext 37 = .ok (.aload_n 2, 1) := by decide +kernel
theorem dX3_printNext_38 : decode cX3_printNext 38 = .ok (.iload 4, 2) := by decide +kernel
theorem dX3_printNext_40 : decode cX3_printNext 40 = .ok (.iload 5, 2) := by decide +kernel
theorem dX3_printNext_42 : decode cX3_printNext 42 = .ok (.invokevirtual 78, 3) := by decide +kernel
theorem dX3_printNext_45 : decode cX3_printNext 45 = .ok (.ifCond .ne 5, 3) := by decide +kernel
theorem dX3_printNext_48 : decode cX3_printNext 48 = .ok (.iconst 0, 1) := by decide +kernel
theorem dX3_printNext_49 : decode cX3_printNext 49 = .ok (.ireturn, 1) := by decide +kernel
theorem dX3_printNext_50 : decode cX3_printNext 50 = .ok (.aload_n 1, 1) := by decide +kernel
theorem dX3_printNext_51 : decode cX3_printNext 51 = .ok (.aload_n 2, 1) := by decide +kernel
theorem dX3_printNext_52 : decode cX3_printNext 52 = .ok (.iload 4, 2) := by decide +kernel
theorem dX3_printNext_54 : decode cX3_printNext 54 = .ok (.aload_n 1, 1) := by decide +kernel
theorem dX3_printNext_55 : decode cX3_printNext 55 = .ok (.getfield 82, 3) := by decide +kernel
theorem dX3_printNext_58 : decode cX3_printNext 58 = .ok (.iload 5, 2) := by decide +kernel
theorem dX3_printNext_60 : decode cX3_printNext 60 = .ok (.iaload, 1) := by decide +kernel
theorem dX3_printNext_61 : decode cX3_printNext 61 = .ok (.invokevirtual 85, 3) := by decide +kernel
theorem dX3_printNext_64 : decode cX3_printNext 64 = .ok (.aload_n 0, 1) := by decide +kernel
theorem dX3_printNext_65 : decode cX3_printNext 65 = .ok (.getfield 22, 3) := by decide +kernel
theorem dX3_printNext_68 : decode cX3_printNext 68 = .ok (.iload_n 3, 1) := by decide +kernel
theorem dX3_printNext_69 : decode cX3_printNext 69 = .ok (.iconst 1, 1) := by decide +kernel
theorem dX3_printNext_70 : decode cX3_printNext 70 = .ok (.bastore, 1) := by decide +kernel
theorem dX3_printNext_71 : decode cX3_printNext 71 = .ok (.iconst 1, 1) := by decide +kernel
theorem dX3_printNext_72 : decode cX3_printNext 72 = .ok (.ireturn, 1) := by decide +kernel
noncomputable def f_X3_printNext (s t : Nat)  (mem : Mem) : Option (Int32 × Mem) :=
  ob (f_X3_nextInTurn s t mem) fun r3 => if 0 ≤ r3 then (wr mem 42 6 r3 (vp_nar .boolean 0) fun m19 => rd (m19 (t + 2)) 6 r3 fun v25 => rd (m19 (t + 3)) 6 r3 fun v33 => ob (f_X5_fits s t v25 v33 m19) fun r42 => if r42 = 0 then (some (0, m19)) else (rd (m19 (s + 6)) 9 v33 fun v60 => ob (f_X5_put s t v25 v60 m19) fun m61 => wr m61 43 6 r3 (vp_nar .boolean 1) fun m70 => some (1, m70))) else (some (0, mem))
set_option maxRecDepth 100000 in
set_option maxHeartbeats 4000000 in
theorem m_X3_printNext {E : Ex} {ad : Nat → Nat} {sh sp : Nat} {tl : List Ent} {d : Nat} (hd : 2 ≤ d) {s t : Nat} (hs : isS s) (ht : isT t)  {mem : Mem} {r : Int32 × Mem} (h : f_X3_printNext s t mem = some r) : Cl E yX3_printNext cX3_printNext 6 (some .boolean) d [.ref (ad 39), .ref (ad s), .ref (ad t)] (some (.int r.1)) ad (LC sh sp ++ tl) mem (LC sh sp ++ tl) r.2 := by
  refine Cl.of [some (.ref (ad 39)), some (.ref (ad s)), some (.ref (ad t)), none, none, none] (by decide +kernel) rfl (Nat.le_of_ble_eq_true rfl) (fun κ C hP => ?_)
  have C : Cx E κ cX3_printNext RX3 6 (some .boolean) d := C
  unfold f_X3_printNext at h
  refine g_aload_n (pc := 0) (i := 0) (x := ad 39) C dX3_printNext_0 rfl rfl ?_
  refine g_aload_n (pc := 1) (i := 1) (x := ad s) C dX3_printNext_1 rfl rfl ?_
  refine g_aload_n (pc := 2) (i := 2) (x := ad t) C dX3_printNext_2 rfl rfl ?_
  obtain ⟨r3, hcall3, h⟩ := ob_some h
  refine g_callV (pc := 3) C ce0 mi_X3_nextInTurn mv_X3_nextInTurn wm_X3_74 dX3_printNext_3 ok_X3 [.ref (ad s), .ref (ad t)] [] la_39 (by omega) rfl rfl (Nat.le_of_ble_eq_true rfl) (m_X3_nextInTurn (d := d - 1) (by omega) hs ht hcall3) ?_
  show Gw E κ 6 0 0 6 [some (.ref (ad 39)), some (.ref (ad s)), some (.ref (ad t)), none, none, none] [.int r3] ad (LC sh sp ++ tl) mem
  refine g_istore_n (pc := 6) (i := 3) (lv' := [some (.ref (ad 39)), some (.ref (ad s)), some (.ref (ad t)), some (.int r3), none, none]) C dX3_printNext_6 rfl (by decide) rfl rfl ?_
  refine g_iload_n (pc := 7) (i := 3) (x := r3) C dX3_printNext_7 rfl rfl ?_
  rcases ite_some' h with ⟨hc8, h⟩ | ⟨hc8, h⟩
  · refine g_if_ge_t (pc := 8) C 13 dX3_printNext_8 (by decide) hc8 ?_
    refine g_aload_n (pc := 13) (i := 0) (x := ad 39) C dX3_printNext_13 rfl rfl ?_
    refine g_get (pc := 14) (v := .ref (ad 42)) C ok_X3 2 (by decide) wf_X3_18 dX3_printNext_14 la_39 rfl ?_
    refine g_iload_n (pc := 17) (i := 3) (x := r3) C dX3_printNext_17 rfl rfl ?_
    refine g_iconst (pc := 18) (v := 0) C dX3_printNext_18 rfl ?_
    obtain ⟨m19, hm19, hi19, h⟩ := wr_some h
    refine g_zast (pc := 19) C dX3_printNext_19 la_42 hi19 ?_
    refine g_mem hm19 ?_
    refine g_aload_n (pc := 20) (i := 2) (x := ad t) C dX3_printNext_20 rfl rfl ?_
    refine g_getN (pc := 21) (v := .ref (ad (t + 2))) C ok_X0 1 (by decide) nf_X3_35 dX3_printNext_21 (ly_0 ht) rfl ?_
    refine g_iload_n (pc := 24) (i := 3) (x := r3) C dX3_printNext_24 rfl rfl ?_
    obtain ⟨v25, hv25, hi25, h⟩ := rd_some h
    refine g_iald (pc := 25) C dX3_printNext_25 (ly_2 ht) hi25 ?_
    refine g_topi hv25 ?_
    refine g_istore (pc := 26) (i := 4) (lv' := [some (.ref (ad 39)), some (.ref (ad s)), some (.ref (ad t)), some (.int r3), some (.int v25), none]) C dX3_printNext_26 (by decide) rfl rfl ?_
    refine g_aload_n (pc := 28) (i := 2) (x := ad t) C dX3_printNext_28 rfl rfl ?_
    refine g_getN (pc := 29) (v := .ref (ad (t + 3))) C ok_X0 2 (by decide) nf_X3_40 dX3_printNext_29 (ly_0 ht) rfl ?_
    refine g_iload_n (pc := 32) (i := 3) (x := r3) C dX3_printNext_32 rfl rfl ?_
    obtain ⟨v33, hv33, hi33, h⟩ := rd_some h
    refine g_iald (pc := 33) C dX3_printNext_33 (ly_3 ht) hi33 ?_
    refine g_topi hv33 ?_
    refine g_istore (pc := 34) (i := 5) (lv' := [some (.ref (ad 39)), some (.ref (ad s)), some (.ref (ad t)), some (.int r3), some (.int v25), some (.int v33)]) C dX3_printNext_34 (by decide) rfl rfl ?_
    refine g_aload_n (pc := 36) (i := 1) (x := ad s) C dX3_printNext_36 rfl rfl ?_
    refine g_aload_n (pc := 37) (i := 2) (x := ad t) C dX3_printNext_37 rfl rfl ?_
    refine g_iload (pc := 38) (i := 4) (x := v25) C dX3_printNext_38 rfl ?_
    refine g_iload (pc := 40) (i := 5) (x := v33) C dX3_printNext_40 rfl ?_
    obtain ⟨r42, hcall42, h⟩ := ob_some h
    refine g_callN (pc := 42) C ce0 mi_X5_fits mv_X5_fits nm_X3_78 dX3_printNext_42 ok_X5 [.ref (ad t), .int v25, .int v33] [] (lz_0 hs) (by omega) rfl rfl (Nat.le_of_ble_eq_true rfl) (m_X5_fits (d := d - 1) (by omega) hs ht hcall42) ?_
    show Gw E κ 6 0 0 45 [some (.ref (ad 39)), some (.ref (ad s)), some (.ref (ad t)), some (.int r3), some (.int v25), some (.int v33)] [.int r42] ad (LC sh sp ++ tl) m19
    rcases ite_some' h with ⟨hc45, h⟩ | ⟨hc45, h⟩
    · refine g_if_ne_f (pc := 45) C 50 dX3_printNext_45 (by decide) hc45 ?_
      refine g_iconst (pc := 48) (v := 0) C dX3_printNext_48 rfl ?_
      cases h
      exact g_iret (pc := 49) C hP rfl rfl dX3_printNext_49
    · refine g_if_ne_t (pc := 45) C 50 dX3_printNext_45 (by decide) hc45 ?_
      refine g_aload_n (pc := 50) (i := 1) (x := ad s) C dX3_printNext_50 rfl rfl ?_
      refine g_aload_n (pc := 51) (i := 2) (x := ad t) C dX3_printNext_51 rfl rfl ?_
      refine g_iload (pc := 52) (i := 4) (x := v25) C dX3_printNext_52 rfl ?_
      refine g_aload_n (pc := 54) (i := 1) (x := ad s) C dX3_printNext_54 rfl rfl ?_
      refine g_getN (pc := 55) (v := .ref (ad (s + 6))) C ok_X5 9 (by decide) nf_X3_82 dX3_printNext_55 (lz_0 hs) rfl ?_
      refine g_iload (pc := 58) (i := 5) (x := v33) C dX3_printNext_58 rfl ?_
      obtain ⟨v60, hv60, hi60, h⟩ := rd_some h
      refine g_iald (pc := 60) C dX3_printNext_60 (lz_6 hs) hi60 ?_
      refine g_topi hv60 ?_
      obtain ⟨m61, hcall61, h⟩ := ob_some h
      refine g_callN (pc := 61) C ce0 mi_X5_put mv_X5_put nm_X3_85 dX3_printNext_61 ok_X5 [.ref (ad t), .int v25, .int v60] [] (lz_0 hs) (by omega) rfl rfl (Nat.le_of_ble_eq_true rfl) (m_X5_put (d := d - 1) (by omega) hs ht hcall61) ?_
      show Gw E κ 6 0 0 64 [some (.ref (ad 39)), some (.ref (ad s)), some (.ref (ad t)), some (.int r3), some (.int v25), some (.int v33)] [] ad (LC sh sp ++ tl) m61
      refine g_aload_n (pc := 64) (i := 0) (x := ad 39) C dX3_printNext_64 rfl rfl ?_
      refine g_get (pc := 65) (v := .ref (ad 43)) C ok_X3 3 (by decide) wf_X3_22 dX3_printNext_65 la_39 rfl ?_
      refine g_iload_n (pc := 68) (i := 3) (x := r3) C dX3_printNext_68 rfl rfl ?_
      refine g_iconst (pc := 69) (v := 1) C dX3_printNext_69 rfl ?_
      obtain ⟨m70, hm70, hi70, h⟩ := wr_some h
      refine g_zast (pc := 70) C dX3_printNext_70 la_43 hi70 ?_
      refine g_mem hm70 ?_
      refine g_iconst (pc := 71) (v := 1) C dX3_printNext_71 rfl ?_
      cases h
      exact g_iret (pc := 72) C hP rfl rfl dX3_printNext_72
  · refine g_if_ge_f (pc := 8) C 13 dX3_printNext_8 (by decide) hc8 ?_
    refine g_iconst (pc := 11) (v := 0) C dX3_printNext_11 rfl ?_
    cases h
    exact g_iret (pc := 12) C hP rfl rfl dX3_printNext_12

theorem dX3_hold_0 : decode cX3_hold 0 = .ok (.aload_n 0, 1) := by decide +kernel
theorem dX3_hold_1 : decode cX3_hold 1 = .ok (.aload_n 1, 1) := by decide +kernel
theorem dX3_hold_2 : decode cX3_hold 2 = .ok (.aload_n 2, 1) := by decide +kernel
theorem dX3_hold_3 : decode cX3_hold 3 = .ok (.iload_n 3, 1) := by decide +kernel
theorem dX3_hold_4 : decode cX3_hold 4 = .ok (.invokevirtual 25, 3) := by decide +kernel
theorem dX3_hold_7 : decode cX3_hold 7 = .ok (.iconst 0, 1) := by decide +kernel
theorem dX3_hold_8 : decode cX3_hold 8 = .ok (.istore 4, 2) := by decide +kernel
theorem dX3_hold_10 : decode cX3_hold 10 = .ok (.iload 4, 2) := by decide +kernel
theorem dX3_hold_12 : decode cX3_hold 12 = .ok (.aload_n 1, 1) := by decide +kernel
theorem dX3_hold_13 : decode cX3_hold 13 = .ok (.getfield 29, 3) := by decide +kernel
theorem dX3_hold_16 : decode cX3_hold 16 = .ok (.if_icmp .ge 66, 3) := by decide +kernel
theorem dX3_hold_19 : decode cX3_hold 19 = .ok (.aload_n 0, 1) := by decide +kernel
theorem dX3_hold_20 : decode cX3_hold 20 = .ok (.getfield 15, 3) := by decide +kernel
theorem dX3_hold_23 : decode cX3_hold 23 = .ok (.iload 4, 2) := by decide +kernel
theorem dX3_hold_25 : decode cX3_hold 25 = .ok (.aload_n 0, 1) := by decide +kernel
theorem dX3_hold_26 : decode cX3_hold 26 = .ok (.aload_n 1, 1) := by decide +kernel
theorem dX3_hold_27 : decode cX3_hold 27 = .ok (.aload_n 2, 1) := by decide +kernel
theorem dX3_hold_28 : decode cX3_hold 28 = .ok (.aload_n 2, 1) := by decide +kernel
theorem dX3_hold_29 : decode cX3_hold 29 = .ok (.getfield 35, 3) := by decide +kernel
theorem dX3_hold_32 : decode cX3_hold 32 = .ok (.iload 4, 2) := by decide +kernel
theorem dX3_hold_34 : decode cX3_hold 34 = .ok (.iaload, 1) := by decide +kernel
theorem dX3_hold_35 : decode cX3_hold 35 = .ok (.aload_n 2, 1) := by decide +kernel
theorem dX3_hold_36 : decode cX3_hold 36 = .ok (.getfield 40, 3) := by decide +kernel
theorem dX3_hold_39 : decode cX3_hold 39 = .ok (.iload 4, 2) := by decide +kernel
theorem dX3_hold_41 : decode cX3_hold 41 = .ok (.iaload, 1) := by decide +kernel
theorem dX3_hold_42 : decode cX3_hold 42 = .ok (.invokevirtual 43, 3) := by decide +kernel
theorem dX3_hold_45 : decode cX3_hold 45 = .ok (.iastore, 1) := by decide +kernel
theorem dX3_hold_46 : decode cX3_hold 46 = .ok (.aload_n 0, 1) := by decide +kernel
theorem dX3_hold_47 : decode cX3_hold 47 = .ok (.getfield 18, 3) := by decide +kernel
theorem dX3_hold_50 : decode cX3_hold 50 = .ok (.iload 4, 2) := by decide +kernel
theorem dX3_hold_52 : decode cX3_hold 52 = .ok (.aload_n 0, 1) := by decide +kernel
theorem dX3_hold_53 : decode cX3_hold 53 = .ok (.getfield 9, 3) := by decide +kernel
theorem dX3_hold_56 : decode cX3_hold 56 = .ok (.iload 4, 2) := by decide +kernel
theorem dX3_hold_58 : decode cX3_hold 58 = .ok (.iaload, 1) := by decide +kernel
theorem dX3_hold_59 : decode cX3_hold 59 = .ok (.ifCond .le 7, 3) := by decide +kernel
theorem dX3_hold_62 : decode cX3_hold 62 = .ok (.iconst 1, 1) := by decide +kernel
theorem dX3_hold_63 : decode cX3_hold 63 = .ok (.goto 4, 3) := by decide +kernel
theorem dX3_hold_66 : decode cX3_hold 66 = .ok (.iconst 0, 1) := by decide +kernel
theorem dX3_hold_67 : decode cX3_hold 67 = .ok (.bastore, 1) := by decide +kernel
theorem dX3_hold_68 : decode cX3_hold 68 = .ok (.aload_n 0, 1) := by decide +kernel
theorem dX3_hold_69 : decode cX3_hold 69 = .ok (.getfield 22, 3) := by decide +kernel
theorem dX3_hold_72 : decode cX3_hold 72 = .ok (.iload 4, 2) := by decide +kernel
theorem dX3_hold_74 : decode cX3_hold 74 = .ok (.iconst 0, 1) := by decide +kernel
theorem dX3_hold_75 : decode cX3_hold 75 = .ok (.bastore, 1) := by decide +kernel
theorem dX3_hold_76 : decode cX3_hold 76 = .ok (.iinc 4 1, 3) := by decide +kernel
theorem dX3_hold_79 : decode cX3_hold 79 = .ok (.goto (-69), 3) := by decide +kernel
theorem dX3_hold_82 : decode cX3_hold 82 = .ok (.iconst 0, 1) := by decide +kernel
theorem dX3_hold_83 : decode cX3_hold 83 = .ok (.istore 4, 2) := by decide +kernel
theorem dX3_hold_85 : decode cX3_hold 85 = .ok (.iconst 0, 1) := by decide +kernel
theorem dX3_hold_86 : decode cX3_hold 86 = .ok (.istore 5, 2) := by decide +kernel
theorem dX3_hold_88 : decode cX3_hold 88 = .ok (.iload 5, 2) := by decide +kernel
theorem dX3_hold_90 : decode cX3_hold 90 = .ok (.aload_n 1, 1) := by decide +kernel
theorem dX3_hold_91 : decode cX3_hold 91 = .ok (.getfield 29, 3) := by decide +kernel
theorem dX3_hold_94 : decode cX3_hold 94 = .ok (.if_icmp .ge 21, 3) := by decide +kernel
theorem dX3_hold_97 : decode cX3_hold 97 = .ok (.aload_n 0, 1) := by decide +kernel
theorem dX3_hold_98 : decode cX3_hold 98 = .ok (.aload_n 1, 1) := by decide +kernel
theorem dX3_hold_99 : decode cX3_hold 99 = .ok (.aload_n 2, 1) := by decide +kernel
theorem dX3_hold_100 : decode cX3_hold 100 = .ok (.invokevirtual 47, 3) := by decide +kernel
theorem dX3_hold_103 : decode cX3_hold 103 = .ok (.ifCond .eq 6, 3) := by decide +kernel
theorem dX3_hold_106 : decode cX3_hold 106 = .ok (.iinc 4 1, 3) := by decide +kernel
theorem dX3_hold_109 : decode cX3_hold 109 = .ok (.iinc 5 1, 3) := by decide +kernel
theorem dX3_hold_112 : decode cX3_hold 112 = .ok (.goto (-24), 3) := by decide +kernel
theorem dX3_hold_115 : decode cX3_hold 115 = .ok (.iload 4, 2) := by decide +kernel
theorem dX3_hold_117 : decode cX3_hold 117 = .ok (.ireturn, 1) := by decide +kernel
noncomputable def f_X3_hold_b10 (s t : Nat) (q : Int32 × Mem) : Option ((Int32 × Mem) ⊕ (Int32 × Mem)) :=
  if (q.2 s 12) ≤ q.1 then (some (.inr (q.1, q.2))) else (rd (q.2 (t + 2)) 6 q.1 fun v34 => rd (q.2 (t + 3)) 6 q.1 fun v41 => ob (f_X3_totalOf s t v34 v41 q.2) fun r42 => wr q.2 41 6 q.1 r42 fun m45 => rd (m45 40) 6 q.1 fun v58 => if v58 ≤ 0 then (wr m45 42 6 q.1 (vp_nar .boolean 0) fun m67 => wr m67 43 6 q.1 (vp_nar .boolean 0) fun m75 => lt' (q.1 + 1) fun v76 => some (.inl (v76, m75))) else (wr m45 42 6 q.1 (vp_nar .boolean 1) fun m67 => wr m67 43 6 q.1 (vp_nar .boolean 0) fun m75 => lt' (q.1 + 1) fun v76 => some (.inl (v76, m75))))
noncomputable def f_X3_hold_b88 (s t : Nat) (q : Int32 × Int32 × Mem) : Option ((Int32 × Int32 × Mem) ⊕ (Int32 × Int32 × Mem)) :=
  if (q.2.2 s 12) ≤ q.2.1 then (some (.inr (q.1, q.2.1, q.2.2))) else (ob2 (f_X3_printNext s t q.2.2) fun r100 m100 => if r100 = 0 then (lt' (q.2.1 + 1) fun v109 => some (.inl (q.1, v109, m100))) else (lt' (q.1 + 1) fun v106 => lt' (q.2.1 + 1) fun v109 => some (.inl (v106, v109, m100))))
noncomputable def f_X3_hold (s t : Nat) (l3 : Int32) (mem : Mem) : Option (Int32 × Mem) :=
  ob (f_X3_send s t l3 mem) fun m4 => ob (lp (f_X3_hold_b10 s t) FU (0, m4)) fun q10 => ob (lp (f_X3_hold_b88 s t) FU (0, 0, q10.2)) fun q88 => some (q88.1, q88.2.2)
def P_X3_hold_10 (E : Ex) (κ : Kx) (ad : Nat → Nat) (lay : List Ent) (s t : Nat) : (Int32 × Mem) ⊕ (Int32 × Mem) → Prop
  | .inl q => Gw E κ 6 0 0 10 [some (.ref (ad 39)), some (.ref (ad s)), some (.ref (ad t)), none, some (.int q.1), none] [] ad lay q.2
  | .inr q => Gw E κ 6 0 0 82 [some (.ref (ad 39)), some (.ref (ad s)), some (.ref (ad t)), none, none, none] [] ad lay q.2
def P_X3_hold_88 (E : Ex) (κ : Kx) (ad : Nat → Nat) (lay : List Ent) (s t : Nat) : (Int32 × Int32 × Mem) ⊕ (Int32 × Int32 × Mem) → Prop
  | .inl q => Gw E κ 6 0 0 88 [some (.ref (ad 39)), some (.ref (ad s)), some (.ref (ad t)), none, some (.int q.1), some (.int q.2.1)] [] ad lay q.2.2
  | .inr q => Gw E κ 6 0 0 115 [none, none, none, none, some (.int q.1), none] [] ad lay q.2.2
set_option maxRecDepth 100000 in
set_option maxHeartbeats 4000000 in
theorem b_X3_hold_10 {E : Ex} {κ : Kx} {ad : Nat → Nat} {sh sp : Nat} {tl : List Ent} {d : Nat} {s t : Nat} (C : Cx E κ cX3_hold RX3 6 (some .int) d) (hd : 4 ≤ d) (hs : isS s) (ht : isT t) {q : Int32 × Mem} {x : (Int32 × Mem) ⊕ (Int32 × Mem)} (h : f_X3_hold_b10 s t q = some x) (hP : (P_X3_hold_10 E κ ad (LC sh sp ++ tl) s t) x) : Gw E κ 6 0 0 10 [some (.ref (ad 39)), some (.ref (ad s)), some (.ref (ad t)), none, some (.int q.1), none] [] ad (LC sh sp ++ tl) q.2 := by
  unfold f_X3_hold_b10 at h
  refine g_iload (pc := 10) (i := 4) (x := q.1) C dX3_hold_10 rfl ?_
  refine g_aload_n (pc := 12) (i := 1) (x := ad s) C dX3_hold_12 rfl rfl ?_
  refine g_getN (pc := 13) (v := .int (q.2 s 12)) C ok_X5 12 (by decide) nf_X3_29 dX3_hold_13 (lz_0 hs) rfl ?_
  rcases ite_some' h with ⟨hc16, h⟩ | ⟨hc16, h⟩
  · refine g_icmp_ge_t (pc := 16) C 82 dX3_hold_16 (by decide) hc16 ?_
    refine g_mask (lv' := [some (.ref (ad 39)), some (.ref (ad s)), some (.ref (ad t)), none, none, none]) [true, true, true, false, false, false] rfl ?_
    cases h
    exact hP
  · refine g_icmp_ge_f (pc := 16) C 82 dX3_hold_16 (by decide) hc16 ?_
    refine g_aload_n (pc := 19) (i := 0) (x := ad 39) C dX3_hold_19 rfl rfl ?_
    refine g_get (pc := 20) (v := .ref (ad 41)) C ok_X3 1 (by decide) wf_X3_15 dX3_hold_20 la_39 rfl ?_
    refine g_iload (pc := 23) (i := 4) (x := q.1) C dX3_hold_23 rfl ?_
    refine g_aload_n (pc := 25) (i := 0) (x := ad 39) C dX3_hold_25 rfl rfl ?_
    refine g_aload_n (pc := 26) (i := 1) (x := ad s) C dX3_hold_26 rfl rfl ?_
    refine g_aload_n (pc := 27) (i := 2) (x := ad t) C dX3_hold_27 rfl rfl ?_
    refine g_aload_n (pc := 28) (i := 2) (x := ad t) C dX3_hold_28 rfl rfl ?_
    refine g_getN (pc := 29) (v := .ref (ad (t + 2))) C ok_X0 1 (by decide) nf_X3_35 dX3_hold_29 (ly_0 ht) rfl ?_
    refine g_iload (pc := 32) (i := 4) (x := q.1) C dX3_hold_32 rfl ?_
    obtain ⟨v34, hv34, hi34, h⟩ := rd_some h
    refine g_iald (pc := 34) C dX3_hold_34 (ly_2 ht) hi34 ?_
    refine g_topi hv34 ?_
    refine g_aload_n (pc := 35) (i := 2) (x := ad t) C dX3_hold_35 rfl rfl ?_
    refine g_getN (pc := 36) (v := .ref (ad (t + 3))) C ok_X0 2 (by decide) nf_X3_40 dX3_hold_36 (ly_0 ht) rfl ?_
    refine g_iload (pc := 39) (i := 4) (x := q.1) C dX3_hold_39 rfl ?_
    obtain ⟨v41, hv41, hi41, h⟩ := rd_some h
    refine g_iald (pc := 41) C dX3_hold_41 (ly_3 ht) hi41 ?_
    refine g_topi hv41 ?_
    obtain ⟨r42, hcall42, h⟩ := ob_some h
    refine g_callV (pc := 42) C ce0 mi_X3_totalOf mv_X3_totalOf wm_X3_43 dX3_hold_42 ok_X3 [.ref (ad s), .ref (ad t), .int v34, .int v41] [.int q.1, .ref (ad 41)] la_39 (by omega) rfl rfl (Nat.le_of_ble_eq_true rfl) (m_X3_totalOf (d := d - 1) (by omega) hs ht hcall42) ?_
    show Gw E κ 6 0 0 45 [some (.ref (ad 39)), some (.ref (ad s)), some (.ref (ad t)), none, some (.int q.1), none] [.int r42, .int q.1, .ref (ad 41)] ad (LC sh sp ++ tl) q.2
    obtain ⟨m45, hm45, hi45, h⟩ := wr_some h
    refine g_iast (pc := 45) C dX3_hold_45 la_41 hi45 ?_
    refine g_mem hm45 ?_
    refine g_aload_n (pc := 46) (i := 0) (x := ad 39) C dX3_hold_46 rfl rfl ?_
    refine g_get (pc := 47) (v := .ref (ad 42)) C ok_X3 2 (by decide) wf_X3_18 dX3_hold_47 la_39 rfl ?_
    refine g_iload (pc := 50) (i := 4) (x := q.1) C dX3_hold_50 rfl ?_
    refine g_aload_n (pc := 52) (i := 0) (x := ad 39) C dX3_hold_52 rfl rfl ?_
    refine g_get (pc := 53) (v := .ref (ad 40)) C ok_X3 0 (by decide) wf_X3_9 dX3_hold_53 la_39 rfl ?_
    refine g_iload (pc := 56) (i := 4) (x := q.1) C dX3_hold_56 rfl ?_
    obtain ⟨v58, hv58, hi58, h⟩ := rd_some h
    refine g_iald (pc := 58) C dX3_hold_58 la_40 hi58 ?_
    refine g_topi hv58 ?_
    rcases ite_some' h with ⟨hc59, h⟩ | ⟨hc59, h⟩
    · refine g_if_le_t (pc := 59) C 66 dX3_hold_59 (by decide) hc59 ?_
      refine g_iconst (pc := 66) (v := 0) C dX3_hold_66 rfl ?_
      obtain ⟨m67, hm67, hi67, h⟩ := wr_some h
      refine g_zast (pc := 67) C dX3_hold_67 la_42 hi67 ?_
      refine g_mem hm67 ?_
      refine g_aload_n (pc := 68) (i := 0) (x := ad 39) C dX3_hold_68 rfl rfl ?_
      refine g_get (pc := 69) (v := .ref (ad 43)) C ok_X3 3 (by decide) wf_X3_22 dX3_hold_69 la_39 rfl ?_
      refine g_iload (pc := 72) (i := 4) (x := q.1) C dX3_hold_72 rfl ?_
      refine g_iconst (pc := 74) (v := 0) C dX3_hold_74 rfl ?_
      obtain ⟨m75, hm75, hi75, h⟩ := wr_some h
      refine g_zast (pc := 75) C dX3_hold_75 la_43 hi75 ?_
      refine g_mem hm75 ?_
      obtain ⟨v76, hv76, h⟩ := lt_some h
      refine g_iinc (pc := 76) (i := 4) (x := q.1) (v := v76) (lv' := [some (.ref (ad 39)), some (.ref (ad s)), some (.ref (ad t)), none, some (.int v76), none]) C dX3_hold_76 rfl hv76.symm (by decide) rfl rfl ?_
      refine g_goto (pc := 79) C 10 dX3_hold_79 (by decide) ?_
      cases h
      exact hP
    · refine g_if_le_f (pc := 59) C 66 dX3_hold_59 (by decide) hc59 ?_
      refine g_iconst (pc := 62) (v := 1) C dX3_hold_62 rfl ?_
      refine g_goto (pc := 63) C 67 dX3_hold_63 (by decide) ?_
      obtain ⟨m67, hm67, hi67, h⟩ := wr_some h
      refine g_zast (pc := 67) C dX3_hold_67 la_42 hi67 ?_
      refine g_mem hm67 ?_
      refine g_aload_n (pc := 68) (i := 0) (x := ad 39) C dX3_hold_68 rfl rfl ?_
      refine g_get (pc := 69) (v := .ref (ad 43)) C ok_X3 3 (by decide) wf_X3_22 dX3_hold_69 la_39 rfl ?_
      refine g_iload (pc := 72) (i := 4) (x := q.1) C dX3_hold_72 rfl ?_
      refine g_iconst (pc := 74) (v := 0) C dX3_hold_74 rfl ?_
      obtain ⟨m75, hm75, hi75, h⟩ := wr_some h
      refine g_zast (pc := 75) C dX3_hold_75 la_43 hi75 ?_
      refine g_mem hm75 ?_
      obtain ⟨v76, hv76, h⟩ := lt_some h
      refine g_iinc (pc := 76) (i := 4) (x := q.1) (v := v76) (lv' := [some (.ref (ad 39)), some (.ref (ad s)), some (.ref (ad t)), none, some (.int v76), none]) C dX3_hold_76 rfl hv76.symm (by decide) rfl rfl ?_
      refine g_goto (pc := 79) C 10 dX3_hold_79 (by decide) ?_
      cases h
      exact hP
set_option maxRecDepth 100000 in
set_option maxHeartbeats 4000000 in
theorem b_X3_hold_88 {E : Ex} {κ : Kx} {ad : Nat → Nat} {sh sp : Nat} {tl : List Ent} {d : Nat} {s t : Nat} (C : Cx E κ cX3_hold RX3 6 (some .int) d) (hd : 4 ≤ d) (hs : isS s) (ht : isT t) {q : Int32 × Int32 × Mem} {x : (Int32 × Int32 × Mem) ⊕ (Int32 × Int32 × Mem)} (h : f_X3_hold_b88 s t q = some x) (hP : (P_X3_hold_88 E κ ad (LC sh sp ++ tl) s t) x) : Gw E κ 6 0 0 88 [some (.ref (ad 39)), some (.ref (ad s)), some (.ref (ad t)), none, some (.int q.1), some (.int q.2.1)] [] ad (LC sh sp ++ tl) q.2.2 := by
  unfold f_X3_hold_b88 at h
  refine g_iload (pc := 88) (i := 5) (x := q.2.1) C dX3_hold_88 rfl ?_
  refine g_aload_n (pc := 90) (i := 1) (x := ad s) C dX3_hold_90 rfl rfl ?_
  refine g_getN (pc := 91) (v := .int (q.2.2 s 12)) C ok_X5 12 (by decide) nf_X3_29 dX3_hold_91 (lz_0 hs) rfl ?_
  rcases ite_some' h with ⟨hc94, h⟩ | ⟨hc94, h⟩
  · refine g_icmp_ge_t (pc := 94) C 115 dX3_hold_94 (by decide) hc94 ?_
    refine g_mask (lv' := [none, none, none, none, some (.int q.1), none]) [false, false, false, false, true, false] rfl ?_
    cases h
    exact hP
  · refine g_icmp_ge_f (pc := 94) C 115 dX3_hold_94 (by decide) hc94 ?_
    refine g_aload_n (pc := 97) (i := 0) (x := ad 39) C dX3_hold_97 rfl rfl ?_
    refine g_aload_n (pc := 98) (i := 1) (x := ad s) C dX3_hold_98 rfl rfl ?_
    refine g_aload_n (pc := 99) (i := 2) (x := ad t) C dX3_hold_99 rfl rfl ?_
    obtain ⟨r100, m100, hcall100, h⟩ := ob2_some h
    refine g_callV (pc := 100) C ce0 mi_X3_printNext mv_X3_printNext wm_X3_47 dX3_hold_100 ok_X3 [.ref (ad s), .ref (ad t)] [] la_39 (by omega) rfl rfl (Nat.le_of_ble_eq_true rfl) (m_X3_printNext (d := d - 1) (by omega) hs ht hcall100) ?_
    show Gw E κ 6 0 0 103 [some (.ref (ad 39)), some (.ref (ad s)), some (.ref (ad t)), none, some (.int q.1), some (.int q.2.1)] [.int r100] ad (LC sh sp ++ tl) m100
    rcases ite_some' h with ⟨hc103, h⟩ | ⟨hc103, h⟩
    · refine g_if_eq_t (pc := 103) C 109 dX3_hold_103 (by decide) hc103 ?_
      obtain ⟨v109, hv109, h⟩ := lt_some h
      refine g_iinc (pc := 109) (i := 5) (x := q.2.1) (v := v109) (lv' := [some (.ref (ad 39)), some (.ref (ad s)), some (.ref (ad t)), none, some (.int q.1), some (.int v109)]) C dX3_hold_109 rfl hv109.symm (by decide) rfl rfl ?_
      refine g_goto (pc := 112) C 88 dX3_hold_112 (by decide) ?_
      cases h
      exact hP
    · refine g_if_eq_f (pc := 103) C 109 dX3_hold_103 (by decide) hc103 ?_
      obtain ⟨v106, hv106, h⟩ := lt_some h
      refine g_iinc (pc := 106) (i := 4) (x := q.1) (v := v106) (lv' := [some (.ref (ad 39)), some (.ref (ad s)), some (.ref (ad t)), none, some (.int v106), some (.int q.2.1)]) C dX3_hold_106 rfl hv106.symm (by decide) rfl rfl ?_
      obtain ⟨v109, hv109, h⟩ := lt_some h
      refine g_iinc (pc := 109) (i := 5) (x := q.2.1) (v := v109) (lv' := [some (.ref (ad 39)), some (.ref (ad s)), some (.ref (ad t)), none, some (.int v106), some (.int v109)]) C dX3_hold_109 rfl hv109.symm (by decide) rfl rfl ?_
      refine g_goto (pc := 112) C 88 dX3_hold_112 (by decide) ?_
      cases h
      exact hP
set_option maxRecDepth 100000 in
set_option maxHeartbeats 4000000 in
theorem m_X3_hold {E : Ex} {ad : Nat → Nat} {sh sp : Nat} {tl : List Ent} {d : Nat} (hd : 4 ≤ d) {s t : Nat} (hs : isS s) (ht : isT t) {l3 : Int32} {mem : Mem} {r : Int32 × Mem} (h : f_X3_hold s t l3 mem = some r) : Cl E yX3_hold cX3_hold 6 (some .int) d [.ref (ad 39), .ref (ad s), .ref (ad t), .int l3] (some (.int r.1)) ad (LC sh sp ++ tl) mem (LC sh sp ++ tl) r.2 := by
  refine Cl.of [some (.ref (ad 39)), some (.ref (ad s)), some (.ref (ad t)), some (.int l3), none, none] (by decide +kernel) rfl (Nat.le_of_ble_eq_true rfl) (fun κ C hP => ?_)
  have C : Cx E κ cX3_hold RX3 6 (some .int) d := C
  unfold f_X3_hold at h
  refine g_aload_n (pc := 0) (i := 0) (x := ad 39) C dX3_hold_0 rfl rfl ?_
  refine g_aload_n (pc := 1) (i := 1) (x := ad s) C dX3_hold_1 rfl rfl ?_
  refine g_aload_n (pc := 2) (i := 2) (x := ad t) C dX3_hold_2 rfl rfl ?_
  refine g_iload_n (pc := 3) (i := 3) (x := l3) C dX3_hold_3 rfl rfl ?_
  obtain ⟨m4, hcall4, h⟩ := ob_some h
  refine g_callV (pc := 4) C ce0 mi_X3_send mv_X3_send wm_X3_25 dX3_hold_4 ok_X3 [.ref (ad s), .ref (ad t), .int l3] [] la_39 (by omega) rfl rfl (Nat.le_of_ble_eq_true rfl) (m_X3_send (d := d - 1) (by omega) hs ht hcall4) ?_
  show Gw E κ 6 0 0 7 [some (.ref (ad 39)), some (.ref (ad s)), some (.ref (ad t)), some (.int l3), none, none] [] ad (LC sh sp ++ tl) m4
  refine g_iconst (pc := 7) (v := 0) C dX3_hold_7 rfl ?_
  refine g_istore (pc := 8) (i := 4) (lv' := [some (.ref (ad 39)), some (.ref (ad s)), some (.ref (ad t)), some (.int l3), some (.int 0), none]) C dX3_hold_8 (by decide) rfl rfl ?_
  refine g_mask (lv' := [some (.ref (ad 39)), some (.ref (ad s)), some (.ref (ad t)), none, some (.int 0), none]) [true, true, true, false, true, false] rfl ?_
  obtain ⟨q10, hq, h⟩ := ob_some h
  refine lp_gw (P_X3_hold_10 E κ ad (LC sh sp ++ tl) s t) (fun q x hb hp => b_X3_hold_10 C hd hs ht hb hp) _ (0, m4) _ hq ?_
  show Gw E κ 6 0 0 82 [some (.ref (ad 39)), some (.ref (ad s)), some (.ref (ad t)), none, none, none] [] ad (LC sh sp ++ tl) q10.2
  refine g_iconst (pc := 82) (v := 0) C dX3_hold_82 rfl ?_
  refine g_istore (pc := 83) (i := 4) (lv' := [some (.ref (ad 39)), some (.ref (ad s)), some (.ref (ad t)), none, some (.int 0), none]) C dX3_hold_83 (by decide) rfl rfl ?_
  refine g_iconst (pc := 85) (v := 0) C dX3_hold_85 rfl ?_
  refine g_istore (pc := 86) (i := 5) (lv' := [some (.ref (ad 39)), some (.ref (ad s)), some (.ref (ad t)), none, some (.int 0), some (.int 0)]) C dX3_hold_86 (by decide) rfl rfl ?_
  obtain ⟨q88, hq, h⟩ := ob_some h
  refine lp_gw (P_X3_hold_88 E κ ad (LC sh sp ++ tl) s t) (fun q x hb hp => b_X3_hold_88 C hd hs ht hb hp) _ (0, 0, q10.2) _ hq ?_
  show Gw E κ 6 0 0 115 [none, none, none, none, some (.int q88.1), none] [] ad (LC sh sp ++ tl) q88.2.2
  refine g_iload (pc := 115) (i := 4) (x := q88.1) C dX3_hold_115 rfl ?_
  cases h
  exact g_iret (pc := 117) C hP rfl rfl dX3_hold_117

theorem dX3_hasPrinted_0 : decode cX3_hasPrinted 0 = .ok (.iconst 0, 1) := by decide +kernel
theorem dX3_hasPrinted_1 : decode cX3_hasPrinted 1 = .ok (.istore 5, 2) := by decide +kernel
theorem dX3_hasPrinted_3 : decode cX3_hasPrinted 3 = .ok (.iload 5, 2) := by decide +kernel
theorem dX3_hasPrinted_5 : decode cX3_hasPrinted 5 = .ok (.aload_n 1, 1) := by decide +kernel
theorem dX3_hasPrinted_6 : decode cX3_hasPrinted 6 = .ok (.getfield 29, 3) := by decide +kernel
theorem dX3_hasPrinted_9 : decode cX3_hasPrinted 9 = .ok (.if_icmp .ge 33, 3) := by decide +kernel
theorem dX3_hasPrinted_12 : decode cX3_hasPrinted 12 = .ok (.aload_n 0, 1) := by decide +kernel
theorem dX3_hasPrinted_13 : decode cX3_hasPrinted 13 = .ok (.getfield 22, 3) := by decide +kernel
theorem dX3_hasPrinted_16 : decode cX3_hasPrinted 16 = .ok (.iload 5, 2) := by decide +kernel
theorem dX3_hasPrinted_18 : decode cX3_hasPrinted 18 = .ok (.baload, 1) := by decide +kernel
theorem dX3_hasPrinted_19 : decode cX3_hasPrinted 19 = .ok (.ifCond .eq 17, 3) := by decide +kernel
theorem dX3_hasPrinted_22 : decode cX3_hasPrinted 22 = .ok (.aload_n 2, 1) := by decide +kernel
theorem dX3_hasPrinted_23 : decode cX3_hasPrinted 23 = .ok (.iload 5, 2) := by decide +kernel
theorem dX3_hasPrinted_25 : decode cX3_hasPrinted 25 = .ok (.iload_n 3, 1) := by decide +kernel
theorem dX3_hasPrinted_26 : decode cX3_hasPrinted 26 = .ok (.iload 4, 2) := by decide +kernel
theorem dX3_hasPrinted_28 : decode cX3_hasPrinted 28 = .ok (.invokevirtual 70, 3) := by decide +kernel
theorem dX3_hasPrinted_31 : decode cX3_hasPrinted 31 = .ok (.ifCond .eq 5, 3) := by decide +kernel
theorem dX3_hasPrinted_34 : decode cX3_hasPrinted 34 = .ok (.iconst 1, 1) := by decide +kernel
theorem dX3_hasPrinted_35 : decode cX3_hasPrinted 35 = .ok (.ireturn, 1) := by decide +kernel
theorem dX3_hasPrinted_36 : decode cX3_hasPrinted 36 = .ok (.iinc 5 1, 3) := by decide +kernel
theorem dX3_hasPrinted_39 : decode cX3_hasPrinted 39 = .ok (.goto (-36), 3) := by decide +kernel
theorem dX3_hasPrinted_42 : decode cX3_hasPrinted 42 = .ok (.iconst 0, 1) := by decide +kernel
theorem dX3_hasPrinted_43 : decode cX3_hasPrinted 43 = .ok (.ireturn, 1) := by decide +kernel
noncomputable def f_X3_hasPrinted_b3 (s t : Nat) (l3 : Int32) (l4 : Int32) (mem : Mem) (q : Int32) : Option ((Int32) ⊕ ((Int32) ⊕ (Int32))) :=
  if (mem s 12) ≤ q then (some (.inr (.inl q))) else (rd (mem 43) 6 q fun v18 => if v18 = 0 then (lt' (q + 1) fun v36 => some (.inl v36)) else (ob (f_X0_isWanted t q l3 l4 mem) fun r28 => if r28 = 0 then (lt' (q + 1) fun v36 => some (.inl v36)) else (some (.inr (.inr 1)))))
noncomputable def f_X3_hasPrinted (s t : Nat) (l3 : Int32) (l4 : Int32) (mem : Mem) : Option (Int32) :=
  obs (lp (f_X3_hasPrinted_b3 s t l3 l4 mem) FU 0) (fun q3 => some 0) (fun r => some r)
def P_X3_hasPrinted_3 (E : Ex) (κ : Kx) (ad : Nat → Nat) (lay : List Ent) (s t : Nat) (l3 : Int32) (l4 : Int32) (mem : Mem) : (Int32) ⊕ ((Int32) ⊕ (Int32)) → Prop
  | .inl q => Gw E κ 6 0 0 3 [some (.ref (ad 39)), some (.ref (ad s)), some (.ref (ad t)), some (.int l3), some (.int l4), some (.int q)] [] ad lay mem
  | .inr (.inl q) => Gw E κ 6 0 0 42 [none, none, none, none, none, none] [] ad lay mem
  | .inr (.inr r) => Qr E κ (some (.int r)) ad lay mem
set_option maxRecDepth 100000 in
set_option maxHeartbeats 4000000 in
theorem b_X3_hasPrinted_3 {E : Ex} {κ : Kx} {ad : Nat → Nat} {sh sp : Nat} {tl : List Ent} {d : Nat} {s t : Nat} (C : Cx E κ cX3_hasPrinted RX3 6 (some .boolean) d) (hd : 1 ≤ d) (hs : isS s) (ht : isT t) {l3 : Int32} {l4 : Int32} {mem : Mem} {q : Int32} {x : (Int32) ⊕ ((Int32) ⊕ (Int32))} (h : f_X3_hasPrinted_b3 s t l3 l4 mem q = some x) (hP : (P_X3_hasPrinted_3 E κ ad (LC sh sp ++ tl) s t l3 l4 mem) x) : Gw E κ 6 0 0 3 [some (.ref (ad 39)), some (.ref (ad s)), some (.ref (ad t)), some (.int l3), some (.int l4), some (.int q)] [] ad (LC sh sp ++ tl) mem := by
  unfold f_X3_hasPrinted_b3 at h
  refine g_iload (pc := 3) (i := 5) (x := q) C dX3_hasPrinted_3 rfl ?_
  refine g_aload_n (pc := 5) (i := 1) (x := ad s) C dX3_hasPrinted_5 rfl rfl ?_
  refine g_getN (pc := 6) (v := .int (mem s 12)) C ok_X5 12 (by decide) nf_X3_29 dX3_hasPrinted_6 (lz_0 hs) rfl ?_
  rcases ite_some' h with ⟨hc9, h⟩ | ⟨hc9, h⟩
  · refine g_icmp_ge_t (pc := 9) C 42 dX3_hasPrinted_9 (by decide) hc9 ?_
    refine g_mask (lv' := [none, none, none, none, none, none]) [false, false, false, false, false, false] rfl ?_
    cases h
    exact hP
  · refine g_icmp_ge_f (pc := 9) C 42 dX3_hasPrinted_9 (by decide) hc9 ?_
    refine g_aload_n (pc := 12) (i := 0) (x := ad 39) C dX3_hasPrinted_12 rfl rfl ?_
    refine g_get (pc := 13) (v := .ref (ad 43)) C ok_X3 3 (by decide) wf_X3_22 dX3_hasPrinted_13 la_39 rfl ?_
    refine g_iload (pc := 16) (i := 5) (x := q) C dX3_hasPrinted_16 rfl ?_
    obtain ⟨v18, hv18, hi18, h⟩ := rd_some h
    refine g_zald (pc := 18) C dX3_hasPrinted_18 la_43 hi18 ?_
    refine g_topi hv18 ?_
    rcases ite_some' h with ⟨hc19, h⟩ | ⟨hc19, h⟩
    · refine g_if_eq_t (pc := 19) C 36 dX3_hasPrinted_19 (by decide) hc19 ?_
      obtain ⟨v36, hv36, h⟩ := lt_some h
      refine g_iinc (pc := 36) (i := 5) (x := q) (v := v36) (lv' := [some (.ref (ad 39)), some (.ref (ad s)), some (.ref (ad t)), some (.int l3), some (.int l4), some (.int v36)]) C dX3_hasPrinted_36 rfl hv36.symm (by decide) rfl rfl ?_
      refine g_goto (pc := 39) C 3 dX3_hasPrinted_39 (by decide) ?_
      cases h
      exact hP
    · refine g_if_eq_f (pc := 19) C 36 dX3_hasPrinted_19 (by decide) hc19 ?_
      refine g_aload_n (pc := 22) (i := 2) (x := ad t) C dX3_hasPrinted_22 rfl rfl ?_
      refine g_iload (pc := 23) (i := 5) (x := q) C dX3_hasPrinted_23 rfl ?_
      refine g_iload_n (pc := 25) (i := 3) (x := l3) C dX3_hasPrinted_25 rfl rfl ?_
      refine g_iload (pc := 26) (i := 4) (x := l4) C dX3_hasPrinted_26 rfl ?_
      obtain ⟨r28, hcall28, h⟩ := ob_some h
      refine g_callN (pc := 28) C ce0 mi_X0_isWanted mv_X0_isWanted nm_X3_70 dX3_hasPrinted_28 ok_X0 [.int q, .int l3, .int l4] [] (ly_0 ht) (by omega) rfl rfl (Nat.le_of_ble_eq_true rfl) (m_X0_isWanted (d := d - 1) (by omega) ht hcall28) ?_
      show Gw E κ 6 0 0 31 [some (.ref (ad 39)), some (.ref (ad s)), some (.ref (ad t)), some (.int l3), some (.int l4), some (.int q)] [.int r28] ad (LC sh sp ++ tl) mem
      rcases ite_some' h with ⟨hc31, h⟩ | ⟨hc31, h⟩
      · refine g_if_eq_t (pc := 31) C 36 dX3_hasPrinted_31 (by decide) hc31 ?_
        obtain ⟨v36, hv36, h⟩ := lt_some h
        refine g_iinc (pc := 36) (i := 5) (x := q) (v := v36) (lv' := [some (.ref (ad 39)), some (.ref (ad s)), some (.ref (ad t)), some (.int l3), some (.int l4), some (.int v36)]) C dX3_hasPrinted_36 rfl hv36.symm (by decide) rfl rfl ?_
        refine g_goto (pc := 39) C 3 dX3_hasPrinted_39 (by decide) ?_
        cases h
        exact hP
      · refine g_if_eq_f (pc := 31) C 36 dX3_hasPrinted_31 (by decide) hc31 ?_
        refine g_iconst (pc := 34) (v := 1) C dX3_hasPrinted_34 rfl ?_
        cases h
        exact g_iret (pc := 35) C hP rfl rfl dX3_hasPrinted_35
set_option maxRecDepth 100000 in
set_option maxHeartbeats 4000000 in
theorem m_X3_hasPrinted {E : Ex} {ad : Nat → Nat} {sh sp : Nat} {tl : List Ent} {d : Nat} (hd : 1 ≤ d) {s t : Nat} (hs : isS s) (ht : isT t) {l3 : Int32} {l4 : Int32} {mem : Mem} {r : Int32} (h : f_X3_hasPrinted s t l3 l4 mem = some r) : Cl E yX3_hasPrinted cX3_hasPrinted 6 (some .boolean) d [.ref (ad 39), .ref (ad s), .ref (ad t), .int l3, .int l4] (some (.int r)) ad (LC sh sp ++ tl) mem (LC sh sp ++ tl) mem := by
  refine Cl.of [some (.ref (ad 39)), some (.ref (ad s)), some (.ref (ad t)), some (.int l3), some (.int l4), none] (by decide +kernel) rfl (Nat.le_of_ble_eq_true rfl) (fun κ C hP => ?_)
  have C : Cx E κ cX3_hasPrinted RX3 6 (some .boolean) d := C
  unfold f_X3_hasPrinted at h
  refine g_iconst (pc := 0) (v := 0) C dX3_hasPrinted_0 rfl ?_
  refine g_istore (pc := 1) (i := 5) (lv' := [some (.ref (ad 39)), some (.ref (ad s)), some (.ref (ad t)), some (.int l3), some (.int l4), some (.int 0)]) C dX3_hasPrinted_1 (by decide) rfl rfl ?_
  rcases obs_some h with ⟨q3, hq, h⟩ | ⟨r, hq, h⟩
  · refine lp_gw (P_X3_hasPrinted_3 E κ ad (LC sh sp ++ tl) s t l3 l4 mem) (fun q x hb hp => b_X3_hasPrinted_3 C hd hs ht hb hp) _ 0 _ hq ?_
    show Gw E κ 6 0 0 42 [none, none, none, none, none, none] [] ad (LC sh sp ++ tl) mem
    refine g_iconst (pc := 42) (v := 0) C dX3_hasPrinted_42 rfl ?_
    cases h
    exact g_iret (pc := 43) C hP rfl rfl dX3_hasPrinted_43
  · refine lp_gw (P_X3_hasPrinted_3 E κ ad (LC sh sp ++ tl) s t l3 l4 mem) (fun q x hb hp => b_X3_hasPrinted_3 C hd hs ht hb hp) _ 0 _ hq ?_
    cases h
    exact hP

theorem dX3_senders_0 : decode cX3_senders 0 = .ok (.iconst 0, 1) := by decide +kernel
theorem dX3_senders_1 : decode cX3_senders 1 = .ok (.istore_n 2, 1) := by decide +kernel
theorem dX3_senders_2 : decode cX3_senders 2 = .ok (.iconst 0, 1) := by decide +kernel
theorem dX3_senders_3 : decode cX3_senders 3 = .ok (.istore_n 3, 1) := by decide +kernel
theorem dX3_senders_4 : decode cX3_senders 4 = .ok (.iload_n 3, 1) := by decide +kernel
theorem dX3_senders_5 : decode cX3_senders 5 = .ok (.aload_n 1, 1) := by decide +kernel
theorem dX3_senders_6 : decode cX3_senders 6 = .ok (.getfield 29, 3) := by decide +kernel
theorem dX3_senders_9 : decode cX3_senders 9 = .ok (.if_icmp .ge 24, 3) := by decide +kernel
theorem dX3_senders_12 : decode cX3_senders 12 = .ok (.aload_n 0, 1) := by decide +kernel
theorem dX3_senders_13 : decode cX3_senders 13 = .ok (.getfield 9, 3) := by decide +kernel
theorem dX3_senders_16 : decode cX3_senders 16 = .ok (.iload_n 3, 1) := by decide +kernel
theorem dX3_senders_17 : decode cX3_senders 17 = .ok (.iaload, 1) := by decide +kernel
theorem dX3_senders_18 : decode cX3_senders 18 = .ok (.ifCond .le 9, 3) := by decide +kernel
theorem dX3_senders_21 : decode cX3_senders 21 = .ok (.iload_n 2, 1) := by decide +kernel
theorem dX3_senders_22 : decode cX3_senders 22 = .ok (.iconst 1, 1) := by decide +kernel
theorem dX3_senders_23 : decode cX3_senders 23 = .ok (.iload_n 3, 1) := by decide +kernel
theorem dX3_senders_24 : decode cX3_senders 24 = .ok (.ishl, 1) := by decide +kernel
theorem dX3_senders_25 : decode cX3_senders 25 = .ok (.ior, 1) := by decide +kernel
theorem dX3_senders_26 : decode cX3_senders 26 = .ok (.istore_n 2, 1) := by decide +kernel
theorem dX3_senders_27 : decode cX3_senders 27 = .ok (.iinc 3 1, 3) := by decide +kernel
theorem dX3_senders_30 : decode cX3_senders 30 = .ok (.goto (-26), 3) := by decide +kernel
theorem dX3_senders_33 : decode cX3_senders 33 = .ok (.iload_n 2, 1) := by decide +kernel
theorem dX3_senders_34 : decode cX3_senders 34 = .ok (.ireturn, 1) := by decide +kernel
noncomputable def f_X3_senders_b4 (s : Nat) (mem : Mem) (q : Int32 × Int32) : Option ((Int32 × Int32) ⊕ (Int32 × Int32)) :=
  if (mem s 12) ≤ q.2 then (some (.inr (q.1, q.2))) else (rd (mem 40) 6 q.2 fun v17 => if v17 ≤ 0 then (lt' (q.2 + 1) fun v27 => some (.inl (q.1, v27))) else (lt' (q.1 ||| (1 <<< (q.2 &&& 31))) fun v26 => lt' (q.2 + 1) fun v27 => some (.inl (v26, v27))))
noncomputable def f_X3_senders (s : Nat)  (mem : Mem) : Option (Int32) :=
  ob (lp (f_X3_senders_b4 s mem) FU (0, 0)) fun q4 => some q4.1
def P_X3_senders_4 (E : Ex) (κ : Kx) (ad : Nat → Nat) (lay : List Ent) (s : Nat) (mem : Mem) : (Int32 × Int32) ⊕ (Int32 × Int32) → Prop
  | .inl q => Gw E κ 4 0 0 4 [some (.ref (ad 39)), some (.ref (ad s)), some (.int q.1), some (.int q.2)] [] ad lay mem
  | .inr q => Gw E κ 4 0 0 33 [none, none, some (.int q.1), none] [] ad lay mem
set_option maxRecDepth 100000 in
set_option maxHeartbeats 4000000 in
theorem b_X3_senders_4 {E : Ex} {κ : Kx} {ad : Nat → Nat} {sh sp : Nat} {tl : List Ent} {d : Nat} {s : Nat} (C : Cx E κ cX3_senders RX3 4 (some .int) d) (hd : 0 ≤ d) (hs : isS s) {mem : Mem} {q : Int32 × Int32} {x : (Int32 × Int32) ⊕ (Int32 × Int32)} (h : f_X3_senders_b4 s mem q = some x) (hP : (P_X3_senders_4 E κ ad (LC sh sp ++ tl) s mem) x) : Gw E κ 4 0 0 4 [some (.ref (ad 39)), some (.ref (ad s)), some (.int q.1), some (.int q.2)] [] ad (LC sh sp ++ tl) mem := by
  unfold f_X3_senders_b4 at h
  refine g_iload_n (pc := 4) (i := 3) (x := q.2) C dX3_senders_4 rfl rfl ?_
  refine g_aload_n (pc := 5) (i := 1) (x := ad s) C dX3_senders_5 rfl rfl ?_
  refine g_getN (pc := 6) (v := .int (mem s 12)) C ok_X5 12 (by decide) nf_X3_29 dX3_senders_6 (lz_0 hs) rfl ?_
  rcases ite_some' h with ⟨hc9, h⟩ | ⟨hc9, h⟩
  · refine g_icmp_ge_t (pc := 9) C 33 dX3_senders_9 (by decide) hc9 ?_
    refine g_mask (lv' := [none, none, some (.int q.1), none]) [false, false, true, false] rfl ?_
    cases h
    exact hP
  · refine g_icmp_ge_f (pc := 9) C 33 dX3_senders_9 (by decide) hc9 ?_
    refine g_aload_n (pc := 12) (i := 0) (x := ad 39) C dX3_senders_12 rfl rfl ?_
    refine g_get (pc := 13) (v := .ref (ad 40)) C ok_X3 0 (by decide) wf_X3_9 dX3_senders_13 la_39 rfl ?_
    refine g_iload_n (pc := 16) (i := 3) (x := q.2) C dX3_senders_16 rfl rfl ?_
    obtain ⟨v17, hv17, hi17, h⟩ := rd_some h
    refine g_iald (pc := 17) C dX3_senders_17 la_40 hi17 ?_
    refine g_topi hv17 ?_
    rcases ite_some' h with ⟨hc18, h⟩ | ⟨hc18, h⟩
    · refine g_if_le_t (pc := 18) C 27 dX3_senders_18 (by decide) hc18 ?_
      obtain ⟨v27, hv27, h⟩ := lt_some h
      refine g_iinc (pc := 27) (i := 3) (x := q.2) (v := v27) (lv' := [some (.ref (ad 39)), some (.ref (ad s)), some (.int q.1), some (.int v27)]) C dX3_senders_27 rfl hv27.symm (by decide) rfl rfl ?_
      refine g_goto (pc := 30) C 4 dX3_senders_30 (by decide) ?_
      cases h
      exact hP
    · refine g_if_le_f (pc := 18) C 27 dX3_senders_18 (by decide) hc18 ?_
      refine g_iload_n (pc := 21) (i := 2) (x := q.1) C dX3_senders_21 rfl rfl ?_
      refine g_iconst (pc := 22) (v := 1) C dX3_senders_22 rfl ?_
      refine g_iload_n (pc := 23) (i := 3) (x := q.2) C dX3_senders_23 rfl rfl ?_
      refine g_ishl (pc := 24) C dX3_senders_24 ?_
      refine g_ior (pc := 25) C dX3_senders_25 ?_
      obtain ⟨v26, hv26, h⟩ := lt_some h
      refine g_topi hv26 ?_
      refine g_istore_n (pc := 26) (i := 2) (lv' := [some (.ref (ad 39)), some (.ref (ad s)), some (.int v26), some (.int q.2)]) C dX3_senders_26 rfl (by decide) rfl rfl ?_
      obtain ⟨v27, hv27, h⟩ := lt_some h
      refine g_iinc (pc := 27) (i := 3) (x := q.2) (v := v27) (lv' := [some (.ref (ad 39)), some (.ref (ad s)), some (.int v26), some (.int v27)]) C dX3_senders_27 rfl hv27.symm (by decide) rfl rfl ?_
      refine g_goto (pc := 30) C 4 dX3_senders_30 (by decide) ?_
      cases h
      exact hP
set_option maxRecDepth 100000 in
set_option maxHeartbeats 4000000 in
theorem m_X3_senders {E : Ex} {ad : Nat → Nat} {sh sp : Nat} {tl : List Ent} {d : Nat} (hd : 0 ≤ d) {s : Nat} (hs : isS s)  {mem : Mem} {r : Int32} (h : f_X3_senders s mem = some r) : Cl E yX3_senders cX3_senders 4 (some .int) d [.ref (ad 39), .ref (ad s)] (some (.int r)) ad (LC sh sp ++ tl) mem (LC sh sp ++ tl) mem := by
  refine Cl.of [some (.ref (ad 39)), some (.ref (ad s)), none, none] (by decide +kernel) rfl (Nat.le_of_ble_eq_true rfl) (fun κ C hP => ?_)
  have C : Cx E κ cX3_senders RX3 4 (some .int) d := C
  unfold f_X3_senders at h
  refine g_iconst (pc := 0) (v := 0) C dX3_senders_0 rfl ?_
  refine g_istore_n (pc := 1) (i := 2) (lv' := [some (.ref (ad 39)), some (.ref (ad s)), some (.int 0), none]) C dX3_senders_1 rfl (by decide) rfl rfl ?_
  refine g_iconst (pc := 2) (v := 0) C dX3_senders_2 rfl ?_
  refine g_istore_n (pc := 3) (i := 3) (lv' := [some (.ref (ad 39)), some (.ref (ad s)), some (.int 0), some (.int 0)]) C dX3_senders_3 rfl (by decide) rfl rfl ?_
  obtain ⟨q4, hq, h⟩ := ob_some h
  refine lp_gw (P_X3_senders_4 E κ ad (LC sh sp ++ tl) s mem) (fun q x hb hp => b_X3_senders_4 C hd hs hb hp) _ (0, 0) _ hq ?_
  show Gw E κ 4 0 0 33 [none, none, some (.int q4.1), none] [] ad (LC sh sp ++ tl) mem
  refine g_iload_n (pc := 33) (i := 2) (x := q4.1) C dX3_senders_33 rfl rfl ?_
  cases h
  exact g_iret (pc := 34) C hP rfl rfl dX3_senders_34
