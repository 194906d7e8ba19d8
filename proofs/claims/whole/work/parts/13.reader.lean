theorem dX2_append_0 : decode cX2_append 0 = .ok (.aload_n 0, 1) := by decide +kernel
theorem dX2_append_1 : decode cX2_append 1 = .ok (.getfield 15, 3) := by decide +kernel
theorem dX2_append_4 : decode cX2_append 4 = .ok (.sipush 200, 3) := by decide +kernel
theorem dX2_append_7 : decode cX2_append 7 = .ok (.if_icmp .lt 5, 3) := by decide +kernel
theorem dX2_append_10 : decode cX2_append 10 = .ok (.iconst 0, 1) := by decide +kernel
theorem dX2_append_11 : decode cX2_append 11 = .ok (.ireturn, 1) := by decide +kernel
theorem dX2_append_12 : decode cX2_append 12 = .ok (.aload_n 0, 1) := by decide +kernel
theorem dX2_append_13 : decode cX2_append 13 = .ok (.getfield 9, 3) := by decide +kernel
theorem dX2_append_16 : decode cX2_append 16 = .ok (.aload_n 0, 1) := by decide +kernel
theorem dX2_append_17 : decode cX2_append 17 = .ok (.getfield 15, 3) := by decide +kernel
theorem dX2_append_20 : decode cX2_append 20 = .ok (.iload_n 1, 1) := by decide +kernel
theorem dX2_append_21 : decode cX2_append 21 = .ok (.iastore, 1) := by decide +kernel
theorem dX2_append_22 : decode cX2_append 22 = .ok (.aload_n 0, 1) := by decide +kernel
theorem dX2_append_23 : decode cX2_append 23 = .ok (.dup, 1) := by decide +kernel
theorem dX2_append_24 : decode cX2_append 24 = .ok (.getfield 15, 3) := by decide +kernel
theorem dX2_append_27 : decode cX2_append 27 = .ok (.iconst 1, 1) := by decide +kernel
theorem dX2_append_28 : decode cX2_append 28 = .ok (.iadd, 1) := by decide +kernel
theorem dX2_append_29 : decode cX2_append 29 = .ok (.putfield 15, 3) := by decide +kernel
theorem dX2_append_32 : decode cX2_append 32 = .ok (.iconst 1, 1) := by decide +kernel
theorem dX2_append_33 : decode cX2_append 33 = .ok (.ireturn, 1) := by decide +kernel
noncomputable def f_X2_append (l1 : Int32) (mem : Mem) : Option (Int32 × Mem) :=
  if (mem 1 1) < 200 then (wr mem 2 200 (mem 1 1) l1 fun m21 => lt' (mset m21 1 1 ((m21 1 1) + 1)) fun m29 => some (1, m29)) else (some (0, mem))
set_option maxRecDepth 100000 in
set_option maxHeartbeats 4000000 in
theorem m_X2_append {E : Ex} {ad : Nat → Nat} {sh sp : Nat} {tl : List Ent} {d : Nat} (hd : 0 ≤ d)  {l1 : Int32} {mem : Mem} {r : Int32 × Mem} (h : f_X2_append l1 mem = some r) : Cl E yX2_append cX2_append 2 (some .boolean) d [.ref (ad 1), .int l1] (some (.int r.1)) ad (LC sh sp ++ tl) mem (LC sh sp ++ tl) r.2 := by
  refine Cl.of [some (.ref (ad 1)), some (.int l1)] (by decide +kernel) rfl (Nat.le_of_ble_eq_true rfl) (fun κ C hP => ?_)
  have C : Cx E κ cX2_append RX2 2 (some .boolean) d := C
  unfold f_X2_append at h
  refine g_aload_n (pc := 0) (i := 0) (x := ad 1) C dX2_append_0 rfl rfl ?_
  refine g_get (pc := 1) (v := .int (mem 1 1)) C ok_X2 1 (by decide) wf_X2_15 dX2_append_1 la_1 rfl ?_
  refine g_sipush (pc := 4) (v := 200) C dX2_append_4 rfl ?_
  rcases ite_some' h with ⟨hc7, h⟩ | ⟨hc7, h⟩
  · refine g_icmp_lt_t (pc := 7) C 12 dX2_append_7 (by decide) hc7 ?_
    refine g_aload_n (pc := 12) (i := 0) (x := ad 1) C dX2_append_12 rfl rfl ?_
    refine g_get (pc := 13) (v := .ref (ad 2)) C ok_X2 0 (by decide) wf_X2_9 dX2_append_13 la_1 rfl ?_
    refine g_aload_n (pc := 16) (i := 0) (x := ad 1) C dX2_append_16 rfl rfl ?_
    refine g_get (pc := 17) (v := .int (mem 1 1)) C ok_X2 1 (by decide) wf_X2_15 dX2_append_17 la_1 rfl ?_
    refine g_iload_n (pc := 20) (i := 1) (x := l1) C dX2_append_20 rfl rfl ?_
    obtain ⟨m21, hm21, hi21, h⟩ := wr_some h
    refine g_iast (pc := 21) C dX2_append_21 la_2 hi21 ?_
    refine g_mem hm21 ?_
    refine g_aload_n (pc := 22) (i := 0) (x := ad 1) C dX2_append_22 rfl rfl ?_
    refine g_dup (pc := 23) C dX2_append_23 rfl ?_
    refine g_get (pc := 24) (v := .int (m21 1 1)) C ok_X2 1 (by decide) wf_X2_15 dX2_append_24 la_1 rfl ?_
    refine g_iconst (pc := 27) (v := 1) C dX2_append_27 rfl ?_
    refine g_iadd (pc := 28) C dX2_append_28 ?_
    obtain ⟨m29, hm29, h⟩ := lt_some h
    refine g_put (pc := 29) C ok_X2 1 (by decide) wf_X2_15 dX2_append_29 rfl rfl la_1 ?_
    refine g_mem hm29 ?_
    refine g_iconst (pc := 32) (v := 1) C dX2_append_32 rfl ?_
    cases h
    exact g_iret (pc := 33) C hP rfl rfl dX2_append_33
  · refine g_icmp_lt_f (pc := 7) C 12 dX2_append_7 (by decide) hc7 ?_
    refine g_iconst (pc := 10) (v := 0) C dX2_append_10 rfl ?_
    cases h
    exact g_iret (pc := 11) C hP rfl rfl dX2_append_11

theorem dX2_next_0 : decode cX2_next 0 = .ok (.aload_n 0, 1) := by decide +kernel
theorem dX2_next_1 : decode cX2_next 1 = .ok (.getfield 24, 3) := by decide +kernel
theorem dX2_next_4 : decode cX2_next 4 = .ok (.aload_n 0, 1) := by decide +kernel
theorem dX2_next_5 : decode cX2_next 5 = .ok (.getfield 15, 3) := by decide +kernel
theorem dX2_next_8 : decode cX2_next 8 = .ok (.if_icmp .ge 15, 3) := by decide +kernel
theorem dX2_next_11 : decode cX2_next 11 = .ok (.aload_n 0, 1) := by decide +kernel
theorem dX2_next_12 : decode cX2_next 12 = .ok (.getfield 9, 3) := by decide +kernel
theorem dX2_next_15 : decode cX2_next 15 = .ok (.aload_n 0, 1) := by decide +kernel
theorem dX2_next_16 : decode cX2_next 16 = .ok (.getfield 24, 3) := by decide +kernel
theorem dX2_next_19 : decode cX2_next 19 = .ok (.iaload, 1) := by decide +kernel
theorem dX2_next_20 : decode cX2_next 20 = .ok (.goto 4, 3) := by decide +kernel
theorem dX2_next_23 : decode cX2_next 23 = .ok (.iconst 0, 1) := by decide +kernel
theorem dX2_next_24 : decode cX2_next 24 = .ok (.istore_n 1, 1) := by decide +kernel
theorem dX2_next_25 : decode cX2_next 25 = .ok (.aload_n 0, 1) := by decide +kernel
theorem dX2_next_26 : decode cX2_next 26 = .ok (.dup, 1) := by decide +kernel
theorem dX2_next_27 : decode cX2_next 27 = .ok (.getfield 24, 3) := by decide +kernel
theorem dX2_next_30 : decode cX2_next 30 = .ok (.iconst 1, 1) := by decide +kernel
theorem dX2_next_31 : decode cX2_next 31 = .ok (.iadd, 1) := by decide +kernel
theorem dX2_next_32 : decode cX2_next 32 = .ok (.putfield 24, 3) := by decide +kernel
theorem dX2_next_35 : decode cX2_next 35 = .ok (.iload_n 1, 1) := by decide +kernel
theorem dX2_next_36 : decode cX2_next 36 = .ok (.ireturn, 1) := by decide +kernel
noncomputable def f_X2_next  (mem : Mem) : Option (Int32 × Mem) :=
  if (mem 1 1) ≤ (mem 1 2) then (lt' (mset mem 1 2 ((mem 1 2) + 1)) fun m32 => some (0, m32)) else (rd (mem 2) 200 (mem 1 2) fun v19 => lt' (mset mem 1 2 ((mem 1 2) + 1)) fun m32 => some (v19, m32))
set_option maxRecDepth 100000 in
set_option maxHeartbeats 4000000 in
theorem m_X2_next {E : Ex} {ad : Nat → Nat} {sh sp : Nat} {tl : List Ent} {d : Nat} (hd : 0 ≤ d)   {mem : Mem} {r : Int32 × Mem} (h : f_X2_next mem = some r) : Cl E yX2_next cX2_next 2 (some .int) d [.ref (ad 1)] (some (.int r.1)) ad (LC sh sp ++ tl) mem (LC sh sp ++ tl) r.2 := by
  refine Cl.of [some (.ref (ad 1)), none] (by decide +kernel) rfl (Nat.le_of_ble_eq_true rfl) (fun κ C hP => ?_)
  have C : Cx E κ cX2_next RX2 2 (some .int) d := C
  unfold f_X2_next at h
  refine g_aload_n (pc := 0) (i := 0) (x := ad 1) C dX2_next_0 rfl rfl ?_
  refine g_get (pc := 1) (v := .int (mem 1 2)) C ok_X2 2 (by decide) wf_X2_24 dX2_next_1 la_1 rfl ?_
  refine g_aload_n (pc := 4) (i := 0) (x := ad 1) C dX2_next_4 rfl rfl ?_
  refine g_get (pc := 5) (v := .int (mem 1 1)) C ok_X2 1 (by decide) wf_X2_15 dX2_next_5 la_1 rfl ?_
  rcases ite_some' h with ⟨hc8, h⟩ | ⟨hc8, h⟩
  · refine g_icmp_ge_t (pc := 8) C 23 dX2_next_8 (by decide) hc8 ?_
    refine g_iconst (pc := 23) (v := 0) C dX2_next_23 rfl ?_
    refine g_istore_n (pc := 24) (i := 1) (lv' := [some (.ref (ad 1)), some (.int 0)]) C dX2_next_24 rfl (by decide) rfl rfl ?_
    refine g_aload_n (pc := 25) (i := 0) (x := ad 1) C dX2_next_25 rfl rfl ?_
    refine g_dup (pc := 26) C dX2_next_26 rfl ?_
    refine g_get (pc := 27) (v := .int (mem 1 2)) C ok_X2 2 (by decide) wf_X2_24 dX2_next_27 la_1 rfl ?_
    refine g_iconst (pc := 30) (v := 1) C dX2_next_30 rfl ?_
    refine g_iadd (pc := 31) C dX2_next_31 ?_
    obtain ⟨m32, hm32, h⟩ := lt_some h
    refine g_put (pc := 32) C ok_X2 2 (by decide) wf_X2_24 dX2_next_32 rfl rfl la_1 ?_
    refine g_mem hm32 ?_
    refine g_iload_n (pc := 35) (i := 1) (x := 0) C dX2_next_35 rfl rfl ?_
    cases h
    exact g_iret (pc := 36) C hP rfl rfl dX2_next_36
  · refine g_icmp_ge_f (pc := 8) C 23 dX2_next_8 (by decide) hc8 ?_
    refine g_aload_n (pc := 11) (i := 0) (x := ad 1) C dX2_next_11 rfl rfl ?_
    refine g_get (pc := 12) (v := .ref (ad 2)) C ok_X2 0 (by decide) wf_X2_9 dX2_next_12 la_1 rfl ?_
    refine g_aload_n (pc := 15) (i := 0) (x := ad 1) C dX2_next_15 rfl rfl ?_
    refine g_get (pc := 16) (v := .int (mem 1 2)) C ok_X2 2 (by decide) wf_X2_24 dX2_next_16 la_1 rfl ?_
    obtain ⟨v19, hv19, hi19, h⟩ := rd_some h
    refine g_iald (pc := 19) C dX2_next_19 la_2 hi19 ?_
    refine g_topi hv19 ?_
    refine g_goto (pc := 20) C 24 dX2_next_20 (by decide) ?_
    refine g_istore_n (pc := 24) (i := 1) (lv' := [some (.ref (ad 1)), some (.int v19)]) C dX2_next_24 rfl (by decide) rfl rfl ?_
    refine g_aload_n (pc := 25) (i := 0) (x := ad 1) C dX2_next_25 rfl rfl ?_
    refine g_dup (pc := 26) C dX2_next_26 rfl ?_
    refine g_get (pc := 27) (v := .int (mem 1 2)) C ok_X2 2 (by decide) wf_X2_24 dX2_next_27 la_1 rfl ?_
    refine g_iconst (pc := 30) (v := 1) C dX2_next_30 rfl ?_
    refine g_iadd (pc := 31) C dX2_next_31 ?_
    obtain ⟨m32, hm32, h⟩ := lt_some h
    refine g_put (pc := 32) C ok_X2 2 (by decide) wf_X2_24 dX2_next_32 rfl rfl la_1 ?_
    refine g_mem hm32 ?_
    refine g_iload_n (pc := 35) (i := 1) (x := v19) C dX2_next_35 rfl rfl ?_
    cases h
    exact g_iret (pc := 36) C hP rfl rfl dX2_next_36

theorem dX2_peek_0 : decode cX2_peek 0 = .ok (.aload_n 0, 1) := by decide +kernel
theorem dX2_peek_1 : decode cX2_peek 1 = .ok (.getfield 24, 3) := by decide +kernel
theorem dX2_peek_4 : decode cX2_peek 4 = .ok (.aload_n 0, 1) := by decide +kernel
theorem dX2_peek_5 : decode cX2_peek 5 = .ok (.getfield 15, 3) := by decide +kernel
theorem dX2_peek_8 : decode cX2_peek 8 = .ok (.if_icmp .ge 15, 3) := by decide +kernel
theorem dX2_peek_11 : decode cX2_peek 11 = .ok (.aload_n 0, 1) := by decide +kernel
theorem dX2_peek_12 : decode cX2_peek 12 = .ok (.getfield 9, 3) := by decide +kernel
theorem dX2_peek_15 : decode cX2_peek 15 = .ok (.aload_n 0, 1) := by decide +kernel
theorem dX2_peek_16 : decode cX2_peek 16 = .ok (.getfield 24, 3) := by decide +kernel
theorem dX2_peek_19 : decode cX2_peek 19 = .ok (.iaload, 1) := by decide +kernel
theorem dX2_peek_20 : decode cX2_peek 20 = .ok (.goto 4, 3) := by decide +kernel
theorem dX2_peek_23 : decode cX2_peek 23 = .ok (.iconst 0, 1) := by decide +kernel
theorem dX2_peek_24 : decode cX2_peek 24 = .ok (.ireturn, 1) := by decide +kernel
noncomputable def f_X2_peek  (mem : Mem) : Option (Int32) :=
  if (mem 1 1) ≤ (mem 1 2) then (some 0) else (rd (mem 2) 200 (mem 1 2) fun v19 => some v19)
set_option maxRecDepth 100000 in
set_option maxHeartbeats 4000000 in
theorem m_X2_peek {E : Ex} {ad : Nat → Nat} {sh sp : Nat} {tl : List Ent} {d : Nat} (hd : 0 ≤ d)   {mem : Mem} {r : Int32} (h : f_X2_peek mem = some r) : Cl E yX2_peek cX2_peek 1 (some .int) d [.ref (ad 1)] (some (.int r)) ad (LC sh sp ++ tl) mem (LC sh sp ++ tl) mem := by
  refine Cl.of [some (.ref (ad 1))] (by decide +kernel) rfl (Nat.le_of_ble_eq_true rfl) (fun κ C hP => ?_)
  have C : Cx E κ cX2_peek RX2 1 (some .int) d := C
  unfold f_X2_peek at h
  refine g_aload_n (pc := 0) (i := 0) (x := ad 1) C dX2_peek_0 rfl rfl ?_
  refine g_get (pc := 1) (v := .int (mem 1 2)) C ok_X2 2 (by decide) wf_X2_24 dX2_peek_1 la_1 rfl ?_
  refine g_aload_n (pc := 4) (i := 0) (x := ad 1) C dX2_peek_4 rfl rfl ?_
  refine g_get (pc := 5) (v := .int (mem 1 1)) C ok_X2 1 (by decide) wf_X2_15 dX2_peek_5 la_1 rfl ?_
  rcases ite_some' h with ⟨hc8, h⟩ | ⟨hc8, h⟩
  · refine g_icmp_ge_t (pc := 8) C 23 dX2_peek_8 (by decide) hc8 ?_
    refine g_iconst (pc := 23) (v := 0) C dX2_peek_23 rfl ?_
    cases h
    exact g_iret (pc := 24) C hP rfl rfl dX2_peek_24
  · refine g_icmp_ge_f (pc := 8) C 23 dX2_peek_8 (by decide) hc8 ?_
    refine g_aload_n (pc := 11) (i := 0) (x := ad 1) C dX2_peek_11 rfl rfl ?_
    refine g_get (pc := 12) (v := .ref (ad 2)) C ok_X2 0 (by decide) wf_X2_9 dX2_peek_12 la_1 rfl ?_
    refine g_aload_n (pc := 15) (i := 0) (x := ad 1) C dX2_peek_15 rfl rfl ?_
    refine g_get (pc := 16) (v := .int (mem 1 2)) C ok_X2 2 (by decide) wf_X2_24 dX2_peek_16 la_1 rfl ?_
    obtain ⟨v19, hv19, hi19, h⟩ := rd_some h
    refine g_iald (pc := 19) C dX2_peek_19 la_2 hi19 ?_
    refine g_topi hv19 ?_
    refine g_goto (pc := 20) C 24 dX2_peek_20 (by decide) ?_
    cases h
    exact g_iret (pc := 24) C hP rfl rfl dX2_peek_24

theorem dX2_isFigure_0 : decode cX2_isFigure 0 = .ok (.iload_n 0, 1) := by decide +kernel
theorem dX2_isFigure_1 : decode cX2_isFigure 1 = .ok (.bipush 48, 2) := by decide +kernel
theorem dX2_isFigure_3 : decode cX2_isFigure 3 = .ok (.if_icmp .lt 13, 3) := by decide +kernel
theorem dX2_isFigure_6 : decode cX2_isFigure 6 = .ok (.iload_n 0, 1) := by decide +kernel
theorem dX2_isFigure_7 : decode cX2_isFigure 7 = .ok (.bipush 57, 2) := by decide +kernel
theorem dX2_isFigure_9 : decode cX2_isFigure 9 = .ok (.if_icmp .gt 7, 3) := by decide +kernel
theorem dX2_isFigure_12 : decode cX2_isFigure 12 = .ok (.iconst 1, 1) := by decide +kernel
theorem dX2_isFigure_13 : decode cX2_isFigure 13 = .ok (.goto 4, 3) := by decide +kernel
theorem dX2_isFigure_16 : decode cX2_isFigure 16 = .ok (.iconst 0, 1) := by decide +kernel
theorem dX2_isFigure_17 : decode cX2_isFigure 17 = .ok (.ireturn, 1) := by decide +kernel
noncomputable def f_X2_isFigure (l0 : Int32) : Option (Int32) :=
  if l0 < 48 then (some 0) else (if 57 < l0 then (some 0) else (some 1))
set_option maxRecDepth 100000 in
set_option maxHeartbeats 4000000 in
theorem m_X2_isFigure {E : Ex} {ad : Nat → Nat} {lay : List Ent} {d : Nat} (hd : 0 ≤ d)  {l0 : Int32} {mem : Mem} {r : Int32} (h : f_X2_isFigure l0 = some r) : Cl E yX2_isFigure cX2_isFigure 1 (some .boolean) d [.int l0] (some (.int r)) ad lay mem lay mem := by
  refine Cl.of [some (.int l0)] (by decide +kernel) rfl (Nat.le_of_ble_eq_true rfl) (fun κ C hP => ?_)
  have C : Cx E κ cX2_isFigure RX2 1 (some .boolean) d := C
  unfold f_X2_isFigure at h
  refine g_iload_n (pc := 0) (i := 0) (x := l0) C dX2_isFigure_0 rfl rfl ?_
  refine g_bipush (pc := 1) (v := 48) C dX2_isFigure_1 rfl ?_
  rcases ite_some' h with ⟨hc3, h⟩ | ⟨hc3, h⟩
  · refine g_icmp_lt_t (pc := 3) C 16 dX2_isFigure_3 (by decide) hc3 ?_
    refine g_iconst (pc := 16) (v := 0) C dX2_isFigure_16 rfl ?_
    cases h
    exact g_iret (pc := 17) C hP rfl rfl dX2_isFigure_17
  · refine g_icmp_lt_f (pc := 3) C 16 dX2_isFigure_3 (by decide) hc3 ?_
    refine g_iload_n (pc := 6) (i := 0) (x := l0) C dX2_isFigure_6 rfl rfl ?_
    refine g_bipush (pc := 7) (v := 57) C dX2_isFigure_7 rfl ?_
    rcases ite_some' h with ⟨hc9, h⟩ | ⟨hc9, h⟩
    · refine g_icmp_gt_t (pc := 9) C 16 dX2_isFigure_9 (by decide) hc9 ?_
      refine g_iconst (pc := 16) (v := 0) C dX2_isFigure_16 rfl ?_
      cases h
      exact g_iret (pc := 17) C hP rfl rfl dX2_isFigure_17
    · refine g_icmp_gt_f (pc := 9) C 16 dX2_isFigure_9 (by decide) hc9 ?_
      refine g_iconst (pc := 12) (v := 1) C dX2_isFigure_12 rfl ?_
      refine g_goto (pc := 13) C 17 dX2_isFigure_13 (by decide) ?_
      cases h
      exact g_iret (pc := 17) C hP rfl rfl dX2_isFigure_17

theorem dX2_readNumber_0 : decode cX2_readNumber 0 = .ok (.aload_n 0, 1) := by decide +kernel
theorem dX2_readNumber_1 : decode cX2_readNumber 1 = .ok (.invokevirtual 65, 3) := by decide +kernel
theorem dX2_readNumber_4 : decode cX2_readNumber 4 = .ok (.invokestatic 78, 3) := by decide +kernel
theorem dX2_readNumber_7 : decode cX2_readNumber 7 = .ok (.ifCond .ne 5, 3) := by decide +kernel
theorem dX2_readNumber_10 : decode cX2_readNumber 10 = .ok (.iconst (-1), 1) := by decide +kernel
theorem dX2_readNumber_11 : decode cX2_readNumber 11 = .ok (.ireturn, 1) := by decide +kernel
theorem dX2_readNumber_12 : decode cX2_readNumber 12 = .ok (.aload_n 0, 1) := by decide +kernel
theorem dX2_readNumber_13 : decode cX2_readNumber 13 = .ok (.invokevirtual 34, 3) := by decide +kernel
theorem dX2_readNumber_16 : decode cX2_readNumber 16 = .ok (.bipush 48, 2) := by decide +kernel
theorem dX2_readNumber_18 : decode cX2_readNumber 18 = .ok (.isub, 1) := by decide +kernel
theorem dX2_readNumber_19 : decode cX2_readNumber 19 = .ok (.istore_n 1, 1) := by decide +kernel
theorem dX2_readNumber_20 : decode cX2_readNumber 20 = .ok (.aload_n 0, 1) := by decide +kernel
theorem dX2_readNumber_21 : decode cX2_readNumber 21 = .ok (.invokevirtual 65, 3) := by decide +kernel
theorem dX2_readNumber_24 : decode cX2_readNumber 24 = .ok (.invokestatic 78, 3) := by decide +kernel
theorem dX2_readNumber_27 : decode cX2_readNumber 27 = .ok (.ifCond .eq 16, 3) := by decide +kernel
theorem dX2_readNumber_30 : decode cX2_readNumber 30 = .ok (.iload_n 1, 1) := by decide +kernel
theorem dX2_readNumber_31 : decode cX2_readNumber 31 = .ok (.bipush 10, 2) := by decide +kernel
theorem dX2_readNumber_33 : decode cX2_readNumber 33 = .ok (.imul, 1) := by decide +kernel
theorem dX2_readNumber_34 : decode cX2_readNumber 34 = .ok (.aload_n 0, 1) := by decide +kernel
theorem dX2_readNumber_35 : decode cX2_readNumber 35 = .ok (.invokevirtual 34, 3) := by decide +kernel
theorem dX2_readNumber_38 : decode cX2_readNumber 38 = .ok (.iadd, 1) := by decide +kernel
theorem dX2_readNumber_39 : decode cX2_readNumber 39 = .ok (.bipush 48, 2) := by decide +kernel
theorem dX2_readNumber_41 : decode cX2_readNumber 41 = .ok (.isub, 1) := by decide +kernel
theorem dX2_readNumber_42 : decode cX2_readNumber 42 = .ok (.istore_n 1, 1) := by decide +kernel
theorem dX2_readNumber_43 : decode cX2_readNumber 43 = .ok (.iload_n 1, 1) := by decide +kernel
theorem dX2_readNumber_44 : decode cX2_readNumber 44 = .ok (.ireturn, 1) := by decide +kernel
noncomputable def f_X2_readNumber  (mem : Mem) : Option (Int32 × Mem) :=
  ob (f_X2_peek mem) fun r1 => ob (f_X2_isFigure r1) fun r4 => if r4 = 0 then (some ((-1), mem)) else (ob2 (f_X2_next mem) fun r13 m13 => lt' (r13 - 48) fun v19 => ob (f_X2_peek m13) fun r21 => ob (f_X2_isFigure r21) fun r24 => if r24 = 0 then (some (v19, m13)) else (ob2 (f_X2_next m13) fun r35 m35 => lt' (((v19 * 10) + r35) - 48) fun v42 => some (v42, m35)))
set_option maxRecDepth 100000 in
set_option maxHeartbeats 4000000 in
theorem m_X2_readNumber {E : Ex} {ad : Nat → Nat} {sh sp : Nat} {tl : List Ent} {d : Nat} (hd : 1 ≤ d)   {mem : Mem} {r : Int32 × Mem} (h : f_X2_readNumber mem = some r) : Cl E yX2_readNumber cX2_readNumber 2 (some .int) d [.ref (ad 1)] (some (.int r.1)) ad (LC sh sp ++ tl) mem (LC sh sp ++ tl) r.2 := by
  refine Cl.of [some (.ref (ad 1)), none] (by decide +kernel) rfl (Nat.le_of_ble_eq_true rfl) (fun κ C hP => ?_)
  have C : Cx E κ cX2_readNumber RX2 2 (some .int) d := C
  unfold f_X2_readNumber at h
  refine g_aload_n (pc := 0) (i := 0) (x := ad 1) C dX2_readNumber_0 rfl rfl ?_
  obtain ⟨r1, hcall1, h⟩ := ob_some h
  refine g_callV (pc := 1) C ce0 mi_X2_peek mv_X2_peek wm_X2_65 dX2_readNumber_1 ok_X2 [] [] la_1 (by omega) rfl rfl (Nat.le_of_ble_eq_true rfl) (m_X2_peek (d := d - 1) (by omega)  hcall1) ?_
  show Gw E κ 2 0 0 4 [some (.ref (ad 1)), none] [.int r1] ad (LC sh sp ++ tl) mem
  obtain ⟨r4, hcall4, h⟩ := ob_some h
  refine g_callS (pc := 4) C ce0 mi_X2_isFigure ms_X2_isFigure wm_X2_78 dX2_readNumber_4 [.int r1] [] (by omega) rfl rfl (Nat.le_of_ble_eq_true rfl) (m_X2_isFigure (d := d - 1) (by omega)  hcall4) ?_
  show Gw E κ 2 0 0 7 [some (.ref (ad 1)), none] [.int r4] ad (LC sh sp ++ tl) mem
  rcases ite_some' h with ⟨hc7, h⟩ | ⟨hc7, h⟩
  · refine g_if_ne_f (pc := 7) C 12 dX2_readNumber_7 (by decide) hc7 ?_
    refine g_iconst (pc := 10) (v := (-1)) C dX2_readNumber_10 rfl ?_
    cases h
    exact g_iret (pc := 11) C hP rfl rfl dX2_readNumber_11
  · refine g_if_ne_t (pc := 7) C 12 dX2_readNumber_7 (by decide) hc7 ?_
    refine g_aload_n (pc := 12) (i := 0) (x := ad 1) C dX2_readNumber_12 rfl rfl ?_
    obtain ⟨r13, m13, hcall13, h⟩ := ob2_some h
    refine g_callV (pc := 13) C ce0 mi_X2_next mv_X2_next wm_X2_34 dX2_readNumber_13 ok_X2 [] [] la_1 (by omega) rfl rfl (Nat.le_of_ble_eq_true rfl) (m_X2_next (d := d - 1) (by omega)  hcall13) ?_
    show Gw E κ 2 0 0 16 [some (.ref (ad 1)), none] [.int r13] ad (LC sh sp ++ tl) m13
    refine g_bipush (pc := 16) (v := 48) C dX2_readNumber_16 rfl ?_
    refine g_isub (pc := 18) C dX2_readNumber_18 ?_
    obtain ⟨v19, hv19, h⟩ := lt_some h
    refine g_topi hv19 ?_
    refine g_istore_n (pc := 19) (i := 1) (lv' := [some (.ref (ad 1)), some (.int v19)]) C dX2_readNumber_19 rfl (by decide) rfl rfl ?_
    refine g_aload_n (pc := 20) (i := 0) (x := ad 1) C dX2_readNumber_20 rfl rfl ?_
    obtain ⟨r21, hcall21, h⟩ := ob_some h
    refine g_callV (pc := 21) C ce0 mi_X2_peek mv_X2_peek wm_X2_65 dX2_readNumber_21 ok_X2 [] [] la_1 (by omega) rfl rfl (Nat.le_of_ble_eq_true rfl) (m_X2_peek (d := d - 1) (by omega)  hcall21) ?_
    show Gw E κ 2 0 0 24 [some (.ref (ad 1)), some (.int v19)] [.int r21] ad (LC sh sp ++ tl) m13
    obtain ⟨r24, hcall24, h⟩ := ob_some h
    refine g_callS (pc := 24) C ce0 mi_X2_isFigure ms_X2_isFigure wm_X2_78 dX2_readNumber_24 [.int r21] [] (by omega) rfl rfl (Nat.le_of_ble_eq_true rfl) (m_X2_isFigure (d := d - 1) (by omega)  hcall24) ?_
    show Gw E κ 2 0 0 27 [some (.ref (ad 1)), some (.int v19)] [.int r24] ad (LC sh sp ++ tl) m13
    rcases ite_some' h with ⟨hc27, h⟩ | ⟨hc27, h⟩
    · refine g_if_eq_t (pc := 27) C 43 dX2_readNumber_27 (by decide) hc27 ?_
      refine g_iload_n (pc := 43) (i := 1) (x := v19) C dX2_readNumber_43 rfl rfl ?_
      cases h
      exact g_iret (pc := 44) C hP rfl rfl dX2_readNumber_44
    · refine g_if_eq_f (pc := 27) C 43 dX2_readNumber_27 (by decide) hc27 ?_
      refine g_iload_n (pc := 30) (i := 1) (x := v19) C dX2_readNumber_30 rfl rfl ?_
      refine g_bipush (pc := 31) (v := 10) C dX2_readNumber_31 rfl ?_
      refine g_imul (pc := 33) C dX2_readNumber_33 ?_
      refine g_aload_n (pc := 34) (i := 0) (x := ad 1) C dX2_readNumber_34 rfl rfl ?_
      obtain ⟨r35, m35, hcall35, h⟩ := ob2_some h
      refine g_callV (pc := 35) C ce0 mi_X2_next mv_X2_next wm_X2_34 dX2_readNumber_35 ok_X2 [] [.int (v19 * 10)] la_1 (by omega) rfl rfl (Nat.le_of_ble_eq_true rfl) (m_X2_next (d := d - 1) (by omega)  hcall35) ?_
      show Gw E κ 2 0 0 38 [some (.ref (ad 1)), some (.int v19)] [.int r35, .int (v19 * 10)] ad (LC sh sp ++ tl) m35
      refine g_iadd (pc := 38) C dX2_readNumber_38 ?_
      refine g_bipush (pc := 39) (v := 48) C dX2_readNumber_39 rfl ?_
      refine g_isub (pc := 41) C dX2_readNumber_41 ?_
      obtain ⟨v42, hv42, h⟩ := lt_some h
      refine g_topi hv42 ?_
      refine g_istore_n (pc := 42) (i := 1) (lv' := [some (.ref (ad 1)), some (.int v42)]) C dX2_readNumber_42 rfl (by decide) rfl rfl ?_
      refine g_iload_n (pc := 43) (i := 1) (x := v42) C dX2_readNumber_43 rfl rfl ?_
      cases h
      exact g_iret (pc := 44) C hP rfl rfl dX2_readNumber_44

theorem dX2_readGrid_0 : decode cX2_readGrid 0 = .ok (.aload_n 0, 1) := by decide +kernel
theorem dX2_readGrid_1 : decode cX2_readGrid 1 = .ok (.invokevirtual 42, 3) := by decide +kernel
theorem dX2_readGrid_4 : decode cX2_readGrid 4 = .ok (.istore_n 2, 1) := by decide +kernel
theorem dX2_readGrid_5 : decode cX2_readGrid 5 = .ok (.aload_n 0, 1) := by decide +kernel
theorem dX2_readGrid_6 : decode cX2_readGrid 6 = .ok (.invokevirtual 34, 3) := by decide +kernel
theorem dX2_readGrid_9 : decode cX2_readGrid 9 = .ok (.bipush 44, 2) := by decide +kernel
theorem dX2_readGrid_11 : decode cX2_readGrid 11 = .ok (.if_icmp .ne 7, 3) := by decide +kernel
theorem dX2_readGrid_14 : decode cX2_readGrid 14 = .ok (.iconst 1, 1) := by decide +kernel
theorem dX2_readGrid_15 : decode cX2_readGrid 15 = .ok (.goto 4, 3) := by decide +kernel
theorem dX2_readGrid_18 : decode cX2_readGrid 18 = .ok (.iconst 0, 1) := by decide +kernel
theorem dX2_readGrid_19 : decode cX2_readGrid 19 = .ok (.istore_n 3, 1) := by decide +kernel
theorem dX2_readGrid_20 : decode cX2_readGrid 20 = .ok (.aload_n 0, 1) := by decide +kernel
theorem dX2_readGrid_21 : decode cX2_readGrid 21 = .ok (.invokevirtual 42, 3) := by decide +kernel
theorem dX2_readGrid_24 : decode cX2_readGrid 24 = .ok (.istore 4, 2) := by decide +kernel
theorem dX2_readGrid_26 : decode cX2_readGrid 26 = .ok (.iload_n 3, 1) := by decide +kernel
theorem dX2_readGrid_27 : decode cX2_readGrid 27 = .ok (.ifCond .eq 26, 3) := by decide +kernel
theorem dX2_readGrid_30 : decode cX2_readGrid 30 = .ok (.aload_n 0, 1) := by decide +kernel
theorem dX2_readGrid_31 : decode cX2_readGrid 31 = .ok (.invokevirtual 34, 3) := by decide +kernel
theorem dX2_readGrid_34 : decode cX2_readGrid 34 = .ok (.bipush 59, 2) := by decide +kernel
theorem dX2_readGrid_36 : decode cX2_readGrid 36 = .ok (.if_icmp .ne 17, 3) := by decide +kernel
theorem dX2_readGrid_39 : decode cX2_readGrid 39 = .ok (.aload_n 1, 1) := by decide +kernel
theorem dX2_readGrid_40 : decode cX2_readGrid 40 = .ok (.iload_n 2, 1) := by decide +kernel
theorem dX2_readGrid_41 : decode cX2_readGrid 41 = .ok (.iload 4, 2) := by decide +kernel
theorem dX2_readGrid_43 : decode cX2_readGrid 43 = .ok (.invokevirtual 62, 3) := by decide +kernel
theorem dX2_readGrid_46 : decode cX2_readGrid 46 = .ok (.ifCond .eq 7, 3) := by decide +kernel
theorem dX2_readGrid_49 : decode cX2_readGrid 49 = .ok (.iconst 1, 1) := by decide +kernel
theorem dX2_readGrid_50 : decode cX2_readGrid 50 = .ok (.goto 4, 3) := by decide +kernel
theorem dX2_readGrid_53 : decode cX2_readGrid 53 = .ok (.iconst 0, 1) := by decide +kernel
theorem dX2_readGrid_54 : decode cX2_readGrid 54 = .ok (.ireturn, 1) := by decide +kernel
noncomputable def f_X2_readGrid_j19 (s : Nat) (l2 : Int32) (w0 : Int32) (mem : Mem) : Option (Int32 × Mem) :=
  ob2 (f_X2_readNumber mem) fun r21 m21 => if w0 = 0 then (some (0, m21)) else (ob2 (f_X2_next m21) fun r31 m31 => if r31 = 59 then (ob2 (f_X5_layGrid s l2 r21 m31) fun r43 m43 => if r43 = 0 then (some (0, m43)) else (some (1, m43))) else (some (0, m31)))
noncomputable def f_X2_readGrid (s : Nat)  (mem : Mem) : Option (Int32 × Mem) :=
  ob2 (f_X2_readNumber mem) fun r1 m1 => ob2 (f_X2_next m1) fun r6 m6 => if r6 = 44 then (f_X2_readGrid_j19 s r1 1 m6) else (f_X2_readGrid_j19 s r1 0 m6)
set_option maxRecDepth 100000 in
set_option maxHeartbeats 4000000 in
theorem j_X2_readGrid_19 {E : Ex} {κ : Kx} {ad : Nat → Nat} {sh sp : Nat} {tl : List Ent} {d : Nat} {s : Nat} (C : Cx E κ cX2_readGrid RX2 5 (some .boolean) d) (hd : 2 ≤ d) (hs : isS s) {l2 : Int32} {w0 : Int32} {mem : Mem} {x : Int32 × Mem} (h : f_X2_readGrid_j19 s l2 w0 mem = some x) (hP : Qr E κ (some (.int x.1)) ad (LC sh sp ++ tl) x.2) : Gw E κ 5 0 0 19 [some (.ref (ad 1)), some (.ref (ad s)), some (.int l2), none, none] [.int w0] ad (LC sh sp ++ tl) mem := by
  unfold f_X2_readGrid_j19 at h
  refine g_istore_n (pc := 19) (i := 3) (lv' := [some (.ref (ad 1)), some (.ref (ad s)), some (.int l2), some (.int w0), none]) C dX2_readGrid_19 rfl (by decide) rfl rfl ?_
  refine g_aload_n (pc := 20) (i := 0) (x := ad 1) C dX2_readGrid_20 rfl rfl ?_
  obtain ⟨r21, m21, hcall21, h⟩ := ob2_some h
  refine g_callV (pc := 21) C ce0 mi_X2_readNumber mv_X2_readNumber wm_X2_42 dX2_readGrid_21 ok_X2 [] [] la_1 (by omega) rfl rfl (Nat.le_of_ble_eq_true rfl) (m_X2_readNumber (d := d - 1) (by omega)  hcall21) ?_
  show Gw E κ 5 0 0 24 [some (.ref (ad 1)), some (.ref (ad s)), some (.int l2), some (.int w0), none] [.int r21] ad (LC sh sp ++ tl) m21
  refine g_istore (pc := 24) (i := 4) (lv' := [some (.ref (ad 1)), some (.ref (ad s)), some (.int l2), some (.int w0), some (.int r21)]) C dX2_readGrid_24 (by decide) rfl rfl ?_
  refine g_iload_n (pc := 26) (i := 3) (x := w0) C dX2_readGrid_26 rfl rfl ?_
  rcases ite_some' h with ⟨hc27, h⟩ | ⟨hc27, h⟩
  · refine g_if_eq_t (pc := 27) C 53 dX2_readGrid_27 (by decide) hc27 ?_
    refine g_iconst (pc := 53) (v := 0) C dX2_readGrid_53 rfl ?_
    cases h
    exact g_iret (pc := 54) C hP rfl rfl dX2_readGrid_54
  · refine g_if_eq_f (pc := 27) C 53 dX2_readGrid_27 (by decide) hc27 ?_
    refine g_aload_n (pc := 30) (i := 0) (x := ad 1) C dX2_readGrid_30 rfl rfl ?_
    obtain ⟨r31, m31, hcall31, h⟩ := ob2_some h
    refine g_callV (pc := 31) C ce0 mi_X2_next mv_X2_next wm_X2_34 dX2_readGrid_31 ok_X2 [] [] la_1 (by omega) rfl rfl (Nat.le_of_ble_eq_true rfl) (m_X2_next (d := d - 1) (by omega)  hcall31) ?_
    show Gw E κ 5 0 0 34 [some (.ref (ad 1)), some (.ref (ad s)), some (.int l2), some (.int w0), some (.int r21)] [.int r31] ad (LC sh sp ++ tl) m31
    refine g_bipush (pc := 34) (v := 59) C dX2_readGrid_34 rfl ?_
    rcases ite_some' h with ⟨hc36, h⟩ | ⟨hc36, h⟩
    · refine g_icmp_ne_f (pc := 36) C 53 dX2_readGrid_36 (by decide) hc36 ?_
      refine g_aload_n (pc := 39) (i := 1) (x := ad s) C dX2_readGrid_39 rfl rfl ?_
      refine g_iload_n (pc := 40) (i := 2) (x := l2) C dX2_readGrid_40 rfl rfl ?_
      refine g_iload (pc := 41) (i := 4) (x := r21) C dX2_readGrid_41 rfl ?_
      obtain ⟨r43, m43, hcall43, h⟩ := ob2_some h
      refine g_callN (pc := 43) C ce0 mi_X5_layGrid mv_X5_layGrid nm_X2_62 dX2_readGrid_43 ok_X5 [.int l2, .int r21] [] (lz_0 hs) (by omega) rfl rfl (Nat.le_of_ble_eq_true rfl) (m_X5_layGrid (d := d - 1) (by omega) hs hcall43) ?_
      show Gw E κ 5 0 0 46 [some (.ref (ad 1)), some (.ref (ad s)), some (.int l2), some (.int w0), some (.int r21)] [.int r43] ad (LC sh sp ++ tl) m43
      rcases ite_some' h with ⟨hc46, h⟩ | ⟨hc46, h⟩
      · refine g_if_eq_t (pc := 46) C 53 dX2_readGrid_46 (by decide) hc46 ?_
        refine g_iconst (pc := 53) (v := 0) C dX2_readGrid_53 rfl ?_
        cases h
        exact g_iret (pc := 54) C hP rfl rfl dX2_readGrid_54
      · refine g_if_eq_f (pc := 46) C 53 dX2_readGrid_46 (by decide) hc46 ?_
        refine g_iconst (pc := 49) (v := 1) C dX2_readGrid_49 rfl ?_
        refine g_goto (pc := 50) C 54 dX2_readGrid_50 (by decide) ?_
        cases h
        exact g_iret (pc := 54) C hP rfl rfl dX2_readGrid_54
    · refine g_icmp_ne_t (pc := 36) C 53 dX2_readGrid_36 (by decide) hc36 ?_
      refine g_iconst (pc := 53) (v := 0) C dX2_readGrid_53 rfl ?_
      cases h
      exact g_iret (pc := 54) C hP rfl rfl dX2_readGrid_54
set_option maxRecDepth 100000 in
set_option maxHeartbeats 4000000 in
theorem m_X2_readGrid {E : Ex} {ad : Nat → Nat} {sh sp : Nat} {tl : List Ent} {d : Nat} (hd : 2 ≤ d) {s : Nat} (hs : isS s)  {mem : Mem} {r : Int32 × Mem} (h : f_X2_readGrid s mem = some r) : Cl E yX2_readGrid cX2_readGrid 5 (some .boolean) d [.ref (ad 1), .ref (ad s)] (some (.int r.1)) ad (LC sh sp ++ tl) mem (LC sh sp ++ tl) r.2 := by
  refine Cl.of [some (.ref (ad 1)), some (.ref (ad s)), none, none, none] (by decide +kernel) rfl (Nat.le_of_ble_eq_true rfl) (fun κ C hP => ?_)
  have C : Cx E κ cX2_readGrid RX2 5 (some .boolean) d := C
  unfold f_X2_readGrid at h
  refine g_aload_n (pc := 0) (i := 0) (x := ad 1) C dX2_readGrid_0 rfl rfl ?_
  obtain ⟨r1, m1, hcall1, h⟩ := ob2_some h
  refine g_callV (pc := 1) C ce0 mi_X2_readNumber mv_X2_readNumber wm_X2_42 dX2_readGrid_1 ok_X2 [] [] la_1 (by omega) rfl rfl (Nat.le_of_ble_eq_true rfl) (m_X2_readNumber (d := d - 1) (by omega)  hcall1) ?_
  show Gw E κ 5 0 0 4 [some (.ref (ad 1)), some (.ref (ad s)), none, none, none] [.int r1] ad (LC sh sp ++ tl) m1
  refine g_istore_n (pc := 4) (i := 2) (lv' := [some (.ref (ad 1)), some (.ref (ad s)), some (.int r1), none, none]) C dX2_readGrid_4 rfl (by decide) rfl rfl ?_
  refine g_aload_n (pc := 5) (i := 0) (x := ad 1) C dX2_readGrid_5 rfl rfl ?_
  obtain ⟨r6, m6, hcall6, h⟩ := ob2_some h
  refine g_callV (pc := 6) C ce0 mi_X2_next mv_X2_next wm_X2_34 dX2_readGrid_6 ok_X2 [] [] la_1 (by omega) rfl rfl (Nat.le_of_ble_eq_true rfl) (m_X2_next (d := d - 1) (by omega)  hcall6) ?_
  show Gw E κ 5 0 0 9 [some (.ref (ad 1)), some (.ref (ad s)), some (.int r1), none, none] [.int r6] ad (LC sh sp ++ tl) m6
  refine g_bipush (pc := 9) (v := 44) C dX2_readGrid_9 rfl ?_
  rcases ite_some' h with ⟨hc11, h⟩ | ⟨hc11, h⟩
  · refine g_icmp_ne_f (pc := 11) C 18 dX2_readGrid_11 (by decide) hc11 ?_
    refine g_iconst (pc := 14) (v := 1) C dX2_readGrid_14 rfl ?_
    refine g_goto (pc := 15) C 19 dX2_readGrid_15 (by decide) ?_
    exact j_X2_readGrid_19 C hd hs h hP
  · refine g_icmp_ne_t (pc := 11) C 18 dX2_readGrid_11 (by decide) hc11 ?_
    refine g_iconst (pc := 18) (v := 0) C dX2_readGrid_18 rfl ?_
    exact j_X2_readGrid_19 C hd hs h hP

theorem dX2_isLetter_0 : decode cX2_isLetter 0 = .ok (.iload_n 0, 1) := by decide +kernel
theorem dX2_isLetter_1 : decode cX2_isLetter 1 = .ok (.bipush 97, 2) := by decide +kernel
theorem dX2_isLetter_3 : decode cX2_isLetter 3 = .ok (.if_icmp .lt 13, 3) := by decide +kernel
theorem dX2_isLetter_6 : decode cX2_isLetter 6 = .ok (.iload_n 0, 1) := by decide +kernel
theorem dX2_isLetter_7 : decode cX2_isLetter 7 = .ok (.bipush 102, 2) := by decide +kernel
theorem dX2_isLetter_9 : decode cX2_isLetter 9 = .ok (.if_icmp .gt 7, 3) := by decide +kernel
theorem dX2_isLetter_12 : decode cX2_isLetter 12 = .ok (.iconst 1, 1) := by decide +kernel
theorem dX2_isLetter_13 : decode cX2_isLetter 13 = .ok (.goto 4, 3) := by decide +kernel
theorem dX2_isLetter_16 : decode cX2_isLetter 16 = .ok (.iconst 0, 1) := by decide +kernel
theorem dX2_isLetter_17 : decode cX2_isLetter 17 = .ok (.ireturn, 1) := by decide +kernel
noncomputable def f_X2_isLetter (l0 : Int32) : Option (Int32) :=
  if l0 < 97 then (some 0) else (if 102 < l0 then (some 0) else (some 1))
set_option maxRecDepth 100000 in
set_option maxHeartbeats 4000000 in
theorem m_X2_isLetter {E : Ex} {ad : Nat → Nat} {lay : List Ent} {d : Nat} (hd : 0 ≤ d)  {l0 : Int32} {mem : Mem} {r : Int32} (h : f_X2_isLetter l0 = some r) : Cl E yX2_isLetter cX2_isLetter 1 (some .boolean) d [.int l0] (some (.int r)) ad lay mem lay mem := by
  refine Cl.of [some (.int l0)] (by decide +kernel) rfl (Nat.le_of_ble_eq_true rfl) (fun κ C hP => ?_)
  have C : Cx E κ cX2_isLetter RX2 1 (some .boolean) d := C
  unfold f_X2_isLetter at h
  refine g_iload_n (pc := 0) (i := 0) (x := l0) C dX2_isLetter_0 rfl rfl ?_
  refine g_bipush (pc := 1) (v := 97) C dX2_isLetter_1 rfl ?_
  rcases ite_some' h with ⟨hc3, h⟩ | ⟨hc3, h⟩
  · refine g_icmp_lt_t (pc := 3) C 16 dX2_isLetter_3 (by decide) hc3 ?_
    refine g_iconst (pc := 16) (v := 0) C dX2_isLetter_16 rfl ?_
    cases h
    exact g_iret (pc := 17) C hP rfl rfl dX2_isLetter_17
  · refine g_icmp_lt_f (pc := 3) C 16 dX2_isLetter_3 (by decide) hc3 ?_
    refine g_iload_n (pc := 6) (i := 0) (x := l0) C dX2_isLetter_6 rfl rfl ?_
    refine g_bipush (pc := 7) (v := 102) C dX2_isLetter_7 rfl ?_
    rcases ite_some' h with ⟨hc9, h⟩ | ⟨hc9, h⟩
    · refine g_icmp_gt_t (pc := 9) C 16 dX2_isLetter_9 (by decide) hc9 ?_
      refine g_iconst (pc := 16) (v := 0) C dX2_isLetter_16 rfl ?_
      cases h
      exact g_iret (pc := 17) C hP rfl rfl dX2_isLetter_17
    · refine g_icmp_gt_f (pc := 9) C 16 dX2_isLetter_9 (by decide) hc9 ?_
      refine g_iconst (pc := 12) (v := 1) C dX2_isLetter_12 rfl ?_
      refine g_goto (pc := 13) C 17 dX2_isLetter_13 (by decide) ?_
      cases h
      exact g_iret (pc := 17) C hP rfl rfl dX2_isLetter_17

theorem dX2_readLetter_0 : decode cX2_readLetter 0 = .ok (.aload_n 0, 1) := by decide +kernel
theorem dX2_readLetter_1 : decode cX2_readLetter 1 = .ok (.invokevirtual 65, 3) := by decide +kernel
theorem dX2_readLetter_4 : decode cX2_readLetter 4 = .ok (.invokestatic 68, 3) := by decide +kernel
theorem dX2_readLetter_7 : decode cX2_readLetter 7 = .ok (.ifCond .eq 15, 3) := by decide +kernel
theorem dX2_readLetter_10 : decode cX2_readLetter 10 = .ok (.aload_n 0, 1) := by decide +kernel
theorem dX2_readLetter_11 : decode cX2_readLetter 11 = .ok (.invokevirtual 34, 3) := by decide +kernel
theorem dX2_readLetter_14 : decode cX2_readLetter 14 = .ok (.bipush 97, 2) := by decide +kernel
theorem dX2_readLetter_16 : decode cX2_readLetter 16 = .ok (.isub, 1) := by decide +kernel
theorem dX2_readLetter_17 : decode cX2_readLetter 17 = .ok (.iconst 1, 1) := by decide +kernel
theorem dX2_readLetter_18 : decode cX2_readLetter 18 = .ok (.iadd, 1) := by decide +kernel
theorem dX2_readLetter_19 : decode cX2_readLetter 19 = .ok (.goto 4, 3) := by decide +kernel
theorem dX2_readLetter_22 : decode cX2_readLetter 22 = .ok (.iconst (-1), 1) := by decide +kernel
theorem dX2_readLetter_23 : decode cX2_readLetter 23 = .ok (.ireturn, 1) := by decide +kernel
noncomputable def f_X2_readLetter  (mem : Mem) : Option (Int32 × Mem) :=
  ob (f_X2_peek mem) fun r1 => ob (f_X2_isLetter r1) fun r4 => if r4 = 0 then (some ((-1), mem)) else (ob2 (f_X2_next mem) fun r11 m11 => lt' ((r11 - 97) + 1) fun v23 => some (v23, m11))
set_option maxRecDepth 100000 in
set_option maxHeartbeats 4000000 in
theorem m_X2_readLetter {E : Ex} {ad : Nat → Nat} {sh sp : Nat} {tl : List Ent} {d : Nat} (hd : 1 ≤ d)   {mem : Mem} {r : Int32 × Mem} (h : f_X2_readLetter mem = some r) : Cl E yX2_readLetter cX2_readLetter 1 (some .int) d [.ref (ad 1)] (some (.int r.1)) ad (LC sh sp ++ tl) mem (LC sh sp ++ tl) r.2 := by
  refine Cl.of [some (.ref (ad 1))] (by decide +kernel) rfl (Nat.le_of_ble_eq_true rfl) (fun κ C hP => ?_)
  have C : Cx E κ cX2_readLetter RX2 1 (some .int) d := C
  unfold f_X2_readLetter at h
  refine g_aload_n (pc := 0) (i := 0) (x := ad 1) C dX2_readLetter_0 rfl rfl ?_
  obtain ⟨r1, hcall1, h⟩ := ob_some h
  refine g_callV (pc := 1) C ce0 mi_X2_peek mv_X2_peek wm_X2_65 dX2_readLetter_1 ok_X2 [] [] la_1 (by omega) rfl rfl (Nat.le_of_ble_eq_true rfl) (m_X2_peek (d := d - 1) (by omega)  hcall1) ?_
  show Gw E κ 1 0 0 4 [some (.ref (ad 1))] [.int r1] ad (LC sh sp ++ tl) mem
  obtain ⟨r4, hcall4, h⟩ := ob_some h
  refine g_callS (pc := 4) C ce0 mi_X2_isLetter ms_X2_isLetter wm_X2_68 dX2_readLetter_4 [.int r1] [] (by omega) rfl rfl (Nat.le_of_ble_eq_true rfl) (m_X2_isLetter (d := d - 1) (by omega)  hcall4) ?_
  show Gw E κ 1 0 0 7 [some (.ref (ad 1))] [.int r4] ad (LC sh sp ++ tl) mem
  rcases ite_some' h with ⟨hc7, h⟩ | ⟨hc7, h⟩
  · refine g_if_eq_t (pc := 7) C 22 dX2_readLetter_7 (by decide) hc7 ?_
    refine g_iconst (pc := 22) (v := (-1)) C dX2_readLetter_22 rfl ?_
    cases h
    exact g_iret (pc := 23) C hP rfl rfl dX2_readLetter_23
  · refine g_if_eq_f (pc := 7) C 22 dX2_readLetter_7 (by decide) hc7 ?_
    refine g_aload_n (pc := 10) (i := 0) (x := ad 1) C dX2_readLetter_10 rfl rfl ?_
    obtain ⟨r11, m11, hcall11, h⟩ := ob2_some h
    refine g_callV (pc := 11) C ce0 mi_X2_next mv_X2_next wm_X2_34 dX2_readLetter_11 ok_X2 [] [] la_1 (by omega) rfl rfl (Nat.le_of_ble_eq_true rfl) (m_X2_next (d := d - 1) (by omega)  hcall11) ?_
    show Gw E κ 1 0 0 14 [some (.ref (ad 1))] [.int r11] ad (LC sh sp ++ tl) m11
    refine g_bipush (pc := 14) (v := 97) C dX2_readLetter_14 rfl ?_
    refine g_isub (pc := 16) C dX2_readLetter_16 ?_
    refine g_iconst (pc := 17) (v := 1) C dX2_readLetter_17 rfl ?_
    refine g_iadd (pc := 18) C dX2_readLetter_18 ?_
    refine g_goto (pc := 19) C 23 dX2_readLetter_19 (by decide) ?_
    obtain ⟨v23, hv23, h⟩ := lt_some h
    refine g_topi hv23 ?_
    cases h
    exact g_iret (pc := 23) C hP rfl rfl dX2_readLetter_23

theorem dX2_readWord_0 : decode cX2_readWord 0 = .ok (.iconst 0, 1) := by decide +kernel
theorem dX2_readWord_1 : decode cX2_readWord 1 = .ok (.istore_n 2, 1) := by decide +kernel
theorem dX2_readWord_2 : decode cX2_readWord 2 = .ok (.iconst 0, 1) := by decide +kernel
theorem dX2_readWord_3 : decode cX2_readWord 3 = .ok (.istore_n 3, 1) := by decide +kernel
theorem dX2_readWord_4 : decode cX2_readWord 4 = .ok (.iconst 0, 1) := by decide +kernel
theorem dX2_readWord_5 : decode cX2_readWord 5 = .ok (.istore 4, 2) := by decide +kernel
theorem dX2_readWord_7 : decode cX2_readWord 7 = .ok (.iload 4, 2) := by decide +kernel
theorem dX2_readWord_9 : decode cX2_readWord 9 = .ok (.iconst 4, 1) := by decide +kernel
theorem dX2_readWord_10 : decode cX2_readWord 10 = .ok (.if_icmp .gt 34, 3) := by decide +kernel
theorem dX2_readWord_13 : decode cX2_readWord 13 = .ok (.aload_n 0, 1) := by decide +kernel
theorem dX2_readWord_14 : decode cX2_readWord 14 = .ok (.invokevirtual 65, 3) := by decide +kernel
theorem dX2_readWord_17 : decode cX2_readWord 17 = .ok (.invokestatic 68, 3) := by decide +kernel
theorem dX2_readWord_20 : decode cX2_readWord 20 = .ok (.ifCond .eq 24, 3) := by decide +kernel
theorem dX2_readWord_23 : decode cX2_readWord 23 = .ok (.iload_n 2, 1) := by decide +kernel
theorem dX2_readWord_24 : decode cX2_readWord 24 = .ok (.aload_n 0, 1) := by decide +kernel
theorem dX2_readWord_25 : decode cX2_readWord 25 = .ok (.invokevirtual 52, 3) := by decide +kernel
theorem dX2_readWord_28 : decode cX2_readWord 28 = .ok (.iconst 3, 1) := by decide +kernel
theorem dX2_readWord_29 : decode cX2_readWord 29 = .ok (.iload 4, 2) := by decide +kernel
theorem dX2_readWord_31 : decode cX2_readWord 31 = .ok (.imul, 1) := by decide +kernel
theorem dX2_readWord_32 : decode cX2_readWord 32 = .ok (.ishl, 1) := by decide +kernel
theorem dX2_readWord_33 : decode cX2_readWord 33 = .ok (.ior, 1) := by decide +kernel
theorem dX2_readWord_34 : decode cX2_readWord 34 = .ok (.istore_n 2, 1) := by decide +kernel
theorem dX2_readWord_35 : decode cX2_readWord 35 = .ok (.iinc 3 1, 3) := by decide +kernel
theorem dX2_readWord_38 : decode cX2_readWord 38 = .ok (.iinc 4 1, 3) := by decide +kernel
theorem dX2_readWord_41 : decode cX2_readWord 41 = .ok (.goto (-34), 3) := by decide +kernel
theorem dX2_readWord_44 : decode cX2_readWord 44 = .ok (.aload_n 0, 1) := by decide +kernel
theorem dX2_readWord_45 : decode cX2_readWord 45 = .ok (.invokevirtual 34, 3) := by decide +kernel
theorem dX2_readWord_48 : decode cX2_readWord 48 = .ok (.bipush 59, 2) := by decide +kernel
theorem dX2_readWord_50 : decode cX2_readWord 50 = .ok (.if_icmp .ne 16, 3) := by decide +kernel
theorem dX2_readWord_53 : decode cX2_readWord 53 = .ok (.aload_n 1, 1) := by decide +kernel
theorem dX2_readWord_54 : decode cX2_readWord 54 = .ok (.iload_n 2, 1) := by decide +kernel
theorem dX2_readWord_55 : decode cX2_readWord 55 = .ok (.iload_n 3, 1) := by decide +kernel
theorem dX2_readWord_56 : decode cX2_readWord 56 = .ok (.invokevirtual 71, 3) := by decide +kernel
theorem dX2_readWord_59 : decode cX2_readWord 59 = .ok (.ifCond .eq 7, 3) := by decide +kernel
theorem dX2_readWord_62 : decode cX2_readWord 62 = .ok (.iconst 1, 1) := by decide +kernel
theorem dX2_readWord_63 : decode cX2_readWord 63 = .ok (.goto 4, 3) := by decide +kernel
theorem dX2_readWord_66 : decode cX2_readWord 66 = .ok (.iconst 0, 1) := by decide +kernel
theorem dX2_readWord_67 : decode cX2_readWord 67 = .ok (.ireturn, 1) := by decide +kernel
noncomputable def f_X2_readWord_b7 (s : Nat) (q : Int32 × Int32 × Int32 × Mem) : Option ((Int32 × Int32 × Int32 × Mem) ⊕ (Int32 × Int32 × Int32 × Mem)) :=
  if 4 < q.2.2.1 then (some (.inr (q.1, q.2.1, q.2.2.1, q.2.2.2))) else (ob (f_X2_peek q.2.2.2) fun r14 => ob (f_X2_isLetter r14) fun r17 => if r17 = 0 then (some (.inr (q.1, q.2.1, q.2.2.1, q.2.2.2))) else (ob2 (f_X2_readLetter q.2.2.2) fun r25 m25 => lt' (q.1 ||| (r25 <<< ((3 * q.2.2.1) &&& 31))) fun v34 => lt' (q.2.1 + 1) fun v35 => lt' (q.2.2.1 + 1) fun v38 => some (.inl (v34, v35, v38, m25))))
noncomputable def f_X2_readWord_j44 (s : Nat) (l2 : Int32) (l3 : Int32) (mem : Mem) : Option (Int32 × Mem) :=
  ob2 (f_X2_next mem) fun r45 m45 => if r45 = 59 then (ob2 (f_X5_addWord s l2 l3 m45) fun r56 m56 => if r56 = 0 then (some (0, m56)) else (some (1, m56))) else (some (0, m45))
noncomputable def f_X2_readWord (s : Nat)  (mem : Mem) : Option (Int32 × Mem) :=
  ob (lp (f_X2_readWord_b7 s) FU (0, 0, 0, mem)) fun q7 => f_X2_readWord_j44 s q7.1 q7.2.1 q7.2.2.2
def P_X2_readWord_7 (E : Ex) (κ : Kx) (ad : Nat → Nat) (lay : List Ent) (s : Nat) : (Int32 × Int32 × Int32 × Mem) ⊕ (Int32 × Int32 × Int32 × Mem) → Prop
  | .inl q => Gw E κ 5 0 0 7 [some (.ref (ad 1)), some (.ref (ad s)), some (.int q.1), some (.int q.2.1), some (.int q.2.2.1)] [] ad lay q.2.2.2
  | .inr q => Gw E κ 5 0 0 44 [some (.ref (ad 1)), some (.ref (ad s)), some (.int q.1), some (.int q.2.1), none] [] ad lay q.2.2.2
set_option maxRecDepth 100000 in
set_option maxHeartbeats 4000000 in
theorem b_X2_readWord_7 {E : Ex} {κ : Kx} {ad : Nat → Nat} {sh sp : Nat} {tl : List Ent} {d : Nat} {s : Nat} (C : Cx E κ cX2_readWord RX2 5 (some .boolean) d) (hd : 2 ≤ d) (hs : isS s) {q : Int32 × Int32 × Int32 × Mem} {x : (Int32 × Int32 × Int32 × Mem) ⊕ (Int32 × Int32 × Int32 × Mem)} (h : f_X2_readWord_b7 s q = some x) (hP : (P_X2_readWord_7 E κ ad (LC sh sp ++ tl) s) x) : Gw E κ 5 0 0 7 [some (.ref (ad 1)), some (.ref (ad s)), some (.int q.1), some (.int q.2.1), some (.int q.2.2.1)] [] ad (LC sh sp ++ tl) q.2.2.2 := by
  unfold f_X2_readWord_b7 at h
  refine g_iload (pc := 7) (i := 4) (x := q.2.2.1) C dX2_readWord_7 rfl ?_
  refine g_iconst (pc := 9) (v := 4) C dX2_readWord_9 rfl ?_
  rcases ite_some' h with ⟨hc10, h⟩ | ⟨hc10, h⟩
  · refine g_icmp_gt_t (pc := 10) C 44 dX2_readWord_10 (by decide) hc10 ?_
    refine g_mask (lv' := [some (.ref (ad 1)), some (.ref (ad s)), some (.int q.1), some (.int q.2.1), none]) [true, true, true, true, false] rfl ?_
    cases h
    exact hP
  · refine g_icmp_gt_f (pc := 10) C 44 dX2_readWord_10 (by decide) hc10 ?_
    refine g_aload_n (pc := 13) (i := 0) (x := ad 1) C dX2_readWord_13 rfl rfl ?_
    obtain ⟨r14, hcall14, h⟩ := ob_some h
    refine g_callV (pc := 14) C ce0 mi_X2_peek mv_X2_peek wm_X2_65 dX2_readWord_14 ok_X2 [] [] la_1 (by omega) rfl rfl (Nat.le_of_ble_eq_true rfl) (m_X2_peek (d := d - 1) (by omega)  hcall14) ?_
    show Gw E κ 5 0 0 17 [some (.ref (ad 1)), some (.ref (ad s)), some (.int q.1), some (.int q.2.1), some (.int q.2.2.1)] [.int r14] ad (LC sh sp ++ tl) q.2.2.2
    obtain ⟨r17, hcall17, h⟩ := ob_some h
    refine g_callS (pc := 17) C ce0 mi_X2_isLetter ms_X2_isLetter wm_X2_68 dX2_readWord_17 [.int r14] [] (by omega) rfl rfl (Nat.le_of_ble_eq_true rfl) (m_X2_isLetter (d := d - 1) (by omega)  hcall17) ?_
    show Gw E κ 5 0 0 20 [some (.ref (ad 1)), some (.ref (ad s)), some (.int q.1), some (.int q.2.1), some (.int q.2.2.1)] [.int r17] ad (LC sh sp ++ tl) q.2.2.2
    rcases ite_some' h with ⟨hc20, h⟩ | ⟨hc20, h⟩
    · refine g_if_eq_t (pc := 20) C 44 dX2_readWord_20 (by decide) hc20 ?_
      refine g_mask (lv' := [some (.ref (ad 1)), some (.ref (ad s)), some (.int q.1), some (.int q.2.1), none]) [true, true, true, true, false] rfl ?_
      cases h
      exact hP
    · refine g_if_eq_f (pc := 20) C 44 dX2_readWord_20 (by decide) hc20 ?_
      refine g_iload_n (pc := 23) (i := 2) (x := q.1) C dX2_readWord_23 rfl rfl ?_
      refine g_aload_n (pc := 24) (i := 0) (x := ad 1) C dX2_readWord_24 rfl rfl ?_
      obtain ⟨r25, m25, hcall25, h⟩ := ob2_some h
      refine g_callV (pc := 25) C ce0 mi_X2_readLetter mv_X2_readLetter wm_X2_52 dX2_readWord_25 ok_X2 [] [.int q.1] la_1 (by omega) rfl rfl (Nat.le_of_ble_eq_true rfl) (m_X2_readLetter (d := d - 1) (by omega)  hcall25) ?_
      show Gw E κ 5 0 0 28 [some (.ref (ad 1)), some (.ref (ad s)), some (.int q.1), some (.int q.2.1), some (.int q.2.2.1)] [.int r25, .int q.1] ad (LC sh sp ++ tl) m25
      refine g_iconst (pc := 28) (v := 3) C dX2_readWord_28 rfl ?_
      refine g_iload (pc := 29) (i := 4) (x := q.2.2.1) C dX2_readWord_29 rfl ?_
      refine g_imul (pc := 31) C dX2_readWord_31 ?_
      refine g_ishl (pc := 32) C dX2_readWord_32 ?_
      refine g_ior (pc := 33) C dX2_readWord_33 ?_
      obtain ⟨v34, hv34, h⟩ := lt_some h
      refine g_topi hv34 ?_
      refine g_istore_n (pc := 34) (i := 2) (lv' := [some (.ref (ad 1)), some (.ref (ad s)), some (.int v34), some (.int q.2.1), some (.int q.2.2.1)]) C dX2_readWord_34 rfl (by decide) rfl rfl ?_
      obtain ⟨v35, hv35, h⟩ := lt_some h
      refine g_iinc (pc := 35) (i := 3) (x := q.2.1) (v := v35) (lv' := [some (.ref (ad 1)), some (.ref (ad s)), some (.int v34), some (.int v35), some (.int q.2.2.1)]) C dX2_readWord_35 rfl hv35.symm (by decide) rfl rfl ?_
      obtain ⟨v38, hv38, h⟩ := lt_some h
      refine g_iinc (pc := 38) (i := 4) (x := q.2.2.1) (v := v38) (lv' := [some (.ref (ad 1)), some (.ref (ad s)), some (.int v34), some (.int v35), some (.int v38)]) C dX2_readWord_38 rfl hv38.symm (by decide) rfl rfl ?_
      refine g_goto (pc := 41) C 7 dX2_readWord_41 (by decide) ?_
      cases h
      exact hP
set_option maxRecDepth 100000 in
set_option maxHeartbeats 4000000 in
theorem j_X2_readWord_44 {E : Ex} {κ : Kx} {ad : Nat → Nat} {sh sp : Nat} {tl : List Ent} {d : Nat} {s : Nat} (C : Cx E κ cX2_readWord RX2 5 (some .boolean) d) (hd : 2 ≤ d) (hs : isS s) {l2 : Int32} {l3 : Int32} {mem : Mem} {x : Int32 × Mem} (h : f_X2_readWord_j44 s l2 l3 mem = some x) (hP : Qr E κ (some (.int x.1)) ad (LC sh sp ++ tl) x.2) : Gw E κ 5 0 0 44 [some (.ref (ad 1)), some (.ref (ad s)), some (.int l2), some (.int l3), none] [] ad (LC sh sp ++ tl) mem := by
  unfold f_X2_readWord_j44 at h
  refine g_aload_n (pc := 44) (i := 0) (x := ad 1) C dX2_readWord_44 rfl rfl ?_
  obtain ⟨r45, m45, hcall45, h⟩ := ob2_some h
  refine g_callV (pc := 45) C ce0 mi_X2_next mv_X2_next wm_X2_34 dX2_readWord_45 ok_X2 [] [] la_1 (by omega) rfl rfl (Nat.le_of_ble_eq_true rfl) (m_X2_next (d := d - 1) (by omega)  hcall45) ?_
  show Gw E κ 5 0 0 48 [some (.ref (ad 1)), some (.ref (ad s)), some (.int l2), some (.int l3), none] [.int r45] ad (LC sh sp ++ tl) m45
  refine g_bipush (pc := 48) (v := 59) C dX2_readWord_48 rfl ?_
  rcases ite_some' h with ⟨hc50, h⟩ | ⟨hc50, h⟩
  · refine g_icmp_ne_f (pc := 50) C 66 dX2_readWord_50 (by decide) hc50 ?_
    refine g_aload_n (pc := 53) (i := 1) (x := ad s) C dX2_readWord_53 rfl rfl ?_
    refine g_iload_n (pc := 54) (i := 2) (x := l2) C dX2_readWord_54 rfl rfl ?_
    refine g_iload_n (pc := 55) (i := 3) (x := l3) C dX2_readWord_55 rfl rfl ?_
    obtain ⟨r56, m56, hcall56, h⟩ := ob2_some h
    refine g_callN (pc := 56) C ce0 mi_X5_addWord mv_X5_addWord nm_X2_71 dX2_readWord_56 ok_X5 [.int l2, .int l3] [] (lz_0 hs) (by omega) rfl rfl (Nat.le_of_ble_eq_true rfl) (m_X5_addWord (d := d - 1) (by omega) hs hcall56) ?_
    show Gw E κ 5 0 0 59 [some (.ref (ad 1)), some (.ref (ad s)), some (.int l2), some (.int l3), none] [.int r56] ad (LC sh sp ++ tl) m56
    rcases ite_some' h with ⟨hc59, h⟩ | ⟨hc59, h⟩
    · refine g_if_eq_t (pc := 59) C 66 dX2_readWord_59 (by decide) hc59 ?_
      refine g_iconst (pc := 66) (v := 0) C dX2_readWord_66 rfl ?_
      cases h
      exact g_iret (pc := 67) C hP rfl rfl dX2_readWord_67
    · refine g_if_eq_f (pc := 59) C 66 dX2_readWord_59 (by decide) hc59 ?_
      refine g_iconst (pc := 62) (v := 1) C dX2_readWord_62 rfl ?_
      refine g_goto (pc := 63) C 67 dX2_readWord_63 (by decide) ?_
      cases h
      exact g_iret (pc := 67) C hP rfl rfl dX2_readWord_67
  · refine g_icmp_ne_t (pc := 50) C 66 dX2_readWord_50 (by decide) hc50 ?_
    refine g_iconst (pc := 66) (v := 0) C dX2_readWord_66 rfl ?_
    cases h
    exact g_iret (pc := 67) C hP rfl rfl dX2_readWord_67
set_option maxRecDepth 100000 in
set_option maxHeartbeats 4000000 in
theorem m_X2_readWord {E : Ex} {ad : Nat → Nat} {sh sp : Nat} {tl : List Ent} {d : Nat} (hd : 2 ≤ d) {s : Nat} (hs : isS s)  {mem : Mem} {r : Int32 × Mem} (h : f_X2_readWord s mem = some r) : Cl E yX2_readWord cX2_readWord 5 (some .boolean) d [.ref (ad 1), .ref (ad s)] (some (.int r.1)) ad (LC sh sp ++ tl) mem (LC sh sp ++ tl) r.2 := by
  refine Cl.of [some (.ref (ad 1)), some (.ref (ad s)), none, none, none] (by decide +kernel) rfl (Nat.le_of_ble_eq_true rfl) (fun κ C hP => ?_)
  have C : Cx E κ cX2_readWord RX2 5 (some .boolean) d := C
  unfold f_X2_readWord at h
  refine g_iconst (pc := 0) (v := 0) C dX2_readWord_0 rfl ?_
  refine g_istore_n (pc := 1) (i := 2) (lv' := [some (.ref (ad 1)), some (.ref (ad s)), some (.int 0), none, none]) C dX2_readWord_1 rfl (by decide) rfl rfl ?_
  refine g_iconst (pc := 2) (v := 0) C dX2_readWord_2 rfl ?_
  refine g_istore_n (pc := 3) (i := 3) (lv' := [some (.ref (ad 1)), some (.ref (ad s)), some (.int 0), some (.int 0), none]) C dX2_readWord_3 rfl (by decide) rfl rfl ?_
  refine g_iconst (pc := 4) (v := 0) C dX2_readWord_4 rfl ?_
  refine g_istore (pc := 5) (i := 4) (lv' := [some (.ref (ad 1)), some (.ref (ad s)), some (.int 0), some (.int 0), some (.int 0)]) C dX2_readWord_5 (by decide) rfl rfl ?_
  obtain ⟨q7, hq, h⟩ := ob_some h
  refine lp_gw (P_X2_readWord_7 E κ ad (LC sh sp ++ tl) s) (fun q x hb hp => b_X2_readWord_7 C hd hs hb hp) _ (0, 0, 0, mem) _ hq ?_
  show Gw E κ 5 0 0 44 [some (.ref (ad 1)), some (.ref (ad s)), some (.int q7.1), some (.int q7.2.1), none] [] ad (LC sh sp ++ tl) q7.2.2.2
  exact j_X2_readWord_44 C hd hs h hP

theorem dX2_readSolver_0 : decode cX2_readSolver 0 = .ok (.aload_n 0, 1) := by decide +kernel
theorem dX2_readSolver_1 : decode cX2_readSolver 1 = .ok (.invokevirtual 42, 3) := by decide +kernel
theorem dX2_readSolver_4 : decode cX2_readSolver 4 = .ok (.istore_n 2, 1) := by decide +kernel
theorem dX2_readSolver_5 : decode cX2_readSolver 5 = .ok (.aload_n 0, 1) := by decide +kernel
theorem dX2_readSolver_6 : decode cX2_readSolver 6 = .ok (.invokevirtual 34, 3) := by decide +kernel
theorem dX2_readSolver_9 : decode cX2_readSolver 9 = .ok (.bipush 44, 2) := by decide +kernel
theorem dX2_readSolver_11 : decode cX2_readSolver 11 = .ok (.if_icmp .ne 7, 3) := by decide +kernel
theorem dX2_readSolver_14 : decode cX2_readSolver 14 = .ok (.iconst 1, 1) := by decide +kernel
theorem dX2_readSolver_15 : decode cX2_readSolver 15 = .ok (.goto 4, 3) := by decide +kernel
theorem dX2_readSolver_18 : decode cX2_readSolver 18 = .ok (.iconst 0, 1) := by decide +kernel
theorem dX2_readSolver_19 : decode cX2_readSolver 19 = .ok (.istore_n 3, 1) := by decide +kernel
theorem dX2_readSolver_20 : decode cX2_readSolver 20 = .ok (.aload_n 0, 1) := by decide +kernel
theorem dX2_readSolver_21 : decode cX2_readSolver 21 = .ok (.invokevirtual 42, 3) := by decide +kernel
theorem dX2_readSolver_24 : decode cX2_readSolver 24 = .ok (.istore 4, 2) := by decide +kernel
theorem dX2_readSolver_26 : decode cX2_readSolver 26 = .ok (.aload_n 0, 1) := by decide +kernel
theorem dX2_readSolver_27 : decode cX2_readSolver 27 = .ok (.invokevirtual 34, 3) := by decide +kernel
theorem dX2_readSolver_30 : decode cX2_readSolver 30 = .ok (.bipush 44, 2) := by decide +kernel
theorem dX2_readSolver_32 : decode cX2_readSolver 32 = .ok (.if_icmp .ne 11, 3) := by decide +kernel
theorem dX2_readSolver_35 : decode cX2_readSolver 35 = .ok (.iload_n 3, 1) := by decide +kernel
theorem dX2_readSolver_36 : decode cX2_readSolver 36 = .ok (.ifCond .eq 7, 3) := by decide +kernel
theorem dX2_readSolver_39 : decode cX2_readSolver 39 = .ok (.iconst 1, 1) := by decide +kernel
theorem dX2_readSolver_40 : decode cX2_readSolver 40 = .ok (.goto 4, 3) := by decide +kernel
theorem dX2_readSolver_43 : decode cX2_readSolver 43 = .ok (.iconst 0, 1) := by decide +kernel
theorem dX2_readSolver_44 : decode cX2_readSolver 44 = .ok (.istore_n 3, 1) := by decide +kernel
theorem dX2_readSolver_45 : decode cX2_readSolver 45 = .ok (.aload_n 0, 1) := by decide +kernel
theorem dX2_readSolver_46 : decode cX2_readSolver 46 = .ok (.invokevirtual 42, 3) := by decide +kernel
theorem dX2_readSolver_49 : decode cX2_readSolver 49 = .ok (.istore 5, 2) := by decide +kernel
theorem dX2_readSolver_51 : decode cX2_readSolver 51 = .ok (.iload_n 3, 1) := by decide +kernel
theorem dX2_readSolver_52 : decode cX2_readSolver 52 = .ok (.ifCond .eq 28, 3) := by decide +kernel
theorem dX2_readSolver_55 : decode cX2_readSolver 55 = .ok (.aload_n 0, 1) := by decide +kernel
theorem dX2_readSolver_56 : decode cX2_readSolver 56 = .ok (.invokevirtual 34, 3) := by decide +kernel
theorem dX2_readSolver_59 : decode cX2_readSolver 59 = .ok (.bipush 59, 2) := by decide +kernel
theorem dX2_readSolver_61 : decode cX2_readSolver 61 = .ok (.if_icmp .ne 19, 3) := by decide +kernel
theorem dX2_readSolver_64 : decode cX2_readSolver 64 = .ok (.aload_n 1, 1) := by decide +kernel
theorem dX2_readSolver_65 : decode cX2_readSolver 65 = .ok (.iload_n 2, 1) := by decide +kernel
theorem dX2_readSolver_66 : decode cX2_readSolver 66 = .ok (.iload 4, 2) := by decide +kernel
theorem dX2_readSolver_68 : decode cX2_readSolver 68 = .ok (.iload 5, 2) := by decide +kernel
theorem dX2_readSolver_70 : decode cX2_readSolver 70 = .ok (.invokevirtual 74, 3) := by decide +kernel
theorem dX2_readSolver_73 : decode cX2_readSolver 73 = .ok (.ifCond .eq 7, 3) := by decide +kernel
theorem dX2_readSolver_76 : decode cX2_readSolver 76 = .ok (.iconst 1, 1) := by decide +kernel
theorem dX2_readSolver_77 : decode cX2_readSolver 77 = .ok (.goto 4, 3) := by decide +kernel
theorem dX2_readSolver_80 : decode cX2_readSolver 80 = .ok (.iconst 0, 1) := by decide +kernel
theorem dX2_readSolver_81 : decode cX2_readSolver 81 = .ok (.ireturn, 1) := by decide +kernel
noncomputable def f_X2_readSolver_j44 (s : Nat) (l2 : Int32) (l4 : Int32) (w0 : Int32) (mem : Mem) : Option (Int32 × Mem) :=
  ob2 (f_X2_readNumber mem) fun r46 m46 => if w0 = 0 then (some (0, m46)) else (ob2 (f_X2_next m46) fun r56 m56 => if r56 = 59 then (ob2 (f_X5_addSolver s l2 l4 r46 m56) fun r70 m70 => if r70 = 0 then (some (0, m70)) else (some (1, m70))) else (some (0, m56)))
noncomputable def f_X2_readSolver_j43 (s : Nat) (l2 : Int32) (l4 : Int32) (mem : Mem) : Option (Int32 × Mem) :=
  f_X2_readSolver_j44 s l2 l4 0 mem
noncomputable def f_X2_readSolver_j19 (s : Nat) (l2 : Int32) (w0 : Int32) (mem : Mem) : Option (Int32 × Mem) :=
  ob2 (f_X2_readNumber mem) fun r21 m21 => ob2 (f_X2_next m21) fun r27 m27 => if r27 = 44 then (if w0 = 0 then (f_X2_readSolver_j43 s l2 r21 m27) else (f_X2_readSolver_j44 s l2 r21 1 m27)) else (f_X2_readSolver_j43 s l2 r21 m27)
noncomputable def f_X2_readSolver (s : Nat)  (mem : Mem) : Option (Int32 × Mem) :=
  ob2 (f_X2_readNumber mem) fun r1 m1 => ob2 (f_X2_next m1) fun r6 m6 => if r6 = 44 then (f_X2_readSolver_j19 s r1 1 m6) else (f_X2_readSolver_j19 s r1 0 m6)
set_option maxRecDepth 100000 in
set_option maxHeartbeats 4000000 in
theorem j_X2_readSolver_44 {E : Ex} {κ : Kx} {ad : Nat → Nat} {sh sp : Nat} {tl : List Ent} {d : Nat} {s : Nat} (C : Cx E κ cX2_readSolver RX2 6 (some .boolean) d) (hd : 2 ≤ d) (hs : isS s) {l2 : Int32} {l4 : Int32} {w0 : Int32} {mem : Mem} {x : Int32 × Mem} (h : f_X2_readSolver_j44 s l2 l4 w0 mem = some x) (hP : Qr E κ (some (.int x.1)) ad (LC sh sp ++ tl) x.2) : Gw E κ 6 0 0 44 [some (.ref (ad 1)), some (.ref (ad s)), some (.int l2), none, some (.int l4), none] [.int w0] ad (LC sh sp ++ tl) mem := by
  unfold f_X2_readSolver_j44 at h
  refine g_istore_n (pc := 44) (i := 3) (lv' := [some (.ref (ad 1)), some (.ref (ad s)), some (.int l2), some (.int w0), some (.int l4), none]) C dX2_readSolver_44 rfl (by decide) rfl rfl ?_
  refine g_aload_n (pc := 45) (i := 0) (x := ad 1) C dX2_readSolver_45 rfl rfl ?_
  obtain ⟨r46, m46, hcall46, h⟩ := ob2_some h
  refine g_callV (pc := 46) C ce0 mi_X2_readNumber mv_X2_readNumber wm_X2_42 dX2_readSolver_46 ok_X2 [] [] la_1 (by omega) rfl rfl (Nat.le_of_ble_eq_true rfl) (m_X2_readNumber (d := d - 1) (by omega)  hcall46) ?_
  show Gw E κ 6 0 0 49 [some (.ref (ad 1)), some (.ref (ad s)), some (.int l2), some (.int w0), some (.int l4), none] [.int r46] ad (LC sh sp ++ tl) m46
  refine g_istore (pc := 49) (i := 5) (lv' := [some (.ref (ad 1)), some (.ref (ad s)), some (.int l2), some (.int w0), some (.int l4), some (.int r46)]) C dX2_readSolver_49 (by decide) rfl rfl ?_
  refine g_iload_n (pc := 51) (i := 3) (x := w0) C dX2_readSolver_51 rfl rfl ?_
  rcases ite_some' h with ⟨hc52, h⟩ | ⟨hc52, h⟩
  · refine g_if_eq_t (pc := 52) C 80 dX2_readSolver_52 (by decide) hc52 ?_
    refine g_iconst (pc := 80) (v := 0) C dX2_readSolver_80 rfl ?_
    cases h
    exact g_iret (pc := 81) C hP rfl rfl dX2_readSolver_81
  · refine g_if_eq_f (pc := 52) C 80 dX2_readSolver_52 (by decide) hc52 ?_
    refine g_aload_n (pc := 55) (i := 0) (x := ad 1) C dX2_readSolver_55 rfl rfl ?_
    obtain ⟨r56, m56, hcall56, h⟩ := ob2_some h
    refine g_callV (pc := 56) C ce0 mi_X2_next mv_X2_next wm_X2_34 dX2_readSolver_56 ok_X2 [] [] la_1 (by omega) rfl rfl (Nat.le_of_ble_eq_true rfl) (m_X2_next (d := d - 1) (by omega)  hcall56) ?_
    show Gw E κ 6 0 0 59 [some (.ref (ad 1)), some (.ref (ad s)), some (.int l2), some (.int w0), some (.int l4), some (.int r46)] [.int r56] ad (LC sh sp ++ tl) m56
    refine g_bipush (pc := 59) (v := 59) C dX2_readSolver_59 rfl ?_
    rcases ite_some' h with ⟨hc61, h⟩ | ⟨hc61, h⟩
    · refine g_icmp_ne_f (pc := 61) C 80 dX2_readSolver_61 (by decide) hc61 ?_
      refine g_aload_n (pc := 64) (i := 1) (x := ad s) C dX2_readSolver_64 rfl rfl ?_
      refine g_iload_n (pc := 65) (i := 2) (x := l2) C dX2_readSolver_65 rfl rfl ?_
      refine g_iload (pc := 66) (i := 4) (x := l4) C dX2_readSolver_66 rfl ?_
      refine g_iload (pc := 68) (i := 5) (x := r46) C dX2_readSolver_68 rfl ?_
      obtain ⟨r70, m70, hcall70, h⟩ := ob2_some h
      refine g_callN (pc := 70) C ce0 mi_X5_addSolver mv_X5_addSolver nm_X2_74 dX2_readSolver_70 ok_X5 [.int l2, .int l4, .int r46] [] (lz_0 hs) (by omega) rfl rfl (Nat.le_of_ble_eq_true rfl) (m_X5_addSolver (d := d - 1) (by omega) hs hcall70) ?_
      show Gw E κ 6 0 0 73 [some (.ref (ad 1)), some (.ref (ad s)), some (.int l2), some (.int w0), some (.int l4), some (.int r46)] [.int r70] ad (LC sh sp ++ tl) m70
      rcases ite_some' h with ⟨hc73, h⟩ | ⟨hc73, h⟩
      · refine g_if_eq_t (pc := 73) C 80 dX2_readSolver_73 (by decide) hc73 ?_
        refine g_iconst (pc := 80) (v := 0) C dX2_readSolver_80 rfl ?_
        cases h
        exact g_iret (pc := 81) C hP rfl rfl dX2_readSolver_81
      · refine g_if_eq_f (pc := 73) C 80 dX2_readSolver_73 (by decide) hc73 ?_
        refine g_iconst (pc := 76) (v := 1) C dX2_readSolver_76 rfl ?_
        refine g_goto (pc := 77) C 81 dX2_readSolver_77 (by decide) ?_
        cases h
        exact g_iret (pc := 81) C hP rfl rfl dX2_readSolver_81
    · refine g_icmp_ne_t (pc := 61) C 80 dX2_readSolver_61 (by decide) hc61 ?_
      refine g_iconst (pc := 80) (v := 0) C dX2_readSolver_80 rfl ?_
      cases h
      exact g_iret (pc := 81) C hP rfl rfl dX2_readSolver_81
set_option maxRecDepth 100000 in
set_option maxHeartbeats 4000000 in
theorem j_X2_readSolver_43 {E : Ex} {κ : Kx} {ad : Nat → Nat} {sh sp : Nat} {tl : List Ent} {d : Nat} {s : Nat} (C : Cx E κ cX2_readSolver RX2 6 (some .boolean) d) (hd : 2 ≤ d) (hs : isS s) {l2 : Int32} {l4 : Int32} {mem : Mem} {x : Int32 × Mem} (h : f_X2_readSolver_j43 s l2 l4 mem = some x) (hP : Qr E κ (some (.int x.1)) ad (LC sh sp ++ tl) x.2) : Gw E κ 6 0 0 43 [some (.ref (ad 1)), some (.ref (ad s)), some (.int l2), none, some (.int l4), none] [] ad (LC sh sp ++ tl) mem := by
  unfold f_X2_readSolver_j43 at h
  refine g_iconst (pc := 43) (v := 0) C dX2_readSolver_43 rfl ?_
  exact j_X2_readSolver_44 C hd hs h hP
set_option maxRecDepth 100000 in
set_option maxHeartbeats 4000000 in
theorem j_X2_readSolver_19 {E : Ex} {κ : Kx} {ad : Nat → Nat} {sh sp : Nat} {tl : List Ent} {d : Nat} {s : Nat} (C : Cx E κ cX2_readSolver RX2 6 (some .boolean) d) (hd : 2 ≤ d) (hs : isS s) {l2 : Int32} {w0 : Int32} {mem : Mem} {x : Int32 × Mem} (h : f_X2_readSolver_j19 s l2 w0 mem = some x) (hP : Qr E κ (some (.int x.1)) ad (LC sh sp ++ tl) x.2) : Gw E κ 6 0 0 19 [some (.ref (ad 1)), some (.ref (ad s)), some (.int l2), none, none, none] [.int w0] ad (LC sh sp ++ tl) mem := by
  unfold f_X2_readSolver_j19 at h
  refine g_istore_n (pc := 19) (i := 3) (lv' := [some (.ref (ad 1)), some (.ref (ad s)), some (.int l2), some (.int w0), none, none]) C dX2_readSolver_19 rfl (by decide) rfl rfl ?_
  refine g_aload_n (pc := 20) (i := 0) (x := ad 1) C dX2_readSolver_20 rfl rfl ?_
  obtain ⟨r21, m21, hcall21, h⟩ := ob2_some h
  refine g_callV (pc := 21) C ce0 mi_X2_readNumber mv_X2_readNumber wm_X2_42 dX2_readSolver_21 ok_X2 [] [] la_1 (by omega) rfl rfl (Nat.le_of_ble_eq_true rfl) (m_X2_readNumber (d := d - 1) (by omega)  hcall21) ?_
  show Gw E κ 6 0 0 24 [some (.ref (ad 1)), some (.ref (ad s)), some (.int l2), some (.int w0), none, none] [.int r21] ad (LC sh sp ++ tl) m21
  refine g_istore (pc := 24) (i := 4) (lv' := [some (.ref (ad 1)), some (.ref (ad s)), some (.int l2), some (.int w0), some (.int r21), none]) C dX2_readSolver_24 (by decide) rfl rfl ?_
  refine g_aload_n (pc := 26) (i := 0) (x := ad 1) C dX2_readSolver_26 rfl rfl ?_
  obtain ⟨r27, m27, hcall27, h⟩ := ob2_some h
  refine g_callV (pc := 27) C ce0 mi_X2_next mv_X2_next wm_X2_34 dX2_readSolver_27 ok_X2 [] [] la_1 (by omega) rfl rfl (Nat.le_of_ble_eq_true rfl) (m_X2_next (d := d - 1) (by omega)  hcall27) ?_
  show Gw E κ 6 0 0 30 [some (.ref (ad 1)), some (.ref (ad s)), some (.int l2), some (.int w0), some (.int r21), none] [.int r27] ad (LC sh sp ++ tl) m27
  refine g_bipush (pc := 30) (v := 44) C dX2_readSolver_30 rfl ?_
  rcases ite_some' h with ⟨hc32, h⟩ | ⟨hc32, h⟩
  · refine g_icmp_ne_f (pc := 32) C 43 dX2_readSolver_32 (by decide) hc32 ?_
    refine g_iload_n (pc := 35) (i := 3) (x := w0) C dX2_readSolver_35 rfl rfl ?_
    rcases ite_some' h with ⟨hc36, h⟩ | ⟨hc36, h⟩
    · refine g_if_eq_t (pc := 36) C 43 dX2_readSolver_36 (by decide) hc36 ?_
      refine g_mask (lv' := [some (.ref (ad 1)), some (.ref (ad s)), some (.int l2), none, some (.int r21), none]) [true, true, true, false, true, false] rfl ?_
      exact j_X2_readSolver_43 C hd hs h hP
    · refine g_if_eq_f (pc := 36) C 43 dX2_readSolver_36 (by decide) hc36 ?_
      refine g_iconst (pc := 39) (v := 1) C dX2_readSolver_39 rfl ?_
      refine g_goto (pc := 40) C 44 dX2_readSolver_40 (by decide) ?_
      refine g_mask (lv' := [some (.ref (ad 1)), some (.ref (ad s)), some (.int l2), none, some (.int r21), none]) [true, true, true, false, true, false] rfl ?_
      exact j_X2_readSolver_44 C hd hs h hP
  · refine g_icmp_ne_t (pc := 32) C 43 dX2_readSolver_32 (by decide) hc32 ?_
    refine g_mask (lv' := [some (.ref (ad 1)), some (.ref (ad s)), some (.int l2), none, some (.int r21), none]) [true, true, true, false, true, false] rfl ?_
    exact j_X2_readSolver_43 C hd hs h hP
set_option maxRecDepth 100000 in
set_option maxHeartbeats 4000000 in
theorem m_X2_readSolver {E : Ex} {ad : Nat → Nat} {sh sp : Nat} {tl : List Ent} {d : Nat} (hd : 2 ≤ d) {s : Nat} (hs : isS s)  {mem : Mem} {r : Int32 × Mem} (h : f_X2_readSolver s mem = some r) : Cl E yX2_readSolver cX2_readSolver 6 (some .boolean) d [.ref (ad 1), .ref (ad s)] (some (.int r.1)) ad (LC sh sp ++ tl) mem (LC sh sp ++ tl) r.2 := by
  refine Cl.of [some (.ref (ad 1)), some (.ref (ad s)), none, none, none, none] (by decide +kernel) rfl (Nat.le_of_ble_eq_true rfl) (fun κ C hP => ?_)
  have C : Cx E κ cX2_readSolver RX2 6 (some .boolean) d := C
  unfold f_X2_readSolver at h
  refine g_aload_n (pc := 0) (i := 0) (x := ad 1) C dX2_readSolver_0 rfl rfl ?_
  obtain ⟨r1, m1, hcall1, h⟩ := ob2_some h
  refine g_callV (pc := 1) C ce0 mi_X2_readNumber mv_X2_readNumber wm_X2_42 dX2_readSolver_1 ok_X2 [] [] la_1 (by omega) rfl rfl (Nat.le_of_ble_eq_true rfl) (m_X2_readNumber (d := d - 1) (by omega)  hcall1) ?_
  show Gw E κ 6 0 0 4 [some (.ref (ad 1)), some (.ref (ad s)), none, none, none, none] [.int r1] ad (LC sh sp ++ tl) m1
  refine g_istore_n (pc := 4) (i := 2) (lv' := [some (.ref (ad 1)), some (.ref (ad s)), some (.int r1), none, none, none]) C dX2_readSolver_4 rfl (by decide) rfl rfl ?_
  refine g_aload_n (pc := 5) (i := 0) (x := ad 1) C dX2_readSolver_5 rfl rfl ?_
  obtain ⟨r6, m6, hcall6, h⟩ := ob2_some h
  refine g_callV (pc := 6) C ce0 mi_X2_next mv_X2_next wm_X2_34 dX2_readSolver_6 ok_X2 [] [] la_1 (by omega) rfl rfl (Nat.le_of_ble_eq_true rfl) (m_X2_next (d := d - 1) (by omega)  hcall6) ?_
  show Gw E κ 6 0 0 9 [some (.ref (ad 1)), some (.ref (ad s)), some (.int r1), none, none, none] [.int r6] ad (LC sh sp ++ tl) m6
  refine g_bipush (pc := 9) (v := 44) C dX2_readSolver_9 rfl ?_
  rcases ite_some' h with ⟨hc11, h⟩ | ⟨hc11, h⟩
  · refine g_icmp_ne_f (pc := 11) C 18 dX2_readSolver_11 (by decide) hc11 ?_
    refine g_iconst (pc := 14) (v := 1) C dX2_readSolver_14 rfl ?_
    refine g_goto (pc := 15) C 19 dX2_readSolver_15 (by decide) ?_
    exact j_X2_readSolver_19 C hd hs h hP
  · refine g_icmp_ne_t (pc := 11) C 18 dX2_readSolver_11 (by decide) hc11 ?_
    refine g_iconst (pc := 18) (v := 0) C dX2_readSolver_18 rfl ?_
    exact j_X2_readSolver_19 C hd hs h hP

theorem dX2_readItem_0 : decode cX2_readItem 0 = .ok (.aload_n 0, 1) := by decide +kernel
theorem dX2_readItem_1 : decode cX2_readItem 1 = .ok (.invokevirtual 34, 3) := by decide +kernel
theorem dX2_readItem_4 : decode cX2_readItem 4 = .ok (.lookupswitch 138 #[(98, 70), (103, 52), (108, 102), (115, 132), (119, 96)], 52) := by decide +kernel
theorem dX2_readItem_56 : decode cX2_readItem 56 = .ok (.iload_n 2, 1) := by decide +kernel
theorem dX2_readItem_57 : decode cX2_readItem 57 = .ok (.ifCond .eq 15, 3) := by decide +kernel
theorem dX2_readItem_60 : decode cX2_readItem 60 = .ok (.aload_n 0, 1) := by decide +kernel
theorem dX2_readItem_61 : decode cX2_readItem 61 = .ok (.aload_n 1, 1) := by decide +kernel
theorem dX2_readItem_62 : decode cX2_readItem 62 = .ok (.invokevirtual 38, 3) := by decide +kernel
theorem dX2_readItem_65 : decode cX2_readItem 65 = .ok (.ifCond .eq 7, 3) := by decide +kernel
theorem dX2_readItem_68 : decode cX2_readItem 68 = .ok (.iconst 1, 1) := by decide +kernel
theorem dX2_readItem_69 : decode cX2_readItem 69 = .ok (.goto 4, 3) := by decide +kernel
theorem dX2_readItem_72 : decode cX2_readItem 72 = .ok (.iconst 0, 1) := by decide +kernel
theorem dX2_readItem_73 : decode cX2_readItem 73 = .ok (.ireturn, 1) := by decide +kernel
theorem dX2_readItem_74 : decode cX2_readItem 74 = .ok (.aload_n 1, 1) := by decide +kernel
theorem dX2_readItem_75 : decode cX2_readItem 75 = .ok (.aload_n 0, 1) := by decide +kernel
theorem dX2_readItem_76 : decode cX2_readItem 76 = .ok (.invokevirtual 42, 3) := by decide +kernel
theorem dX2_readItem_79 : decode cX2_readItem 79 = .ok (.invokevirtual 45, 3) := by decide +kernel
theorem dX2_readItem_82 : decode cX2_readItem 82 = .ok (.ifCond .eq 16, 3) := by decide +kernel
theorem dX2_readItem_85 : decode cX2_readItem 85 = .ok (.aload_n 0, 1) := by decide +kernel
theorem dX2_readItem_86 : decode cX2_readItem 86 = .ok (.invokevirtual 34, 3) := by decide +kernel
theorem dX2_readItem_89 : decode cX2_readItem 89 = .ok (.bipush 59, 2) := by decide +kernel
theorem dX2_readItem_91 : decode cX2_readItem 91 = .ok (.if_icmp .ne 7, 3) := by decide +kernel
theorem dX2_readItem_94 : decode cX2_readItem 94 = .ok (.iconst 1, 1) := by decide +kernel
theorem dX2_readItem_95 : decode cX2_readItem 95 = .ok (.goto 4, 3) := by decide +kernel
theorem dX2_readItem_98 : decode cX2_readItem 98 = .ok (.iconst 0, 1) := by decide +kernel
theorem dX2_readItem_99 : decode cX2_readItem 99 = .ok (.ireturn, 1) := by decide +kernel
theorem dX2_readItem_100 : decode cX2_readItem 100 = .ok (.aload_n 0, 1) := by decide +kernel
theorem dX2_readItem_101 : decode cX2_readItem 101 = .ok (.aload_n 1, 1) := by decide +kernel
theorem dX2_readItem_102 : decode cX2_readItem 102 = .ok (.invokevirtual 49, 3) := by decide +kernel
theorem dX2_readItem_105 : decode cX2_readItem 105 = .ok (.ireturn, 1) := by decide +kernel
theorem dX2_readItem_106 : decode cX2_readItem 106 = .ok (.aload_n 1, 1) := by decide +kernel
theorem dX2_readItem_107 : decode cX2_readItem 107 = .ok (.aload_n 0, 1) := by decide +kernel
theorem dX2_readItem_108 : decode cX2_readItem 108 = .ok (.invokevirtual 42, 3) := by decide +kernel
theorem dX2_readItem_111 : decode cX2_readItem 111 = .ok (.aload_n 0, 1) := by decide +kernel
theorem dX2_readItem_112 : decode cX2_readItem 112 = .ok (.invokevirtual 52, 3) := by decide +kernel
theorem dX2_readItem_115 : decode cX2_readItem 115 = .ok (.invokevirtual 55, 3) := by decide +kernel
theorem dX2_readItem_118 : decode cX2_readItem 118 = .ok (.ifCond .eq 16, 3) := by decide +kernel
theorem dX2_readItem_121 : decode cX2_readItem 121 = .ok (.aload_n 0, 1) := by decide +kernel
theorem dX2_readItem_122 : decode cX2_readItem 122 = .ok (.invokevirtual 34, 3) := by decide +kernel
theorem dX2_readItem_125 : decode cX2_readItem 125 = .ok (.bipush 59, 2) := by decide +kernel
theorem dX2_readItem_127 : decode cX2_readItem 127 = .ok (.if_icmp .ne 7, 3) := by decide +kernel
theorem dX2_readItem_130 : decode cX2_readItem 130 = .ok (.iconst 1, 1) := by decide +kernel
theorem dX2_readItem_131 : decode cX2_readItem 131 = .ok (.goto 4, 3) := by decide +kernel
theorem dX2_readItem_134 : decode cX2_readItem 134 = .ok (.iconst 0, 1) := by decide +kernel
theorem dX2_readItem_135 : decode cX2_readItem 135 = .ok (.ireturn, 1) := by decide +kernel
theorem dX2_readItem_136 : decode cX2_readItem 136 = .ok (.aload_n 0, 1) := by decide +kernel
theorem dX2_readItem_137 : decode cX2_readItem 137 = .ok (.aload_n 1, 1) := by decide +kernel
theorem dX2_readItem_138 : decode cX2_readItem 138 = .ok (.invokevirtual 59, 3) := by decide +kernel
theorem dX2_readItem_141 : decode cX2_readItem 141 = .ok (.ireturn, 1) := by decide +kernel
theorem dX2_readItem_142 : decode cX2_readItem 142 = .ok (.iconst 0, 1) := by decide +kernel
theorem dX2_readItem_143 : decode cX2_readItem 143 = .ok (.ireturn, 1) := by decide +kernel
noncomputable def f_X2_readItem (s : Nat) (l2 : Int32) (mem : Mem) : Option (Int32 × Mem) :=
  ob2 (f_X2_next mem) fun r1 m1 => if r1 = 98 then (ob2 (f_X2_readNumber m1) fun r76 m76 => ob2 (f_X5_blacken s r76 m76) fun r79 m79 => if r79 = 0 then (some (0, m79)) else (ob2 (f_X2_next m79) fun r86 m86 => if r86 = 59 then (some (1, m86)) else (some (0, m86)))) else (if r1 = 103 then (if l2 = 0 then (some (0, m1)) else (ob2 (f_X2_readGrid s m1) fun r62 m62 => if r62 = 0 then (some (0, m62)) else (some (1, m62)))) else (if r1 = 108 then (ob2 (f_X2_readNumber m1) fun r108 m108 => ob2 (f_X2_readLetter m108) fun r112 m112 => ob2 (f_X5_putFirst s r108 r112 m112) fun r115 m115 => if r115 = 0 then (some (0, m115)) else (ob2 (f_X2_next m115) fun r122 m122 => if r122 = 59 then (some (1, m122)) else (some (0, m122)))) else (if r1 = 115 then (ob2 (f_X2_readSolver s m1) fun r138 m138 => bk r138 (some (r138, m138))) else (if r1 = 119 then (ob2 (f_X2_readWord s m1) fun r102 m102 => bk r102 (some (r102, m102))) else (some (0, m1))))))
set_option maxRecDepth 100000 in
set_option maxHeartbeats 4000000 in
theorem m_X2_readItem {E : Ex} {ad : Nat → Nat} {sh sp : Nat} {tl : List Ent} {d : Nat} (hd : 3 ≤ d) {s : Nat} (hs : isS s) {l2 : Int32} {mem : Mem} {r : Int32 × Mem} (h : f_X2_readItem s l2 mem = some r) : Cl E yX2_readItem cX2_readItem 3 (some .boolean) d [.ref (ad 1), .ref (ad s), .int l2] (some (.int r.1)) ad (LC sh sp ++ tl) mem (LC sh sp ++ tl) r.2 := by
  refine Cl.of [some (.ref (ad 1)), some (.ref (ad s)), some (.int l2)] (by decide +kernel) rfl (Nat.le_of_ble_eq_true rfl) (fun κ C hP => ?_)
  have C : Cx E κ cX2_readItem RX2 3 (some .boolean) d := C
  unfold f_X2_readItem at h
  refine g_aload_n (pc := 0) (i := 0) (x := ad 1) C dX2_readItem_0 rfl rfl ?_
  obtain ⟨r1, m1, hcall1, h⟩ := ob2_some h
  refine g_callV (pc := 1) C ce0 mi_X2_next mv_X2_next wm_X2_34 dX2_readItem_1 ok_X2 [] [] la_1 (by omega) rfl rfl (Nat.le_of_ble_eq_true rfl) (m_X2_next (d := d - 1) (by omega)  hcall1) ?_
  show Gw E κ 3 0 0 4 [some (.ref (ad 1)), some (.ref (ad s)), some (.int l2)] [.int r1] ad (LC sh sp ++ tl) m1
  rcases ite_some' h with ⟨hc4_0, h⟩ | ⟨hc4_0, h⟩
  · refine g_lsw (pc := 4) (n := 98) C 98 74 hc4_0 rfl dX2_readItem_4 (by decide) rfl (by decide) ?_
    refine g_aload_n (pc := 74) (i := 1) (x := ad s) C dX2_readItem_74 rfl rfl ?_
    refine g_aload_n (pc := 75) (i := 0) (x := ad 1) C dX2_readItem_75 rfl rfl ?_
    obtain ⟨r76, m76, hcall76, h⟩ := ob2_some h
    refine g_callV (pc := 76) C ce0 mi_X2_readNumber mv_X2_readNumber wm_X2_42 dX2_readItem_76 ok_X2 [] [.ref (ad s)] la_1 (by omega) rfl rfl (Nat.le_of_ble_eq_true rfl) (m_X2_readNumber (d := d - 1) (by omega)  hcall76) ?_
    show Gw E κ 3 0 0 79 [some (.ref (ad 1)), some (.ref (ad s)), some (.int l2)] [.int r76, .ref (ad s)] ad (LC sh sp ++ tl) m76
    obtain ⟨r79, m79, hcall79, h⟩ := ob2_some h
    refine g_callN (pc := 79) C ce0 mi_X5_blacken mv_X5_blacken nm_X2_45 dX2_readItem_79 ok_X5 [.int r76] [] (lz_0 hs) (by omega) rfl rfl (Nat.le_of_ble_eq_true rfl) (m_X5_blacken (d := d - 1) (by omega) hs hcall79) ?_
    show Gw E κ 3 0 0 82 [some (.ref (ad 1)), some (.ref (ad s)), some (.int l2)] [.int r79] ad (LC sh sp ++ tl) m79
    rcases ite_some' h with ⟨hc82, h⟩ | ⟨hc82, h⟩
    · refine g_if_eq_t (pc := 82) C 98 dX2_readItem_82 (by decide) hc82 ?_
      refine g_iconst (pc := 98) (v := 0) C dX2_readItem_98 rfl ?_
      cases h
      exact g_iret (pc := 99) C hP rfl rfl dX2_readItem_99
    · refine g_if_eq_f (pc := 82) C 98 dX2_readItem_82 (by decide) hc82 ?_
      refine g_aload_n (pc := 85) (i := 0) (x := ad 1) C dX2_readItem_85 rfl rfl ?_
      obtain ⟨r86, m86, hcall86, h⟩ := ob2_some h
      refine g_callV (pc := 86) C ce0 mi_X2_next mv_X2_next wm_X2_34 dX2_readItem_86 ok_X2 [] [] la_1 (by omega) rfl rfl (Nat.le_of_ble_eq_true rfl) (m_X2_next (d := d - 1) (by omega)  hcall86) ?_
      show Gw E κ 3 0 0 89 [some (.ref (ad 1)), some (.ref (ad s)), some (.int l2)] [.int r86] ad (LC sh sp ++ tl) m86
      refine g_bipush (pc := 89) (v := 59) C dX2_readItem_89 rfl ?_
      rcases ite_some' h with ⟨hc91, h⟩ | ⟨hc91, h⟩
      · refine g_icmp_ne_f (pc := 91) C 98 dX2_readItem_91 (by decide) hc91 ?_
        refine g_iconst (pc := 94) (v := 1) C dX2_readItem_94 rfl ?_
        refine g_goto (pc := 95) C 99 dX2_readItem_95 (by decide) ?_
        cases h
        exact g_iret (pc := 99) C hP rfl rfl dX2_readItem_99
      · refine g_icmp_ne_t (pc := 91) C 98 dX2_readItem_91 (by decide) hc91 ?_
        refine g_iconst (pc := 98) (v := 0) C dX2_readItem_98 rfl ?_
        cases h
        exact g_iret (pc := 99) C hP rfl rfl dX2_readItem_99
  · skip
    rcases ite_some' h with ⟨hc4_1, h⟩ | ⟨hc4_1, h⟩
    · refine g_lsw (pc := 4) (n := 103) C 103 56 hc4_1 rfl dX2_readItem_4 (by decide) rfl (by decide) ?_
      refine g_iload_n (pc := 56) (i := 2) (x := l2) C dX2_readItem_56 rfl rfl ?_
      rcases ite_some' h with ⟨hc57, h⟩ | ⟨hc57, h⟩
      · refine g_if_eq_t (pc := 57) C 72 dX2_readItem_57 (by decide) hc57 ?_
        refine g_iconst (pc := 72) (v := 0) C dX2_readItem_72 rfl ?_
        cases h
        exact g_iret (pc := 73) C hP rfl rfl dX2_readItem_73
      · refine g_if_eq_f (pc := 57) C 72 dX2_readItem_57 (by decide) hc57 ?_
        refine g_aload_n (pc := 60) (i := 0) (x := ad 1) C dX2_readItem_60 rfl rfl ?_
        refine g_aload_n (pc := 61) (i := 1) (x := ad s) C dX2_readItem_61 rfl rfl ?_
        obtain ⟨r62, m62, hcall62, h⟩ := ob2_some h
        refine g_callV (pc := 62) C ce0 mi_X2_readGrid mv_X2_readGrid wm_X2_38 dX2_readItem_62 ok_X2 [.ref (ad s)] [] la_1 (by omega) rfl rfl (Nat.le_of_ble_eq_true rfl) (m_X2_readGrid (d := d - 1) (by omega) hs hcall62) ?_
        show Gw E κ 3 0 0 65 [some (.ref (ad 1)), some (.ref (ad s)), some (.int l2)] [.int r62] ad (LC sh sp ++ tl) m62
        rcases ite_some' h with ⟨hc65, h⟩ | ⟨hc65, h⟩
        · refine g_if_eq_t (pc := 65) C 72 dX2_readItem_65 (by decide) hc65 ?_
          refine g_iconst (pc := 72) (v := 0) C dX2_readItem_72 rfl ?_
          cases h
          exact g_iret (pc := 73) C hP rfl rfl dX2_readItem_73
        · refine g_if_eq_f (pc := 65) C 72 dX2_readItem_65 (by decide) hc65 ?_
          refine g_iconst (pc := 68) (v := 1) C dX2_readItem_68 rfl ?_
          refine g_goto (pc := 69) C 73 dX2_readItem_69 (by decide) ?_
          cases h
          exact g_iret (pc := 73) C hP rfl rfl dX2_readItem_73
    · skip
      rcases ite_some' h with ⟨hc4_2, h⟩ | ⟨hc4_2, h⟩
      · refine g_lsw (pc := 4) (n := 108) C 108 106 hc4_2 rfl dX2_readItem_4 (by decide) rfl (by decide) ?_
        refine g_aload_n (pc := 106) (i := 1) (x := ad s) C dX2_readItem_106 rfl rfl ?_
        refine g_aload_n (pc := 107) (i := 0) (x := ad 1) C dX2_readItem_107 rfl rfl ?_
        obtain ⟨r108, m108, hcall108, h⟩ := ob2_some h
        refine g_callV (pc := 108) C ce0 mi_X2_readNumber mv_X2_readNumber wm_X2_42 dX2_readItem_108 ok_X2 [] [.ref (ad s)] la_1 (by omega) rfl rfl (Nat.le_of_ble_eq_true rfl) (m_X2_readNumber (d := d - 1) (by omega)  hcall108) ?_
        show Gw E κ 3 0 0 111 [some (.ref (ad 1)), some (.ref (ad s)), some (.int l2)] [.int r108, .ref (ad s)] ad (LC sh sp ++ tl) m108
        refine g_aload_n (pc := 111) (i := 0) (x := ad 1) C dX2_readItem_111 rfl rfl ?_
        obtain ⟨r112, m112, hcall112, h⟩ := ob2_some h
        refine g_callV (pc := 112) C ce0 mi_X2_readLetter mv_X2_readLetter wm_X2_52 dX2_readItem_112 ok_X2 [] [.int r108, .ref (ad s)] la_1 (by omega) rfl rfl (Nat.le_of_ble_eq_true rfl) (m_X2_readLetter (d := d - 1) (by omega)  hcall112) ?_
        show Gw E κ 3 0 0 115 [some (.ref (ad 1)), some (.ref (ad s)), some (.int l2)] [.int r112, .int r108, .ref (ad s)] ad (LC sh sp ++ tl) m112
        obtain ⟨r115, m115, hcall115, h⟩ := ob2_some h
        refine g_callN (pc := 115) C ce0 mi_X5_putFirst mv_X5_putFirst nm_X2_55 dX2_readItem_115 ok_X5 [.int r108, .int r112] [] (lz_0 hs) (by omega) rfl rfl (Nat.le_of_ble_eq_true rfl) (m_X5_putFirst (d := d - 1) (by omega) hs hcall115) ?_
        show Gw E κ 3 0 0 118 [some (.ref (ad 1)), some (.ref (ad s)), some (.int l2)] [.int r115] ad (LC sh sp ++ tl) m115
        rcases ite_some' h with ⟨hc118, h⟩ | ⟨hc118, h⟩
        · refine g_if_eq_t (pc := 118) C 134 dX2_readItem_118 (by decide) hc118 ?_
          refine g_iconst (pc := 134) (v := 0) C dX2_readItem_134 rfl ?_
          cases h
          exact g_iret (pc := 135) C hP rfl rfl dX2_readItem_135
        · refine g_if_eq_f (pc := 118) C 134 dX2_readItem_118 (by decide) hc118 ?_
          refine g_aload_n (pc := 121) (i := 0) (x := ad 1) C dX2_readItem_121 rfl rfl ?_
          obtain ⟨r122, m122, hcall122, h⟩ := ob2_some h
          refine g_callV (pc := 122) C ce0 mi_X2_next mv_X2_next wm_X2_34 dX2_readItem_122 ok_X2 [] [] la_1 (by omega) rfl rfl (Nat.le_of_ble_eq_true rfl) (m_X2_next (d := d - 1) (by omega)  hcall122) ?_
          show Gw E κ 3 0 0 125 [some (.ref (ad 1)), some (.ref (ad s)), some (.int l2)] [.int r122] ad (LC sh sp ++ tl) m122
          refine g_bipush (pc := 125) (v := 59) C dX2_readItem_125 rfl ?_
          rcases ite_some' h with ⟨hc127, h⟩ | ⟨hc127, h⟩
          · refine g_icmp_ne_f (pc := 127) C 134 dX2_readItem_127 (by decide) hc127 ?_
            refine g_iconst (pc := 130) (v := 1) C dX2_readItem_130 rfl ?_
            refine g_goto (pc := 131) C 135 dX2_readItem_131 (by decide) ?_
            cases h
            exact g_iret (pc := 135) C hP rfl rfl dX2_readItem_135
          · refine g_icmp_ne_t (pc := 127) C 134 dX2_readItem_127 (by decide) hc127 ?_
            refine g_iconst (pc := 134) (v := 0) C dX2_readItem_134 rfl ?_
            cases h
            exact g_iret (pc := 135) C hP rfl rfl dX2_readItem_135
      · skip
        rcases ite_some' h with ⟨hc4_3, h⟩ | ⟨hc4_3, h⟩
        · refine g_lsw (pc := 4) (n := 115) C 115 136 hc4_3 rfl dX2_readItem_4 (by decide) rfl (by decide) ?_
          refine g_aload_n (pc := 136) (i := 0) (x := ad 1) C dX2_readItem_136 rfl rfl ?_
          refine g_aload_n (pc := 137) (i := 1) (x := ad s) C dX2_readItem_137 rfl rfl ?_
          obtain ⟨r138, m138, hcall138, h⟩ := ob2_some h
          refine g_callV (pc := 138) C ce0 mi_X2_readSolver mv_X2_readSolver wm_X2_59 dX2_readItem_138 ok_X2 [.ref (ad s)] [] la_1 (by omega) rfl rfl (Nat.le_of_ble_eq_true rfl) (m_X2_readSolver (d := d - 1) (by omega) hs hcall138) ?_
          show Gw E κ 3 0 0 141 [some (.ref (ad 1)), some (.ref (ad s)), some (.int l2)] [.int r138] ad (LC sh sp ++ tl) m138
          obtain ⟨hb141, h⟩ := bk_some h
          cases h
          exact g_iret (pc := 141) C hP rfl (nb01 hb141).1 dX2_readItem_141
        · skip
          rcases ite_some' h with ⟨hc4_4, h⟩ | ⟨hc4_4, h⟩
          · refine g_lsw (pc := 4) (n := 119) C 119 100 hc4_4 rfl dX2_readItem_4 (by decide) rfl (by decide) ?_
            refine g_aload_n (pc := 100) (i := 0) (x := ad 1) C dX2_readItem_100 rfl rfl ?_
            refine g_aload_n (pc := 101) (i := 1) (x := ad s) C dX2_readItem_101 rfl rfl ?_
            obtain ⟨r102, m102, hcall102, h⟩ := ob2_some h
            refine g_callV (pc := 102) C ce0 mi_X2_readWord mv_X2_readWord wm_X2_49 dX2_readItem_102 ok_X2 [.ref (ad s)] [] la_1 (by omega) rfl rfl (Nat.le_of_ble_eq_true rfl) (m_X2_readWord (d := d - 1) (by omega) hs hcall102) ?_
            show Gw E κ 3 0 0 105 [some (.ref (ad 1)), some (.ref (ad s)), some (.int l2)] [.int r102] ad (LC sh sp ++ tl) m102
            obtain ⟨hb105, h⟩ := bk_some h
            cases h
            exact g_iret (pc := 105) C hP rfl (nb01 hb105).1 dX2_readItem_105
          · skip
            refine g_lswD (pc := 4) C 142 dX2_readItem_4 (by decide) (by intro z hz; simp only [List.mem_cons, List.not_mem_nil, or_false] at hz; rcases hz with rfl | rfl | rfl | rfl | rfl; exact i32_ne 98 hc4_0 rfl; exact i32_ne 103 hc4_1 rfl; exact i32_ne 108 hc4_2 rfl; exact i32_ne 115 hc4_3 rfl; exact i32_ne 119 hc4_4 rfl) (by decide) ?_
            refine g_iconst (pc := 142) (v := 0) C dX2_readItem_142 rfl ?_
            cases h
            exact g_iret (pc := 143) C hP rfl rfl dX2_readItem_143

theorem dX2_readInto_0 : decode cX2_readInto 0 = .ok (.aload_n 1, 1) := by decide +kernel
theorem dX2_readInto_1 : decode cX2_readInto 1 = .ok (.invokevirtual 19, 3) := by decide +kernel
theorem dX2_readInto_4 : decode cX2_readInto 4 = .ok (.aload_n 0, 1) := by decide +kernel
theorem dX2_readInto_5 : decode cX2_readInto 5 = .ok (.iconst 0, 1) := by decide +kernel
theorem dX2_readInto_6 : decode cX2_readInto 6 = .ok (.putfield 24, 3) := by decide +kernel
theorem dX2_readInto_9 : decode cX2_readInto 9 = .ok (.iconst 1, 1) := by decide +kernel
theorem dX2_readInto_10 : decode cX2_readInto 10 = .ok (.istore_n 2, 1) := by decide +kernel
theorem dX2_readInto_11 : decode cX2_readInto 11 = .ok (.iconst 0, 1) := by decide +kernel
theorem dX2_readInto_12 : decode cX2_readInto 12 = .ok (.istore_n 3, 1) := by decide +kernel
theorem dX2_readInto_13 : decode cX2_readInto 13 = .ok (.iload_n 3, 1) := by decide +kernel
theorem dX2_readInto_14 : decode cX2_readInto 14 = .ok (.sipush 200, 3) := by decide +kernel
theorem dX2_readInto_17 : decode cX2_readInto 17 = .ok (.if_icmp .ge 60, 3) := by decide +kernel
theorem dX2_readInto_20 : decode cX2_readInto 20 = .ok (.aload_n 0, 1) := by decide +kernel
theorem dX2_readInto_21 : decode cX2_readInto 21 = .ok (.getfield 24, 3) := by decide +kernel
theorem dX2_readInto_24 : decode cX2_readInto 24 = .ok (.aload_n 0, 1) := by decide +kernel
theorem dX2_readInto_25 : decode cX2_readInto 25 = .ok (.getfield 15, 3) := by decide +kernel
theorem dX2_readInto_28 : decode cX2_readInto 28 = .ok (.if_icmp .ge 49, 3) := by decide +kernel
theorem dX2_readInto_31 : decode cX2_readInto 31 = .ok (.aload_n 0, 1) := by decide +kernel
theorem dX2_readInto_32 : decode cX2_readInto 32 = .ok (.getfield 24, 3) := by decide +kernel
theorem dX2_readInto_35 : decode cX2_readInto 35 = .ok (.istore 4, 2) := by decide +kernel
theorem dX2_readInto_37 : decode cX2_readInto 37 = .ok (.iload_n 2, 1) := by decide +kernel
theorem dX2_readInto_38 : decode cX2_readInto 38 = .ok (.ifCond .eq 19, 3) := by decide +kernel
theorem dX2_readInto_41 : decode cX2_readInto 41 = .ok (.aload_n 0, 1) := by decide +kernel
theorem dX2_readInto_42 : decode cX2_readInto 42 = .ok (.getfield 9, 3) := by decide +kernel
theorem dX2_readInto_45 : decode cX2_readInto 45 = .ok (.iload 4, 2) := by decide +kernel
theorem dX2_readInto_47 : decode cX2_readInto 47 = .ok (.iaload, 1) := by decide +kernel
theorem dX2_readInto_48 : decode cX2_readInto 48 = .ok (.bipush 103, 2) := by decide +kernel
theorem dX2_readInto_50 : decode cX2_readInto 50 = .ok (.if_icmp .ne 7, 3) := by decide +kernel
theorem dX2_readInto_53 : decode cX2_readInto 53 = .ok (.iconst 1, 1) := by decide +kernel
theorem dX2_readInto_54 : decode cX2_readInto 54 = .ok (.goto 4, 3) := by decide +kernel
theorem dX2_readInto_57 : decode cX2_readInto 57 = .ok (.iconst 0, 1) := by decide +kernel
theorem dX2_readInto_58 : decode cX2_readInto 58 = .ok (.istore_n 2, 1) := by decide +kernel
theorem dX2_readInto_59 : decode cX2_readInto 59 = .ok (.aload_n 0, 1) := by decide +kernel
theorem dX2_readInto_60 : decode cX2_readInto 60 = .ok (.aload_n 1, 1) := by decide +kernel
theorem dX2_readInto_61 : decode cX2_readInto 61 = .ok (.iload_n 2, 1) := by decide +kernel
theorem dX2_readInto_62 : decode cX2_readInto 62 = .ok (.invokevirtual 27, 3) := by decide +kernel
theorem dX2_readInto_65 : decode cX2_readInto 65 = .ok (.ifCond .ne 6, 3) := by decide +kernel
theorem dX2_readInto_68 : decode cX2_readInto 68 = .ok (.iload 4, 2) := by decide +kernel
theorem dX2_readInto_70 : decode cX2_readInto 70 = .ok (.ireturn, 1) := by decide +kernel
theorem dX2_readInto_71 : decode cX2_readInto 71 = .ok (.iinc 3 1, 3) := by decide +kernel
theorem dX2_readInto_74 : decode cX2_readInto 74 = .ok (.goto (-61), 3) := by decide +kernel
theorem dX2_readInto_77 : decode cX2_readInto 77 = .ok (.aload_n 1, 1) := by decide +kernel
theorem dX2_readInto_78 : decode cX2_readInto 78 = .ok (.invokevirtual 31, 3) := by decide +kernel
theorem dX2_readInto_81 : decode cX2_readInto 81 = .ok (.bipush (-4), 2) := by decide +kernel
theorem dX2_readInto_83 : decode cX2_readInto 83 = .ok (.ireturn, 1) := by decide +kernel
noncomputable def f_X2_readInto_j58 (s : Nat) (l3 : Int32) (l4 : Int32) (w0 : Int32) (mem : Mem) : Option ((Int32 × Int32 × Mem) ⊕ ((Int32 × Int32 × Mem) ⊕ (Int32 × Mem))) :=
  ob2 (f_X2_readItem s w0 mem) fun r62 m62 => if r62 = 0 then (some (.inr (.inr (l4, m62)))) else (lt' (l3 + 1) fun v71 => some (.inl (w0, v71, m62)))
noncomputable def f_X2_readInto_j57 (s : Nat) (l3 : Int32) (l4 : Int32) (mem : Mem) : Option ((Int32 × Int32 × Mem) ⊕ ((Int32 × Int32 × Mem) ⊕ (Int32 × Mem))) :=
  f_X2_readInto_j58 s l3 l4 0 mem
noncomputable def f_X2_readInto_b13 (s : Nat) (q : Int32 × Int32 × Mem) : Option ((Int32 × Int32 × Mem) ⊕ ((Int32 × Int32 × Mem) ⊕ (Int32 × Mem))) :=
  if 200 ≤ q.2.1 then (some (.inr (.inl (q.1, q.2.1, q.2.2)))) else (if (q.2.2 1 1) ≤ (q.2.2 1 2) then (some (.inr (.inl (q.1, q.2.1, q.2.2)))) else (lt' (q.2.2 1 2) fun v35 => if q.1 = 0 then (f_X2_readInto_j57 s q.2.1 v35 q.2.2) else (rd (q.2.2 2) 200 v35 fun v47 => if v47 = 103 then (f_X2_readInto_j58 s q.2.1 v35 1 q.2.2) else (f_X2_readInto_j57 s q.2.1 v35 q.2.2))))
noncomputable def f_X2_readInto_j77 (s : Nat) (mem : Mem) : Option (Int32 × Mem) :=
  ob (f_X5_finish s mem) fun m78 => some ((-4), m78)
noncomputable def f_X2_readInto (s : Nat)  (mem : Mem) : Option (Int32 × Mem) :=
  ob (f_X5_clear s mem) fun m1 => lt' (mset m1 1 2 0) fun m6 => obs (lp (f_X2_readInto_b13 s) FU (1, 0, m6)) (fun q13 => f_X2_readInto_j77 s q13.2.2) (fun r => some r)
def P_X2_readInto_13 (E : Ex) (κ : Kx) (ad : Nat → Nat) (lay : List Ent) (s : Nat) : (Int32 × Int32 × Mem) ⊕ ((Int32 × Int32 × Mem) ⊕ (Int32 × Mem)) → Prop
  | .inl q => Gw E κ 5 0 0 13 [some (.ref (ad 1)), some (.ref (ad s)), some (.int q.1), some (.int q.2.1), none] [] ad lay q.2.2
  | .inr (.inl q) => Gw E κ 5 0 0 77 [none, some (.ref (ad s)), none, none, none] [] ad lay q.2.2
  | .inr (.inr r) => Qr E κ (some (.int r.1)) ad lay r.2
set_option maxRecDepth 100000 in
set_option maxHeartbeats 4000000 in
theorem j_X2_readInto_58 {E : Ex} {κ : Kx} {ad : Nat → Nat} {sh sp : Nat} {tl : List Ent} {d : Nat} {s : Nat} (C : Cx E κ cX2_readInto RX2 5 (some .int) d) (hd : 4 ≤ d) (hs : isS s) {l3 : Int32} {l4 : Int32} {w0 : Int32} {mem : Mem} {x : (Int32 × Int32 × Mem) ⊕ ((Int32 × Int32 × Mem) ⊕ (Int32 × Mem))} (h : f_X2_readInto_j58 s l3 l4 w0 mem = some x) (hP : (P_X2_readInto_13 E κ ad (LC sh sp ++ tl) s) x) : Gw E κ 5 0 0 58 [some (.ref (ad 1)), some (.ref (ad s)), none, some (.int l3), some (.int l4)] [.int w0] ad (LC sh sp ++ tl) mem := by
  unfold f_X2_readInto_j58 at h
  refine g_istore_n (pc := 58) (i := 2) (lv' := [some (.ref (ad 1)), some (.ref (ad s)), some (.int w0), some (.int l3), some (.int l4)]) C dX2_readInto_58 rfl (by decide) rfl rfl ?_
  refine g_aload_n (pc := 59) (i := 0) (x := ad 1) C dX2_readInto_59 rfl rfl ?_
  refine g_aload_n (pc := 60) (i := 1) (x := ad s) C dX2_readInto_60 rfl rfl ?_
  refine g_iload_n (pc := 61) (i := 2) (x := w0) C dX2_readInto_61 rfl rfl ?_
  obtain ⟨r62, m62, hcall62, h⟩ := ob2_some h
  refine g_callV (pc := 62) C ce0 mi_X2_readItem mv_X2_readItem wm_X2_27 dX2_readInto_62 ok_X2 [.ref (ad s), .int w0] [] la_1 (by omega) rfl rfl (Nat.le_of_ble_eq_true rfl) (m_X2_readItem (d := d - 1) (by omega) hs hcall62) ?_
  show Gw E κ 5 0 0 65 [some (.ref (ad 1)), some (.ref (ad s)), some (.int w0), some (.int l3), some (.int l4)] [.int r62] ad (LC sh sp ++ tl) m62
  rcases ite_some' h with ⟨hc65, h⟩ | ⟨hc65, h⟩
  · refine g_if_ne_f (pc := 65) C 71 dX2_readInto_65 (by decide) hc65 ?_
    refine g_iload (pc := 68) (i := 4) (x := l4) C dX2_readInto_68 rfl ?_
    cases h
    exact g_iret (pc := 70) C hP rfl rfl dX2_readInto_70
  · refine g_if_ne_t (pc := 65) C 71 dX2_readInto_65 (by decide) hc65 ?_
    obtain ⟨v71, hv71, h⟩ := lt_some h
    refine g_iinc (pc := 71) (i := 3) (x := l3) (v := v71) (lv' := [some (.ref (ad 1)), some (.ref (ad s)), some (.int w0), some (.int v71), some (.int l4)]) C dX2_readInto_71 rfl hv71.symm (by decide) rfl rfl ?_
    refine g_goto (pc := 74) C 13 dX2_readInto_74 (by decide) ?_
    refine g_mask (lv' := [some (.ref (ad 1)), some (.ref (ad s)), some (.int w0), some (.int v71), none]) [true, true, true, true, false] rfl ?_
    cases h
    exact hP
set_option maxRecDepth 100000 in
set_option maxHeartbeats 4000000 in
theorem j_X2_readInto_57 {E : Ex} {κ : Kx} {ad : Nat → Nat} {sh sp : Nat} {tl : List Ent} {d : Nat} {s : Nat} (C : Cx E κ cX2_readInto RX2 5 (some .int) d) (hd : 4 ≤ d) (hs : isS s) {l3 : Int32} {l4 : Int32} {mem : Mem} {x : (Int32 × Int32 × Mem) ⊕ ((Int32 × Int32 × Mem) ⊕ (Int32 × Mem))} (h : f_X2_readInto_j57 s l3 l4 mem = some x) (hP : (P_X2_readInto_13 E κ ad (LC sh sp ++ tl) s) x) : Gw E κ 5 0 0 57 [some (.ref (ad 1)), some (.ref (ad s)), none, some (.int l3), some (.int l4)] [] ad (LC sh sp ++ tl) mem := by
  unfold f_X2_readInto_j57 at h
  refine g_iconst (pc := 57) (v := 0) C dX2_readInto_57 rfl ?_
  exact j_X2_readInto_58 C hd hs h hP
set_option maxRecDepth 100000 in
set_option maxHeartbeats 4000000 in
theorem b_X2_readInto_13 {E : Ex} {κ : Kx} {ad : Nat → Nat} {sh sp : Nat} {tl : List Ent} {d : Nat} {s : Nat} (C : Cx E κ cX2_readInto RX2 5 (some .int) d) (hd : 4 ≤ d) (hs : isS s) {q : Int32 × Int32 × Mem} {x : (Int32 × Int32 × Mem) ⊕ ((Int32 × Int32 × Mem) ⊕ (Int32 × Mem))} (h : f_X2_readInto_b13 s q = some x) (hP : (P_X2_readInto_13 E κ ad (LC sh sp ++ tl) s) x) : Gw E κ 5 0 0 13 [some (.ref (ad 1)), some (.ref (ad s)), some (.int q.1), some (.int q.2.1), none] [] ad (LC sh sp ++ tl) q.2.2 := by
  unfold f_X2_readInto_b13 at h
  refine g_iload_n (pc := 13) (i := 3) (x := q.2.1) C dX2_readInto_13 rfl rfl ?_
  refine g_sipush (pc := 14) (v := 200) C dX2_readInto_14 rfl ?_
  rcases ite_some' h with ⟨hc17, h⟩ | ⟨hc17, h⟩
  · refine g_icmp_ge_t (pc := 17) C 77 dX2_readInto_17 (by decide) hc17 ?_
    refine g_mask (lv' := [none, some (.ref (ad s)), none, none, none]) [false, true, false, false, false] rfl ?_
    cases h
    exact hP
  · refine g_icmp_ge_f (pc := 17) C 77 dX2_readInto_17 (by decide) hc17 ?_
    refine g_aload_n (pc := 20) (i := 0) (x := ad 1) C dX2_readInto_20 rfl rfl ?_
    refine g_get (pc := 21) (v := .int (q.2.2 1 2)) C ok_X2 2 (by decide) wf_X2_24 dX2_readInto_21 la_1 rfl ?_
    refine g_aload_n (pc := 24) (i := 0) (x := ad 1) C dX2_readInto_24 rfl rfl ?_
    refine g_get (pc := 25) (v := .int (q.2.2 1 1)) C ok_X2 1 (by decide) wf_X2_15 dX2_readInto_25 la_1 rfl ?_
    rcases ite_some' h with ⟨hc28, h⟩ | ⟨hc28, h⟩
    · refine g_icmp_ge_t (pc := 28) C 77 dX2_readInto_28 (by decide) hc28 ?_
      refine g_mask (lv' := [none, some (.ref (ad s)), none, none, none]) [false, true, false, false, false] rfl ?_
      cases h
      exact hP
    · refine g_icmp_ge_f (pc := 28) C 77 dX2_readInto_28 (by decide) hc28 ?_
      refine g_aload_n (pc := 31) (i := 0) (x := ad 1) C dX2_readInto_31 rfl rfl ?_
      refine g_get (pc := 32) (v := .int (q.2.2 1 2)) C ok_X2 2 (by decide) wf_X2_24 dX2_readInto_32 la_1 rfl ?_
      obtain ⟨v35, hv35, h⟩ := lt_some h
      refine g_topi hv35 ?_
      refine g_istore (pc := 35) (i := 4) (lv' := [some (.ref (ad 1)), some (.ref (ad s)), some (.int q.1), some (.int q.2.1), some (.int v35)]) C dX2_readInto_35 (by decide) rfl rfl ?_
      refine g_iload_n (pc := 37) (i := 2) (x := q.1) C dX2_readInto_37 rfl rfl ?_
      rcases ite_some' h with ⟨hc38, h⟩ | ⟨hc38, h⟩
      · refine g_if_eq_t (pc := 38) C 57 dX2_readInto_38 (by decide) hc38 ?_
        refine g_mask (lv' := [some (.ref (ad 1)), some (.ref (ad s)), none, some (.int q.2.1), some (.int v35)]) [true, true, false, true, true] rfl ?_
        exact j_X2_readInto_57 C hd hs h hP
      · refine g_if_eq_f (pc := 38) C 57 dX2_readInto_38 (by decide) hc38 ?_
        refine g_aload_n (pc := 41) (i := 0) (x := ad 1) C dX2_readInto_41 rfl rfl ?_
        refine g_get (pc := 42) (v := .ref (ad 2)) C ok_X2 0 (by decide) wf_X2_9 dX2_readInto_42 la_1 rfl ?_
        refine g_iload (pc := 45) (i := 4) (x := v35) C dX2_readInto_45 rfl ?_
        obtain ⟨v47, hv47, hi47, h⟩ := rd_some h
        refine g_iald (pc := 47) C dX2_readInto_47 la_2 hi47 ?_
        refine g_topi hv47 ?_
        refine g_bipush (pc := 48) (v := 103) C dX2_readInto_48 rfl ?_
        rcases ite_some' h with ⟨hc50, h⟩ | ⟨hc50, h⟩
        · refine g_icmp_ne_f (pc := 50) C 57 dX2_readInto_50 (by decide) hc50 ?_
          refine g_iconst (pc := 53) (v := 1) C dX2_readInto_53 rfl ?_
          refine g_goto (pc := 54) C 58 dX2_readInto_54 (by decide) ?_
          refine g_mask (lv' := [some (.ref (ad 1)), some (.ref (ad s)), none, some (.int q.2.1), some (.int v35)]) [true, true, false, true, true] rfl ?_
          exact j_X2_readInto_58 C hd hs h hP
        · refine g_icmp_ne_t (pc := 50) C 57 dX2_readInto_50 (by decide) hc50 ?_
          refine g_mask (lv' := [some (.ref (ad 1)), some (.ref (ad s)), none, some (.int q.2.1), some (.int v35)]) [true, true, false, true, true] rfl ?_
          exact j_X2_readInto_57 C hd hs h hP
set_option maxRecDepth 100000 in
set_option maxHeartbeats 4000000 in
theorem j_X2_readInto_77 {E : Ex} {κ : Kx} {ad : Nat → Nat} {sh sp : Nat} {tl : List Ent} {d : Nat} {s : Nat} (C : Cx E κ cX2_readInto RX2 5 (some .int) d) (hd : 4 ≤ d) (hs : isS s) {mem : Mem} {x : Int32 × Mem} (h : f_X2_readInto_j77 s mem = some x) (hP : Qr E κ (some (.int x.1)) ad (LC sh sp ++ tl) x.2) : Gw E κ 5 0 0 77 [none, some (.ref (ad s)), none, none, none] [] ad (LC sh sp ++ tl) mem := by
  unfold f_X2_readInto_j77 at h
  refine g_aload_n (pc := 77) (i := 1) (x := ad s) C dX2_readInto_77 rfl rfl ?_
  obtain ⟨m78, hcall78, h⟩ := ob_some h
  refine g_callN (pc := 78) C ce0 mi_X5_finish mv_X5_finish nm_X2_31 dX2_readInto_78 ok_X5 [] [] (lz_0 hs) (by omega) rfl rfl (Nat.le_of_ble_eq_true rfl) (m_X5_finish (d := d - 1) (by omega) hs hcall78) ?_
  show Gw E κ 5 0 0 81 [none, some (.ref (ad s)), none, none, none] [] ad (LC sh sp ++ tl) m78
  refine g_bipush (pc := 81) (v := (-4)) C dX2_readInto_81 rfl ?_
  cases h
  exact g_iret (pc := 83) C hP rfl rfl dX2_readInto_83
set_option maxRecDepth 100000 in
set_option maxHeartbeats 4000000 in
theorem m_X2_readInto {E : Ex} {ad : Nat → Nat} {sh sp : Nat} {tl : List Ent} {d : Nat} (hd : 4 ≤ d) {s : Nat} (hs : isS s)  {mem : Mem} {r : Int32 × Mem} (h : f_X2_readInto s mem = some r) : Cl E yX2_readInto cX2_readInto 5 (some .int) d [.ref (ad 1), .ref (ad s)] (some (.int r.1)) ad (LC sh sp ++ tl) mem (LC sh sp ++ tl) r.2 := by
  refine Cl.of [some (.ref (ad 1)), some (.ref (ad s)), none, none, none] (by decide +kernel) rfl (Nat.le_of_ble_eq_true rfl) (fun κ C hP => ?_)
  have C : Cx E κ cX2_readInto RX2 5 (some .int) d := C
  unfold f_X2_readInto at h
  refine g_aload_n (pc := 0) (i := 1) (x := ad s) C dX2_readInto_0 rfl rfl ?_
  obtain ⟨m1, hcall1, h⟩ := ob_some h
  refine g_callN (pc := 1) C ce0 mi_X5_clear mv_X5_clear nm_X2_19 dX2_readInto_1 ok_X5 [] [] (lz_0 hs) (by omega) rfl rfl (Nat.le_of_ble_eq_true rfl) (m_X5_clear (d := d - 1) (by omega) hs hcall1) ?_
  show Gw E κ 5 0 0 4 [some (.ref (ad 1)), some (.ref (ad s)), none, none, none] [] ad (LC sh sp ++ tl) m1
  refine g_aload_n (pc := 4) (i := 0) (x := ad 1) C dX2_readInto_4 rfl rfl ?_
  refine g_iconst (pc := 5) (v := 0) C dX2_readInto_5 rfl ?_
  obtain ⟨m6, hm6, h⟩ := lt_some h
  refine g_put (pc := 6) C ok_X2 2 (by decide) wf_X2_24 dX2_readInto_6 rfl rfl la_1 ?_
  refine g_mem hm6 ?_
  refine g_iconst (pc := 9) (v := 1) C dX2_readInto_9 rfl ?_
  refine g_istore_n (pc := 10) (i := 2) (lv' := [some (.ref (ad 1)), some (.ref (ad s)), some (.int 1), none, none]) C dX2_readInto_10 rfl (by decide) rfl rfl ?_
  refine g_iconst (pc := 11) (v := 0) C dX2_readInto_11 rfl ?_
  refine g_istore_n (pc := 12) (i := 3) (lv' := [some (.ref (ad 1)), some (.ref (ad s)), some (.int 1), some (.int 0), none]) C dX2_readInto_12 rfl (by decide) rfl rfl ?_
  rcases obs_some h with ⟨q13, hq, h⟩ | ⟨r, hq, h⟩
  · refine lp_gw (P_X2_readInto_13 E κ ad (LC sh sp ++ tl) s) (fun q x hb hp => b_X2_readInto_13 C hd hs hb hp) _ (1, 0, m6) _ hq ?_
    show Gw E κ 5 0 0 77 [none, some (.ref (ad s)), none, none, none] [] ad (LC sh sp ++ tl) q13.2.2
    exact j_X2_readInto_77 C hd hs h hP
  · refine lp_gw (P_X2_readInto_13 E κ ad (LC sh sp ++ tl) s) (fun q x hb hp => b_X2_readInto_13 C hd hs hb hp) _ (1, 0, m6) _ hq ?_
    cases h
    exact hP
