theorem dX7_square_0 : decode cX7_square 0 = .ok (.aload_n 0, 1) := by decide +kernel
theorem dX7_square_1 : decode cX7_square 1 = .ok (.iload_n 1, 1) := by decide +kernel
theorem dX7_square_2 : decode cX7_square 2 = .ok (.invokevirtual 201, 3) := by decide +kernel
theorem dX7_square_5 : decode cX7_square 5 = .ok (.ifCond .ne 7, 3) := by decide +kernel
theorem dX7_square_8 : decode cX7_square 8 = .ok (.iconst (-1), 1) := by decide +kernel
theorem dX7_square_9 : decode cX7_square 9 = .ok (.goto 24, 3) := by decide +kernel
theorem dX7_square_12 : decode cX7_square 12 = .ok (.aload_n 0, 1) := by decide +kernel
theorem dX7_square_13 : decode cX7_square 13 = .ok (.getfield 31, 3) := by decide +kernel
theorem dX7_square_16 : decode cX7_square 16 = .ok (.iload_n 1, 1) := by decide +kernel
theorem dX7_square_17 : decode cX7_square 17 = .ok (.iaload, 1) := by decide +kernel
theorem dX7_square_18 : decode cX7_square 18 = .ok (.iconst 1, 1) := by decide +kernel
theorem dX7_square_19 : decode cX7_square 19 = .ok (.if_icmp .ne 8, 3) := by decide +kernel
theorem dX7_square_22 : decode cX7_square 22 = .ok (.bipush (-4), 2) := by decide +kernel
theorem dX7_square_24 : decode cX7_square 24 = .ok (.goto 9, 3) := by decide +kernel
theorem dX7_square_27 : decode cX7_square 27 = .ok (.aload_n 0, 1) := by decide +kernel
theorem dX7_square_28 : decode cX7_square 28 = .ok (.getfield 52, 3) := by decide +kernel
theorem dX7_square_31 : decode cX7_square 31 = .ok (.iload_n 1, 1) := by decide +kernel
theorem dX7_square_32 : decode cX7_square 32 = .ok (.iaload, 1) := by decide +kernel
theorem dX7_square_33 : decode cX7_square 33 = .ok (.ireturn, 1) := by decide +kernel
noncomputable def f_X7_square (l1 : Int32) (mem : Mem) : Option (Int32) :=
  ob (f_X7_isSquare l1 mem) fun r2 => if r2 = 0 then (some ((-1))) else (rd (mem 70) 16 l1 fun v17 => if v17 = 1 then (some ((-4))) else (rd (mem 77) 28 l1 fun v32 => some v32))
set_option maxRecDepth 100000 in
set_option maxHeartbeats 4000000 in
theorem m_X7_square {E : Ex} {ad : Nat → Nat} {sh sp : Nat} {d : Nat} (hd : 2 ≤ d)  {l1 : Int32} {mem : Mem} {r : Int32} (h : f_X7_square l1 mem = some r) : Cl E yX7_square cX7_square 2 (some .int) d [.ref (ad 62), .int l1] (some (.int r)) ad (LC sh sp ++ LM) mem (LC sh sp ++ LM) mem := by
  refine Cl.of [some (.ref (ad 62)), some (.int l1)] (by decide +kernel) rfl (Nat.le_of_ble_eq_true rfl) (fun κ C hP => ?_)
  have C : Cx E κ cX7_square RX7 2 (some .int) d := C
  unfold f_X7_square at h
  refine g_aload_n (pc := 0) (i := 0) (x := ad 62) C dX7_square_0 rfl rfl ?_
  refine g_iload_n (pc := 1) (i := 1) (x := l1) C dX7_square_1 rfl rfl ?_
  obtain ⟨r2, hcall2, h⟩ := ob_some h
  refine g_callV (pc := 2) C ce0 mi_X7_isSquare mv_X7_isSquare wm_X7_201 dX7_square_2 ok_X7 [.int l1] [] la_62 (by omega) rfl rfl (Nat.le_of_ble_eq_true rfl) (m_X7_isSquare (d := d - 1) (by omega)  hcall2) ?_
  show Gw E κ 2 0 0 5 [some (.ref (ad 62)), some (.int l1)] [.int r2] ad (LC sh sp ++ LM) mem
  rcases ite_some' h with ⟨hc5, h⟩ | ⟨hc5, h⟩
  · refine g_if_ne_f (pc := 5) C 12 dX7_square_5 (by decide) hc5 ?_
    refine g_iconst (pc := 8) (v := (-1)) C dX7_square_8 rfl ?_
    refine g_goto (pc := 9) C 33 dX7_square_9 (by decide) ?_
    cases h
    exact g_iret (pc := 33) C hP rfl rfl dX7_square_33
  · refine g_if_ne_t (pc := 5) C 12 dX7_square_5 (by decide) hc5 ?_
    refine g_aload_n (pc := 12) (i := 0) (x := ad 62) C dX7_square_12 rfl rfl ?_
    refine g_get (pc := 13) (v := .ref (ad 70)) C ok_X7 19 (by decide) wf_X7_31 dX7_square_13 la_62 rfl ?_
    refine g_iload_n (pc := 16) (i := 1) (x := l1) C dX7_square_16 rfl rfl ?_
    obtain ⟨v17, hv17, hi17, h⟩ := rd_some h
    refine g_iald (pc := 17) C dX7_square_17 la_70 hi17 ?_
    refine g_topi hv17 ?_
    refine g_iconst (pc := 18) (v := 1) C dX7_square_18 rfl ?_
    rcases ite_some' h with ⟨hc19, h⟩ | ⟨hc19, h⟩
    · refine g_icmp_ne_f (pc := 19) C 27 dX7_square_19 (by decide) hc19 ?_
      refine g_bipush (pc := 22) (v := (-4)) C dX7_square_22 rfl ?_
      refine g_goto (pc := 24) C 33 dX7_square_24 (by decide) ?_
      cases h
      exact g_iret (pc := 33) C hP rfl rfl dX7_square_33
    · refine g_icmp_ne_t (pc := 19) C 27 dX7_square_19 (by decide) hc19 ?_
      refine g_aload_n (pc := 27) (i := 0) (x := ad 62) C dX7_square_27 rfl rfl ?_
      refine g_get (pc := 28) (v := .ref (ad 77)) C ok_X7 26 (by decide) wf_X7_52 dX7_square_28 la_62 rfl ?_
      refine g_iload_n (pc := 31) (i := 1) (x := l1) C dX7_square_31 rfl rfl ?_
      obtain ⟨v32, hv32, hi32, h⟩ := rd_some h
      refine g_iald (pc := 32) C dX7_square_32 la_77 hi32 ?_
      refine g_topi hv32 ?_
      cases h
      exact g_iret (pc := 33) C hP rfl rfl dX7_square_33

theorem dX7_squareOf_0 : decode cX7_squareOf 0 = .ok (.aload_n 0, 1) := by decide +kernel
theorem dX7_squareOf_1 : decode cX7_squareOf 1 = .ok (.getfield 43, 3) := by decide +kernel
theorem dX7_squareOf_4 : decode cX7_squareOf 4 = .ok (.iload_n 1, 1) := by decide +kernel
theorem dX7_squareOf_5 : decode cX7_squareOf 5 = .ok (.iaload, 1) := by decide +kernel
theorem dX7_squareOf_6 : decode cX7_squareOf 6 = .ok (.iload_n 2, 1) := by decide +kernel
theorem dX7_squareOf_7 : decode cX7_squareOf 7 = .ok (.aload_n 0, 1) := by decide +kernel
theorem dX7_squareOf_8 : decode cX7_squareOf 8 = .ok (.getfield 49, 3) := by decide +kernel
theorem dX7_squareOf_11 : decode cX7_squareOf 11 = .ok (.iload_n 1, 1) := by decide +kernel
theorem dX7_squareOf_12 : decode cX7_squareOf 12 = .ok (.iaload, 1) := by decide +kernel
theorem dX7_squareOf_13 : decode cX7_squareOf 13 = .ok (.imul, 1) := by decide +kernel
theorem dX7_squareOf_14 : decode cX7_squareOf 14 = .ok (.iadd, 1) := by decide +kernel
theorem dX7_squareOf_15 : decode cX7_squareOf 15 = .ok (.ireturn, 1) := by decide +kernel
noncomputable def f_X7_squareOf (l1 : Int32) (l2 : Int32) (mem : Mem) : Option (Int32) :=
  rd (mem 74) 8 l1 fun v5 => rd (mem 76) 8 l1 fun v12 => lt' (v5 + (l2 * v12)) fun v15 => some v15
set_option maxRecDepth 100000 in
set_option maxHeartbeats 4000000 in
theorem m_X7_squareOf {E : Ex} {ad : Nat → Nat} {sh sp : Nat} {d : Nat} (hd : 0 ≤ d)  {l1 : Int32} {l2 : Int32} {mem : Mem} {r : Int32} (h : f_X7_squareOf l1 l2 mem = some r) : Cl E yX7_squareOf cX7_squareOf 3 (some .int) d [.ref (ad 62), .int l1, .int l2] (some (.int r)) ad (LC sh sp ++ LM) mem (LC sh sp ++ LM) mem := by
  refine Cl.of [some (.ref (ad 62)), some (.int l1), some (.int l2)] (by decide +kernel) rfl (Nat.le_of_ble_eq_true rfl) (fun κ C hP => ?_)
  have C : Cx E κ cX7_squareOf RX7 3 (some .int) d := C
  unfold f_X7_squareOf at h
  refine g_aload_n (pc := 0) (i := 0) (x := ad 62) C dX7_squareOf_0 rfl rfl ?_
  refine g_get (pc := 1) (v := .ref (ad 74)) C ok_X7 23 (by decide) wf_X7_43 dX7_squareOf_1 la_62 rfl ?_
  refine g_iload_n (pc := 4) (i := 1) (x := l1) C dX7_squareOf_4 rfl rfl ?_
  obtain ⟨v5, hv5, hi5, h⟩ := rd_some h
  refine g_iald (pc := 5) C dX7_squareOf_5 la_74 hi5 ?_
  refine g_topi hv5 ?_
  refine g_iload_n (pc := 6) (i := 2) (x := l2) C dX7_squareOf_6 rfl rfl ?_
  refine g_aload_n (pc := 7) (i := 0) (x := ad 62) C dX7_squareOf_7 rfl rfl ?_
  refine g_get (pc := 8) (v := .ref (ad 76)) C ok_X7 25 (by decide) wf_X7_49 dX7_squareOf_8 la_62 rfl ?_
  refine g_iload_n (pc := 11) (i := 1) (x := l1) C dX7_squareOf_11 rfl rfl ?_
  obtain ⟨v12, hv12, hi12, h⟩ := rd_some h
  refine g_iald (pc := 12) C dX7_squareOf_12 la_76 hi12 ?_
  refine g_topi hv12 ?_
  refine g_imul (pc := 13) C dX7_squareOf_13 ?_
  refine g_iadd (pc := 14) C dX7_squareOf_14 ?_
  obtain ⟨v15, hv15, h⟩ := lt_some h
  refine g_topi hv15 ?_
  cases h
  exact g_iret (pc := 15) C hP rfl rfl dX7_squareOf_15

theorem dX7_empties_0 : decode cX7_empties 0 = .ok (.iconst 0, 1) := by decide +kernel
theorem dX7_empties_1 : decode cX7_empties 1 = .ok (.istore_n 3, 1) := by decide +kernel
theorem dX7_empties_2 : decode cX7_empties 2 = .ok (.iconst 0, 1) := by decide +kernel
theorem dX7_empties_3 : decode cX7_empties 3 = .ok (.istore 4, 2) := by decide +kernel
theorem dX7_empties_5 : decode cX7_empties 5 = .ok (.iload 4, 2) := by decide +kernel
theorem dX7_empties_7 : decode cX7_empties 7 = .ok (.aload_n 0, 1) := by decide +kernel
theorem dX7_empties_8 : decode cX7_empties 8 = .ok (.getfield 46, 3) := by decide +kernel
theorem dX7_empties_11 : decode cX7_empties 11 = .ok (.iload_n 2, 1) := by decide +kernel
theorem dX7_empties_12 : decode cX7_empties 12 = .ok (.iaload, 1) := by decide +kernel
theorem dX7_empties_13 : decode cX7_empties 13 = .ok (.if_icmp .ge 29, 3) := by decide +kernel
theorem dX7_empties_16 : decode cX7_empties 16 = .ok (.iload_n 3, 1) := by decide +kernel
theorem dX7_empties_17 : decode cX7_empties 17 = .ok (.aload_n 1, 1) := by decide +kernel
theorem dX7_empties_18 : decode cX7_empties 18 = .ok (.aload_n 0, 1) := by decide +kernel
theorem dX7_empties_19 : decode cX7_empties 19 = .ok (.iload_n 2, 1) := by decide +kernel
theorem dX7_empties_20 : decode cX7_empties 20 = .ok (.iload 4, 2) := by decide +kernel
theorem dX7_empties_22 : decode cX7_empties 22 = .ok (.invokevirtual 204, 3) := by decide +kernel
theorem dX7_empties_25 : decode cX7_empties 25 = .ok (.iaload, 1) := by decide +kernel
theorem dX7_empties_26 : decode cX7_empties 26 = .ok (.ifCond .ne 7, 3) := by decide +kernel
theorem dX7_empties_29 : decode cX7_empties 29 = .ok (.iconst 1, 1) := by decide +kernel
theorem dX7_empties_30 : decode cX7_empties 30 = .ok (.goto 4, 3) := by decide +kernel
theorem dX7_empties_33 : decode cX7_empties 33 = .ok (.iconst 0, 1) := by decide +kernel
theorem dX7_empties_34 : decode cX7_empties 34 = .ok (.iadd, 1) := by decide +kernel
theorem dX7_empties_35 : decode cX7_empties 35 = .ok (.istore_n 3, 1) := by decide +kernel
theorem dX7_empties_36 : decode cX7_empties 36 = .ok (.iinc 4 1, 3) := by decide +kernel
theorem dX7_empties_39 : decode cX7_empties 39 = .ok (.goto (-34), 3) := by decide +kernel
theorem dX7_empties_42 : decode cX7_empties 42 = .ok (.iload_n 3, 1) := by decide +kernel
theorem dX7_empties_43 : decode cX7_empties 43 = .ok (.ireturn, 1) := by decide +kernel
noncomputable def f_X7_empties_b5 (o : Nat) (l2 : Int32) (mem : Mem) (q : Int32 × Int32) : Option ((Int32 × Int32) ⊕ (Int32 × Int32)) :=
  rd (mem 75) 8 l2 fun v12 => if v12 ≤ q.2 then (some (.inr (q.1, q.2))) else (ob (f_X7_squareOf l2 q.2 mem) fun r22 => rd (mem o) 28 r22 fun v25 => if v25 = 0 then (lt' (q.1 + 1) fun v35 => lt' (q.2 + 1) fun v36 => some (.inl (v35, v36))) else (lt' (q.1 + 0) fun v35 => lt' (q.2 + 1) fun v36 => some (.inl (v35, v36))))
noncomputable def f_X7_empties (o : Nat) (l2 : Int32) (mem : Mem) : Option (Int32) :=
  ob (lp (f_X7_empties_b5 o l2 mem) FU (0, 0)) fun q5 => some q5.1
def P_X7_empties_5 (E : Ex) (κ : Kx) (ad : Nat → Nat) (lay : List Ent) (o : Nat) (l2 : Int32) (mem : Mem) : (Int32 × Int32) ⊕ (Int32 × Int32) → Prop
  | .inl q => Gw E κ 5 0 0 5 [some (.ref (ad 62)), some (.ref (ad o)), some (.int l2), some (.int q.1), some (.int q.2)] [] ad lay mem
  | .inr q => Gw E κ 5 0 0 42 [none, none, none, some (.int q.1), none] [] ad lay mem
set_option maxRecDepth 100000 in
set_option maxHeartbeats 4000000 in
theorem b_X7_empties_5 {E : Ex} {κ : Kx} {ad : Nat → Nat} {sh sp : Nat} {d : Nat} {o : Nat} (C : Cx E κ cX7_empties RX7 5 (some .int) d) (hd : 1 ≤ d) (ho : isO o) {l2 : Int32} {mem : Mem} {q : Int32 × Int32} {x : (Int32 × Int32) ⊕ (Int32 × Int32)} (h : f_X7_empties_b5 o l2 mem q = some x) (hP : (P_X7_empties_5 E κ ad (LC sh sp ++ LM) o l2 mem) x) : Gw E κ 5 0 0 5 [some (.ref (ad 62)), some (.ref (ad o)), some (.int l2), some (.int q.1), some (.int q.2)] [] ad (LC sh sp ++ LM) mem := by
  unfold f_X7_empties_b5 at h
  refine g_iload (pc := 5) (i := 4) (x := q.2) C dX7_empties_5 rfl ?_
  refine g_aload_n (pc := 7) (i := 0) (x := ad 62) C dX7_empties_7 rfl rfl ?_
  refine g_get (pc := 8) (v := .ref (ad 75)) C ok_X7 24 (by decide) wf_X7_46 dX7_empties_8 la_62 rfl ?_
  refine g_iload_n (pc := 11) (i := 2) (x := l2) C dX7_empties_11 rfl rfl ?_
  obtain ⟨v12, hv12, hi12, h⟩ := rd_some h
  refine g_iald (pc := 12) C dX7_empties_12 la_75 hi12 ?_
  refine g_topi hv12 ?_
  rcases ite_some' h with ⟨hc13, h⟩ | ⟨hc13, h⟩
  · refine g_icmp_ge_t (pc := 13) C 42 dX7_empties_13 (by decide) hc13 ?_
    refine g_mask (lv' := [none, none, none, some (.int q.1), none]) [false, false, false, true, false] rfl ?_
    cases h
    exact hP
  · refine g_icmp_ge_f (pc := 13) C 42 dX7_empties_13 (by decide) hc13 ?_
    refine g_iload_n (pc := 16) (i := 3) (x := q.1) C dX7_empties_16 rfl rfl ?_
    refine g_aload_n (pc := 17) (i := 1) (x := ad o) C dX7_empties_17 rfl rfl ?_
    refine g_aload_n (pc := 18) (i := 0) (x := ad 62) C dX7_empties_18 rfl rfl ?_
    refine g_iload_n (pc := 19) (i := 2) (x := l2) C dX7_empties_19 rfl rfl ?_
    refine g_iload (pc := 20) (i := 4) (x := q.2) C dX7_empties_20 rfl ?_
    obtain ⟨r22, hcall22, h⟩ := ob_some h
    refine g_callV (pc := 22) C ce0 mi_X7_squareOf mv_X7_squareOf wm_X7_204 dX7_empties_22 ok_X7 [.int l2, .int q.2] [.ref (ad o), .int q.1] la_62 (by omega) rfl rfl (Nat.le_of_ble_eq_true rfl) (m_X7_squareOf (d := d - 1) (by omega)  hcall22) ?_
    show Gw E κ 5 0 0 25 [some (.ref (ad 62)), some (.ref (ad o)), some (.int l2), some (.int q.1), some (.int q.2)] [.int r22, .ref (ad o), .int q.1] ad (LC sh sp ++ LM) mem
    obtain ⟨v25, hv25, hi25, h⟩ := rd_some h
    refine g_iald (pc := 25) C dX7_empties_25 (lq_0 ho) hi25 ?_
    refine g_topi hv25 ?_
    rcases ite_some' h with ⟨hc26, h⟩ | ⟨hc26, h⟩
    · refine g_if_ne_f (pc := 26) C 33 dX7_empties_26 (by decide) hc26 ?_
      refine g_iconst (pc := 29) (v := 1) C dX7_empties_29 rfl ?_
      refine g_goto (pc := 30) C 34 dX7_empties_30 (by decide) ?_
      refine g_iadd (pc := 34) C dX7_empties_34 ?_
      obtain ⟨v35, hv35, h⟩ := lt_some h
      refine g_topi hv35 ?_
      refine g_istore_n (pc := 35) (i := 3) (lv' := [some (.ref (ad 62)), some (.ref (ad o)), some (.int l2), some (.int v35), some (.int q.2)]) C dX7_empties_35 rfl (by decide) rfl rfl ?_
      obtain ⟨v36, hv36, h⟩ := lt_some h
      refine g_iinc (pc := 36) (i := 4) (x := q.2) (v := v36) (lv' := [some (.ref (ad 62)), some (.ref (ad o)), some (.int l2), some (.int v35), some (.int v36)]) C dX7_empties_36 rfl hv36.symm (by decide) rfl rfl ?_
      refine g_goto (pc := 39) C 5 dX7_empties_39 (by decide) ?_
      cases h
      exact hP
    · refine g_if_ne_t (pc := 26) C 33 dX7_empties_26 (by decide) hc26 ?_
      refine g_iconst (pc := 33) (v := 0) C dX7_empties_33 rfl ?_
      refine g_iadd (pc := 34) C dX7_empties_34 ?_
      obtain ⟨v35, hv35, h⟩ := lt_some h
      refine g_topi hv35 ?_
      refine g_istore_n (pc := 35) (i := 3) (lv' := [some (.ref (ad 62)), some (.ref (ad o)), some (.int l2), some (.int v35), some (.int q.2)]) C dX7_empties_35 rfl (by decide) rfl rfl ?_
      obtain ⟨v36, hv36, h⟩ := lt_some h
      refine g_iinc (pc := 36) (i := 4) (x := q.2) (v := v36) (lv' := [some (.ref (ad 62)), some (.ref (ad o)), some (.int l2), some (.int v35), some (.int v36)]) C dX7_empties_36 rfl hv36.symm (by decide) rfl rfl ?_
      refine g_goto (pc := 39) C 5 dX7_empties_39 (by decide) ?_
      cases h
      exact hP
set_option maxRecDepth 100000 in
set_option maxHeartbeats 4000000 in
theorem m_X7_empties {E : Ex} {ad : Nat → Nat} {sh sp : Nat} {d : Nat} (hd : 1 ≤ d) {o : Nat} (ho : isO o) {l2 : Int32} {mem : Mem} {r : Int32} (h : f_X7_empties o l2 mem = some r) : Cl E yX7_empties cX7_empties 5 (some .int) d [.ref (ad 62), .ref (ad o), .int l2] (some (.int r)) ad (LC sh sp ++ LM) mem (LC sh sp ++ LM) mem := by
  refine Cl.of [some (.ref (ad 62)), some (.ref (ad o)), some (.int l2), none, none] (by decide +kernel) rfl (Nat.le_of_ble_eq_true rfl) (fun κ C hP => ?_)
  have C : Cx E κ cX7_empties RX7 5 (some .int) d := C
  unfold f_X7_empties at h
  refine g_iconst (pc := 0) (v := 0) C dX7_empties_0 rfl ?_
  refine g_istore_n (pc := 1) (i := 3) (lv' := [some (.ref (ad 62)), some (.ref (ad o)), some (.int l2), some (.int 0), none]) C dX7_empties_1 rfl (by decide) rfl rfl ?_
  refine g_iconst (pc := 2) (v := 0) C dX7_empties_2 rfl ?_
  refine g_istore (pc := 3) (i := 4) (lv' := [some (.ref (ad 62)), some (.ref (ad o)), some (.int l2), some (.int 0), some (.int 0)]) C dX7_empties_3 (by decide) rfl rfl ?_
  obtain ⟨q5, hq, h⟩ := ob_some h
  refine lp_gw (P_X7_empties_5 E κ ad (LC sh sp ++ LM) o l2 mem) (fun q x hb hp => b_X7_empties_5 C hd ho hb hp) _ (0, 0) _ hq ?_
  show Gw E κ 5 0 0 42 [none, none, none, some (.int q5.1), none] [] ad (LC sh sp ++ LM) mem
  refine g_iload_n (pc := 42) (i := 3) (x := q5.1) C dX7_empties_42 rfl rfl ?_
  cases h
  exact g_iret (pc := 43) C hP rfl rfl dX7_empties_43

theorem dX7_isLike_0 : decode cX7_isLike 0 = .ok (.aload_n 0, 1) := by decide +kernel
theorem dX7_isLike_1 : decode cX7_isLike 1 = .ok (.getfield 34, 3) := by decide +kernel
theorem dX7_isLike_4 : decode cX7_isLike 4 = .ok (.iload_n 3, 1) := by decide +kernel
theorem dX7_isLike_5 : decode cX7_isLike 5 = .ok (.iaload, 1) := by decide +kernel
theorem dX7_isLike_6 : decode cX7_isLike 6 = .ok (.aload_n 0, 1) := by decide +kernel
theorem dX7_isLike_7 : decode cX7_isLike 7 = .ok (.getfield 46, 3) := by decide +kernel
theorem dX7_isLike_10 : decode cX7_isLike 10 = .ok (.iload_n 2, 1) := by decide +kernel
theorem dX7_isLike_11 : decode cX7_isLike 11 = .ok (.iaload, 1) := by decide +kernel
theorem dX7_isLike_12 : decode cX7_isLike 12 = .ok (.if_icmp .ne 7, 3) := by decide +kernel
theorem dX7_isLike_15 : decode cX7_isLike 15 = .ok (.iconst 1, 1) := by decide +kernel
theorem dX7_isLike_16 : decode cX7_isLike 16 = .ok (.goto 4, 3) := by decide +kernel
theorem dX7_isLike_19 : decode cX7_isLike 19 = .ok (.iconst 0, 1) := by decide +kernel
theorem dX7_isLike_20 : decode cX7_isLike 20 = .ok (.istore 4, 2) := by decide +kernel
theorem dX7_isLike_22 : decode cX7_isLike 22 = .ok (.iconst 0, 1) := by decide +kernel
theorem dX7_isLike_23 : decode cX7_isLike 23 = .ok (.istore 5, 2) := by decide +kernel
theorem dX7_isLike_25 : decode cX7_isLike 25 = .ok (.iload 5, 2) := by decide +kernel
theorem dX7_isLike_27 : decode cX7_isLike 27 = .ok (.aload_n 0, 1) := by decide +kernel
theorem dX7_isLike_28 : decode cX7_isLike 28 = .ok (.getfield 46, 3) := by decide +kernel
theorem dX7_isLike_31 : decode cX7_isLike 31 = .ok (.iload_n 2, 1) := by decide +kernel
theorem dX7_isLike_32 : decode cX7_isLike 32 = .ok (.iaload, 1) := by decide +kernel
theorem dX7_isLike_33 : decode cX7_isLike 33 = .ok (.if_icmp .ge 53, 3) := by decide +kernel
theorem dX7_isLike_36 : decode cX7_isLike 36 = .ok (.iload 4, 2) := by decide +kernel
theorem dX7_isLike_38 : decode cX7_isLike 38 = .ok (.ifCond .eq 48, 3) := by decide +kernel
theorem dX7_isLike_41 : decode cX7_isLike 41 = .ok (.aload_n 1, 1) := by decide +kernel
theorem dX7_isLike_42 : decode cX7_isLike 42 = .ok (.aload_n 0, 1) := by decide +kernel
theorem dX7_isLike_43 : decode cX7_isLike 43 = .ok (.iload_n 2, 1) := by decide +kernel
theorem dX7_isLike_44 : decode cX7_isLike 44 = .ok (.iload 5, 2) := by decide +kernel
theorem dX7_isLike_46 : decode cX7_isLike 46 = .ok (.invokevirtual 204, 3) := by decide +kernel
theorem dX7_isLike_49 : decode cX7_isLike 49 = .ok (.iaload, 1) := by decide +kernel
theorem dX7_isLike_50 : decode cX7_isLike 50 = .ok (.istore 6, 2) := by decide +kernel
theorem dX7_isLike_52 : decode cX7_isLike 52 = .ok (.iload 6, 2) := by decide +kernel
theorem dX7_isLike_54 : decode cX7_isLike 54 = .ok (.ifCond .eq 19, 3) := by decide +kernel
theorem dX7_isLike_57 : decode cX7_isLike 57 = .ok (.iload 6, 2) := by decide +kernel
theorem dX7_isLike_59 : decode cX7_isLike 59 = .ok (.aload_n 0, 1) := by decide +kernel
theorem dX7_isLike_60 : decode cX7_isLike 60 = .ok (.getfield 37, 3) := by decide +kernel
theorem dX7_isLike_63 : decode cX7_isLike 63 = .ok (.iconst 4, 1) := by decide +kernel
theorem dX7_isLike_64 : decode cX7_isLike 64 = .ok (.iload_n 3, 1) := by decide +kernel
theorem dX7_isLike_65 : decode cX7_isLike 65 = .ok (.imul, 1) := by decide +kernel
theorem dX7_isLike_66 : decode cX7_isLike 66 = .ok (.iload 5, 2) := by decide +kernel
theorem dX7_isLike_68 : decode cX7_isLike 68 = .ok (.iadd, 1) := by decide +kernel
theorem dX7_isLike_69 : decode cX7_isLike 69 = .ok (.iaload, 1) := by decide +kernel
theorem dX7_isLike_70 : decode cX7_isLike 70 = .ok (.if_icmp .ne 7, 3) := by decide +kernel
theorem dX7_isLike_73 : decode cX7_isLike 73 = .ok (.iconst 1, 1) := by decide +kernel
theorem dX7_isLike_74 : decode cX7_isLike 74 = .ok (.goto 4, 3) := by decide +kernel
theorem dX7_isLike_77 : decode cX7_isLike 77 = .ok (.iconst 0, 1) := by decide +kernel
theorem dX7_isLike_78 : decode cX7_isLike 78 = .ok (.istore 4, 2) := by decide +kernel
theorem dX7_isLike_80 : decode cX7_isLike 80 = .ok (.iinc 5 1, 3) := by decide +kernel
theorem dX7_isLike_83 : decode cX7_isLike 83 = .ok (.goto (-58), 3) := by decide +kernel
theorem dX7_isLike_86 : decode cX7_isLike 86 = .ok (.iload 4, 2) := by decide +kernel
theorem dX7_isLike_88 : decode cX7_isLike 88 = .ok (.ireturn, 1) := by decide +kernel
noncomputable def f_X7_isLike_b25 (o : Nat) (l2 : Int32) (l3 : Int32) (mem : Mem) (q : Int32 × Int32) : Option ((Int32 × Int32) ⊕ (Int32 × Int32)) :=
  rd (mem 75) 8 l2 fun v32 => if v32 ≤ q.2 then (some (.inr (q.1, q.2))) else (if q.1 = 0 then (some (.inr (q.1, q.2))) else (ob (f_X7_squareOf l2 q.2 mem) fun r46 => rd (mem o) 28 r46 fun v49 => if v49 = 0 then (lt' (q.2 + 1) fun v80 => some (.inl (1, v80))) else (rd (mem 72) 36 ((4 * l3) + q.2) fun v69 => if v49 = v69 then (lt' (q.2 + 1) fun v80 => some (.inl (1, v80))) else (lt' (q.2 + 1) fun v80 => some (.inl (0, v80))))))
noncomputable def f_X7_isLike_j20 (o : Nat) (l2 : Int32) (l3 : Int32) (w0 : Int32) (mem : Mem) : Option (Int32) :=
  ob (lp (f_X7_isLike_b25 o l2 l3 mem) FU (w0, 0)) fun q25 => bk q25.1 (some q25.1)
noncomputable def f_X7_isLike (o : Nat) (l2 : Int32) (l3 : Int32) (mem : Mem) : Option (Int32) :=
  rd (mem 71) 9 l3 fun v5 => rd (mem 75) 8 l2 fun v11 => if v5 = v11 then (f_X7_isLike_j20 o l2 l3 1 mem) else (f_X7_isLike_j20 o l2 l3 0 mem)
def P_X7_isLike_25 (E : Ex) (κ : Kx) (ad : Nat → Nat) (lay : List Ent) (o : Nat) (l2 : Int32) (l3 : Int32) (mem : Mem) : (Int32 × Int32) ⊕ (Int32 × Int32) → Prop
  | .inl q => Gw E κ 7 0 0 25 [some (.ref (ad 62)), some (.ref (ad o)), some (.int l2), some (.int l3), some (.int q.1), some (.int q.2), none] [] ad lay mem
  | .inr q => Gw E κ 7 0 0 86 [none, none, none, none, some (.int q.1), none, none] [] ad lay mem
set_option maxRecDepth 100000 in
set_option maxHeartbeats 4000000 in
theorem b_X7_isLike_25 {E : Ex} {κ : Kx} {ad : Nat → Nat} {sh sp : Nat} {d : Nat} {o : Nat} (C : Cx E κ cX7_isLike RX7 7 (some .boolean) d) (hd : 1 ≤ d) (ho : isO o) {l2 : Int32} {l3 : Int32} {mem : Mem} {q : Int32 × Int32} {x : (Int32 × Int32) ⊕ (Int32 × Int32)} (h : f_X7_isLike_b25 o l2 l3 mem q = some x) (hP : (P_X7_isLike_25 E κ ad (LC sh sp ++ LM) o l2 l3 mem) x) : Gw E κ 7 0 0 25 [some (.ref (ad 62)), some (.ref (ad o)), some (.int l2), some (.int l3), some (.int q.1), some (.int q.2), none] [] ad (LC sh sp ++ LM) mem := by
  unfold f_X7_isLike_b25 at h
  refine g_iload (pc := 25) (i := 5) (x := q.2) C dX7_isLike_25 rfl ?_
  refine g_aload_n (pc := 27) (i := 0) (x := ad 62) C dX7_isLike_27 rfl rfl ?_
  refine g_get (pc := 28) (v := .ref (ad 75)) C ok_X7 24 (by decide) wf_X7_46 dX7_isLike_28 la_62 rfl ?_
  refine g_iload_n (pc := 31) (i := 2) (x := l2) C dX7_isLike_31 rfl rfl ?_
  obtain ⟨v32, hv32, hi32, h⟩ := rd_some h
  refine g_iald (pc := 32) C dX7_isLike_32 la_75 hi32 ?_
  refine g_topi hv32 ?_
  rcases ite_some' h with ⟨hc33, h⟩ | ⟨hc33, h⟩
  · refine g_icmp_ge_t (pc := 33) C 86 dX7_isLike_33 (by decide) hc33 ?_
    refine g_mask (lv' := [none, none, none, none, some (.int q.1), none, none]) [false, false, false, false, true, false, false] rfl ?_
    cases h
    exact hP
  · refine g_icmp_ge_f (pc := 33) C 86 dX7_isLike_33 (by decide) hc33 ?_
    refine g_iload (pc := 36) (i := 4) (x := q.1) C dX7_isLike_36 rfl ?_
    rcases ite_some' h with ⟨hc38, h⟩ | ⟨hc38, h⟩
    · refine g_if_eq_t (pc := 38) C 86 dX7_isLike_38 (by decide) hc38 ?_
      refine g_mask (lv' := [none, none, none, none, some (.int q.1), none, none]) [false, false, false, false, true, false, false] rfl ?_
      cases h
      exact hP
    · refine g_if_eq_f (pc := 38) C 86 dX7_isLike_38 (by decide) hc38 ?_
      refine g_aload_n (pc := 41) (i := 1) (x := ad o) C dX7_isLike_41 rfl rfl ?_
      refine g_aload_n (pc := 42) (i := 0) (x := ad 62) C dX7_isLike_42 rfl rfl ?_
      refine g_iload_n (pc := 43) (i := 2) (x := l2) C dX7_isLike_43 rfl rfl ?_
      refine g_iload (pc := 44) (i := 5) (x := q.2) C dX7_isLike_44 rfl ?_
      obtain ⟨r46, hcall46, h⟩ := ob_some h
      refine g_callV (pc := 46) C ce0 mi_X7_squareOf mv_X7_squareOf wm_X7_204 dX7_isLike_46 ok_X7 [.int l2, .int q.2] [.ref (ad o)] la_62 (by omega) rfl rfl (Nat.le_of_ble_eq_true rfl) (m_X7_squareOf (d := d - 1) (by omega)  hcall46) ?_
      show Gw E κ 7 0 0 49 [some (.ref (ad 62)), some (.ref (ad o)), some (.int l2), some (.int l3), some (.int q.1), some (.int q.2), none] [.int r46, .ref (ad o)] ad (LC sh sp ++ LM) mem
      obtain ⟨v49, hv49, hi49, h⟩ := rd_some h
      refine g_iald (pc := 49) C dX7_isLike_49 (lq_0 ho) hi49 ?_
      refine g_topi hv49 ?_
      refine g_istore (pc := 50) (i := 6) (lv' := [some (.ref (ad 62)), some (.ref (ad o)), some (.int l2), some (.int l3), some (.int q.1), some (.int q.2), some (.int v49)]) C dX7_isLike_50 (by decide) rfl rfl ?_
      refine g_iload (pc := 52) (i := 6) (x := v49) C dX7_isLike_52 rfl ?_
      rcases ite_some' h with ⟨hc54, h⟩ | ⟨hc54, h⟩
      · refine g_if_eq_t (pc := 54) C 73 dX7_isLike_54 (by decide) hc54 ?_
        refine g_iconst (pc := 73) (v := 1) C dX7_isLike_73 rfl ?_
        refine g_goto (pc := 74) C 78 dX7_isLike_74 (by decide) ?_
        refine g_istore (pc := 78) (i := 4) (lv' := [some (.ref (ad 62)), some (.ref (ad o)), some (.int l2), some (.int l3), some (.int 1), some (.int q.2), some (.int v49)]) C dX7_isLike_78 (by decide) rfl rfl ?_
        obtain ⟨v80, hv80, h⟩ := lt_some h
        refine g_iinc (pc := 80) (i := 5) (x := q.2) (v := v80) (lv' := [some (.ref (ad 62)), some (.ref (ad o)), some (.int l2), some (.int l3), some (.int 1), some (.int v80), some (.int v49)]) C dX7_isLike_80 rfl hv80.symm (by decide) rfl rfl ?_
        refine g_goto (pc := 83) C 25 dX7_isLike_83 (by decide) ?_
        refine g_mask (lv' := [some (.ref (ad 62)), some (.ref (ad o)), some (.int l2), some (.int l3), some (.int 1), some (.int v80), none]) [true, true, true, true, true, true, false] rfl ?_
        cases h
        exact hP
      · refine g_if_eq_f (pc := 54) C 73 dX7_isLike_54 (by decide) hc54 ?_
        refine g_iload (pc := 57) (i := 6) (x := v49) C dX7_isLike_57 rfl ?_
        refine g_aload_n (pc := 59) (i := 0) (x := ad 62) C dX7_isLike_59 rfl rfl ?_
        refine g_get (pc := 60) (v := .ref (ad 72)) C ok_X7 21 (by decide) wf_X7_37 dX7_isLike_60 la_62 rfl ?_
        refine g_iconst (pc := 63) (v := 4) C dX7_isLike_63 rfl ?_
        refine g_iload_n (pc := 64) (i := 3) (x := l3) C dX7_isLike_64 rfl rfl ?_
        refine g_imul (pc := 65) C dX7_isLike_65 ?_
        refine g_iload (pc := 66) (i := 5) (x := q.2) C dX7_isLike_66 rfl ?_
        refine g_iadd (pc := 68) C dX7_isLike_68 ?_
        obtain ⟨v69, hv69, hi69, h⟩ := rd_some h
        refine g_iald (pc := 69) C dX7_isLike_69 la_72 hi69 ?_
        refine g_topi hv69 ?_
        rcases ite_some' h with ⟨hc70, h⟩ | ⟨hc70, h⟩
        · refine g_icmp_ne_f (pc := 70) C 77 dX7_isLike_70 (by decide) hc70 ?_
          refine g_iconst (pc := 73) (v := 1) C dX7_isLike_73 rfl ?_
          refine g_goto (pc := 74) C 78 dX7_isLike_74 (by decide) ?_
          refine g_istore (pc := 78) (i := 4) (lv' := [some (.ref (ad 62)), some (.ref (ad o)), some (.int l2), some (.int l3), some (.int 1), some (.int q.2), some (.int v49)]) C dX7_isLike_78 (by decide) rfl rfl ?_
          obtain ⟨v80, hv80, h⟩ := lt_some h
          refine g_iinc (pc := 80) (i := 5) (x := q.2) (v := v80) (lv' := [some (.ref (ad 62)), some (.ref (ad o)), some (.int l2), some (.int l3), some (.int 1), some (.int v80), some (.int v49)]) C dX7_isLike_80 rfl hv80.symm (by decide) rfl rfl ?_
          refine g_goto (pc := 83) C 25 dX7_isLike_83 (by decide) ?_
          refine g_mask (lv' := [some (.ref (ad 62)), some (.ref (ad o)), some (.int l2), some (.int l3), some (.int 1), some (.int v80), none]) [true, true, true, true, true, true, false] rfl ?_
          cases h
          exact hP
        · refine g_icmp_ne_t (pc := 70) C 77 dX7_isLike_70 (by decide) hc70 ?_
          refine g_iconst (pc := 77) (v := 0) C dX7_isLike_77 rfl ?_
          refine g_istore (pc := 78) (i := 4) (lv' := [some (.ref (ad 62)), some (.ref (ad o)), some (.int l2), some (.int l3), some (.int 0), some (.int q.2), some (.int v49)]) C dX7_isLike_78 (by decide) rfl rfl ?_
          obtain ⟨v80, hv80, h⟩ := lt_some h
          refine g_iinc (pc := 80) (i := 5) (x := q.2) (v := v80) (lv' := [some (.ref (ad 62)), some (.ref (ad o)), some (.int l2), some (.int l3), some (.int 0), some (.int v80), some (.int v49)]) C dX7_isLike_80 rfl hv80.symm (by decide) rfl rfl ?_
          refine g_goto (pc := 83) C 25 dX7_isLike_83 (by decide) ?_
          refine g_mask (lv' := [some (.ref (ad 62)), some (.ref (ad o)), some (.int l2), some (.int l3), some (.int 0), some (.int v80), none]) [true, true, true, true, true, true, false] rfl ?_
          cases h
          exact hP
set_option maxRecDepth 100000 in
set_option maxHeartbeats 4000000 in
theorem j_X7_isLike_20 {E : Ex} {κ : Kx} {ad : Nat → Nat} {sh sp : Nat} {d : Nat} {o : Nat} (C : Cx E κ cX7_isLike RX7 7 (some .boolean) d) (hd : 1 ≤ d) (ho : isO o) {l2 : Int32} {l3 : Int32} {w0 : Int32} {mem : Mem} {x : Int32} (h : f_X7_isLike_j20 o l2 l3 w0 mem = some x) (hP : Qr E κ (some (.int x)) ad (LC sh sp ++ LM) mem) : Gw E κ 7 0 0 20 [some (.ref (ad 62)), some (.ref (ad o)), some (.int l2), some (.int l3), none, none, none] [.int w0] ad (LC sh sp ++ LM) mem := by
  unfold f_X7_isLike_j20 at h
  refine g_istore (pc := 20) (i := 4) (lv' := [some (.ref (ad 62)), some (.ref (ad o)), some (.int l2), some (.int l3), some (.int w0), none, none]) C dX7_isLike_20 (by decide) rfl rfl ?_
  refine g_iconst (pc := 22) (v := 0) C dX7_isLike_22 rfl ?_
  refine g_istore (pc := 23) (i := 5) (lv' := [some (.ref (ad 62)), some (.ref (ad o)), some (.int l2), some (.int l3), some (.int w0), some (.int 0), none]) C dX7_isLike_23 (by decide) rfl rfl ?_
  obtain ⟨q25, hq, h⟩ := ob_some h
  refine lp_gw (P_X7_isLike_25 E κ ad (LC sh sp ++ LM) o l2 l3 mem) (fun q x hb hp => b_X7_isLike_25 C hd ho hb hp) _ (w0, 0) _ hq ?_
  show Gw E κ 7 0 0 86 [none, none, none, none, some (.int q25.1), none, none] [] ad (LC sh sp ++ LM) mem
  refine g_iload (pc := 86) (i := 4) (x := q25.1) C dX7_isLike_86 rfl ?_
  obtain ⟨hb88, h⟩ := bk_some h
  cases h
  exact g_iret (pc := 88) C hP rfl (nb01 hb88).1 dX7_isLike_88
set_option maxRecDepth 100000 in
set_option maxHeartbeats 4000000 in
theorem m_X7_isLike {E : Ex} {ad : Nat → Nat} {sh sp : Nat} {d : Nat} (hd : 1 ≤ d) {o : Nat} (ho : isO o) {l2 : Int32} {l3 : Int32} {mem : Mem} {r : Int32} (h : f_X7_isLike o l2 l3 mem = some r) : Cl E yX7_isLike cX7_isLike 7 (some .boolean) d [.ref (ad 62), .ref (ad o), .int l2, .int l3] (some (.int r)) ad (LC sh sp ++ LM) mem (LC sh sp ++ LM) mem := by
  refine Cl.of [some (.ref (ad 62)), some (.ref (ad o)), some (.int l2), some (.int l3), none, none, none] (by decide +kernel) rfl (Nat.le_of_ble_eq_true rfl) (fun κ C hP => ?_)
  have C : Cx E κ cX7_isLike RX7 7 (some .boolean) d := C
  unfold f_X7_isLike at h
  refine g_aload_n (pc := 0) (i := 0) (x := ad 62) C dX7_isLike_0 rfl rfl ?_
  refine g_get (pc := 1) (v := .ref (ad 71)) C ok_X7 20 (by decide) wf_X7_34 dX7_isLike_1 la_62 rfl ?_
  refine g_iload_n (pc := 4) (i := 3) (x := l3) C dX7_isLike_4 rfl rfl ?_
  obtain ⟨v5, hv5, hi5, h⟩ := rd_some h
  refine g_iald (pc := 5) C dX7_isLike_5 la_71 hi5 ?_
  refine g_topi hv5 ?_
  refine g_aload_n (pc := 6) (i := 0) (x := ad 62) C dX7_isLike_6 rfl rfl ?_
  refine g_get (pc := 7) (v := .ref (ad 75)) C ok_X7 24 (by decide) wf_X7_46 dX7_isLike_7 la_62 rfl ?_
  refine g_iload_n (pc := 10) (i := 2) (x := l2) C dX7_isLike_10 rfl rfl ?_
  obtain ⟨v11, hv11, hi11, h⟩ := rd_some h
  refine g_iald (pc := 11) C dX7_isLike_11 la_75 hi11 ?_
  refine g_topi hv11 ?_
  rcases ite_some' h with ⟨hc12, h⟩ | ⟨hc12, h⟩
  · refine g_icmp_ne_f (pc := 12) C 19 dX7_isLike_12 (by decide) hc12 ?_
    refine g_iconst (pc := 15) (v := 1) C dX7_isLike_15 rfl ?_
    refine g_goto (pc := 16) C 20 dX7_isLike_16 (by decide) ?_
    exact j_X7_isLike_20 C hd ho h hP
  · refine g_icmp_ne_t (pc := 12) C 19 dX7_isLike_12 (by decide) hc12 ?_
    refine g_iconst (pc := 19) (v := 0) C dX7_isLike_19 rfl ?_
    exact j_X7_isLike_20 C hd ho h hP

theorem dX7_isFit_0 : decode cX7_isFit 0 = .ok (.aload_n 0, 1) := by decide +kernel
theorem dX7_isFit_1 : decode cX7_isFit 1 = .ok (.aload_n 1, 1) := by decide +kernel
theorem dX7_isFit_2 : decode cX7_isFit 2 = .ok (.iload_n 2, 1) := by decide +kernel
theorem dX7_isFit_3 : decode cX7_isFit 3 = .ok (.iload_n 3, 1) := by decide +kernel
theorem dX7_isFit_4 : decode cX7_isFit 4 = .ok (.invokevirtual 208, 3) := by decide +kernel
theorem dX7_isFit_7 : decode cX7_isFit 7 = .ok (.ifCond .eq 16, 3) := by decide +kernel
theorem dX7_isFit_10 : decode cX7_isFit 10 = .ok (.aload_n 0, 1) := by decide +kernel
theorem dX7_isFit_11 : decode cX7_isFit 11 = .ok (.aload_n 1, 1) := by decide +kernel
theorem dX7_isFit_12 : decode cX7_isFit 12 = .ok (.iload_n 2, 1) := by decide +kernel
theorem dX7_isFit_13 : decode cX7_isFit 13 = .ok (.invokevirtual 212, 3) := by decide +kernel
theorem dX7_isFit_16 : decode cX7_isFit 16 = .ok (.ifCond .le 7, 3) := by decide +kernel
theorem dX7_isFit_19 : decode cX7_isFit 19 = .ok (.iconst 1, 1) := by decide +kernel
theorem dX7_isFit_20 : decode cX7_isFit 20 = .ok (.goto 4, 3) := by decide +kernel
theorem dX7_isFit_23 : decode cX7_isFit 23 = .ok (.iconst 0, 1) := by decide +kernel
theorem dX7_isFit_24 : decode cX7_isFit 24 = .ok (.ireturn, 1) := by decide +kernel
noncomputable def f_X7_isFit (o : Nat) (l2 : Int32) (l3 : Int32) (mem : Mem) : Option (Int32) :=
  ob (f_X7_isLike o l2 l3 mem) fun r4 => if r4 = 0 then (some 0) else (ob (f_X7_empties o l2 mem) fun r13 => if r13 ≤ 0 then (some 0) else (some 1))
set_option maxRecDepth 100000 in
set_option maxHeartbeats 4000000 in
theorem m_X7_isFit {E : Ex} {ad : Nat → Nat} {sh sp : Nat} {d : Nat} (hd : 2 ≤ d) {o : Nat} (ho : isO o) {l2 : Int32} {l3 : Int32} {mem : Mem} {r : Int32} (h : f_X7_isFit o l2 l3 mem = some r) : Cl E yX7_isFit cX7_isFit 4 (some .boolean) d [.ref (ad 62), .ref (ad o), .int l2, .int l3] (some (.int r)) ad (LC sh sp ++ LM) mem (LC sh sp ++ LM) mem := by
  refine Cl.of [some (.ref (ad 62)), some (.ref (ad o)), some (.int l2), some (.int l3)] (by decide +kernel) rfl (Nat.le_of_ble_eq_true rfl) (fun κ C hP => ?_)
  have C : Cx E κ cX7_isFit RX7 4 (some .boolean) d := C
  unfold f_X7_isFit at h
  refine g_aload_n (pc := 0) (i := 0) (x := ad 62) C dX7_isFit_0 rfl rfl ?_
  refine g_aload_n (pc := 1) (i := 1) (x := ad o) C dX7_isFit_1 rfl rfl ?_
  refine g_iload_n (pc := 2) (i := 2) (x := l2) C dX7_isFit_2 rfl rfl ?_
  refine g_iload_n (pc := 3) (i := 3) (x := l3) C dX7_isFit_3 rfl rfl ?_
  obtain ⟨r4, hcall4, h⟩ := ob_some h
  refine g_callV (pc := 4) C ce0 mi_X7_isLike mv_X7_isLike wm_X7_208 dX7_isFit_4 ok_X7 [.ref (ad o), .int l2, .int l3] [] la_62 (by omega) rfl rfl (Nat.le_of_ble_eq_true rfl) (m_X7_isLike (d := d - 1) (by omega) ho hcall4) ?_
  show Gw E κ 4 0 0 7 [some (.ref (ad 62)), some (.ref (ad o)), some (.int l2), some (.int l3)] [.int r4] ad (LC sh sp ++ LM) mem
  rcases ite_some' h with ⟨hc7, h⟩ | ⟨hc7, h⟩
  · refine g_if_eq_t (pc := 7) C 23 dX7_isFit_7 (by decide) hc7 ?_
    refine g_iconst (pc := 23) (v := 0) C dX7_isFit_23 rfl ?_
    cases h
    exact g_iret (pc := 24) C hP rfl rfl dX7_isFit_24
  · refine g_if_eq_f (pc := 7) C 23 dX7_isFit_7 (by decide) hc7 ?_
    refine g_aload_n (pc := 10) (i := 0) (x := ad 62) C dX7_isFit_10 rfl rfl ?_
    refine g_aload_n (pc := 11) (i := 1) (x := ad o) C dX7_isFit_11 rfl rfl ?_
    refine g_iload_n (pc := 12) (i := 2) (x := l2) C dX7_isFit_12 rfl rfl ?_
    obtain ⟨r13, hcall13, h⟩ := ob_some h
    refine g_callV (pc := 13) C ce0 mi_X7_empties mv_X7_empties wm_X7_212 dX7_isFit_13 ok_X7 [.ref (ad o), .int l2] [] la_62 (by omega) rfl rfl (Nat.le_of_ble_eq_true rfl) (m_X7_empties (d := d - 1) (by omega) ho hcall13) ?_
    show Gw E κ 4 0 0 16 [some (.ref (ad 62)), some (.ref (ad o)), some (.int l2), some (.int l3)] [.int r13] ad (LC sh sp ++ LM) mem
    rcases ite_some' h with ⟨hc16, h⟩ | ⟨hc16, h⟩
    · refine g_if_le_t (pc := 16) C 23 dX7_isFit_16 (by decide) hc16 ?_
      refine g_iconst (pc := 23) (v := 0) C dX7_isFit_23 rfl ?_
      cases h
      exact g_iret (pc := 24) C hP rfl rfl dX7_isFit_24
    · refine g_if_le_f (pc := 16) C 23 dX7_isFit_16 (by decide) hc16 ?_
      refine g_iconst (pc := 19) (v := 1) C dX7_isFit_19 rfl ?_
      refine g_goto (pc := 20) C 24 dX7_isFit_20 (by decide) ?_
      cases h
      exact g_iret (pc := 24) C hP rfl rfl dX7_isFit_24

theorem dX7_prints_0 : decode cX7_prints 0 = .ok (.iconst 0, 1) := by decide +kernel
theorem dX7_prints_1 : decode cX7_prints 1 = .ok (.istore 4, 2) := by decide +kernel
theorem dX7_prints_3 : decode cX7_prints 3 = .ok (.iload 4, 2) := by decide +kernel
theorem dX7_prints_5 : decode cX7_prints 5 = .ok (.aload_n 0, 1) := by decide +kernel
theorem dX7_prints_6 : decode cX7_prints 6 = .ok (.getfield 46, 3) := by decide +kernel
theorem dX7_prints_9 : decode cX7_prints 9 = .ok (.iload_n 2, 1) := by decide +kernel
theorem dX7_prints_10 : decode cX7_prints 10 = .ok (.iaload, 1) := by decide +kernel
theorem dX7_prints_11 : decode cX7_prints 11 = .ok (.if_icmp .ge 29, 3) := by decide +kernel
theorem dX7_prints_14 : decode cX7_prints 14 = .ok (.aload_n 1, 1) := by decide +kernel
theorem dX7_prints_15 : decode cX7_prints 15 = .ok (.aload_n 0, 1) := by decide +kernel
theorem dX7_prints_16 : decode cX7_prints 16 = .ok (.iload_n 2, 1) := by decide +kernel
theorem dX7_prints_17 : decode cX7_prints 17 = .ok (.iload 4, 2) := by decide +kernel
theorem dX7_prints_19 : decode cX7_prints 19 = .ok (.invokevirtual 204, 3) := by decide +kernel
theorem dX7_prints_22 : decode cX7_prints 22 = .ok (.aload_n 0, 1) := by decide +kernel
theorem dX7_prints_23 : decode cX7_prints 23 = .ok (.getfield 37, 3) := by decide +kernel
theorem dX7_prints_26 : decode cX7_prints 26 = .ok (.iconst 4, 1) := by decide +kernel
theorem dX7_prints_27 : decode cX7_prints 27 = .ok (.iload_n 3, 1) := by decide +kernel
theorem dX7_prints_28 : decode cX7_prints 28 = .ok (.imul, 1) := by decide +kernel
theorem dX7_prints_29 : decode cX7_prints 29 = .ok (.iload 4, 2) := by decide +kernel
theorem dX7_prints_31 : decode cX7_prints 31 = .ok (.iadd, 1) := by decide +kernel
theorem dX7_prints_32 : decode cX7_prints 32 = .ok (.iaload, 1) := by decide +kernel
theorem dX7_prints_33 : decode cX7_prints 33 = .ok (.iastore, 1) := by decide +kernel
theorem dX7_prints_34 : decode cX7_prints 34 = .ok (.iinc 4 1, 3) := by decide +kernel
theorem dX7_prints_37 : decode cX7_prints 37 = .ok (.goto (-34), 3) := by decide +kernel
theorem dX7_prints_40 : decode cX7_prints 40 = .ok (.return_, 1) := by decide +kernel
noncomputable def f_X7_prints_b3 (o : Nat) (l2 : Int32) (l3 : Int32) (q : Int32 × Mem) : Option ((Int32 × Mem) ⊕ (Int32 × Mem)) :=
  rd (q.2 75) 8 l2 fun v10 => if v10 ≤ q.1 then (some (.inr (q.1, q.2))) else (ob (f_X7_squareOf l2 q.1 q.2) fun r19 => rd (q.2 72) 36 ((4 * l3) + q.1) fun v32 => wr q.2 o 28 r19 v32 fun m33 => lt' (q.1 + 1) fun v34 => some (.inl (v34, m33)))
noncomputable def f_X7_prints (o : Nat) (l2 : Int32) (l3 : Int32) (mem : Mem) : Option (Mem) :=
  ob (lp (f_X7_prints_b3 o l2 l3) FU (0, mem)) fun q3 => some q3.2
def P_X7_prints_3 (E : Ex) (κ : Kx) (ad : Nat → Nat) (lay : List Ent) (o : Nat) (l2 : Int32) (l3 : Int32) : (Int32 × Mem) ⊕ (Int32 × Mem) → Prop
  | .inl q => Gw E κ 5 0 0 3 [some (.ref (ad 62)), some (.ref (ad o)), some (.int l2), some (.int l3), some (.int q.1)] [] ad lay q.2
  | .inr q => Gw E κ 5 0 0 40 [none, none, none, none, none] [] ad lay q.2
set_option maxRecDepth 100000 in
set_option maxHeartbeats 4000000 in
theorem b_X7_prints_3 {E : Ex} {κ : Kx} {ad : Nat → Nat} {sh sp : Nat} {d : Nat} {o : Nat} (C : Cx E κ cX7_prints RX7 5 none d) (hd : 1 ≤ d) (ho : isO o) {l2 : Int32} {l3 : Int32} {q : Int32 × Mem} {x : (Int32 × Mem) ⊕ (Int32 × Mem)} (h : f_X7_prints_b3 o l2 l3 q = some x) (hP : (P_X7_prints_3 E κ ad (LC sh sp ++ LM) o l2 l3) x) : Gw E κ 5 0 0 3 [some (.ref (ad 62)), some (.ref (ad o)), some (.int l2), some (.int l3), some (.int q.1)] [] ad (LC sh sp ++ LM) q.2 := by
  unfold f_X7_prints_b3 at h
  refine g_iload (pc := 3) (i := 4) (x := q.1) C dX7_prints_3 rfl ?_
  refine g_aload_n (pc := 5) (i := 0) (x := ad 62) C dX7_prints_5 rfl rfl ?_
  refine g_get (pc := 6) (v := .ref (ad 75)) C ok_X7 24 (by decide) wf_X7_46 dX7_prints_6 la_62 rfl ?_
  refine g_iload_n (pc := 9) (i := 2) (x := l2) C dX7_prints_9 rfl rfl ?_
  obtain ⟨v10, hv10, hi10, h⟩ := rd_some h
  refine g_iald (pc := 10) C dX7_prints_10 la_75 hi10 ?_
  refine g_topi hv10 ?_
  rcases ite_some' h with ⟨hc11, h⟩ | ⟨hc11, h⟩
  · refine g_icmp_ge_t (pc := 11) C 40 dX7_prints_11 (by decide) hc11 ?_
    refine g_mask (lv' := [none, none, none, none, none]) [false, false, false, false, false] rfl ?_
    cases h
    exact hP
  · refine g_icmp_ge_f (pc := 11) C 40 dX7_prints_11 (by decide) hc11 ?_
    refine g_aload_n (pc := 14) (i := 1) (x := ad o) C dX7_prints_14 rfl rfl ?_
    refine g_aload_n (pc := 15) (i := 0) (x := ad 62) C dX7_prints_15 rfl rfl ?_
    refine g_iload_n (pc := 16) (i := 2) (x := l2) C dX7_prints_16 rfl rfl ?_
    refine g_iload (pc := 17) (i := 4) (x := q.1) C dX7_prints_17 rfl ?_
    obtain ⟨r19, hcall19, h⟩ := ob_some h
    refine g_callV (pc := 19) C ce0 mi_X7_squareOf mv_X7_squareOf wm_X7_204 dX7_prints_19 ok_X7 [.int l2, .int q.1] [.ref (ad o)] la_62 (by omega) rfl rfl (Nat.le_of_ble_eq_true rfl) (m_X7_squareOf (d := d - 1) (by omega)  hcall19) ?_
    show Gw E κ 5 0 0 22 [some (.ref (ad 62)), some (.ref (ad o)), some (.int l2), some (.int l3), some (.int q.1)] [.int r19, .ref (ad o)] ad (LC sh sp ++ LM) q.2
    refine g_aload_n (pc := 22) (i := 0) (x := ad 62) C dX7_prints_22 rfl rfl ?_
    refine g_get (pc := 23) (v := .ref (ad 72)) C ok_X7 21 (by decide) wf_X7_37 dX7_prints_23 la_62 rfl ?_
    refine g_iconst (pc := 26) (v := 4) C dX7_prints_26 rfl ?_
    refine g_iload_n (pc := 27) (i := 3) (x := l3) C dX7_prints_27 rfl rfl ?_
    refine g_imul (pc := 28) C dX7_prints_28 ?_
    refine g_iload (pc := 29) (i := 4) (x := q.1) C dX7_prints_29 rfl ?_
    refine g_iadd (pc := 31) C dX7_prints_31 ?_
    obtain ⟨v32, hv32, hi32, h⟩ := rd_some h
    refine g_iald (pc := 32) C dX7_prints_32 la_72 hi32 ?_
    refine g_topi hv32 ?_
    obtain ⟨m33, hm33, hi33, h⟩ := wr_some h
    refine g_iast (pc := 33) C dX7_prints_33 (lq_0 ho) hi33 ?_
    refine g_mem hm33 ?_
    obtain ⟨v34, hv34, h⟩ := lt_some h
    refine g_iinc (pc := 34) (i := 4) (x := q.1) (v := v34) (lv' := [some (.ref (ad 62)), some (.ref (ad o)), some (.int l2), some (.int l3), some (.int v34)]) C dX7_prints_34 rfl hv34.symm (by decide) rfl rfl ?_
    refine g_goto (pc := 37) C 3 dX7_prints_37 (by decide) ?_
    cases h
    exact hP
set_option maxRecDepth 100000 in
set_option maxHeartbeats 4000000 in
theorem m_X7_prints {E : Ex} {ad : Nat → Nat} {sh sp : Nat} {d : Nat} (hd : 1 ≤ d) {o : Nat} (ho : isO o) {l2 : Int32} {l3 : Int32} {mem : Mem} {r : Mem} (h : f_X7_prints o l2 l3 mem = some r) : Cl E yX7_prints cX7_prints 5 none d [.ref (ad 62), .ref (ad o), .int l2, .int l3] none ad (LC sh sp ++ LM) mem (LC sh sp ++ LM) r := by
  refine Cl.of [some (.ref (ad 62)), some (.ref (ad o)), some (.int l2), some (.int l3), none] (by decide +kernel) rfl (Nat.le_of_ble_eq_true rfl) (fun κ C hP => ?_)
  have C : Cx E κ cX7_prints RX7 5 none d := C
  unfold f_X7_prints at h
  refine g_iconst (pc := 0) (v := 0) C dX7_prints_0 rfl ?_
  refine g_istore (pc := 1) (i := 4) (lv' := [some (.ref (ad 62)), some (.ref (ad o)), some (.int l2), some (.int l3), some (.int 0)]) C dX7_prints_1 (by decide) rfl rfl ?_
  obtain ⟨q3, hq, h⟩ := ob_some h
  refine lp_gw (P_X7_prints_3 E κ ad (LC sh sp ++ LM) o l2 l3) (fun q x hb hp => b_X7_prints_3 C hd ho hb hp) _ (0, mem) _ hq ?_
  show Gw E κ 5 0 0 40 [none, none, none, none, none] [] ad (LC sh sp ++ LM) q3.2
  cases h
  exact g_vret (pc := 40) C hP rfl dX7_prints_40

theorem dX7_fitting_0 : decode cX7_fitting 0 = .ok (.iconst 0, 1) := by decide +kernel
theorem dX7_fitting_1 : decode cX7_fitting 1 = .ok (.istore_n 2, 1) := by decide +kernel
theorem dX7_fitting_2 : decode cX7_fitting 2 = .ok (.iconst 0, 1) := by decide +kernel
theorem dX7_fitting_3 : decode cX7_fitting 3 = .ok (.istore_n 3, 1) := by decide +kernel
theorem dX7_fitting_4 : decode cX7_fitting 4 = .ok (.iload_n 3, 1) := by decide +kernel
theorem dX7_fitting_5 : decode cX7_fitting 5 = .ok (.aload_n 0, 1) := by decide +kernel
theorem dX7_fitting_6 : decode cX7_fitting 6 = .ok (.getfield 180, 3) := by decide +kernel
theorem dX7_fitting_9 : decode cX7_fitting 9 = .ok (.if_icmp .ge 32, 3) := by decide +kernel
theorem dX7_fitting_12 : decode cX7_fitting 12 = .ok (.iload_n 2, 1) := by decide +kernel
theorem dX7_fitting_13 : decode cX7_fitting 13 = .ok (.aload_n 0, 1) := by decide +kernel
theorem dX7_fitting_14 : decode cX7_fitting 14 = .ok (.aload_n 0, 1) := by decide +kernel
theorem dX7_fitting_15 : decode cX7_fitting 15 = .ok (.getfield 52, 3) := by decide +kernel
theorem dX7_fitting_18 : decode cX7_fitting 18 = .ok (.iload_n 1, 1) := by decide +kernel
theorem dX7_fitting_19 : decode cX7_fitting 19 = .ok (.iload_n 3, 1) := by decide +kernel
theorem dX7_fitting_20 : decode cX7_fitting 20 = .ok (.invokevirtual 216, 3) := by decide +kernel
theorem dX7_fitting_23 : decode cX7_fitting 23 = .ok (.ifCond .eq 9, 3) := by decide +kernel
theorem dX7_fitting_26 : decode cX7_fitting 26 = .ok (.iconst 1, 1) := by decide +kernel
theorem dX7_fitting_27 : decode cX7_fitting 27 = .ok (.iload_n 3, 1) := by decide +kernel
theorem dX7_fitting_28 : decode cX7_fitting 28 = .ok (.ishl, 1) := by decide +kernel
theorem dX7_fitting_29 : decode cX7_fitting 29 = .ok (.goto 4, 3) := by decide +kernel
theorem dX7_fitting_32 : decode cX7_fitting 32 = .ok (.iconst 0, 1) := by decide +kernel
theorem dX7_fitting_33 : decode cX7_fitting 33 = .ok (.ior, 1) := by decide +kernel
theorem dX7_fitting_34 : decode cX7_fitting 34 = .ok (.istore_n 2, 1) := by decide +kernel
theorem dX7_fitting_35 : decode cX7_fitting 35 = .ok (.iinc 3 1, 3) := by decide +kernel
theorem dX7_fitting_38 : decode cX7_fitting 38 = .ok (.goto (-34), 3) := by decide +kernel
theorem dX7_fitting_41 : decode cX7_fitting 41 = .ok (.iload_n 2, 1) := by decide +kernel
theorem dX7_fitting_42 : decode cX7_fitting 42 = .ok (.ireturn, 1) := by decide +kernel
noncomputable def f_X7_fitting_b4 (l1 : Int32) (mem : Mem) (q : Int32 × Int32) : Option ((Int32 × Int32) ⊕ (Int32 × Int32)) :=
  if (mem 62 17) ≤ q.2 then (some (.inr (q.1, q.2))) else (ob (f_X7_isFit 77 l1 q.2 mem) fun r20 => if r20 = 0 then (lt' (q.1 ||| 0) fun v34 => lt' (q.2 + 1) fun v35 => some (.inl (v34, v35))) else (lt' (q.1 ||| (1 <<< (q.2 &&& 31))) fun v34 => lt' (q.2 + 1) fun v35 => some (.inl (v34, v35))))
noncomputable def f_X7_fitting (l1 : Int32) (mem : Mem) : Option (Int32) :=
  ob (lp (f_X7_fitting_b4 l1 mem) FU (0, 0)) fun q4 => some q4.1
def P_X7_fitting_4 (E : Ex) (κ : Kx) (ad : Nat → Nat) (lay : List Ent) (l1 : Int32) (mem : Mem) : (Int32 × Int32) ⊕ (Int32 × Int32) → Prop
  | .inl q => Gw E κ 4 0 0 4 [some (.ref (ad 62)), some (.int l1), some (.int q.1), some (.int q.2)] [] ad lay mem
  | .inr q => Gw E κ 4 0 0 41 [none, none, some (.int q.1), none] [] ad lay mem
set_option maxRecDepth 100000 in
set_option maxHeartbeats 4000000 in
theorem b_X7_fitting_4 {E : Ex} {κ : Kx} {ad : Nat → Nat} {sh sp : Nat} {d : Nat} (C : Cx E κ cX7_fitting RX7 4 (some .int) d) (hd : 3 ≤ d)  {l1 : Int32} {mem : Mem} {q : Int32 × Int32} {x : (Int32 × Int32) ⊕ (Int32 × Int32)} (h : f_X7_fitting_b4 l1 mem q = some x) (hP : (P_X7_fitting_4 E κ ad (LC sh sp ++ LM) l1 mem) x) : Gw E κ 4 0 0 4 [some (.ref (ad 62)), some (.int l1), some (.int q.1), some (.int q.2)] [] ad (LC sh sp ++ LM) mem := by
  unfold f_X7_fitting_b4 at h
  refine g_iload_n (pc := 4) (i := 3) (x := q.2) C dX7_fitting_4 rfl rfl ?_
  refine g_aload_n (pc := 5) (i := 0) (x := ad 62) C dX7_fitting_5 rfl rfl ?_
  refine g_get (pc := 6) (v := .int (mem 62 17)) C ok_X7 17 (by decide) wf_X7_180 dX7_fitting_6 la_62 rfl ?_
  rcases ite_some' h with ⟨hc9, h⟩ | ⟨hc9, h⟩
  · refine g_icmp_ge_t (pc := 9) C 41 dX7_fitting_9 (by decide) hc9 ?_
    refine g_mask (lv' := [none, none, some (.int q.1), none]) [false, false, true, false] rfl ?_
    cases h
    exact hP
  · refine g_icmp_ge_f (pc := 9) C 41 dX7_fitting_9 (by decide) hc9 ?_
    refine g_iload_n (pc := 12) (i := 2) (x := q.1) C dX7_fitting_12 rfl rfl ?_
    refine g_aload_n (pc := 13) (i := 0) (x := ad 62) C dX7_fitting_13 rfl rfl ?_
    refine g_aload_n (pc := 14) (i := 0) (x := ad 62) C dX7_fitting_14 rfl rfl ?_
    refine g_get (pc := 15) (v := .ref (ad 77)) C ok_X7 26 (by decide) wf_X7_52 dX7_fitting_15 la_62 rfl ?_
    refine g_iload_n (pc := 18) (i := 1) (x := l1) C dX7_fitting_18 rfl rfl ?_
    refine g_iload_n (pc := 19) (i := 3) (x := q.2) C dX7_fitting_19 rfl rfl ?_
    obtain ⟨r20, hcall20, h⟩ := ob_some h
    refine g_callV (pc := 20) C ce0 mi_X7_isFit mv_X7_isFit wm_X7_216 dX7_fitting_20 ok_X7 [.ref (ad 77), .int l1, .int q.2] [.int q.1] la_62 (by omega) rfl rfl (Nat.le_of_ble_eq_true rfl) (m_X7_isFit (d := d - 1) (by omega) o_77 hcall20) ?_
    show Gw E κ 4 0 0 23 [some (.ref (ad 62)), some (.int l1), some (.int q.1), some (.int q.2)] [.int r20, .int q.1] ad (LC sh sp ++ LM) mem
    rcases ite_some' h with ⟨hc23, h⟩ | ⟨hc23, h⟩
    · refine g_if_eq_t (pc := 23) C 32 dX7_fitting_23 (by decide) hc23 ?_
      refine g_iconst (pc := 32) (v := 0) C dX7_fitting_32 rfl ?_
      refine g_ior (pc := 33) C dX7_fitting_33 ?_
      obtain ⟨v34, hv34, h⟩ := lt_some h
      refine g_topi hv34 ?_
      refine g_istore_n (pc := 34) (i := 2) (lv' := [some (.ref (ad 62)), some (.int l1), some (.int v34), some (.int q.2)]) C dX7_fitting_34 rfl (by decide) rfl rfl ?_
      obtain ⟨v35, hv35, h⟩ := lt_some h
      refine g_iinc (pc := 35) (i := 3) (x := q.2) (v := v35) (lv' := [some (.ref (ad 62)), some (.int l1), some (.int v34), some (.int v35)]) C dX7_fitting_35 rfl hv35.symm (by decide) rfl rfl ?_
      refine g_goto (pc := 38) C 4 dX7_fitting_38 (by decide) ?_
      cases h
      exact hP
    · refine g_if_eq_f (pc := 23) C 32 dX7_fitting_23 (by decide) hc23 ?_
      refine g_iconst (pc := 26) (v := 1) C dX7_fitting_26 rfl ?_
      refine g_iload_n (pc := 27) (i := 3) (x := q.2) C dX7_fitting_27 rfl rfl ?_
      refine g_ishl (pc := 28) C dX7_fitting_28 ?_
      refine g_goto (pc := 29) C 33 dX7_fitting_29 (by decide) ?_
      refine g_ior (pc := 33) C dX7_fitting_33 ?_
      obtain ⟨v34, hv34, h⟩ := lt_some h
      refine g_topi hv34 ?_
      refine g_istore_n (pc := 34) (i := 2) (lv' := [some (.ref (ad 62)), some (.int l1), some (.int v34), some (.int q.2)]) C dX7_fitting_34 rfl (by decide) rfl rfl ?_
      obtain ⟨v35, hv35, h⟩ := lt_some h
      refine g_iinc (pc := 35) (i := 3) (x := q.2) (v := v35) (lv' := [some (.ref (ad 62)), some (.int l1), some (.int v34), some (.int v35)]) C dX7_fitting_35 rfl hv35.symm (by decide) rfl rfl ?_
      refine g_goto (pc := 38) C 4 dX7_fitting_38 (by decide) ?_
      cases h
      exact hP
set_option maxRecDepth 100000 in
set_option maxHeartbeats 4000000 in
theorem m_X7_fitting {E : Ex} {ad : Nat → Nat} {sh sp : Nat} {d : Nat} (hd : 3 ≤ d)  {l1 : Int32} {mem : Mem} {r : Int32} (h : f_X7_fitting l1 mem = some r) : Cl E yX7_fitting cX7_fitting 4 (some .int) d [.ref (ad 62), .int l1] (some (.int r)) ad (LC sh sp ++ LM) mem (LC sh sp ++ LM) mem := by
  refine Cl.of [some (.ref (ad 62)), some (.int l1), none, none] (by decide +kernel) rfl (Nat.le_of_ble_eq_true rfl) (fun κ C hP => ?_)
  have C : Cx E κ cX7_fitting RX7 4 (some .int) d := C
  unfold f_X7_fitting at h
  refine g_iconst (pc := 0) (v := 0) C dX7_fitting_0 rfl ?_
  refine g_istore_n (pc := 1) (i := 2) (lv' := [some (.ref (ad 62)), some (.int l1), some (.int 0), none]) C dX7_fitting_1 rfl (by decide) rfl rfl ?_
  refine g_iconst (pc := 2) (v := 0) C dX7_fitting_2 rfl ?_
  refine g_istore_n (pc := 3) (i := 3) (lv' := [some (.ref (ad 62)), some (.int l1), some (.int 0), some (.int 0)]) C dX7_fitting_3 rfl (by decide) rfl rfl ?_
  obtain ⟨q4, hq, h⟩ := ob_some h
  refine lp_gw (P_X7_fitting_4 E κ ad (LC sh sp ++ LM) l1 mem) (fun q x hb hp => b_X7_fitting_4 C hd hb hp) _ (0, 0) _ hq ?_
  show Gw E κ 4 0 0 41 [none, none, some (.int q4.1), none] [] ad (LC sh sp ++ LM) mem
  refine g_iload_n (pc := 41) (i := 2) (x := q4.1) C dX7_fitting_41 rfl rfl ?_
  cases h
  exact g_iret (pc := 42) C hP rfl rfl dX7_fitting_42

theorem dX7_place_0 : decode cX7_place 0 = .ok (.aload_n 0, 1) := by decide +kernel
theorem dX7_place_1 : decode cX7_place 1 = .ok (.iload_n 1, 1) := by decide +kernel
theorem dX7_place_2 : decode cX7_place 2 = .ok (.invokevirtual 219, 3) := by decide +kernel
theorem dX7_place_5 : decode cX7_place 5 = .ok (.ifCond .eq 12, 3) := by decide +kernel
theorem dX7_place_8 : decode cX7_place 8 = .ok (.iload_n 2, 1) := by decide +kernel
theorem dX7_place_9 : decode cX7_place 9 = .ok (.iconst 0, 1) := by decide +kernel
theorem dX7_place_10 : decode cX7_place 10 = .ok (.iconst 4, 1) := by decide +kernel
theorem dX7_place_11 : decode cX7_place 11 = .ok (.invokestatic 123, 3) := by decide +kernel
theorem dX7_place_14 : decode cX7_place 14 = .ok (.ifCond .ne 5, 3) := by decide +kernel
theorem dX7_place_17 : decode cX7_place 17 = .ok (.iconst (-1), 1) := by decide +kernel
theorem dX7_place_18 : decode cX7_place 18 = .ok (.ireturn, 1) := by decide +kernel
theorem dX7_place_19 : decode cX7_place 19 = .ok (.iload_n 2, 1) := by decide +kernel
theorem dX7_place_20 : decode cX7_place 20 = .ok (.tableswitch 80 0 3 #[32, 39, 46, 62], 32) := by decide +kernel
theorem dX7_place_52 : decode cX7_place 52 = .ok (.aload_n 0, 1) := by decide +kernel
theorem dX7_place_53 : decode cX7_place 53 = .ok (.getfield 43, 3) := by decide +kernel
theorem dX7_place_56 : decode cX7_place 56 = .ok (.iload_n 1, 1) := by decide +kernel
theorem dX7_place_57 : decode cX7_place 57 = .ok (.iaload, 1) := by decide +kernel
theorem dX7_place_58 : decode cX7_place 58 = .ok (.ireturn, 1) := by decide +kernel
theorem dX7_place_59 : decode cX7_place 59 = .ok (.aload_n 0, 1) := by decide +kernel
theorem dX7_place_60 : decode cX7_place 60 = .ok (.getfield 46, 3) := by decide +kernel
theorem dX7_place_63 : decode cX7_place 63 = .ok (.iload_n 1, 1) := by decide +kernel
theorem dX7_place_64 : decode cX7_place 64 = .ok (.iaload, 1) := by decide +kernel
theorem dX7_place_65 : decode cX7_place 65 = .ok (.ireturn, 1) := by decide +kernel
theorem dX7_place_66 : decode cX7_place 66 = .ok (.aload_n 0, 1) := by decide +kernel
theorem dX7_place_67 : decode cX7_place 67 = .ok (.getfield 49, 3) := by decide +kernel
theorem dX7_place_70 : decode cX7_place 70 = .ok (.iload_n 1, 1) := by decide +kernel
theorem dX7_place_71 : decode cX7_place 71 = .ok (.iaload, 1) := by decide +kernel
theorem dX7_place_72 : decode cX7_place 72 = .ok (.iconst 1, 1) := by decide +kernel
theorem dX7_place_73 : decode cX7_place 73 = .ok (.if_icmp .ne 7, 3) := by decide +kernel
theorem dX7_place_76 : decode cX7_place 76 = .ok (.iconst 0, 1) := by decide +kernel
theorem dX7_place_77 : decode cX7_place 77 = .ok (.goto 4, 3) := by decide +kernel
theorem dX7_place_80 : decode cX7_place 80 = .ok (.iconst 1, 1) := by decide +kernel
theorem dX7_place_81 : decode cX7_place 81 = .ok (.ireturn, 1) := by decide +kernel
theorem dX7_place_82 : decode cX7_place 82 = .ok (.aload_n 0, 1) := by decide +kernel
theorem dX7_place_83 : decode cX7_place 83 = .ok (.aload_n 0, 1) := by decide +kernel
theorem dX7_place_84 : decode cX7_place 84 = .ok (.getfield 52, 3) := by decide +kernel
theorem dX7_place_87 : decode cX7_place 87 = .ok (.iload_n 1, 1) := by decide +kernel
theorem dX7_place_88 : decode cX7_place 88 = .ok (.invokevirtual 212, 3) := by decide +kernel
theorem dX7_place_91 : decode cX7_place 91 = .ok (.ifCond .ne 7, 3) := by decide +kernel
theorem dX7_place_94 : decode cX7_place 94 = .ok (.iconst 1, 1) := by decide +kernel
theorem dX7_place_95 : decode cX7_place 95 = .ok (.goto 4, 3) := by decide +kernel
theorem dX7_place_98 : decode cX7_place 98 = .ok (.iconst 0, 1) := by decide +kernel
theorem dX7_place_99 : decode cX7_place 99 = .ok (.ireturn, 1) := by decide +kernel
theorem dX7_place_100 : decode cX7_place 100 = .ok (.aload_n 0, 1) := by decide +kernel
theorem dX7_place_101 : decode cX7_place 101 = .ok (.iload_n 1, 1) := by decide +kernel
theorem dX7_place_102 : decode cX7_place 102 = .ok (.invokevirtual 222, 3) := by decide +kernel
theorem dX7_place_105 : decode cX7_place 105 = .ok (.ireturn, 1) := by decide +kernel
noncomputable def f_X7_place (l1 : Int32) (l2 : Int32) (mem : Mem) : Option (Int32) :=
  ob (f_X7_isPlace l1 mem) fun r2 => if r2 = 0 then (some ((-1))) else (ob (f_X7_in l2 0 4) fun r11 => if r11 = 0 then (some ((-1))) else (if l2 = 0 then (rd (mem 74) 8 l1 fun v57 => some v57) else (if l2 = 1 then (rd (mem 75) 8 l1 fun v64 => some v64) else (if l2 = 2 then (rd (mem 76) 8 l1 fun v71 => if v71 = 1 then (some 0) else (some 1)) else (if l2 = 3 then (ob (f_X7_empties 77 l1 mem) fun r88 => if r88 = 0 then (some 1) else (some 0)) else (ob (f_X7_fitting l1 mem) fun r102 => some r102))))))
set_option maxRecDepth 100000 in
set_option maxHeartbeats 4000000 in
theorem m_X7_place {E : Ex} {ad : Nat → Nat} {sh sp : Nat} {d : Nat} (hd : 4 ≤ d)  {l1 : Int32} {l2 : Int32} {mem : Mem} {r : Int32} (h : f_X7_place l1 l2 mem = some r) : Cl E yX7_place cX7_place 3 (some .int) d [.ref (ad 62), .int l1, .int l2] (some (.int r)) ad (LC sh sp ++ LM) mem (LC sh sp ++ LM) mem := by
  refine Cl.of [some (.ref (ad 62)), some (.int l1), some (.int l2)] (by decide +kernel) rfl (Nat.le_of_ble_eq_true rfl) (fun κ C hP => ?_)
  have C : Cx E κ cX7_place RX7 3 (some .int) d := C
  unfold f_X7_place at h
  refine g_aload_n (pc := 0) (i := 0) (x := ad 62) C dX7_place_0 rfl rfl ?_
  refine g_iload_n (pc := 1) (i := 1) (x := l1) C dX7_place_1 rfl rfl ?_
  obtain ⟨r2, hcall2, h⟩ := ob_some h
  refine g_callV (pc := 2) C ce0 mi_X7_isPlace mv_X7_isPlace wm_X7_219 dX7_place_2 ok_X7 [.int l1] [] la_62 (by omega) rfl rfl (Nat.le_of_ble_eq_true rfl) (m_X7_isPlace (d := d - 1) (by omega)  hcall2) ?_
  show Gw E κ 3 0 0 5 [some (.ref (ad 62)), some (.int l1), some (.int l2)] [.int r2] ad (LC sh sp ++ LM) mem
  rcases ite_some' h with ⟨hc5, h⟩ | ⟨hc5, h⟩
  · refine g_if_eq_t (pc := 5) C 17 dX7_place_5 (by decide) hc5 ?_
    refine g_iconst (pc := 17) (v := (-1)) C dX7_place_17 rfl ?_
    cases h
    exact g_iret (pc := 18) C hP rfl rfl dX7_place_18
  · refine g_if_eq_f (pc := 5) C 17 dX7_place_5 (by decide) hc5 ?_
    refine g_iload_n (pc := 8) (i := 2) (x := l2) C dX7_place_8 rfl rfl ?_
    refine g_iconst (pc := 9) (v := 0) C dX7_place_9 rfl ?_
    refine g_iconst (pc := 10) (v := 4) C dX7_place_10 rfl ?_
    obtain ⟨r11, hcall11, h⟩ := ob_some h
    refine g_callS (pc := 11) C ce0 mi_X7_in ms_X7_in wm_X7_123 dX7_place_11 [.int l2, .int 0, .int 4] [] (by omega) rfl rfl (Nat.le_of_ble_eq_true rfl) (m_X7_in (d := d - 1) (by omega)  hcall11) ?_
    show Gw E κ 3 0 0 14 [some (.ref (ad 62)), some (.int l1), some (.int l2)] [.int r11] ad (LC sh sp ++ LM) mem
    rcases ite_some' h with ⟨hc14, h⟩ | ⟨hc14, h⟩
    · refine g_if_ne_f (pc := 14) C 19 dX7_place_14 (by decide) hc14 ?_
      refine g_iconst (pc := 17) (v := (-1)) C dX7_place_17 rfl ?_
      cases h
      exact g_iret (pc := 18) C hP rfl rfl dX7_place_18
    · refine g_if_ne_t (pc := 14) C 19 dX7_place_14 (by decide) hc14 ?_
      refine g_iload_n (pc := 19) (i := 2) (x := l2) C dX7_place_19 rfl rfl ?_
      rcases ite_some' h with ⟨hc20_0, h⟩ | ⟨hc20_0, h⟩
      · refine g_tsw (pc := 20) (n := 0) C 0 52 hc20_0 rfl dX7_place_20 (by decide) (by decide) rfl (by decide) ?_
        refine g_aload_n (pc := 52) (i := 0) (x := ad 62) C dX7_place_52 rfl rfl ?_
        refine g_get (pc := 53) (v := .ref (ad 74)) C ok_X7 23 (by decide) wf_X7_43 dX7_place_53 la_62 rfl ?_
        refine g_iload_n (pc := 56) (i := 1) (x := l1) C dX7_place_56 rfl rfl ?_
        obtain ⟨v57, hv57, hi57, h⟩ := rd_some h
        refine g_iald (pc := 57) C dX7_place_57 la_74 hi57 ?_
        refine g_topi hv57 ?_
        cases h
        exact g_iret (pc := 58) C hP rfl rfl dX7_place_58
      · skip
        rcases ite_some' h with ⟨hc20_1, h⟩ | ⟨hc20_1, h⟩
        · refine g_tsw (pc := 20) (n := 1) C 1 59 hc20_1 rfl dX7_place_20 (by decide) (by decide) rfl (by decide) ?_
          refine g_aload_n (pc := 59) (i := 0) (x := ad 62) C dX7_place_59 rfl rfl ?_
          refine g_get (pc := 60) (v := .ref (ad 75)) C ok_X7 24 (by decide) wf_X7_46 dX7_place_60 la_62 rfl ?_
          refine g_iload_n (pc := 63) (i := 1) (x := l1) C dX7_place_63 rfl rfl ?_
          obtain ⟨v64, hv64, hi64, h⟩ := rd_some h
          refine g_iald (pc := 64) C dX7_place_64 la_75 hi64 ?_
          refine g_topi hv64 ?_
          cases h
          exact g_iret (pc := 65) C hP rfl rfl dX7_place_65
        · skip
          rcases ite_some' h with ⟨hc20_2, h⟩ | ⟨hc20_2, h⟩
          · refine g_tsw (pc := 20) (n := 2) C 2 66 hc20_2 rfl dX7_place_20 (by decide) (by decide) rfl (by decide) ?_
            refine g_aload_n (pc := 66) (i := 0) (x := ad 62) C dX7_place_66 rfl rfl ?_
            refine g_get (pc := 67) (v := .ref (ad 76)) C ok_X7 25 (by decide) wf_X7_49 dX7_place_67 la_62 rfl ?_
            refine g_iload_n (pc := 70) (i := 1) (x := l1) C dX7_place_70 rfl rfl ?_
            obtain ⟨v71, hv71, hi71, h⟩ := rd_some h
            refine g_iald (pc := 71) C dX7_place_71 la_76 hi71 ?_
            refine g_topi hv71 ?_
            refine g_iconst (pc := 72) (v := 1) C dX7_place_72 rfl ?_
            rcases ite_some' h with ⟨hc73, h⟩ | ⟨hc73, h⟩
            · refine g_icmp_ne_f (pc := 73) C 80 dX7_place_73 (by decide) hc73 ?_
              refine g_iconst (pc := 76) (v := 0) C dX7_place_76 rfl ?_
              refine g_goto (pc := 77) C 81 dX7_place_77 (by decide) ?_
              cases h
              exact g_iret (pc := 81) C hP rfl rfl dX7_place_81
            · refine g_icmp_ne_t (pc := 73) C 80 dX7_place_73 (by decide) hc73 ?_
              refine g_iconst (pc := 80) (v := 1) C dX7_place_80 rfl ?_
              cases h
              exact g_iret (pc := 81) C hP rfl rfl dX7_place_81
          · skip
            rcases ite_some' h with ⟨hc20_3, h⟩ | ⟨hc20_3, h⟩
            · refine g_tsw (pc := 20) (n := 3) C 3 82 hc20_3 rfl dX7_place_20 (by decide) (by decide) rfl (by decide) ?_
              refine g_aload_n (pc := 82) (i := 0) (x := ad 62) C dX7_place_82 rfl rfl ?_
              refine g_aload_n (pc := 83) (i := 0) (x := ad 62) C dX7_place_83 rfl rfl ?_
              refine g_get (pc := 84) (v := .ref (ad 77)) C ok_X7 26 (by decide) wf_X7_52 dX7_place_84 la_62 rfl ?_
              refine g_iload_n (pc := 87) (i := 1) (x := l1) C dX7_place_87 rfl rfl ?_
              obtain ⟨r88, hcall88, h⟩ := ob_some h
              refine g_callV (pc := 88) C ce0 mi_X7_empties mv_X7_empties wm_X7_212 dX7_place_88 ok_X7 [.ref (ad 77), .int l1] [] la_62 (by omega) rfl rfl (Nat.le_of_ble_eq_true rfl) (m_X7_empties (d := d - 1) (by omega) o_77 hcall88) ?_
              show Gw E κ 3 0 0 91 [some (.ref (ad 62)), some (.int l1), some (.int l2)] [.int r88] ad (LC sh sp ++ LM) mem
              rcases ite_some' h with ⟨hc91, h⟩ | ⟨hc91, h⟩
              · refine g_if_ne_f (pc := 91) C 98 dX7_place_91 (by decide) hc91 ?_
                refine g_iconst (pc := 94) (v := 1) C dX7_place_94 rfl ?_
                refine g_goto (pc := 95) C 99 dX7_place_95 (by decide) ?_
                cases h
                exact g_iret (pc := 99) C hP rfl rfl dX7_place_99
              · refine g_if_ne_t (pc := 91) C 98 dX7_place_91 (by decide) hc91 ?_
                refine g_iconst (pc := 98) (v := 0) C dX7_place_98 rfl ?_
                cases h
                exact g_iret (pc := 99) C hP rfl rfl dX7_place_99
            · skip
              refine g_tswD (pc := 20) C 100 dX7_place_20 (by have z0 := i32_ne 0 hc20_0 (n := 0) rfl; have z1 := i32_ne 1 hc20_1 (n := 1) rfl; have z2 := i32_ne 2 hc20_2 (n := 2) rfl; have z3 := i32_ne 3 hc20_3 (n := 3) rfl; omega) (by decide) ?_
              refine g_aload_n (pc := 100) (i := 0) (x := ad 62) C dX7_place_100 rfl rfl ?_
              refine g_iload_n (pc := 101) (i := 1) (x := l1) C dX7_place_101 rfl rfl ?_
              obtain ⟨r102, hcall102, h⟩ := ob_some h
              refine g_callV (pc := 102) C ce0 mi_X7_fitting mv_X7_fitting wm_X7_222 dX7_place_102 ok_X7 [.int l1] [] la_62 (by omega) rfl rfl (Nat.le_of_ble_eq_true rfl) (m_X7_fitting (d := d - 1) (by omega)  hcall102) ?_
              show Gw E κ 3 0 0 105 [some (.ref (ad 62)), some (.int l1), some (.int l2)] [.int r102] ad (LC sh sp ++ LM) mem
              cases h
              exact g_iret (pc := 105) C hP rfl rfl dX7_place_105

theorem dX7_word_0 : decode cX7_word 0 = .ok (.aload_n 0, 1) := by decide +kernel
theorem dX7_word_1 : decode cX7_word 1 = .ok (.iload_n 1, 1) := by decide +kernel
theorem dX7_word_2 : decode cX7_word 2 = .ok (.invokevirtual 225, 3) := by decide +kernel
theorem dX7_word_5 : decode cX7_word 5 = .ok (.ifCond .eq 8, 3) := by decide +kernel
theorem dX7_word_8 : decode cX7_word 8 = .ok (.iload_n 2, 1) := by decide +kernel
theorem dX7_word_9 : decode cX7_word 9 = .ok (.iconst (-1), 1) := by decide +kernel
theorem dX7_word_10 : decode cX7_word 10 = .ok (.if_icmp .ge 7, 3) := by decide +kernel
theorem dX7_word_13 : decode cX7_word 13 = .ok (.iconst (-1), 1) := by decide +kernel
theorem dX7_word_14 : decode cX7_word 14 = .ok (.goto 42, 3) := by decide +kernel
theorem dX7_word_17 : decode cX7_word 17 = .ok (.iload_n 2, 1) := by decide +kernel
theorem dX7_word_18 : decode cX7_word 18 = .ok (.iconst (-1), 1) := by decide +kernel
theorem dX7_word_19 : decode cX7_word 19 = .ok (.if_icmp .ne 12, 3) := by decide +kernel
theorem dX7_word_22 : decode cX7_word 22 = .ok (.aload_n 0, 1) := by decide +kernel
theorem dX7_word_23 : decode cX7_word 23 = .ok (.getfield 34, 3) := by decide +kernel
theorem dX7_word_26 : decode cX7_word 26 = .ok (.iload_n 1, 1) := by decide +kernel
theorem dX7_word_27 : decode cX7_word 27 = .ok (.iaload, 1) := by decide +kernel
theorem dX7_word_28 : decode cX7_word 28 = .ok (.goto 28, 3) := by decide +kernel
theorem dX7_word_31 : decode cX7_word 31 = .ok (.iload_n 2, 1) := by decide +kernel
theorem dX7_word_32 : decode cX7_word 32 = .ok (.aload_n 0, 1) := by decide +kernel
theorem dX7_word_33 : decode cX7_word 33 = .ok (.getfield 34, 3) := by decide +kernel
theorem dX7_word_36 : decode cX7_word 36 = .ok (.iload_n 1, 1) := by decide +kernel
theorem dX7_word_37 : decode cX7_word 37 = .ok (.iaload, 1) := by decide +kernel
theorem dX7_word_38 : decode cX7_word 38 = .ok (.if_icmp .ge 16, 3) := by decide +kernel
theorem dX7_word_41 : decode cX7_word 41 = .ok (.aload_n 0, 1) := by decide +kernel
theorem dX7_word_42 : decode cX7_word 42 = .ok (.getfield 37, 3) := by decide +kernel
theorem dX7_word_45 : decode cX7_word 45 = .ok (.iconst 4, 1) := by decide +kernel
theorem dX7_word_46 : decode cX7_word 46 = .ok (.iload_n 1, 1) := by decide +kernel
theorem dX7_word_47 : decode cX7_word 47 = .ok (.imul, 1) := by decide +kernel
theorem dX7_word_48 : decode cX7_word 48 = .ok (.iload_n 2, 1) := by decide +kernel
theorem dX7_word_49 : decode cX7_word 49 = .ok (.iadd, 1) := by decide +kernel
theorem dX7_word_50 : decode cX7_word 50 = .ok (.iaload, 1) := by decide +kernel
theorem dX7_word_51 : decode cX7_word 51 = .ok (.goto 5, 3) := by decide +kernel
theorem dX7_word_54 : decode cX7_word 54 = .ok (.bipush (-4), 2) := by decide +kernel
theorem dX7_word_56 : decode cX7_word 56 = .ok (.ireturn, 1) := by decide +kernel
noncomputable def f_X7_word (l1 : Int32) (l2 : Int32) (mem : Mem) : Option (Int32) :=
  ob (f_X7_isWord l1 mem) fun r2 => if r2 = 0 then (some ((-1))) else (if (-1) ≤ l2 then (if l2 = (-1) then (rd (mem 71) 9 l1 fun v27 => some v27) else (rd (mem 71) 9 l1 fun v37 => if v37 ≤ l2 then (some ((-4))) else (rd (mem 72) 36 ((4 * l1) + l2) fun v50 => some v50))) else (some ((-1))))
set_option maxRecDepth 100000 in
set_option maxHeartbeats 4000000 in
theorem m_X7_word {E : Ex} {ad : Nat → Nat} {sh sp : Nat} {d : Nat} (hd : 2 ≤ d)  {l1 : Int32} {l2 : Int32} {mem : Mem} {r : Int32} (h : f_X7_word l1 l2 mem = some r) : Cl E yX7_word cX7_word 3 (some .int) d [.ref (ad 62), .int l1, .int l2] (some (.int r)) ad (LC sh sp ++ LM) mem (LC sh sp ++ LM) mem := by
  refine Cl.of [some (.ref (ad 62)), some (.int l1), some (.int l2)] (by decide +kernel) rfl (Nat.le_of_ble_eq_true rfl) (fun κ C hP => ?_)
  have C : Cx E κ cX7_word RX7 3 (some .int) d := C
  unfold f_X7_word at h
  refine g_aload_n (pc := 0) (i := 0) (x := ad 62) C dX7_word_0 rfl rfl ?_
  refine g_iload_n (pc := 1) (i := 1) (x := l1) C dX7_word_1 rfl rfl ?_
  obtain ⟨r2, hcall2, h⟩ := ob_some h
  refine g_callV (pc := 2) C ce0 mi_X7_isWord mv_X7_isWord wm_X7_225 dX7_word_2 ok_X7 [.int l1] [] la_62 (by omega) rfl rfl (Nat.le_of_ble_eq_true rfl) (m_X7_isWord (d := d - 1) (by omega)  hcall2) ?_
  show Gw E κ 3 0 0 5 [some (.ref (ad 62)), some (.int l1), some (.int l2)] [.int r2] ad (LC sh sp ++ LM) mem
  rcases ite_some' h with ⟨hc5, h⟩ | ⟨hc5, h⟩
  · refine g_if_eq_t (pc := 5) C 13 dX7_word_5 (by decide) hc5 ?_
    refine g_iconst (pc := 13) (v := (-1)) C dX7_word_13 rfl ?_
    refine g_goto (pc := 14) C 56 dX7_word_14 (by decide) ?_
    cases h
    exact g_iret (pc := 56) C hP rfl rfl dX7_word_56
  · refine g_if_eq_f (pc := 5) C 13 dX7_word_5 (by decide) hc5 ?_
    refine g_iload_n (pc := 8) (i := 2) (x := l2) C dX7_word_8 rfl rfl ?_
    refine g_iconst (pc := 9) (v := (-1)) C dX7_word_9 rfl ?_
    rcases ite_some' h with ⟨hc10, h⟩ | ⟨hc10, h⟩
    · refine g_icmp_ge_t (pc := 10) C 17 dX7_word_10 (by decide) hc10 ?_
      refine g_iload_n (pc := 17) (i := 2) (x := l2) C dX7_word_17 rfl rfl ?_
      refine g_iconst (pc := 18) (v := (-1)) C dX7_word_18 rfl ?_
      rcases ite_some' h with ⟨hc19, h⟩ | ⟨hc19, h⟩
      · refine g_icmp_ne_f (pc := 19) C 31 dX7_word_19 (by decide) hc19 ?_
        refine g_aload_n (pc := 22) (i := 0) (x := ad 62) C dX7_word_22 rfl rfl ?_
        refine g_get (pc := 23) (v := .ref (ad 71)) C ok_X7 20 (by decide) wf_X7_34 dX7_word_23 la_62 rfl ?_
        refine g_iload_n (pc := 26) (i := 1) (x := l1) C dX7_word_26 rfl rfl ?_
        obtain ⟨v27, hv27, hi27, h⟩ := rd_some h
        refine g_iald (pc := 27) C dX7_word_27 la_71 hi27 ?_
        refine g_topi hv27 ?_
        refine g_goto (pc := 28) C 56 dX7_word_28 (by decide) ?_
        cases h
        exact g_iret (pc := 56) C hP rfl rfl dX7_word_56
      · refine g_icmp_ne_t (pc := 19) C 31 dX7_word_19 (by decide) hc19 ?_
        refine g_iload_n (pc := 31) (i := 2) (x := l2) C dX7_word_31 rfl rfl ?_
        refine g_aload_n (pc := 32) (i := 0) (x := ad 62) C dX7_word_32 rfl rfl ?_
        refine g_get (pc := 33) (v := .ref (ad 71)) C ok_X7 20 (by decide) wf_X7_34 dX7_word_33 la_62 rfl ?_
        refine g_iload_n (pc := 36) (i := 1) (x := l1) C dX7_word_36 rfl rfl ?_
        obtain ⟨v37, hv37, hi37, h⟩ := rd_some h
        refine g_iald (pc := 37) C dX7_word_37 la_71 hi37 ?_
        refine g_topi hv37 ?_
        rcases ite_some' h with ⟨hc38, h⟩ | ⟨hc38, h⟩
        · refine g_icmp_ge_t (pc := 38) C 54 dX7_word_38 (by decide) hc38 ?_
          refine g_bipush (pc := 54) (v := (-4)) C dX7_word_54 rfl ?_
          cases h
          exact g_iret (pc := 56) C hP rfl rfl dX7_word_56
        · refine g_icmp_ge_f (pc := 38) C 54 dX7_word_38 (by decide) hc38 ?_
          refine g_aload_n (pc := 41) (i := 0) (x := ad 62) C dX7_word_41 rfl rfl ?_
          refine g_get (pc := 42) (v := .ref (ad 72)) C ok_X7 21 (by decide) wf_X7_37 dX7_word_42 la_62 rfl ?_
          refine g_iconst (pc := 45) (v := 4) C dX7_word_45 rfl ?_
          refine g_iload_n (pc := 46) (i := 1) (x := l1) C dX7_word_46 rfl rfl ?_
          refine g_imul (pc := 47) C dX7_word_47 ?_
          refine g_iload_n (pc := 48) (i := 2) (x := l2) C dX7_word_48 rfl rfl ?_
          refine g_iadd (pc := 49) C dX7_word_49 ?_
          obtain ⟨v50, hv50, hi50, h⟩ := rd_some h
          refine g_iald (pc := 50) C dX7_word_50 la_72 hi50 ?_
          refine g_topi hv50 ?_
          refine g_goto (pc := 51) C 56 dX7_word_51 (by decide) ?_
          cases h
          exact g_iret (pc := 56) C hP rfl rfl dX7_word_56
    · refine g_icmp_ge_f (pc := 10) C 17 dX7_word_10 (by decide) hc10 ?_
      refine g_iconst (pc := 13) (v := (-1)) C dX7_word_13 rfl ?_
      refine g_goto (pc := 14) C 56 dX7_word_14 (by decide) ?_
      cases h
      exact g_iret (pc := 56) C hP rfl rfl dX7_word_56

theorem dX7_lowest_0 : decode cX7_lowest 0 = .ok (.bipush 8, 2) := by decide +kernel
theorem dX7_lowest_2 : decode cX7_lowest 2 = .ok (.istore_n 2, 1) := by decide +kernel
theorem dX7_lowest_3 : decode cX7_lowest 3 = .ok (.aload_n 0, 1) := by decide +kernel
theorem dX7_lowest_4 : decode cX7_lowest 4 = .ok (.getfield 177, 3) := by decide +kernel
theorem dX7_lowest_7 : decode cX7_lowest 7 = .ok (.iconst 1, 1) := by decide +kernel
theorem dX7_lowest_8 : decode cX7_lowest 8 = .ok (.isub, 1) := by decide +kernel
theorem dX7_lowest_9 : decode cX7_lowest 9 = .ok (.istore_n 3, 1) := by decide +kernel
theorem dX7_lowest_10 : decode cX7_lowest 10 = .ok (.iload_n 3, 1) := by decide +kernel
theorem dX7_lowest_11 : decode cX7_lowest 11 = .ok (.ifCond .lt 24, 3) := by decide +kernel
theorem dX7_lowest_14 : decode cX7_lowest 14 = .ok (.aload_n 0, 1) := by decide +kernel
theorem dX7_lowest_15 : decode cX7_lowest 15 = .ok (.aload_n 1, 1) := by decide +kernel
theorem dX7_lowest_16 : decode cX7_lowest 16 = .ok (.iload_n 3, 1) := by decide +kernel
theorem dX7_lowest_17 : decode cX7_lowest 17 = .ok (.invokevirtual 212, 3) := by decide +kernel
theorem dX7_lowest_20 : decode cX7_lowest 20 = .ok (.ifCond .le 7, 3) := by decide +kernel
theorem dX7_lowest_23 : decode cX7_lowest 23 = .ok (.iload_n 3, 1) := by decide +kernel
theorem dX7_lowest_24 : decode cX7_lowest 24 = .ok (.goto 4, 3) := by decide +kernel
theorem dX7_lowest_27 : decode cX7_lowest 27 = .ok (.iload_n 2, 1) := by decide +kernel
theorem dX7_lowest_28 : decode cX7_lowest 28 = .ok (.istore_n 2, 1) := by decide +kernel
theorem dX7_lowest_29 : decode cX7_lowest 29 = .ok (.iinc 3 (-1), 3) := by decide +kernel
theorem dX7_lowest_32 : decode cX7_lowest 32 = .ok (.goto (-22), 3) := by decide +kernel
theorem dX7_lowest_35 : decode cX7_lowest 35 = .ok (.iload_n 2, 1) := by decide +kernel
theorem dX7_lowest_36 : decode cX7_lowest 36 = .ok (.ireturn, 1) := by decide +kernel
noncomputable def f_X7_lowest_b10 (o : Nat) (mem : Mem) (q : Int32 × Int32) : Option ((Int32 × Int32) ⊕ (Int32 × Int32)) :=
  if q.2 < 0 then (some (.inr (q.1, q.2))) else (ob (f_X7_empties o q.2 mem) fun r17 => if r17 ≤ 0 then (lt' (q.2 + (-1)) fun v29 => some (.inl (q.1, v29))) else (lt' (q.2 + (-1)) fun v29 => some (.inl (q.2, v29))))
noncomputable def f_X7_lowest (o : Nat)  (mem : Mem) : Option (Int32) :=
  lt' ((mem 62 16) - 1) fun v9 => ob (lp (f_X7_lowest_b10 o mem) FU (8, v9)) fun q10 => some q10.1
def P_X7_lowest_10 (E : Ex) (κ : Kx) (ad : Nat → Nat) (lay : List Ent) (o : Nat) (mem : Mem) : (Int32 × Int32) ⊕ (Int32 × Int32) → Prop
  | .inl q => Gw E κ 4 0 0 10 [some (.ref (ad 62)), some (.ref (ad o)), some (.int q.1), some (.int q.2)] [] ad lay mem
  | .inr q => Gw E κ 4 0 0 35 [none, none, some (.int q.1), none] [] ad lay mem
set_option maxRecDepth 100000 in
set_option maxHeartbeats 4000000 in
theorem b_X7_lowest_10 {E : Ex} {κ : Kx} {ad : Nat → Nat} {sh sp : Nat} {d : Nat} {o : Nat} (C : Cx E κ cX7_lowest RX7 4 (some .int) d) (hd : 2 ≤ d) (ho : isO o) {mem : Mem} {q : Int32 × Int32} {x : (Int32 × Int32) ⊕ (Int32 × Int32)} (h : f_X7_lowest_b10 o mem q = some x) (hP : (P_X7_lowest_10 E κ ad (LC sh sp ++ LM) o mem) x) : Gw E κ 4 0 0 10 [some (.ref (ad 62)), some (.ref (ad o)), some (.int q.1), some (.int q.2)] [] ad (LC sh sp ++ LM) mem := by
  unfold f_X7_lowest_b10 at h
  refine g_iload_n (pc := 10) (i := 3) (x := q.2) C dX7_lowest_10 rfl rfl ?_
  rcases ite_some' h with ⟨hc11, h⟩ | ⟨hc11, h⟩
  · refine g_if_lt_t (pc := 11) C 35 dX7_lowest_11 (by decide) hc11 ?_
    refine g_mask (lv' := [none, none, some (.int q.1), none]) [false, false, true, false] rfl ?_
    cases h
    exact hP
  · refine g_if_lt_f (pc := 11) C 35 dX7_lowest_11 (by decide) hc11 ?_
    refine g_aload_n (pc := 14) (i := 0) (x := ad 62) C dX7_lowest_14 rfl rfl ?_
    refine g_aload_n (pc := 15) (i := 1) (x := ad o) C dX7_lowest_15 rfl rfl ?_
    refine g_iload_n (pc := 16) (i := 3) (x := q.2) C dX7_lowest_16 rfl rfl ?_
    obtain ⟨r17, hcall17, h⟩ := ob_some h
    refine g_callV (pc := 17) C ce0 mi_X7_empties mv_X7_empties wm_X7_212 dX7_lowest_17 ok_X7 [.ref (ad o), .int q.2] [] la_62 (by omega) rfl rfl (Nat.le_of_ble_eq_true rfl) (m_X7_empties (d := d - 1) (by omega) ho hcall17) ?_
    show Gw E κ 4 0 0 20 [some (.ref (ad 62)), some (.ref (ad o)), some (.int q.1), some (.int q.2)] [.int r17] ad (LC sh sp ++ LM) mem
    rcases ite_some' h with ⟨hc20, h⟩ | ⟨hc20, h⟩
    · refine g_if_le_t (pc := 20) C 27 dX7_lowest_20 (by decide) hc20 ?_
      refine g_iload_n (pc := 27) (i := 2) (x := q.1) C dX7_lowest_27 rfl rfl ?_
      refine g_istore_n (pc := 28) (i := 2) (lv' := [some (.ref (ad 62)), some (.ref (ad o)), some (.int q.1), some (.int q.2)]) C dX7_lowest_28 rfl (by decide) rfl rfl ?_
      obtain ⟨v29, hv29, h⟩ := lt_some h
      refine g_iinc (pc := 29) (i := 3) (x := q.2) (v := v29) (lv' := [some (.ref (ad 62)), some (.ref (ad o)), some (.int q.1), some (.int v29)]) C dX7_lowest_29 rfl hv29.symm (by decide) rfl rfl ?_
      refine g_goto (pc := 32) C 10 dX7_lowest_32 (by decide) ?_
      cases h
      exact hP
    · refine g_if_le_f (pc := 20) C 27 dX7_lowest_20 (by decide) hc20 ?_
      refine g_iload_n (pc := 23) (i := 3) (x := q.2) C dX7_lowest_23 rfl rfl ?_
      refine g_goto (pc := 24) C 28 dX7_lowest_24 (by decide) ?_
      refine g_istore_n (pc := 28) (i := 2) (lv' := [some (.ref (ad 62)), some (.ref (ad o)), some (.int q.2), some (.int q.2)]) C dX7_lowest_28 rfl (by decide) rfl rfl ?_
      obtain ⟨v29, hv29, h⟩ := lt_some h
      refine g_iinc (pc := 29) (i := 3) (x := q.2) (v := v29) (lv' := [some (.ref (ad 62)), some (.ref (ad o)), some (.int q.2), some (.int v29)]) C dX7_lowest_29 rfl hv29.symm (by decide) rfl rfl ?_
      refine g_goto (pc := 32) C 10 dX7_lowest_32 (by decide) ?_
      cases h
      exact hP
set_option maxRecDepth 100000 in
set_option maxHeartbeats 4000000 in
theorem m_X7_lowest {E : Ex} {ad : Nat → Nat} {sh sp : Nat} {d : Nat} (hd : 2 ≤ d) {o : Nat} (ho : isO o)  {mem : Mem} {r : Int32} (h : f_X7_lowest o mem = some r) : Cl E yX7_lowest cX7_lowest 4 (some .int) d [.ref (ad 62), .ref (ad o)] (some (.int r)) ad (LC sh sp ++ LM) mem (LC sh sp ++ LM) mem := by
  refine Cl.of [some (.ref (ad 62)), some (.ref (ad o)), none, none] (by decide +kernel) rfl (Nat.le_of_ble_eq_true rfl) (fun κ C hP => ?_)
  have C : Cx E κ cX7_lowest RX7 4 (some .int) d := C
  unfold f_X7_lowest at h
  refine g_bipush (pc := 0) (v := 8) C dX7_lowest_0 rfl ?_
  refine g_istore_n (pc := 2) (i := 2) (lv' := [some (.ref (ad 62)), some (.ref (ad o)), some (.int 8), none]) C dX7_lowest_2 rfl (by decide) rfl rfl ?_
  refine g_aload_n (pc := 3) (i := 0) (x := ad 62) C dX7_lowest_3 rfl rfl ?_
  refine g_get (pc := 4) (v := .int (mem 62 16)) C ok_X7 16 (by decide) wf_X7_177 dX7_lowest_4 la_62 rfl ?_
  refine g_iconst (pc := 7) (v := 1) C dX7_lowest_7 rfl ?_
  refine g_isub (pc := 8) C dX7_lowest_8 ?_
  obtain ⟨v9, hv9, h⟩ := lt_some h
  refine g_topi hv9 ?_
  refine g_istore_n (pc := 9) (i := 3) (lv' := [some (.ref (ad 62)), some (.ref (ad o)), some (.int 8), some (.int v9)]) C dX7_lowest_9 rfl (by decide) rfl rfl ?_
  obtain ⟨q10, hq, h⟩ := ob_some h
  refine lp_gw (P_X7_lowest_10 E κ ad (LC sh sp ++ LM) o mem) (fun q x hb hp => b_X7_lowest_10 C hd ho hb hp) _ (8, v9) _ hq ?_
  show Gw E κ 4 0 0 35 [none, none, some (.int q10.1), none] [] ad (LC sh sp ++ LM) mem
  refine g_iload_n (pc := 35) (i := 2) (x := q10.1) C dX7_lowest_35 rfl rfl ?_
  cases h
  exact g_iret (pc := 36) C hP rfl rfl dX7_lowest_36

theorem dX7_isSending_0 : decode cX7_isSending 0 = .ok (.aload_n 1, 1) := by decide +kernel
theorem dX7_isSending_1 : decode cX7_isSending 1 = .ok (.bipush 16, 2) := by decide +kernel
theorem dX7_isSending_3 : decode cX7_isSending 3 = .ok (.iconst 2, 1) := by decide +kernel
theorem dX7_isSending_4 : decode cX7_isSending 4 = .ok (.iload_n 2, 1) := by decide +kernel
theorem dX7_isSending_5 : decode cX7_isSending 5 = .ok (.imul, 1) := by decide +kernel
theorem dX7_isSending_6 : decode cX7_isSending 6 = .ok (.iadd, 1) := by decide +kernel
theorem dX7_isSending_7 : decode cX7_isSending 7 = .ok (.iaload, 1) := by decide +kernel
theorem dX7_isSending_8 : decode cX7_isSending 8 = .ok (.istore_n 3, 1) := by decide +kernel
theorem dX7_isSending_9 : decode cX7_isSending 9 = .ok (.aload_n 0, 1) := by decide +kernel
theorem dX7_isSending_10 : decode cX7_isSending 10 = .ok (.iload_n 3, 1) := by decide +kernel
theorem dX7_isSending_11 : decode cX7_isSending 11 = .ok (.invokevirtual 219, 3) := by decide +kernel
theorem dX7_isSending_14 : decode cX7_isSending 14 = .ok (.ifCond .eq 45, 3) := by decide +kernel
theorem dX7_isSending_17 : decode cX7_isSending 17 = .ok (.aload_n 0, 1) := by decide +kernel
theorem dX7_isSending_18 : decode cX7_isSending 18 = .ok (.aload_n 1, 1) := by decide +kernel
theorem dX7_isSending_19 : decode cX7_isSending 19 = .ok (.iload_n 3, 1) := by decide +kernel
theorem dX7_isSending_20 : decode cX7_isSending 20 = .ok (.aload_n 1, 1) := by decide +kernel
theorem dX7_isSending_21 : decode cX7_isSending 21 = .ok (.bipush 16, 2) := by decide +kernel
theorem dX7_isSending_23 : decode cX7_isSending 23 = .ok (.iconst 2, 1) := by decide +kernel
theorem dX7_isSending_24 : decode cX7_isSending 24 = .ok (.iload_n 2, 1) := by decide +kernel
theorem dX7_isSending_25 : decode cX7_isSending 25 = .ok (.imul, 1) := by decide +kernel
theorem dX7_isSending_26 : decode cX7_isSending 26 = .ok (.iadd, 1) := by decide +kernel
theorem dX7_isSending_27 : decode cX7_isSending 27 = .ok (.iconst 1, 1) := by decide +kernel
theorem dX7_isSending_28 : decode cX7_isSending 28 = .ok (.iadd, 1) := by decide +kernel
theorem dX7_isSending_29 : decode cX7_isSending 29 = .ok (.iaload, 1) := by decide +kernel
theorem dX7_isSending_30 : decode cX7_isSending 30 = .ok (.invokevirtual 216, 3) := by decide +kernel
theorem dX7_isSending_33 : decode cX7_isSending 33 = .ok (.ifCond .eq 26, 3) := by decide +kernel
theorem dX7_isSending_36 : decode cX7_isSending 36 = .ok (.aload_n 0, 1) := by decide +kernel
theorem dX7_isSending_37 : decode cX7_isSending 37 = .ok (.getfield 40, 3) := by decide +kernel
theorem dX7_isSending_40 : decode cX7_isSending 40 = .ok (.iload_n 2, 1) := by decide +kernel
theorem dX7_isSending_41 : decode cX7_isSending 41 = .ok (.iaload, 1) := by decide +kernel
theorem dX7_isSending_42 : decode cX7_isSending 42 = .ok (.iconst 3, 1) := by decide +kernel
theorem dX7_isSending_43 : decode cX7_isSending 43 = .ok (.if_icmp .ne 12, 3) := by decide +kernel
theorem dX7_isSending_46 : decode cX7_isSending 46 = .ok (.iload_n 3, 1) := by decide +kernel
theorem dX7_isSending_47 : decode cX7_isSending 47 = .ok (.aload_n 0, 1) := by decide +kernel
theorem dX7_isSending_48 : decode cX7_isSending 48 = .ok (.aload_n 1, 1) := by decide +kernel
theorem dX7_isSending_49 : decode cX7_isSending 49 = .ok (.invokevirtual 228, 3) := by decide +kernel
theorem dX7_isSending_52 : decode cX7_isSending 52 = .ok (.if_icmp .ne 7, 3) := by decide +kernel
theorem dX7_isSending_55 : decode cX7_isSending 55 = .ok (.iconst 1, 1) := by decide +kernel
theorem dX7_isSending_56 : decode cX7_isSending 56 = .ok (.goto 4, 3) := by decide +kernel
theorem dX7_isSending_59 : decode cX7_isSending 59 = .ok (.iconst 0, 1) := by decide +kernel
theorem dX7_isSending_60 : decode cX7_isSending 60 = .ok (.ireturn, 1) := by decide +kernel
noncomputable def f_X7_isSending (o : Nat) (l2 : Int32) (mem : Mem) : Option (Int32) :=
  rd (mem o) 28 (16 + (2 * l2)) fun v7 => ob (f_X7_isPlace v7 mem) fun r11 => if r11 = 0 then (some 0) else (rd (mem o) 28 ((16 + (2 * l2)) + 1) fun v29 => ob (f_X7_isFit o v7 v29 mem) fun r30 => if r30 = 0 then (some 0) else (rd (mem 73) 6 l2 fun v41 => if v41 = 3 then (ob (f_X7_lowest o mem) fun r49 => if v7 = r49 then (some 1) else (some 0)) else (some 1)))
set_option maxRecDepth 100000 in
set_option maxHeartbeats 4000000 in
theorem m_X7_isSending {E : Ex} {ad : Nat → Nat} {sh sp : Nat} {d : Nat} (hd : 3 ≤ d) {o : Nat} (ho : isO o) {l2 : Int32} {mem : Mem} {r : Int32} (h : f_X7_isSending o l2 mem = some r) : Cl E yX7_isSending cX7_isSending 4 (some .boolean) d [.ref (ad 62), .ref (ad o), .int l2] (some (.int r)) ad (LC sh sp ++ LM) mem (LC sh sp ++ LM) mem := by
  refine Cl.of [some (.ref (ad 62)), some (.ref (ad o)), some (.int l2), none] (by decide +kernel) rfl (Nat.le_of_ble_eq_true rfl) (fun κ C hP => ?_)
  have C : Cx E κ cX7_isSending RX7 4 (some .boolean) d := C
  unfold f_X7_isSending at h
  refine g_aload_n (pc := 0) (i := 1) (x := ad o) C dX7_isSending_0 rfl rfl ?_
  refine g_bipush (pc := 1) (v := 16) C dX7_isSending_1 rfl ?_
  refine g_iconst (pc := 3) (v := 2) C dX7_isSending_3 rfl ?_
  refine g_iload_n (pc := 4) (i := 2) (x := l2) C dX7_isSending_4 rfl rfl ?_
  refine g_imul (pc := 5) C dX7_isSending_5 ?_
  refine g_iadd (pc := 6) C dX7_isSending_6 ?_
  obtain ⟨v7, hv7, hi7, h⟩ := rd_some h
  refine g_iald (pc := 7) C dX7_isSending_7 (lq_0 ho) hi7 ?_
  refine g_topi hv7 ?_
  refine g_istore_n (pc := 8) (i := 3) (lv' := [some (.ref (ad 62)), some (.ref (ad o)), some (.int l2), some (.int v7)]) C dX7_isSending_8 rfl (by decide) rfl rfl ?_
  refine g_aload_n (pc := 9) (i := 0) (x := ad 62) C dX7_isSending_9 rfl rfl ?_
  refine g_iload_n (pc := 10) (i := 3) (x := v7) C dX7_isSending_10 rfl rfl ?_
  obtain ⟨r11, hcall11, h⟩ := ob_some h
  refine g_callV (pc := 11) C ce0 mi_X7_isPlace mv_X7_isPlace wm_X7_219 dX7_isSending_11 ok_X7 [.int v7] [] la_62 (by omega) rfl rfl (Nat.le_of_ble_eq_true rfl) (m_X7_isPlace (d := d - 1) (by omega)  hcall11) ?_
  show Gw E κ 4 0 0 14 [some (.ref (ad 62)), some (.ref (ad o)), some (.int l2), some (.int v7)] [.int r11] ad (LC sh sp ++ LM) mem
  rcases ite_some' h with ⟨hc14, h⟩ | ⟨hc14, h⟩
  · refine g_if_eq_t (pc := 14) C 59 dX7_isSending_14 (by decide) hc14 ?_
    refine g_iconst (pc := 59) (v := 0) C dX7_isSending_59 rfl ?_
    cases h
    exact g_iret (pc := 60) C hP rfl rfl dX7_isSending_60
  · refine g_if_eq_f (pc := 14) C 59 dX7_isSending_14 (by decide) hc14 ?_
    refine g_aload_n (pc := 17) (i := 0) (x := ad 62) C dX7_isSending_17 rfl rfl ?_
    refine g_aload_n (pc := 18) (i := 1) (x := ad o) C dX7_isSending_18 rfl rfl ?_
    refine g_iload_n (pc := 19) (i := 3) (x := v7) C dX7_isSending_19 rfl rfl ?_
    refine g_aload_n (pc := 20) (i := 1) (x := ad o) C dX7_isSending_20 rfl rfl ?_
    refine g_bipush (pc := 21) (v := 16) C dX7_isSending_21 rfl ?_
    refine g_iconst (pc := 23) (v := 2) C dX7_isSending_23 rfl ?_
    refine g_iload_n (pc := 24) (i := 2) (x := l2) C dX7_isSending_24 rfl rfl ?_
    refine g_imul (pc := 25) C dX7_isSending_25 ?_
    refine g_iadd (pc := 26) C dX7_isSending_26 ?_
    refine g_iconst (pc := 27) (v := 1) C dX7_isSending_27 rfl ?_
    refine g_iadd (pc := 28) C dX7_isSending_28 ?_
    obtain ⟨v29, hv29, hi29, h⟩ := rd_some h
    refine g_iald (pc := 29) C dX7_isSending_29 (lq_0 ho) hi29 ?_
    refine g_topi hv29 ?_
    obtain ⟨r30, hcall30, h⟩ := ob_some h
    refine g_callV (pc := 30) C ce0 mi_X7_isFit mv_X7_isFit wm_X7_216 dX7_isSending_30 ok_X7 [.ref (ad o), .int v7, .int v29] [] la_62 (by omega) rfl rfl (Nat.le_of_ble_eq_true rfl) (m_X7_isFit (d := d - 1) (by omega) ho hcall30) ?_
    show Gw E κ 4 0 0 33 [some (.ref (ad 62)), some (.ref (ad o)), some (.int l2), some (.int v7)] [.int r30] ad (LC sh sp ++ LM) mem
    rcases ite_some' h with ⟨hc33, h⟩ | ⟨hc33, h⟩
    · refine g_if_eq_t (pc := 33) C 59 dX7_isSending_33 (by decide) hc33 ?_
      refine g_iconst (pc := 59) (v := 0) C dX7_isSending_59 rfl ?_
      cases h
      exact g_iret (pc := 60) C hP rfl rfl dX7_isSending_60
    · refine g_if_eq_f (pc := 33) C 59 dX7_isSending_33 (by decide) hc33 ?_
      refine g_aload_n (pc := 36) (i := 0) (x := ad 62) C dX7_isSending_36 rfl rfl ?_
      refine g_get (pc := 37) (v := .ref (ad 73)) C ok_X7 22 (by decide) wf_X7_40 dX7_isSending_37 la_62 rfl ?_
      refine g_iload_n (pc := 40) (i := 2) (x := l2) C dX7_isSending_40 rfl rfl ?_
      obtain ⟨v41, hv41, hi41, h⟩ := rd_some h
      refine g_iald (pc := 41) C dX7_isSending_41 la_73 hi41 ?_
      refine g_topi hv41 ?_
      refine g_iconst (pc := 42) (v := 3) C dX7_isSending_42 rfl ?_
      rcases ite_some' h with ⟨hc43, h⟩ | ⟨hc43, h⟩
      · refine g_icmp_ne_f (pc := 43) C 55 dX7_isSending_43 (by decide) hc43 ?_
        refine g_iload_n (pc := 46) (i := 3) (x := v7) C dX7_isSending_46 rfl rfl ?_
        refine g_aload_n (pc := 47) (i := 0) (x := ad 62) C dX7_isSending_47 rfl rfl ?_
        refine g_aload_n (pc := 48) (i := 1) (x := ad o) C dX7_isSending_48 rfl rfl ?_
        obtain ⟨r49, hcall49, h⟩ := ob_some h
        refine g_callV (pc := 49) C ce0 mi_X7_lowest mv_X7_lowest wm_X7_228 dX7_isSending_49 ok_X7 [.ref (ad o)] [.int v7] la_62 (by omega) rfl rfl (Nat.le_of_ble_eq_true rfl) (m_X7_lowest (d := d - 1) (by omega) ho hcall49) ?_
        show Gw E κ 4 0 0 52 [some (.ref (ad 62)), some (.ref (ad o)), some (.int l2), some (.int v7)] [.int r49, .int v7] ad (LC sh sp ++ LM) mem
        rcases ite_some' h with ⟨hc52, h⟩ | ⟨hc52, h⟩
        · refine g_icmp_ne_f (pc := 52) C 59 dX7_isSending_52 (by decide) hc52 ?_
          refine g_iconst (pc := 55) (v := 1) C dX7_isSending_55 rfl ?_
          refine g_goto (pc := 56) C 60 dX7_isSending_56 (by decide) ?_
          cases h
          exact g_iret (pc := 60) C hP rfl rfl dX7_isSending_60
        · refine g_icmp_ne_t (pc := 52) C 59 dX7_isSending_52 (by decide) hc52 ?_
          refine g_iconst (pc := 59) (v := 0) C dX7_isSending_59 rfl ?_
          cases h
          exact g_iret (pc := 60) C hP rfl rfl dX7_isSending_60
      · refine g_icmp_ne_t (pc := 43) C 55 dX7_isSending_43 (by decide) hc43 ?_
        refine g_iconst (pc := 55) (v := 1) C dX7_isSending_55 rfl ?_
        refine g_goto (pc := 56) C 60 dX7_isSending_56 (by decide) ?_
        cases h
        exact g_iret (pc := 60) C hP rfl rfl dX7_isSending_60
