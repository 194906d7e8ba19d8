theorem dX6_write_0 : decode cX6_write 0 = .ok (.iload_n 1, 1) := by decide +kernel
theorem dX6_write_1 : decode cX6_write 1 = .ok (.bipush 32, 2) := by decide +kernel
theorem dX6_write_3 : decode cX6_write 3 = .ok (.if_icmp .lt 9, 3) := by decide +kernel
theorem dX6_write_6 : decode cX6_write 6 = .ok (.iload_n 1, 1) := by decide +kernel
theorem dX6_write_7 : decode cX6_write 7 = .ok (.bipush 126, 2) := by decide +kernel
theorem dX6_write_9 : decode cX6_write 9 = .ok (.if_icmp .le 5, 3) := by decide +kernel
theorem dX6_write_12 : decode cX6_write 12 = .ok (.iconst (-1), 1) := by decide +kernel
theorem dX6_write_13 : decode cX6_write 13 = .ok (.ireturn, 1) := by decide +kernel
theorem dX6_write_14 : decode cX6_write 14 = .ok (.aload_n 0, 1) := by decide +kernel
theorem dX6_write_15 : decode cX6_write 15 = .ok (.getfield 12, 3) := by decide +kernel
theorem dX6_write_18 : decode cX6_write 18 = .ok (.iload_n 1, 1) := by decide +kernel
theorem dX6_write_19 : decode cX6_write 19 = .ok (.invokevirtual 82, 3) := by decide +kernel
theorem dX6_write_22 : decode cX6_write 22 = .ok (.ifCond .eq 13, 3) := by decide +kernel
theorem dX6_write_25 : decode cX6_write 25 = .ok (.aload_n 0, 1) := by decide +kernel
theorem dX6_write_26 : decode cX6_write 26 = .ok (.getfield 12, 3) := by decide +kernel
theorem dX6_write_29 : decode cX6_write 29 = .ok (.getfield 90, 3) := by decide +kernel
theorem dX6_write_32 : decode cX6_write 32 = .ok (.goto 5, 3) := by decide +kernel
theorem dX6_write_35 : decode cX6_write 35 = .ok (.bipush (-3), 2) := by decide +kernel
theorem dX6_write_37 : decode cX6_write 37 = .ok (.ireturn, 1) := by decide +kernel
noncomputable def f_X6_write (l1 : Int32) (mem : Mem) : Option (Int32 × Mem) :=
  if l1 < 32 then (some ((-1), mem)) else (if l1 ≤ 126 then (ob2 (f_X2_append l1 mem) fun r19 m19 => if r19 = 0 then (some ((-3), m19)) else (lt' (m19 1 1) fun v37 => some (v37, m19))) else (some ((-1), mem)))
set_option maxRecDepth 100000 in
set_option maxHeartbeats 4000000 in
theorem m_X6_write {E : Ex} {ad : Nat → Nat} {sh sp : Nat} {tl : List Ent} {d : Nat} (hd : 1 ≤ d) (hsh : isS sh) (hsp : isS sp) {l1 : Int32} {mem : Mem} {r : Int32 × Mem} (h : f_X6_write l1 mem = some r) : Cl E yX6_write cX6_write 2 (some .int) d [.ref (ad 0), .int l1] (some (.int r.1)) ad (LC sh sp ++ tl) mem (LC sh sp ++ tl) r.2 := by
  refine Cl.of [some (.ref (ad 0)), some (.int l1)] (by decide +kernel) rfl (Nat.le_of_ble_eq_true rfl) (fun κ C hP => ?_)
  have C : Cx E κ cX6_write RX6 2 (some .int) d := C
  unfold f_X6_write at h
  refine g_iload_n (pc := 0) (i := 1) (x := l1) C dX6_write_0 rfl rfl ?_
  refine g_bipush (pc := 1) (v := 32) C dX6_write_1 rfl ?_
  rcases ite_some' h with ⟨hc3, h⟩ | ⟨hc3, h⟩
  · refine g_icmp_lt_t (pc := 3) C 12 dX6_write_3 (by decide) hc3 ?_
    refine g_iconst (pc := 12) (v := (-1)) C dX6_write_12 rfl ?_
    cases h
    exact g_iret (pc := 13) C hP rfl rfl dX6_write_13
  · refine g_icmp_lt_f (pc := 3) C 12 dX6_write_3 (by decide) hc3 ?_
    refine g_iload_n (pc := 6) (i := 1) (x := l1) C dX6_write_6 rfl rfl ?_
    refine g_bipush (pc := 7) (v := 126) C dX6_write_7 rfl ?_
    rcases ite_some' h with ⟨hc9, h⟩ | ⟨hc9, h⟩
    · refine g_icmp_le_t (pc := 9) C 14 dX6_write_9 (by decide) hc9 ?_
      refine g_aload_n (pc := 14) (i := 0) (x := ad 0) C dX6_write_14 rfl rfl ?_
      refine g_get (pc := 15) (v := .ref (ad 1)) C ok_X6 0 (by decide) wf_X6_12 dX6_write_15 la_0 rfl ?_
      refine g_iload_n (pc := 18) (i := 1) (x := l1) C dX6_write_18 rfl rfl ?_
      obtain ⟨r19, m19, hcall19, h⟩ := ob2_some h
      refine g_callN (pc := 19) C ce0 mi_X2_append mv_X2_append nm_X6_82 dX6_write_19 ok_X2 [.int l1] [] la_1 (by omega) rfl rfl (Nat.le_of_ble_eq_true rfl) (m_X2_append (d := d - 1) (by omega)  hcall19) ?_
      show Gw E κ 2 0 0 22 [some (.ref (ad 0)), some (.int l1)] [.int r19] ad (LC sh sp ++ tl) m19
      rcases ite_some' h with ⟨hc22, h⟩ | ⟨hc22, h⟩
      · refine g_if_eq_t (pc := 22) C 35 dX6_write_22 (by decide) hc22 ?_
        refine g_bipush (pc := 35) (v := (-3)) C dX6_write_35 rfl ?_
        cases h
        exact g_iret (pc := 37) C hP rfl rfl dX6_write_37
      · refine g_if_eq_f (pc := 22) C 35 dX6_write_22 (by decide) hc22 ?_
        refine g_aload_n (pc := 25) (i := 0) (x := ad 0) C dX6_write_25 rfl rfl ?_
        refine g_get (pc := 26) (v := .ref (ad 1)) C ok_X6 0 (by decide) wf_X6_12 dX6_write_26 la_0 rfl ?_
        refine g_getN (pc := 29) (v := .int (m19 1 1)) C ok_X2 1 (by decide) nf_X6_90 dX6_write_29 la_1 rfl ?_
        refine g_goto (pc := 32) C 37 dX6_write_32 (by decide) ?_
        obtain ⟨v37, hv37, h⟩ := lt_some h
        refine g_topi hv37 ?_
        cases h
        exact g_iret (pc := 37) C hP rfl rfl dX6_write_37
    · refine g_icmp_le_f (pc := 9) C 14 dX6_write_9 (by decide) hc9 ?_
      refine g_iconst (pc := 12) (v := (-1)) C dX6_write_12 rfl ?_
      cases h
      exact g_iret (pc := 13) C hP rfl rfl dX6_write_13

theorem dX6_wipe_0 : decode cX6_wipe 0 = .ok (.aload_n 0, 1) := by decide +kernel
theorem dX6_wipe_1 : decode cX6_wipe 1 = .ok (.getfield 12, 3) := by decide +kernel
theorem dX6_wipe_4 : decode cX6_wipe 4 = .ok (.getfield 90, 3) := by decide +kernel
theorem dX6_wipe_7 : decode cX6_wipe 7 = .ok (.istore_n 1, 1) := by decide +kernel
theorem dX6_wipe_8 : decode cX6_wipe 8 = .ok (.aload_n 0, 1) := by decide +kernel
theorem dX6_wipe_9 : decode cX6_wipe 9 = .ok (.getfield 12, 3) := by decide +kernel
theorem dX6_wipe_12 : decode cX6_wipe 12 = .ok (.iconst 0, 1) := by decide +kernel
theorem dX6_wipe_13 : decode cX6_wipe 13 = .ok (.putfield 90, 3) := by decide +kernel
theorem dX6_wipe_16 : decode cX6_wipe 16 = .ok (.iload_n 1, 1) := by decide +kernel
theorem dX6_wipe_17 : decode cX6_wipe 17 = .ok (.ireturn, 1) := by decide +kernel
noncomputable def f_X6_wipe  (mem : Mem) : Option (Int32 × Mem) :=
  lt' (mem 1 1) fun v7 => lt' (mset mem 1 1 0) fun m13 => some (v7, m13)
set_option maxRecDepth 100000 in
set_option maxHeartbeats 4000000 in
theorem m_X6_wipe {E : Ex} {ad : Nat → Nat} {sh sp : Nat} {tl : List Ent} {d : Nat} (hd : 0 ≤ d) (hsh : isS sh) (hsp : isS sp)  {mem : Mem} {r : Int32 × Mem} (h : f_X6_wipe mem = some r) : Cl E yX6_wipe cX6_wipe 2 (some .int) d [.ref (ad 0)] (some (.int r.1)) ad (LC sh sp ++ tl) mem (LC sh sp ++ tl) r.2 := by
  refine Cl.of [some (.ref (ad 0)), none] (by decide +kernel) rfl (Nat.le_of_ble_eq_true rfl) (fun κ C hP => ?_)
  have C : Cx E κ cX6_wipe RX6 2 (some .int) d := C
  unfold f_X6_wipe at h
  refine g_aload_n (pc := 0) (i := 0) (x := ad 0) C dX6_wipe_0 rfl rfl ?_
  refine g_get (pc := 1) (v := .ref (ad 1)) C ok_X6 0 (by decide) wf_X6_12 dX6_wipe_1 la_0 rfl ?_
  refine g_getN (pc := 4) (v := .int (mem 1 1)) C ok_X2 1 (by decide) nf_X6_90 dX6_wipe_4 la_1 rfl ?_
  obtain ⟨v7, hv7, h⟩ := lt_some h
  refine g_topi hv7 ?_
  refine g_istore_n (pc := 7) (i := 1) (lv' := [some (.ref (ad 0)), some (.int v7)]) C dX6_wipe_7 rfl (by decide) rfl rfl ?_
  refine g_aload_n (pc := 8) (i := 0) (x := ad 0) C dX6_wipe_8 rfl rfl ?_
  refine g_get (pc := 9) (v := .ref (ad 1)) C ok_X6 0 (by decide) wf_X6_12 dX6_wipe_9 la_0 rfl ?_
  refine g_iconst (pc := 12) (v := 0) C dX6_wipe_12 rfl ?_
  obtain ⟨m13, hm13, h⟩ := lt_some h
  refine g_putN (pc := 13) C ok_X2 1 (by decide) nf_X6_90 dX6_wipe_13 rfl rfl la_1 ?_
  refine g_mem hm13 ?_
  refine g_iload_n (pc := 16) (i := 1) (x := v7) C dX6_wipe_16 rfl rfl ?_
  cases h
  exact g_iret (pc := 17) C hP rfl rfl dX6_wipe_17

theorem dX6_fault_0 : decode cX6_fault 0 = .ok (.aload_n 0, 1) := by decide +kernel
theorem dX6_fault_1 : decode cX6_fault 1 = .ok (.getfield 12, 3) := by decide +kernel
theorem dX6_fault_4 : decode cX6_fault 4 = .ok (.aload_n 0, 1) := by decide +kernel
theorem dX6_fault_5 : decode cX6_fault 5 = .ok (.getfield 23, 3) := by decide +kernel
theorem dX6_fault_8 : decode cX6_fault 8 = .ok (.invokevirtual 93, 3) := by decide +kernel
theorem dX6_fault_11 : decode cX6_fault 11 = .ok (.ireturn, 1) := by decide +kernel
noncomputable def f_X6_fault (sp : Nat)  (mem : Mem) : Option (Int32 × Mem) :=
  ob2 (f_X2_readInto sp mem) fun r8 m8 => some (r8, m8)
set_option maxRecDepth 100000 in
set_option maxHeartbeats 4000000 in
theorem m_X6_fault {E : Ex} {ad : Nat → Nat} {sh sp : Nat} {tl : List Ent} {d : Nat} (hd : 5 ≤ d) (hsh : isS sh) (hsp : isS sp)  {mem : Mem} {r : Int32 × Mem} (h : f_X6_fault sp mem = some r) : Cl E yX6_fault cX6_fault 1 (some .int) d [.ref (ad 0)] (some (.int r.1)) ad (LC sh sp ++ tl) mem (LC sh sp ++ tl) r.2 := by
  refine Cl.of [some (.ref (ad 0))] (by decide +kernel) rfl (Nat.le_of_ble_eq_true rfl) (fun κ C hP => ?_)
  have C : Cx E κ cX6_fault RX6 1 (some .int) d := C
  unfold f_X6_fault at h
  refine g_aload_n (pc := 0) (i := 0) (x := ad 0) C dX6_fault_0 rfl rfl ?_
  refine g_get (pc := 1) (v := .ref (ad 1)) C ok_X6 0 (by decide) wf_X6_12 dX6_fault_1 la_0 rfl ?_
  refine g_aload_n (pc := 4) (i := 0) (x := ad 0) C dX6_fault_4 rfl rfl ?_
  refine g_get (pc := 5) (v := .ref (ad sp)) C ok_X6 2 (by decide) wf_X6_23 dX6_fault_5 la_0 rfl ?_
  obtain ⟨r8, m8, hcall8, h⟩ := ob2_some h
  refine g_callN (pc := 8) C ce0 mi_X2_readInto mv_X2_readInto nm_X6_93 dX6_fault_8 ok_X2 [.ref (ad sp)] [] la_1 (by omega) rfl rfl (Nat.le_of_ble_eq_true rfl) (m_X2_readInto (d := d - 1) (by omega) hsp hcall8) ?_
  show Gw E κ 1 0 0 11 [some (.ref (ad 0))] [.int r8] ad (LC sh sp ++ tl) m8
  cases h
  exact g_iret (pc := 11) C hP rfl rfl dX6_fault_11

theorem dX6_isSquare_0 : decode cX6_isSquare 0 = .ok (.iload_n 1, 1) := by decide +kernel
theorem dX6_isSquare_1 : decode cX6_isSquare 1 = .ok (.ifCond .lt 18, 3) := by decide +kernel
theorem dX6_isSquare_4 : decode cX6_isSquare 4 = .ok (.iload_n 1, 1) := by decide +kernel
theorem dX6_isSquare_5 : decode cX6_isSquare 5 = .ok (.aload_n 0, 1) := by decide +kernel
theorem dX6_isSquare_6 : decode cX6_isSquare 6 = .ok (.getfield 19, 3) := by decide +kernel
theorem dX6_isSquare_9 : decode cX6_isSquare 9 = .ok (.invokevirtual 268, 3) := by decide +kernel
theorem dX6_isSquare_12 : decode cX6_isSquare 12 = .ok (.if_icmp .ge 7, 3) := by decide +kernel
theorem dX6_isSquare_15 : decode cX6_isSquare 15 = .ok (.iconst 1, 1) := by decide +kernel
theorem dX6_isSquare_16 : decode cX6_isSquare 16 = .ok (.goto 4, 3) := by decide +kernel
theorem dX6_isSquare_19 : decode cX6_isSquare 19 = .ok (.iconst 0, 1) := by decide +kernel
theorem dX6_isSquare_20 : decode cX6_isSquare 20 = .ok (.ireturn, 1) := by decide +kernel
noncomputable def f_X6_isSquare (sh : Nat) (l1 : Int32) (mem : Mem) : Option (Int32) :=
  if l1 < 0 then (some 0) else (ob (f_X5_squareCount sh mem) fun r9 => if r9 ≤ l1 then (some 0) else (some 1))
set_option maxRecDepth 100000 in
set_option maxHeartbeats 4000000 in
theorem m_X6_isSquare {E : Ex} {ad : Nat → Nat} {sh sp : Nat} {tl : List Ent} {d : Nat} (hd : 1 ≤ d) (hsh : isS sh) (hsp : isS sp) {l1 : Int32} {mem : Mem} {r : Int32} (h : f_X6_isSquare sh l1 mem = some r) : Cl E yX6_isSquare cX6_isSquare 2 (some .boolean) d [.ref (ad 0), .int l1] (some (.int r)) ad (LC sh sp ++ tl) mem (LC sh sp ++ tl) mem := by
  refine Cl.of [some (.ref (ad 0)), some (.int l1)] (by decide +kernel) rfl (Nat.le_of_ble_eq_true rfl) (fun κ C hP => ?_)
  have C : Cx E κ cX6_isSquare RX6 2 (some .boolean) d := C
  unfold f_X6_isSquare at h
  refine g_iload_n (pc := 0) (i := 1) (x := l1) C dX6_isSquare_0 rfl rfl ?_
  rcases ite_some' h with ⟨hc1, h⟩ | ⟨hc1, h⟩
  · refine g_if_lt_t (pc := 1) C 19 dX6_isSquare_1 (by decide) hc1 ?_
    refine g_iconst (pc := 19) (v := 0) C dX6_isSquare_19 rfl ?_
    cases h
    exact g_iret (pc := 20) C hP rfl rfl dX6_isSquare_20
  · refine g_if_lt_f (pc := 1) C 19 dX6_isSquare_1 (by decide) hc1 ?_
    refine g_iload_n (pc := 4) (i := 1) (x := l1) C dX6_isSquare_4 rfl rfl ?_
    refine g_aload_n (pc := 5) (i := 0) (x := ad 0) C dX6_isSquare_5 rfl rfl ?_
    refine g_get (pc := 6) (v := .ref (ad sh)) C ok_X6 1 (by decide) wf_X6_19 dX6_isSquare_6 la_0 rfl ?_
    obtain ⟨r9, hcall9, h⟩ := ob_some h
    refine g_callN (pc := 9) C ce0 mi_X5_squareCount mv_X5_squareCount nm_X6_268 dX6_isSquare_9 ok_X5 [] [.int l1] (lz_0 hsh) (by omega) rfl rfl (Nat.le_of_ble_eq_true rfl) (m_X5_squareCount (d := d - 1) (by omega) hsh hcall9) ?_
    show Gw E κ 2 0 0 12 [some (.ref (ad 0)), some (.int l1)] [.int r9, .int l1] ad (LC sh sp ++ tl) mem
    rcases ite_some' h with ⟨hc12, h⟩ | ⟨hc12, h⟩
    · refine g_icmp_ge_t (pc := 12) C 19 dX6_isSquare_12 (by decide) hc12 ?_
      refine g_iconst (pc := 19) (v := 0) C dX6_isSquare_19 rfl ?_
      cases h
      exact g_iret (pc := 20) C hP rfl rfl dX6_isSquare_20
    · refine g_icmp_ge_f (pc := 12) C 19 dX6_isSquare_12 (by decide) hc12 ?_
      refine g_iconst (pc := 15) (v := 1) C dX6_isSquare_15 rfl ?_
      refine g_goto (pc := 16) C 20 dX6_isSquare_16 (by decide) ?_
      cases h
      exact g_iret (pc := 20) C hP rfl rfl dX6_isSquare_20

theorem dX6_letterIn_0 : decode cX6_letterIn 0 = .ok (.aload_n 0, 1) := by decide +kernel
theorem dX6_letterIn_1 : decode cX6_letterIn 1 = .ok (.getfield 19, 3) := by decide +kernel
theorem dX6_letterIn_4 : decode cX6_letterIn 4 = .ok (.getfield 237, 3) := by decide +kernel
theorem dX6_letterIn_7 : decode cX6_letterIn 7 = .ok (.iload_n 2, 1) := by decide +kernel
theorem dX6_letterIn_8 : decode cX6_letterIn 8 = .ok (.baload, 1) := by decide +kernel
theorem dX6_letterIn_9 : decode cX6_letterIn 9 = .ok (.ifCond .eq 8, 3) := by decide +kernel
theorem dX6_letterIn_12 : decode cX6_letterIn 12 = .ok (.bipush (-4), 2) := by decide +kernel
theorem dX6_letterIn_14 : decode cX6_letterIn 14 = .ok (.goto 9, 3) := by decide +kernel
theorem dX6_letterIn_17 : decode cX6_letterIn 17 = .ok (.aload_n 1, 1) := by decide +kernel
theorem dX6_letterIn_18 : decode cX6_letterIn 18 = .ok (.getfield 240, 3) := by decide +kernel
theorem dX6_letterIn_21 : decode cX6_letterIn 21 = .ok (.iload_n 2, 1) := by decide +kernel
theorem dX6_letterIn_22 : decode cX6_letterIn 22 = .ok (.iaload, 1) := by decide +kernel
theorem dX6_letterIn_23 : decode cX6_letterIn 23 = .ok (.ireturn, 1) := by decide +kernel
noncomputable def f_X6_letterIn (t sh : Nat) (l2 : Int32) (mem : Mem) : Option (Int32) :=
  rd (mem (sh + 1)) 16 l2 fun v8 => if v8 = 0 then (rd (mem (t + 1)) 16 l2 fun v22 => some v22) else (some ((-4)))
set_option maxRecDepth 100000 in
set_option maxHeartbeats 4000000 in
theorem m_X6_letterIn {E : Ex} {ad : Nat → Nat} {sh sp : Nat} {tl : List Ent} {d : Nat} (hd : 0 ≤ d) {t : Nat} (ht : isT t) (hsh : isS sh) (hsp : isS sp) {l2 : Int32} {mem : Mem} {r : Int32} (h : f_X6_letterIn t sh l2 mem = some r) : Cl E yX6_letterIn cX6_letterIn 3 (some .int) d [.ref (ad 0), .ref (ad t), .int l2] (some (.int r)) ad (LC sh sp ++ tl) mem (LC sh sp ++ tl) mem := by
  refine Cl.of [some (.ref (ad 0)), some (.ref (ad t)), some (.int l2)] (by decide +kernel) rfl (Nat.le_of_ble_eq_true rfl) (fun κ C hP => ?_)
  have C : Cx E κ cX6_letterIn RX6 3 (some .int) d := C
  unfold f_X6_letterIn at h
  refine g_aload_n (pc := 0) (i := 0) (x := ad 0) C dX6_letterIn_0 rfl rfl ?_
  refine g_get (pc := 1) (v := .ref (ad sh)) C ok_X6 1 (by decide) wf_X6_19 dX6_letterIn_1 la_0 rfl ?_
  refine g_getN (pc := 4) (v := .ref (ad (sh + 1))) C ok_X5 2 (by decide) nf_X6_237 dX6_letterIn_4 (lz_0 hsh) rfl ?_
  refine g_iload_n (pc := 7) (i := 2) (x := l2) C dX6_letterIn_7 rfl rfl ?_
  obtain ⟨v8, hv8, hi8, h⟩ := rd_some h
  refine g_zald (pc := 8) C dX6_letterIn_8 (lz_1 hsh) hi8 ?_
  refine g_topi hv8 ?_
  rcases ite_some' h with ⟨hc9, h⟩ | ⟨hc9, h⟩
  · refine g_if_eq_t (pc := 9) C 17 dX6_letterIn_9 (by decide) hc9 ?_
    refine g_aload_n (pc := 17) (i := 1) (x := ad t) C dX6_letterIn_17 rfl rfl ?_
    refine g_getN (pc := 18) (v := .ref (ad (t + 1))) C ok_X0 0 (by decide) nf_X6_240 dX6_letterIn_18 (ly_0 ht) rfl ?_
    refine g_iload_n (pc := 21) (i := 2) (x := l2) C dX6_letterIn_21 rfl rfl ?_
    obtain ⟨v22, hv22, hi22, h⟩ := rd_some h
    refine g_iald (pc := 22) C dX6_letterIn_22 (ly_1 ht) hi22 ?_
    refine g_topi hv22 ?_
    cases h
    exact g_iret (pc := 23) C hP rfl rfl dX6_letterIn_23
  · refine g_if_eq_f (pc := 9) C 17 dX6_letterIn_9 (by decide) hc9 ?_
    refine g_bipush (pc := 12) (v := (-4)) C dX6_letterIn_12 rfl ?_
    refine g_goto (pc := 14) C 23 dX6_letterIn_14 (by decide) ?_
    cases h
    exact g_iret (pc := 23) C hP rfl rfl dX6_letterIn_23

theorem dX6_square_0 : decode cX6_square 0 = .ok (.aload_n 0, 1) := by decide +kernel
theorem dX6_square_1 : decode cX6_square 1 = .ok (.iload_n 1, 1) := by decide +kernel
theorem dX6_square_2 : decode cX6_square 2 = .ok (.invokevirtual 100, 3) := by decide +kernel
theorem dX6_square_5 : decode cX6_square 5 = .ok (.ifCond .ne 5, 3) := by decide +kernel
theorem dX6_square_8 : decode cX6_square 8 = .ok (.iconst (-1), 1) := by decide +kernel
theorem dX6_square_9 : decode cX6_square 9 = .ok (.ireturn, 1) := by decide +kernel
theorem dX6_square_10 : decode cX6_square 10 = .ok (.aload_n 0, 1) := by decide +kernel
theorem dX6_square_11 : decode cX6_square 11 = .ok (.aload_n 0, 1) := by decide +kernel
theorem dX6_square_12 : decode cX6_square 12 = .ok (.getfield 29, 3) := by decide +kernel
theorem dX6_square_15 : decode cX6_square 15 = .ok (.iload_n 1, 1) := by decide +kernel
theorem dX6_square_16 : decode cX6_square 16 = .ok (.invokevirtual 103, 3) := by decide +kernel
theorem dX6_square_19 : decode cX6_square 19 = .ok (.ireturn, 1) := by decide +kernel
noncomputable def f_X6_square (sh : Nat) (l1 : Int32) (mem : Mem) : Option (Int32) :=
  ob (f_X6_isSquare sh l1 mem) fun r2 => if r2 = 0 then (some ((-1))) else (ob (f_X6_letterIn 31 sh l1 mem) fun r16 => some r16)
set_option maxRecDepth 100000 in
set_option maxHeartbeats 4000000 in
theorem m_X6_square {E : Ex} {ad : Nat → Nat} {sh sp : Nat} {tl : List Ent} {d : Nat} (hd : 2 ≤ d) (hsh : isS sh) (hsp : isS sp) {l1 : Int32} {mem : Mem} {r : Int32} (h : f_X6_square sh l1 mem = some r) : Cl E yX6_square cX6_square 2 (some .int) d [.ref (ad 0), .int l1] (some (.int r)) ad (LC sh sp ++ tl) mem (LC sh sp ++ tl) mem := by
  refine Cl.of [some (.ref (ad 0)), some (.int l1)] (by decide +kernel) rfl (Nat.le_of_ble_eq_true rfl) (fun κ C hP => ?_)
  have C : Cx E κ cX6_square RX6 2 (some .int) d := C
  unfold f_X6_square at h
  refine g_aload_n (pc := 0) (i := 0) (x := ad 0) C dX6_square_0 rfl rfl ?_
  refine g_iload_n (pc := 1) (i := 1) (x := l1) C dX6_square_1 rfl rfl ?_
  obtain ⟨r2, hcall2, h⟩ := ob_some h
  refine g_callV (pc := 2) C ce0 mi_X6_isSquare mv_X6_isSquare wm_X6_100 dX6_square_2 ok_X6 [.int l1] [] la_0 (by omega) rfl rfl (Nat.le_of_ble_eq_true rfl) (m_X6_isSquare (d := d - 1) (by omega) hsh hsp hcall2) ?_
  show Gw E κ 2 0 0 5 [some (.ref (ad 0)), some (.int l1)] [.int r2] ad (LC sh sp ++ tl) mem
  rcases ite_some' h with ⟨hc5, h⟩ | ⟨hc5, h⟩
  · refine g_if_ne_f (pc := 5) C 10 dX6_square_5 (by decide) hc5 ?_
    refine g_iconst (pc := 8) (v := (-1)) C dX6_square_8 rfl ?_
    cases h
    exact g_iret (pc := 9) C hP rfl rfl dX6_square_9
  · refine g_if_ne_t (pc := 5) C 10 dX6_square_5 (by decide) hc5 ?_
    refine g_aload_n (pc := 10) (i := 0) (x := ad 0) C dX6_square_10 rfl rfl ?_
    refine g_aload_n (pc := 11) (i := 0) (x := ad 0) C dX6_square_11 rfl rfl ?_
    refine g_get (pc := 12) (v := .ref (ad 31)) C ok_X6 3 (by decide) wf_X6_29 dX6_square_12 la_0 rfl ?_
    refine g_iload_n (pc := 15) (i := 1) (x := l1) C dX6_square_15 rfl rfl ?_
    obtain ⟨r16, hcall16, h⟩ := ob_some h
    refine g_callV (pc := 16) C ce0 mi_X6_letterIn mv_X6_letterIn wm_X6_103 dX6_square_16 ok_X6 [.ref (ad 31), .int l1] [] la_0 (by omega) rfl rfl (Nat.le_of_ble_eq_true rfl) (m_X6_letterIn (d := d - 1) (by omega) t_31 hsh hsp hcall16) ?_
    show Gw E κ 2 0 0 19 [some (.ref (ad 0)), some (.int l1)] [.int r16] ad (LC sh sp ++ tl) mem
    cases h
    exact g_iret (pc := 19) C hP rfl rfl dX6_square_19

theorem dX6_isPlace_0 : decode cX6_isPlace 0 = .ok (.iload_n 1, 1) := by decide +kernel
theorem dX6_isPlace_1 : decode cX6_isPlace 1 = .ok (.ifCond .lt 18, 3) := by decide +kernel
theorem dX6_isPlace_4 : decode cX6_isPlace 4 = .ok (.iload_n 1, 1) := by decide +kernel
theorem dX6_isPlace_5 : decode cX6_isPlace 5 = .ok (.aload_n 0, 1) := by decide +kernel
theorem dX6_isPlace_6 : decode cX6_isPlace 6 = .ok (.getfield 19, 3) := by decide +kernel
theorem dX6_isPlace_9 : decode cX6_isPlace 9 = .ok (.getfield 97, 3) := by decide +kernel
theorem dX6_isPlace_12 : decode cX6_isPlace 12 = .ok (.if_icmp .ge 7, 3) := by decide +kernel
theorem dX6_isPlace_15 : decode cX6_isPlace 15 = .ok (.iconst 1, 1) := by decide +kernel
theorem dX6_isPlace_16 : decode cX6_isPlace 16 = .ok (.goto 4, 3) := by decide +kernel
theorem dX6_isPlace_19 : decode cX6_isPlace 19 = .ok (.iconst 0, 1) := by decide +kernel
theorem dX6_isPlace_20 : decode cX6_isPlace 20 = .ok (.ireturn, 1) := by decide +kernel
noncomputable def f_X6_isPlace (sh : Nat) (l1 : Int32) (mem : Mem) : Option (Int32) :=
  if l1 < 0 then (some 0) else (if (mem sh 3) ≤ l1 then (some 0) else (some 1))
set_option maxRecDepth 100000 in
set_option maxHeartbeats 4000000 in
theorem m_X6_isPlace {E : Ex} {ad : Nat → Nat} {sh sp : Nat} {tl : List Ent} {d : Nat} (hd : 0 ≤ d) (hsh : isS sh) (hsp : isS sp) {l1 : Int32} {mem : Mem} {r : Int32} (h : f_X6_isPlace sh l1 mem = some r) : Cl E yX6_isPlace cX6_isPlace 2 (some .boolean) d [.ref (ad 0), .int l1] (some (.int r)) ad (LC sh sp ++ tl) mem (LC sh sp ++ tl) mem := by
  refine Cl.of [some (.ref (ad 0)), some (.int l1)] (by decide +kernel) rfl (Nat.le_of_ble_eq_true rfl) (fun κ C hP => ?_)
  have C : Cx E κ cX6_isPlace RX6 2 (some .boolean) d := C
  unfold f_X6_isPlace at h
  refine g_iload_n (pc := 0) (i := 1) (x := l1) C dX6_isPlace_0 rfl rfl ?_
  rcases ite_some' h with ⟨hc1, h⟩ | ⟨hc1, h⟩
  · refine g_if_lt_t (pc := 1) C 19 dX6_isPlace_1 (by decide) hc1 ?_
    refine g_iconst (pc := 19) (v := 0) C dX6_isPlace_19 rfl ?_
    cases h
    exact g_iret (pc := 20) C hP rfl rfl dX6_isPlace_20
  · refine g_if_lt_f (pc := 1) C 19 dX6_isPlace_1 (by decide) hc1 ?_
    refine g_iload_n (pc := 4) (i := 1) (x := l1) C dX6_isPlace_4 rfl rfl ?_
    refine g_aload_n (pc := 5) (i := 0) (x := ad 0) C dX6_isPlace_5 rfl rfl ?_
    refine g_get (pc := 6) (v := .ref (ad sh)) C ok_X6 1 (by decide) wf_X6_19 dX6_isPlace_6 la_0 rfl ?_
    refine g_getN (pc := 9) (v := .int (mem sh 3)) C ok_X5 3 (by decide) nf_X6_97 dX6_isPlace_9 (lz_0 hsh) rfl ?_
    rcases ite_some' h with ⟨hc12, h⟩ | ⟨hc12, h⟩
    · refine g_icmp_ge_t (pc := 12) C 19 dX6_isPlace_12 (by decide) hc12 ?_
      refine g_iconst (pc := 19) (v := 0) C dX6_isPlace_19 rfl ?_
      cases h
      exact g_iret (pc := 20) C hP rfl rfl dX6_isPlace_20
    · refine g_icmp_ge_f (pc := 12) C 19 dX6_isPlace_12 (by decide) hc12 ?_
      refine g_iconst (pc := 15) (v := 1) C dX6_isPlace_15 rfl ?_
      refine g_goto (pc := 16) C 20 dX6_isPlace_16 (by decide) ?_
      cases h
      exact g_iret (pc := 20) C hP rfl rfl dX6_isPlace_20

theorem dX6_place_0 : decode cX6_place 0 = .ok (.aload_n 0, 1) := by decide +kernel
theorem dX6_place_1 : decode cX6_place 1 = .ok (.iload_n 1, 1) := by decide +kernel
theorem dX6_place_2 : decode cX6_place 2 = .ok (.invokevirtual 107, 3) := by decide +kernel
theorem dX6_place_5 : decode cX6_place 5 = .ok (.ifCond .ne 5, 3) := by decide +kernel
theorem dX6_place_8 : decode cX6_place 8 = .ok (.iconst (-1), 1) := by decide +kernel
theorem dX6_place_9 : decode cX6_place 9 = .ok (.ireturn, 1) := by decide +kernel
theorem dX6_place_10 : decode cX6_place 10 = .ok (.iload_n 2, 1) := by decide +kernel
theorem dX6_place_11 : decode cX6_place 11 = .ok (.tableswitch 107 0 4 #[33, 45, 55, 73, 94], 33) := by decide +kernel
theorem dX6_place_44 : decode cX6_place 44 = .ok (.aload_n 0, 1) := by decide +kernel
theorem dX6_place_45 : decode cX6_place 45 = .ok (.getfield 19, 3) := by decide +kernel
theorem dX6_place_48 : decode cX6_place 48 = .ok (.getfield 110, 3) := by decide +kernel
theorem dX6_place_51 : decode cX6_place 51 = .ok (.iload_n 1, 1) := by decide +kernel
theorem dX6_place_52 : decode cX6_place 52 = .ok (.iconst 4, 1) := by decide +kernel
theorem dX6_place_53 : decode cX6_place 53 = .ok (.imul, 1) := by decide +kernel
theorem dX6_place_54 : decode cX6_place 54 = .ok (.iaload, 1) := by decide +kernel
theorem dX6_place_55 : decode cX6_place 55 = .ok (.ireturn, 1) := by decide +kernel
theorem dX6_place_56 : decode cX6_place 56 = .ok (.aload_n 0, 1) := by decide +kernel
theorem dX6_place_57 : decode cX6_place 57 = .ok (.getfield 19, 3) := by decide +kernel
theorem dX6_place_60 : decode cX6_place 60 = .ok (.getfield 113, 3) := by decide +kernel
theorem dX6_place_63 : decode cX6_place 63 = .ok (.iload_n 1, 1) := by decide +kernel
theorem dX6_place_64 : decode cX6_place 64 = .ok (.iaload, 1) := by decide +kernel
theorem dX6_place_65 : decode cX6_place 65 = .ok (.ireturn, 1) := by decide +kernel
theorem dX6_place_66 : decode cX6_place 66 = .ok (.aload_n 0, 1) := by decide +kernel
theorem dX6_place_67 : decode cX6_place 67 = .ok (.getfield 19, 3) := by decide +kernel
theorem dX6_place_70 : decode cX6_place 70 = .ok (.getfield 116, 3) := by decide +kernel
theorem dX6_place_73 : decode cX6_place 73 = .ok (.iload_n 1, 1) := by decide +kernel
theorem dX6_place_74 : decode cX6_place 74 = .ok (.baload, 1) := by decide +kernel
theorem dX6_place_75 : decode cX6_place 75 = .ok (.ifCond .eq 7, 3) := by decide +kernel
theorem dX6_place_78 : decode cX6_place 78 = .ok (.iconst 1, 1) := by decide +kernel
theorem dX6_place_79 : decode cX6_place 79 = .ok (.goto 4, 3) := by decide +kernel
theorem dX6_place_82 : decode cX6_place 82 = .ok (.iconst 0, 1) := by decide +kernel
theorem dX6_place_83 : decode cX6_place 83 = .ok (.ireturn, 1) := by decide +kernel
theorem dX6_place_84 : decode cX6_place 84 = .ok (.aload_n 0, 1) := by decide +kernel
theorem dX6_place_85 : decode cX6_place 85 = .ok (.getfield 19, 3) := by decide +kernel
theorem dX6_place_88 : decode cX6_place 88 = .ok (.aload_n 0, 1) := by decide +kernel
theorem dX6_place_89 : decode cX6_place 89 = .ok (.getfield 29, 3) := by decide +kernel
theorem dX6_place_92 : decode cX6_place 92 = .ok (.iload_n 1, 1) := by decide +kernel
theorem dX6_place_93 : decode cX6_place 93 = .ok (.invokevirtual 119, 3) := by decide +kernel
theorem dX6_place_96 : decode cX6_place 96 = .ok (.ifCond .eq 7, 3) := by decide +kernel
theorem dX6_place_99 : decode cX6_place 99 = .ok (.iconst 1, 1) := by decide +kernel
theorem dX6_place_100 : decode cX6_place 100 = .ok (.goto 4, 3) := by decide +kernel
theorem dX6_place_103 : decode cX6_place 103 = .ok (.iconst 0, 1) := by decide +kernel
theorem dX6_place_104 : decode cX6_place 104 = .ok (.ireturn, 1) := by decide +kernel
theorem dX6_place_105 : decode cX6_place 105 = .ok (.aload_n 0, 1) := by decide +kernel
theorem dX6_place_106 : decode cX6_place 106 = .ok (.getfield 19, 3) := by decide +kernel
theorem dX6_place_109 : decode cX6_place 109 = .ok (.aload_n 0, 1) := by decide +kernel
theorem dX6_place_110 : decode cX6_place 110 = .ok (.getfield 29, 3) := by decide +kernel
theorem dX6_place_113 : decode cX6_place 113 = .ok (.iload_n 1, 1) := by decide +kernel
theorem dX6_place_114 : decode cX6_place 114 = .ok (.invokevirtual 123, 3) := by decide +kernel
theorem dX6_place_117 : decode cX6_place 117 = .ok (.ireturn, 1) := by decide +kernel
theorem dX6_place_118 : decode cX6_place 118 = .ok (.iconst (-1), 1) := by decide +kernel
theorem dX6_place_119 : decode cX6_place 119 = .ok (.ireturn, 1) := by decide +kernel
noncomputable def f_X6_place (sh : Nat) (l1 : Int32) (l2 : Int32) (mem : Mem) : Option (Int32) :=
  ob (f_X6_isPlace sh l1 mem) fun r2 => if r2 = 0 then (some ((-1))) else (if l2 = 0 then (rd (mem (sh + 3)) 32 (l1 * 4) fun v54 => some v54) else (if l2 = 1 then (rd (mem (sh + 2)) 8 l1 fun v64 => some v64) else (if l2 = 2 then (rd (mem (sh + 4)) 8 l1 fun v74 => if v74 = 0 then (some 0) else (some 1)) else (if l2 = 3 then (ob (f_X5_isFilled sh 31 l1 mem) fun r93 => if r93 = 0 then (some 0) else (some 1)) else (if l2 = 4 then (ob (f_X5_fitting sh 31 l1 mem) fun r114 => some r114) else (some ((-1))))))))
set_option maxRecDepth 100000 in
set_option maxHeartbeats 4000000 in
theorem m_X6_place {E : Ex} {ad : Nat → Nat} {sh sp : Nat} {tl : List Ent} {d : Nat} (hd : 2 ≤ d) (hsh : isS sh) (hsp : isS sp) {l1 : Int32} {l2 : Int32} {mem : Mem} {r : Int32} (h : f_X6_place sh l1 l2 mem = some r) : Cl E yX6_place cX6_place 3 (some .int) d [.ref (ad 0), .int l1, .int l2] (some (.int r)) ad (LC sh sp ++ tl) mem (LC sh sp ++ tl) mem := by
  refine Cl.of [some (.ref (ad 0)), some (.int l1), some (.int l2)] (by decide +kernel) rfl (Nat.le_of_ble_eq_true rfl) (fun κ C hP => ?_)
  have C : Cx E κ cX6_place RX6 3 (some .int) d := C
  unfold f_X6_place at h
  refine g_aload_n (pc := 0) (i := 0) (x := ad 0) C dX6_place_0 rfl rfl ?_
  refine g_iload_n (pc := 1) (i := 1) (x := l1) C dX6_place_1 rfl rfl ?_
  obtain ⟨r2, hcall2, h⟩ := ob_some h
  refine g_callV (pc := 2) C ce0 mi_X6_isPlace mv_X6_isPlace wm_X6_107 dX6_place_2 ok_X6 [.int l1] [] la_0 (by omega) rfl rfl (Nat.le_of_ble_eq_true rfl) (m_X6_isPlace (d := d - 1) (by omega) hsh hsp hcall2) ?_
  show Gw E κ 3 0 0 5 [some (.ref (ad 0)), some (.int l1), some (.int l2)] [.int r2] ad (LC sh sp ++ tl) mem
  rcases ite_some' h with ⟨hc5, h⟩ | ⟨hc5, h⟩
  · refine g_if_ne_f (pc := 5) C 10 dX6_place_5 (by decide) hc5 ?_
    refine g_iconst (pc := 8) (v := (-1)) C dX6_place_8 rfl ?_
    cases h
    exact g_iret (pc := 9) C hP rfl rfl dX6_place_9
  · refine g_if_ne_t (pc := 5) C 10 dX6_place_5 (by decide) hc5 ?_
    refine g_iload_n (pc := 10) (i := 2) (x := l2) C dX6_place_10 rfl rfl ?_
    rcases ite_some' h with ⟨hc11_0, h⟩ | ⟨hc11_0, h⟩
    · refine g_tsw (pc := 11) (n := 0) C 0 44 hc11_0 rfl dX6_place_11 (by decide) (by decide) rfl (by decide) ?_
      refine g_aload_n (pc := 44) (i := 0) (x := ad 0) C dX6_place_44 rfl rfl ?_
      refine g_get (pc := 45) (v := .ref (ad sh)) C ok_X6 1 (by decide) wf_X6_19 dX6_place_45 la_0 rfl ?_
      refine g_getN (pc := 48) (v := .ref (ad (sh + 3))) C ok_X5 5 (by decide) nf_X6_110 dX6_place_48 (lz_0 hsh) rfl ?_
      refine g_iload_n (pc := 51) (i := 1) (x := l1) C dX6_place_51 rfl rfl ?_
      refine g_iconst (pc := 52) (v := 4) C dX6_place_52 rfl ?_
      refine g_imul (pc := 53) C dX6_place_53 ?_
      obtain ⟨v54, hv54, hi54, h⟩ := rd_some h
      refine g_iald (pc := 54) C dX6_place_54 (lz_3 hsh) hi54 ?_
      refine g_topi hv54 ?_
      cases h
      exact g_iret (pc := 55) C hP rfl rfl dX6_place_55
    · skip
      rcases ite_some' h with ⟨hc11_1, h⟩ | ⟨hc11_1, h⟩
      · refine g_tsw (pc := 11) (n := 1) C 1 56 hc11_1 rfl dX6_place_11 (by decide) (by decide) rfl (by decide) ?_
        refine g_aload_n (pc := 56) (i := 0) (x := ad 0) C dX6_place_56 rfl rfl ?_
        refine g_get (pc := 57) (v := .ref (ad sh)) C ok_X6 1 (by decide) wf_X6_19 dX6_place_57 la_0 rfl ?_
        refine g_getN (pc := 60) (v := .ref (ad (sh + 2))) C ok_X5 4 (by decide) nf_X6_113 dX6_place_60 (lz_0 hsh) rfl ?_
        refine g_iload_n (pc := 63) (i := 1) (x := l1) C dX6_place_63 rfl rfl ?_
        obtain ⟨v64, hv64, hi64, h⟩ := rd_some h
        refine g_iald (pc := 64) C dX6_place_64 (lz_2 hsh) hi64 ?_
        refine g_topi hv64 ?_
        cases h
        exact g_iret (pc := 65) C hP rfl rfl dX6_place_65
      · skip
        rcases ite_some' h with ⟨hc11_2, h⟩ | ⟨hc11_2, h⟩
        · refine g_tsw (pc := 11) (n := 2) C 2 66 hc11_2 rfl dX6_place_11 (by decide) (by decide) rfl (by decide) ?_
          refine g_aload_n (pc := 66) (i := 0) (x := ad 0) C dX6_place_66 rfl rfl ?_
          refine g_get (pc := 67) (v := .ref (ad sh)) C ok_X6 1 (by decide) wf_X6_19 dX6_place_67 la_0 rfl ?_
          refine g_getN (pc := 70) (v := .ref (ad (sh + 4))) C ok_X5 6 (by decide) nf_X6_116 dX6_place_70 (lz_0 hsh) rfl ?_
          refine g_iload_n (pc := 73) (i := 1) (x := l1) C dX6_place_73 rfl rfl ?_
          obtain ⟨v74, hv74, hi74, h⟩ := rd_some h
          refine g_zald (pc := 74) C dX6_place_74 (lz_4 hsh) hi74 ?_
          refine g_topi hv74 ?_
          rcases ite_some' h with ⟨hc75, h⟩ | ⟨hc75, h⟩
          · refine g_if_eq_t (pc := 75) C 82 dX6_place_75 (by decide) hc75 ?_
            refine g_iconst (pc := 82) (v := 0) C dX6_place_82 rfl ?_
            cases h
            exact g_iret (pc := 83) C hP rfl rfl dX6_place_83
          · refine g_if_eq_f (pc := 75) C 82 dX6_place_75 (by decide) hc75 ?_
            refine g_iconst (pc := 78) (v := 1) C dX6_place_78 rfl ?_
            refine g_goto (pc := 79) C 83 dX6_place_79 (by decide) ?_
            cases h
            exact g_iret (pc := 83) C hP rfl rfl dX6_place_83
        · skip
          rcases ite_some' h with ⟨hc11_3, h⟩ | ⟨hc11_3, h⟩
          · refine g_tsw (pc := 11) (n := 3) C 3 84 hc11_3 rfl dX6_place_11 (by decide) (by decide) rfl (by decide) ?_
            refine g_aload_n (pc := 84) (i := 0) (x := ad 0) C dX6_place_84 rfl rfl ?_
            refine g_get (pc := 85) (v := .ref (ad sh)) C ok_X6 1 (by decide) wf_X6_19 dX6_place_85 la_0 rfl ?_
            refine g_aload_n (pc := 88) (i := 0) (x := ad 0) C dX6_place_88 rfl rfl ?_
            refine g_get (pc := 89) (v := .ref (ad 31)) C ok_X6 3 (by decide) wf_X6_29 dX6_place_89 la_0 rfl ?_
            refine g_iload_n (pc := 92) (i := 1) (x := l1) C dX6_place_92 rfl rfl ?_
            obtain ⟨r93, hcall93, h⟩ := ob_some h
            refine g_callN (pc := 93) C ce0 mi_X5_isFilled mv_X5_isFilled nm_X6_119 dX6_place_93 ok_X5 [.ref (ad 31), .int l1] [] (lz_0 hsh) (by omega) rfl rfl (Nat.le_of_ble_eq_true rfl) (m_X5_isFilled (d := d - 1) (by omega) hsh t_31 hcall93) ?_
            show Gw E κ 3 0 0 96 [some (.ref (ad 0)), some (.int l1), some (.int l2)] [.int r93] ad (LC sh sp ++ tl) mem
            rcases ite_some' h with ⟨hc96, h⟩ | ⟨hc96, h⟩
            · refine g_if_eq_t (pc := 96) C 103 dX6_place_96 (by decide) hc96 ?_
              refine g_iconst (pc := 103) (v := 0) C dX6_place_103 rfl ?_
              cases h
              exact g_iret (pc := 104) C hP rfl rfl dX6_place_104
            · refine g_if_eq_f (pc := 96) C 103 dX6_place_96 (by decide) hc96 ?_
              refine g_iconst (pc := 99) (v := 1) C dX6_place_99 rfl ?_
              refine g_goto (pc := 100) C 104 dX6_place_100 (by decide) ?_
              cases h
              exact g_iret (pc := 104) C hP rfl rfl dX6_place_104
          · skip
            rcases ite_some' h with ⟨hc11_4, h⟩ | ⟨hc11_4, h⟩
            · refine g_tsw (pc := 11) (n := 4) C 4 105 hc11_4 rfl dX6_place_11 (by decide) (by decide) rfl (by decide) ?_
              refine g_aload_n (pc := 105) (i := 0) (x := ad 0) C dX6_place_105 rfl rfl ?_
              refine g_get (pc := 106) (v := .ref (ad sh)) C ok_X6 1 (by decide) wf_X6_19 dX6_place_106 la_0 rfl ?_
              refine g_aload_n (pc := 109) (i := 0) (x := ad 0) C dX6_place_109 rfl rfl ?_
              refine g_get (pc := 110) (v := .ref (ad 31)) C ok_X6 3 (by decide) wf_X6_29 dX6_place_110 la_0 rfl ?_
              refine g_iload_n (pc := 113) (i := 1) (x := l1) C dX6_place_113 rfl rfl ?_
              obtain ⟨r114, hcall114, h⟩ := ob_some h
              refine g_callN (pc := 114) C ce0 mi_X5_fitting mv_X5_fitting nm_X6_123 dX6_place_114 ok_X5 [.ref (ad 31), .int l1] [] (lz_0 hsh) (by omega) rfl rfl (Nat.le_of_ble_eq_true rfl) (m_X5_fitting (d := d - 1) (by omega) hsh t_31 hcall114) ?_
              show Gw E κ 3 0 0 117 [some (.ref (ad 0)), some (.int l1), some (.int l2)] [.int r114] ad (LC sh sp ++ tl) mem
              cases h
              exact g_iret (pc := 117) C hP rfl rfl dX6_place_117
            · skip
              refine g_tswD (pc := 11) C 118 dX6_place_11 (by have z0 := i32_ne 0 hc11_0 (n := 0) rfl; have z1 := i32_ne 1 hc11_1 (n := 1) rfl; have z2 := i32_ne 2 hc11_2 (n := 2) rfl; have z3 := i32_ne 3 hc11_3 (n := 3) rfl; have z4 := i32_ne 4 hc11_4 (n := 4) rfl; omega) (by decide) ?_
              refine g_iconst (pc := 118) (v := (-1)) C dX6_place_118 rfl ?_
              cases h
              exact g_iret (pc := 119) C hP rfl rfl dX6_place_119

theorem dX6_isWord_0 : decode cX6_isWord 0 = .ok (.iload_n 1, 1) := by decide +kernel
theorem dX6_isWord_1 : decode cX6_isWord 1 = .ok (.ifCond .lt 18, 3) := by decide +kernel
theorem dX6_isWord_4 : decode cX6_isWord 4 = .ok (.iload_n 1, 1) := by decide +kernel
theorem dX6_isWord_5 : decode cX6_isWord 5 = .ok (.aload_n 0, 1) := by decide +kernel
theorem dX6_isWord_6 : decode cX6_isWord 6 = .ok (.getfield 19, 3) := by decide +kernel
theorem dX6_isWord_9 : decode cX6_isWord 9 = .ok (.getfield 231, 3) := by decide +kernel
theorem dX6_isWord_12 : decode cX6_isWord 12 = .ok (.if_icmp .ge 7, 3) := by decide +kernel
theorem dX6_isWord_15 : decode cX6_isWord 15 = .ok (.iconst 1, 1) := by decide +kernel
theorem dX6_isWord_16 : decode cX6_isWord 16 = .ok (.goto 4, 3) := by decide +kernel
theorem dX6_isWord_19 : decode cX6_isWord 19 = .ok (.iconst 0, 1) := by decide +kernel
theorem dX6_isWord_20 : decode cX6_isWord 20 = .ok (.ireturn, 1) := by decide +kernel
noncomputable def f_X6_isWord (sh : Nat) (l1 : Int32) (mem : Mem) : Option (Int32) :=
  if l1 < 0 then (some 0) else (if (mem sh 7) ≤ l1 then (some 0) else (some 1))
set_option maxRecDepth 100000 in
set_option maxHeartbeats 4000000 in
theorem m_X6_isWord {E : Ex} {ad : Nat → Nat} {sh sp : Nat} {tl : List Ent} {d : Nat} (hd : 0 ≤ d) (hsh : isS sh) (hsp : isS sp) {l1 : Int32} {mem : Mem} {r : Int32} (h : f_X6_isWord sh l1 mem = some r) : Cl E yX6_isWord cX6_isWord 2 (some .boolean) d [.ref (ad 0), .int l1] (some (.int r)) ad (LC sh sp ++ tl) mem (LC sh sp ++ tl) mem := by
  refine Cl.of [some (.ref (ad 0)), some (.int l1)] (by decide +kernel) rfl (Nat.le_of_ble_eq_true rfl) (fun κ C hP => ?_)
  have C : Cx E κ cX6_isWord RX6 2 (some .boolean) d := C
  unfold f_X6_isWord at h
  refine g_iload_n (pc := 0) (i := 1) (x := l1) C dX6_isWord_0 rfl rfl ?_
  rcases ite_some' h with ⟨hc1, h⟩ | ⟨hc1, h⟩
  · refine g_if_lt_t (pc := 1) C 19 dX6_isWord_1 (by decide) hc1 ?_
    refine g_iconst (pc := 19) (v := 0) C dX6_isWord_19 rfl ?_
    cases h
    exact g_iret (pc := 20) C hP rfl rfl dX6_isWord_20
  · refine g_if_lt_f (pc := 1) C 19 dX6_isWord_1 (by decide) hc1 ?_
    refine g_iload_n (pc := 4) (i := 1) (x := l1) C dX6_isWord_4 rfl rfl ?_
    refine g_aload_n (pc := 5) (i := 0) (x := ad 0) C dX6_isWord_5 rfl rfl ?_
    refine g_get (pc := 6) (v := .ref (ad sh)) C ok_X6 1 (by decide) wf_X6_19 dX6_isWord_6 la_0 rfl ?_
    refine g_getN (pc := 9) (v := .int (mem sh 7)) C ok_X5 7 (by decide) nf_X6_231 dX6_isWord_9 (lz_0 hsh) rfl ?_
    rcases ite_some' h with ⟨hc12, h⟩ | ⟨hc12, h⟩
    · refine g_icmp_ge_t (pc := 12) C 19 dX6_isWord_12 (by decide) hc12 ?_
      refine g_iconst (pc := 19) (v := 0) C dX6_isWord_19 rfl ?_
      cases h
      exact g_iret (pc := 20) C hP rfl rfl dX6_isWord_20
    · refine g_icmp_ge_f (pc := 12) C 19 dX6_isWord_12 (by decide) hc12 ?_
      refine g_iconst (pc := 15) (v := 1) C dX6_isWord_15 rfl ?_
      refine g_goto (pc := 16) C 20 dX6_isWord_16 (by decide) ?_
      cases h
      exact g_iret (pc := 20) C hP rfl rfl dX6_isWord_20

theorem dX6_word_0 : decode cX6_word 0 = .ok (.aload_n 0, 1) := by decide +kernel
theorem dX6_word_1 : decode cX6_word 1 = .ok (.iload_n 1, 1) := by decide +kernel
theorem dX6_word_2 : decode cX6_word 2 = .ok (.invokevirtual 126, 3) := by decide +kernel
theorem dX6_word_5 : decode cX6_word 5 = .ok (.ifCond .eq 8, 3) := by decide +kernel
theorem dX6_word_8 : decode cX6_word 8 = .ok (.iload_n 2, 1) := by decide +kernel
theorem dX6_word_9 : decode cX6_word 9 = .ok (.iconst (-1), 1) := by decide +kernel
theorem dX6_word_10 : decode cX6_word 10 = .ok (.if_icmp .ge 5, 3) := by decide +kernel
theorem dX6_word_13 : decode cX6_word 13 = .ok (.iconst (-1), 1) := by decide +kernel
theorem dX6_word_14 : decode cX6_word 14 = .ok (.ireturn, 1) := by decide +kernel
theorem dX6_word_15 : decode cX6_word 15 = .ok (.aload_n 0, 1) := by decide +kernel
theorem dX6_word_16 : decode cX6_word 16 = .ok (.getfield 19, 3) := by decide +kernel
theorem dX6_word_19 : decode cX6_word 19 = .ok (.getfield 129, 3) := by decide +kernel
theorem dX6_word_22 : decode cX6_word 22 = .ok (.iload_n 1, 1) := by decide +kernel
theorem dX6_word_23 : decode cX6_word 23 = .ok (.iaload, 1) := by decide +kernel
theorem dX6_word_24 : decode cX6_word 24 = .ok (.istore_n 3, 1) := by decide +kernel
theorem dX6_word_25 : decode cX6_word 25 = .ok (.iload_n 2, 1) := by decide +kernel
theorem dX6_word_26 : decode cX6_word 26 = .ok (.iconst (-1), 1) := by decide +kernel
theorem dX6_word_27 : decode cX6_word 27 = .ok (.if_icmp .ne 5, 3) := by decide +kernel
theorem dX6_word_30 : decode cX6_word 30 = .ok (.iload_n 3, 1) := by decide +kernel
theorem dX6_word_31 : decode cX6_word 31 = .ok (.ireturn, 1) := by decide +kernel
theorem dX6_word_32 : decode cX6_word 32 = .ok (.iload_n 2, 1) := by decide +kernel
theorem dX6_word_33 : decode cX6_word 33 = .ok (.iload_n 3, 1) := by decide +kernel
theorem dX6_word_34 : decode cX6_word 34 = .ok (.if_icmp .ge 19, 3) := by decide +kernel
theorem dX6_word_37 : decode cX6_word 37 = .ok (.aload_n 0, 1) := by decide +kernel
theorem dX6_word_38 : decode cX6_word 38 = .ok (.getfield 19, 3) := by decide +kernel
theorem dX6_word_41 : decode cX6_word 41 = .ok (.getfield 132, 3) := by decide +kernel
theorem dX6_word_44 : decode cX6_word 44 = .ok (.iload_n 1, 1) := by decide +kernel
theorem dX6_word_45 : decode cX6_word 45 = .ok (.iaload, 1) := by decide +kernel
theorem dX6_word_46 : decode cX6_word 46 = .ok (.iload_n 2, 1) := by decide +kernel
theorem dX6_word_47 : decode cX6_word 47 = .ok (.invokestatic 135, 3) := by decide +kernel
theorem dX6_word_50 : decode cX6_word 50 = .ok (.goto 5, 3) := by decide +kernel
theorem dX6_word_53 : decode cX6_word 53 = .ok (.bipush (-4), 2) := by decide +kernel
theorem dX6_word_55 : decode cX6_word 55 = .ok (.ireturn, 1) := by decide +kernel
noncomputable def f_X6_word (sh : Nat) (l1 : Int32) (l2 : Int32) (mem : Mem) : Option (Int32) :=
  ob (f_X6_isWord sh l1 mem) fun r2 => if r2 = 0 then (some ((-1))) else (if (-1) ≤ l2 then (rd (mem (sh + 5)) 9 l1 fun v23 => if l2 = (-1) then (some v23) else (if v23 ≤ l2 then (some ((-4))) else (rd (mem (sh + 6)) 9 l1 fun v45 => ob (f_X5_letterOf v45 l2) fun r47 => some r47))) else (some ((-1))))
set_option maxRecDepth 100000 in
set_option maxHeartbeats 4000000 in
theorem m_X6_word {E : Ex} {ad : Nat → Nat} {sh sp : Nat} {tl : List Ent} {d : Nat} (hd : 1 ≤ d) (hsh : isS sh) (hsp : isS sp) {l1 : Int32} {l2 : Int32} {mem : Mem} {r : Int32} (h : f_X6_word sh l1 l2 mem = some r) : Cl E yX6_word cX6_word 4 (some .int) d [.ref (ad 0), .int l1, .int l2] (some (.int r)) ad (LC sh sp ++ tl) mem (LC sh sp ++ tl) mem := by
  refine Cl.of [some (.ref (ad 0)), some (.int l1), some (.int l2), none] (by decide +kernel) rfl (Nat.le_of_ble_eq_true rfl) (fun κ C hP => ?_)
  have C : Cx E κ cX6_word RX6 4 (some .int) d := C
  unfold f_X6_word at h
  refine g_aload_n (pc := 0) (i := 0) (x := ad 0) C dX6_word_0 rfl rfl ?_
  refine g_iload_n (pc := 1) (i := 1) (x := l1) C dX6_word_1 rfl rfl ?_
  obtain ⟨r2, hcall2, h⟩ := ob_some h
  refine g_callV (pc := 2) C ce0 mi_X6_isWord mv_X6_isWord wm_X6_126 dX6_word_2 ok_X6 [.int l1] [] la_0 (by omega) rfl rfl (Nat.le_of_ble_eq_true rfl) (m_X6_isWord (d := d - 1) (by omega) hsh hsp hcall2) ?_
  show Gw E κ 4 0 0 5 [some (.ref (ad 0)), some (.int l1), some (.int l2), none] [.int r2] ad (LC sh sp ++ tl) mem
  rcases ite_some' h with ⟨hc5, h⟩ | ⟨hc5, h⟩
  · refine g_if_eq_t (pc := 5) C 13 dX6_word_5 (by decide) hc5 ?_
    refine g_iconst (pc := 13) (v := (-1)) C dX6_word_13 rfl ?_
    cases h
    exact g_iret (pc := 14) C hP rfl rfl dX6_word_14
  · refine g_if_eq_f (pc := 5) C 13 dX6_word_5 (by decide) hc5 ?_
    refine g_iload_n (pc := 8) (i := 2) (x := l2) C dX6_word_8 rfl rfl ?_
    refine g_iconst (pc := 9) (v := (-1)) C dX6_word_9 rfl ?_
    rcases ite_some' h with ⟨hc10, h⟩ | ⟨hc10, h⟩
    · refine g_icmp_ge_t (pc := 10) C 15 dX6_word_10 (by decide) hc10 ?_
      refine g_aload_n (pc := 15) (i := 0) (x := ad 0) C dX6_word_15 rfl rfl ?_
      refine g_get (pc := 16) (v := .ref (ad sh)) C ok_X6 1 (by decide) wf_X6_19 dX6_word_16 la_0 rfl ?_
      refine g_getN (pc := 19) (v := .ref (ad (sh + 5))) C ok_X5 8 (by decide) nf_X6_129 dX6_word_19 (lz_0 hsh) rfl ?_
      refine g_iload_n (pc := 22) (i := 1) (x := l1) C dX6_word_22 rfl rfl ?_
      obtain ⟨v23, hv23, hi23, h⟩ := rd_some h
      refine g_iald (pc := 23) C dX6_word_23 (lz_5 hsh) hi23 ?_
      refine g_topi hv23 ?_
      refine g_istore_n (pc := 24) (i := 3) (lv' := [some (.ref (ad 0)), some (.int l1), some (.int l2), some (.int v23)]) C dX6_word_24 rfl (by decide) rfl rfl ?_
      refine g_iload_n (pc := 25) (i := 2) (x := l2) C dX6_word_25 rfl rfl ?_
      refine g_iconst (pc := 26) (v := (-1)) C dX6_word_26 rfl ?_
      rcases ite_some' h with ⟨hc27, h⟩ | ⟨hc27, h⟩
      · refine g_icmp_ne_f (pc := 27) C 32 dX6_word_27 (by decide) hc27 ?_
        refine g_iload_n (pc := 30) (i := 3) (x := v23) C dX6_word_30 rfl rfl ?_
        cases h
        exact g_iret (pc := 31) C hP rfl rfl dX6_word_31
      · refine g_icmp_ne_t (pc := 27) C 32 dX6_word_27 (by decide) hc27 ?_
        refine g_iload_n (pc := 32) (i := 2) (x := l2) C dX6_word_32 rfl rfl ?_
        refine g_iload_n (pc := 33) (i := 3) (x := v23) C dX6_word_33 rfl rfl ?_
        rcases ite_some' h with ⟨hc34, h⟩ | ⟨hc34, h⟩
        · refine g_icmp_ge_t (pc := 34) C 53 dX6_word_34 (by decide) hc34 ?_
          refine g_bipush (pc := 53) (v := (-4)) C dX6_word_53 rfl ?_
          cases h
          exact g_iret (pc := 55) C hP rfl rfl dX6_word_55
        · refine g_icmp_ge_f (pc := 34) C 53 dX6_word_34 (by decide) hc34 ?_
          refine g_aload_n (pc := 37) (i := 0) (x := ad 0) C dX6_word_37 rfl rfl ?_
          refine g_get (pc := 38) (v := .ref (ad sh)) C ok_X6 1 (by decide) wf_X6_19 dX6_word_38 la_0 rfl ?_
          refine g_getN (pc := 41) (v := .ref (ad (sh + 6))) C ok_X5 9 (by decide) nf_X6_132 dX6_word_41 (lz_0 hsh) rfl ?_
          refine g_iload_n (pc := 44) (i := 1) (x := l1) C dX6_word_44 rfl rfl ?_
          obtain ⟨v45, hv45, hi45, h⟩ := rd_some h
          refine g_iald (pc := 45) C dX6_word_45 (lz_6 hsh) hi45 ?_
          refine g_topi hv45 ?_
          refine g_iload_n (pc := 46) (i := 2) (x := l2) C dX6_word_46 rfl rfl ?_
          obtain ⟨r47, hcall47, h⟩ := ob_some h
          refine g_callSN (pc := 47) C ce0 mi_X5_letterOf ms_X5_letterOf nm_X6_135 dX6_word_47 [.int v45, .int l2] [] (by omega) rfl rfl (Nat.le_of_ble_eq_true rfl) (m_X5_letterOf (d := d - 1) (by omega)  hcall47) ?_
          show Gw E κ 4 0 0 50 [some (.ref (ad 0)), some (.int l1), some (.int l2), some (.int v23)] [.int r47] ad (LC sh sp ++ tl) mem
          refine g_goto (pc := 50) C 55 dX6_word_50 (by decide) ?_
          cases h
          exact g_iret (pc := 55) C hP rfl rfl dX6_word_55
    · refine g_icmp_ge_f (pc := 10) C 15 dX6_word_10 (by decide) hc10 ?_
      refine g_iconst (pc := 13) (v := (-1)) C dX6_word_13 rfl ?_
      cases h
      exact g_iret (pc := 14) C hP rfl rfl dX6_word_14

theorem dX6_isSolver_0 : decode cX6_isSolver 0 = .ok (.iload_n 1, 1) := by decide +kernel
theorem dX6_isSolver_1 : decode cX6_isSolver 1 = .ok (.ifCond .lt 18, 3) := by decide +kernel
theorem dX6_isSolver_4 : decode cX6_isSolver 4 = .ok (.iload_n 1, 1) := by decide +kernel
theorem dX6_isSolver_5 : decode cX6_isSolver 5 = .ok (.aload_n 0, 1) := by decide +kernel
theorem dX6_isSolver_6 : decode cX6_isSolver 6 = .ok (.getfield 19, 3) := by decide +kernel
theorem dX6_isSolver_9 : decode cX6_isSolver 9 = .ok (.getfield 215, 3) := by decide +kernel
theorem dX6_isSolver_12 : decode cX6_isSolver 12 = .ok (.if_icmp .ge 7, 3) := by decide +kernel
theorem dX6_isSolver_15 : decode cX6_isSolver 15 = .ok (.iconst 1, 1) := by decide +kernel
theorem dX6_isSolver_16 : decode cX6_isSolver 16 = .ok (.goto 4, 3) := by decide +kernel
theorem dX6_isSolver_19 : decode cX6_isSolver 19 = .ok (.iconst 0, 1) := by decide +kernel
theorem dX6_isSolver_20 : decode cX6_isSolver 20 = .ok (.ireturn, 1) := by decide +kernel
noncomputable def f_X6_isSolver (sh : Nat) (l1 : Int32) (mem : Mem) : Option (Int32) :=
  if l1 < 0 then (some 0) else (if (mem sh 12) ≤ l1 then (some 0) else (some 1))
set_option maxRecDepth 100000 in
set_option maxHeartbeats 4000000 in
theorem m_X6_isSolver {E : Ex} {ad : Nat → Nat} {sh sp : Nat} {tl : List Ent} {d : Nat} (hd : 0 ≤ d) (hsh : isS sh) (hsp : isS sp) {l1 : Int32} {mem : Mem} {r : Int32} (h : f_X6_isSolver sh l1 mem = some r) : Cl E yX6_isSolver cX6_isSolver 2 (some .boolean) d [.ref (ad 0), .int l1] (some (.int r)) ad (LC sh sp ++ tl) mem (LC sh sp ++ tl) mem := by
  refine Cl.of [some (.ref (ad 0)), some (.int l1)] (by decide +kernel) rfl (Nat.le_of_ble_eq_true rfl) (fun κ C hP => ?_)
  have C : Cx E κ cX6_isSolver RX6 2 (some .boolean) d := C
  unfold f_X6_isSolver at h
  refine g_iload_n (pc := 0) (i := 1) (x := l1) C dX6_isSolver_0 rfl rfl ?_
  rcases ite_some' h with ⟨hc1, h⟩ | ⟨hc1, h⟩
  · refine g_if_lt_t (pc := 1) C 19 dX6_isSolver_1 (by decide) hc1 ?_
    refine g_iconst (pc := 19) (v := 0) C dX6_isSolver_19 rfl ?_
    cases h
    exact g_iret (pc := 20) C hP rfl rfl dX6_isSolver_20
  · refine g_if_lt_f (pc := 1) C 19 dX6_isSolver_1 (by decide) hc1 ?_
    refine g_iload_n (pc := 4) (i := 1) (x := l1) C dX6_isSolver_4 rfl rfl ?_
    refine g_aload_n (pc := 5) (i := 0) (x := ad 0) C dX6_isSolver_5 rfl rfl ?_
    refine g_get (pc := 6) (v := .ref (ad sh)) C ok_X6 1 (by decide) wf_X6_19 dX6_isSolver_6 la_0 rfl ?_
    refine g_getN (pc := 9) (v := .int (mem sh 12)) C ok_X5 12 (by decide) nf_X6_215 dX6_isSolver_9 (lz_0 hsh) rfl ?_
    rcases ite_some' h with ⟨hc12, h⟩ | ⟨hc12, h⟩
    · refine g_icmp_ge_t (pc := 12) C 19 dX6_isSolver_12 (by decide) hc12 ?_
      refine g_iconst (pc := 19) (v := 0) C dX6_isSolver_19 rfl ?_
      cases h
      exact g_iret (pc := 20) C hP rfl rfl dX6_isSolver_20
    · refine g_icmp_ge_f (pc := 12) C 19 dX6_isSolver_12 (by decide) hc12 ?_
      refine g_iconst (pc := 15) (v := 1) C dX6_isSolver_15 rfl ?_
      refine g_goto (pc := 16) C 20 dX6_isSolver_16 (by decide) ?_
      cases h
      exact g_iret (pc := 20) C hP rfl rfl dX6_isSolver_20

theorem dX6_solver_0 : decode cX6_solver 0 = .ok (.aload_n 0, 1) := by decide +kernel
theorem dX6_solver_1 : decode cX6_solver 1 = .ok (.iload_n 1, 1) := by decide +kernel
theorem dX6_solver_2 : decode cX6_solver 2 = .ok (.invokevirtual 139, 3) := by decide +kernel
theorem dX6_solver_5 : decode cX6_solver 5 = .ok (.ifCond .ne 5, 3) := by decide +kernel
theorem dX6_solver_8 : decode cX6_solver 8 = .ok (.iconst (-1), 1) := by decide +kernel
theorem dX6_solver_9 : decode cX6_solver 9 = .ok (.ireturn, 1) := by decide +kernel
theorem dX6_solver_10 : decode cX6_solver 10 = .ok (.iload_n 2, 1) := by decide +kernel
theorem dX6_solver_11 : decode cX6_solver 11 = .ok (.tableswitch 86 0 3 #[29, 39, 49, 59], 29) := by decide +kernel
theorem dX6_solver_40 : decode cX6_solver 40 = .ok (.aload_n 0, 1) := by decide +kernel
theorem dX6_solver_41 : decode cX6_solver 41 = .ok (.getfield 19, 3) := by decide +kernel
theorem dX6_solver_44 : decode cX6_solver 44 = .ok (.getfield 142, 3) := by decide +kernel
theorem dX6_solver_47 : decode cX6_solver 47 = .ok (.iload_n 1, 1) := by decide +kernel
theorem dX6_solver_48 : decode cX6_solver 48 = .ok (.iaload, 1) := by decide +kernel
theorem dX6_solver_49 : decode cX6_solver 49 = .ok (.ireturn, 1) := by decide +kernel
theorem dX6_solver_50 : decode cX6_solver 50 = .ok (.aload_n 0, 1) := by decide +kernel
theorem dX6_solver_51 : decode cX6_solver 51 = .ok (.getfield 29, 3) := by decide +kernel
theorem dX6_solver_54 : decode cX6_solver 54 = .ok (.getfield 145, 3) := by decide +kernel
theorem dX6_solver_57 : decode cX6_solver 57 = .ok (.iload_n 1, 1) := by decide +kernel
theorem dX6_solver_58 : decode cX6_solver 58 = .ok (.iaload, 1) := by decide +kernel
theorem dX6_solver_59 : decode cX6_solver 59 = .ok (.ireturn, 1) := by decide +kernel
theorem dX6_solver_60 : decode cX6_solver 60 = .ok (.aload_n 0, 1) := by decide +kernel
theorem dX6_solver_61 : decode cX6_solver 61 = .ok (.getfield 29, 3) := by decide +kernel
theorem dX6_solver_64 : decode cX6_solver 64 = .ok (.getfield 148, 3) := by decide +kernel
theorem dX6_solver_67 : decode cX6_solver 67 = .ok (.iload_n 1, 1) := by decide +kernel
theorem dX6_solver_68 : decode cX6_solver 68 = .ok (.iaload, 1) := by decide +kernel
theorem dX6_solver_69 : decode cX6_solver 69 = .ok (.ireturn, 1) := by decide +kernel
theorem dX6_solver_70 : decode cX6_solver 70 = .ok (.aload_n 0, 1) := by decide +kernel
theorem dX6_solver_71 : decode cX6_solver 71 = .ok (.getfield 39, 3) := by decide +kernel
theorem dX6_solver_74 : decode cX6_solver 74 = .ok (.aload_n 0, 1) := by decide +kernel
theorem dX6_solver_75 : decode cX6_solver 75 = .ok (.getfield 19, 3) := by decide +kernel
theorem dX6_solver_78 : decode cX6_solver 78 = .ok (.aload_n 0, 1) := by decide +kernel
theorem dX6_solver_79 : decode cX6_solver 79 = .ok (.getfield 29, 3) := by decide +kernel
theorem dX6_solver_82 : decode cX6_solver 82 = .ok (.bipush 63, 2) := by decide +kernel
theorem dX6_solver_84 : decode cX6_solver 84 = .ok (.invokevirtual 151, 3) := by decide +kernel
theorem dX6_solver_87 : decode cX6_solver 87 = .ok (.aload_n 0, 1) := by decide +kernel
theorem dX6_solver_88 : decode cX6_solver 88 = .ok (.getfield 39, 3) := by decide +kernel
theorem dX6_solver_91 : decode cX6_solver 91 = .ok (.getfield 155, 3) := by decide +kernel
theorem dX6_solver_94 : decode cX6_solver 94 = .ok (.iload_n 1, 1) := by decide +kernel
theorem dX6_solver_95 : decode cX6_solver 95 = .ok (.iaload, 1) := by decide +kernel
theorem dX6_solver_96 : decode cX6_solver 96 = .ok (.ireturn, 1) := by decide +kernel
theorem dX6_solver_97 : decode cX6_solver 97 = .ok (.iconst (-1), 1) := by decide +kernel
theorem dX6_solver_98 : decode cX6_solver 98 = .ok (.ireturn, 1) := by decide +kernel
noncomputable def f_X6_solver (sh : Nat) (l1 : Int32) (l2 : Int32) (mem : Mem) : Option (Int32 × Mem) :=
  ob (f_X6_isSolver sh l1 mem) fun r2 => if r2 = 0 then (some ((-1), mem)) else (if l2 = 0 then (rd (mem (sh + 9)) 6 l1 fun v48 => some (v48, mem)) else (if l2 = 1 then (rd (mem 33) 6 l1 fun v58 => some (v58, mem)) else (if l2 = 2 then (rd (mem 34) 6 l1 fun v68 => some (v68, mem)) else (if l2 = 3 then (ob (f_X3_send sh 31 63 mem) fun m84 => rd (m84 40) 6 l1 fun v95 => some (v95, m84)) else (some ((-1), mem))))))
set_option maxRecDepth 100000 in
set_option maxHeartbeats 4000000 in
theorem m_X6_solver {E : Ex} {ad : Nat → Nat} {sh sp : Nat} {tl : List Ent} {d : Nat} (hd : 4 ≤ d) (hsh : isS sh) (hsp : isS sp) {l1 : Int32} {l2 : Int32} {mem : Mem} {r : Int32 × Mem} (h : f_X6_solver sh l1 l2 mem = some r) : Cl E yX6_solver cX6_solver 3 (some .int) d [.ref (ad 0), .int l1, .int l2] (some (.int r.1)) ad (LC sh sp ++ tl) mem (LC sh sp ++ tl) r.2 := by
  refine Cl.of [some (.ref (ad 0)), some (.int l1), some (.int l2)] (by decide +kernel) rfl (Nat.le_of_ble_eq_true rfl) (fun κ C hP => ?_)
  have C : Cx E κ cX6_solver RX6 3 (some .int) d := C
  unfold f_X6_solver at h
  refine g_aload_n (pc := 0) (i := 0) (x := ad 0) C dX6_solver_0 rfl rfl ?_
  refine g_iload_n (pc := 1) (i := 1) (x := l1) C dX6_solver_1 rfl rfl ?_
  obtain ⟨r2, hcall2, h⟩ := ob_some h
  refine g_callV (pc := 2) C ce0 mi_X6_isSolver mv_X6_isSolver wm_X6_139 dX6_solver_2 ok_X6 [.int l1] [] la_0 (by omega) rfl rfl (Nat.le_of_ble_eq_true rfl) (m_X6_isSolver (d := d - 1) (by omega) hsh hsp hcall2) ?_
  show Gw E κ 3 0 0 5 [some (.ref (ad 0)), some (.int l1), some (.int l2)] [.int r2] ad (LC sh sp ++ tl) mem
  rcases ite_some' h with ⟨hc5, h⟩ | ⟨hc5, h⟩
  · refine g_if_ne_f (pc := 5) C 10 dX6_solver_5 (by decide) hc5 ?_
    refine g_iconst (pc := 8) (v := (-1)) C dX6_solver_8 rfl ?_
    cases h
    exact g_iret (pc := 9) C hP rfl rfl dX6_solver_9
  · refine g_if_ne_t (pc := 5) C 10 dX6_solver_5 (by decide) hc5 ?_
    refine g_iload_n (pc := 10) (i := 2) (x := l2) C dX6_solver_10 rfl rfl ?_
    rcases ite_some' h with ⟨hc11_0, h⟩ | ⟨hc11_0, h⟩
    · refine g_tsw (pc := 11) (n := 0) C 0 40 hc11_0 rfl dX6_solver_11 (by decide) (by decide) rfl (by decide) ?_
      refine g_aload_n (pc := 40) (i := 0) (x := ad 0) C dX6_solver_40 rfl rfl ?_
      refine g_get (pc := 41) (v := .ref (ad sh)) C ok_X6 1 (by decide) wf_X6_19 dX6_solver_41 la_0 rfl ?_
      refine g_getN (pc := 44) (v := .ref (ad (sh + 9))) C ok_X5 13 (by decide) nf_X6_142 dX6_solver_44 (lz_0 hsh) rfl ?_
      refine g_iload_n (pc := 47) (i := 1) (x := l1) C dX6_solver_47 rfl rfl ?_
      obtain ⟨v48, hv48, hi48, h⟩ := rd_some h
      refine g_iald (pc := 48) C dX6_solver_48 (lz_9 hsh) hi48 ?_
      refine g_topi hv48 ?_
      cases h
      exact g_iret (pc := 49) C hP rfl rfl dX6_solver_49
    · skip
      rcases ite_some' h with ⟨hc11_1, h⟩ | ⟨hc11_1, h⟩
      · refine g_tsw (pc := 11) (n := 1) C 1 50 hc11_1 rfl dX6_solver_11 (by decide) (by decide) rfl (by decide) ?_
        refine g_aload_n (pc := 50) (i := 0) (x := ad 0) C dX6_solver_50 rfl rfl ?_
        refine g_get (pc := 51) (v := .ref (ad 31)) C ok_X6 3 (by decide) wf_X6_29 dX6_solver_51 la_0 rfl ?_
        refine g_getN (pc := 54) (v := .ref (ad 33)) C ok_X0 1 (by decide) nf_X6_145 dX6_solver_54 la_31 rfl ?_
        refine g_iload_n (pc := 57) (i := 1) (x := l1) C dX6_solver_57 rfl rfl ?_
        obtain ⟨v58, hv58, hi58, h⟩ := rd_some h
        refine g_iald (pc := 58) C dX6_solver_58 la_33 hi58 ?_
        refine g_topi hv58 ?_
        cases h
        exact g_iret (pc := 59) C hP rfl rfl dX6_solver_59
      · skip
        rcases ite_some' h with ⟨hc11_2, h⟩ | ⟨hc11_2, h⟩
        · refine g_tsw (pc := 11) (n := 2) C 2 60 hc11_2 rfl dX6_solver_11 (by decide) (by decide) rfl (by decide) ?_
          refine g_aload_n (pc := 60) (i := 0) (x := ad 0) C dX6_solver_60 rfl rfl ?_
          refine g_get (pc := 61) (v := .ref (ad 31)) C ok_X6 3 (by decide) wf_X6_29 dX6_solver_61 la_0 rfl ?_
          refine g_getN (pc := 64) (v := .ref (ad 34)) C ok_X0 2 (by decide) nf_X6_148 dX6_solver_64 la_31 rfl ?_
          refine g_iload_n (pc := 67) (i := 1) (x := l1) C dX6_solver_67 rfl rfl ?_
          obtain ⟨v68, hv68, hi68, h⟩ := rd_some h
          refine g_iald (pc := 68) C dX6_solver_68 la_34 hi68 ?_
          refine g_topi hv68 ?_
          cases h
          exact g_iret (pc := 69) C hP rfl rfl dX6_solver_69
        · skip
          rcases ite_some' h with ⟨hc11_3, h⟩ | ⟨hc11_3, h⟩
          · refine g_tsw (pc := 11) (n := 3) C 3 70 hc11_3 rfl dX6_solver_11 (by decide) (by decide) rfl (by decide) ?_
            refine g_aload_n (pc := 70) (i := 0) (x := ad 0) C dX6_solver_70 rfl rfl ?_
            refine g_get (pc := 71) (v := .ref (ad 39)) C ok_X6 5 (by decide) wf_X6_39 dX6_solver_71 la_0 rfl ?_
            refine g_aload_n (pc := 74) (i := 0) (x := ad 0) C dX6_solver_74 rfl rfl ?_
            refine g_get (pc := 75) (v := .ref (ad sh)) C ok_X6 1 (by decide) wf_X6_19 dX6_solver_75 la_0 rfl ?_
            refine g_aload_n (pc := 78) (i := 0) (x := ad 0) C dX6_solver_78 rfl rfl ?_
            refine g_get (pc := 79) (v := .ref (ad 31)) C ok_X6 3 (by decide) wf_X6_29 dX6_solver_79 la_0 rfl ?_
            refine g_bipush (pc := 82) (v := 63) C dX6_solver_82 rfl ?_
            obtain ⟨m84, hcall84, h⟩ := ob_some h
            refine g_callN (pc := 84) C ce0 mi_X3_send mv_X3_send nm_X6_151 dX6_solver_84 ok_X3 [.ref (ad sh), .ref (ad 31), .int 63] [] la_39 (by omega) rfl rfl (Nat.le_of_ble_eq_true rfl) (m_X3_send (d := d - 1) (by omega) hsh t_31 hcall84) ?_
            show Gw E κ 3 0 0 87 [some (.ref (ad 0)), some (.int l1), some (.int l2)] [] ad (LC sh sp ++ tl) m84
            refine g_aload_n (pc := 87) (i := 0) (x := ad 0) C dX6_solver_87 rfl rfl ?_
            refine g_get (pc := 88) (v := .ref (ad 39)) C ok_X6 5 (by decide) wf_X6_39 dX6_solver_88 la_0 rfl ?_
            refine g_getN (pc := 91) (v := .ref (ad 40)) C ok_X3 0 (by decide) nf_X6_155 dX6_solver_91 la_39 rfl ?_
            refine g_iload_n (pc := 94) (i := 1) (x := l1) C dX6_solver_94 rfl rfl ?_
            obtain ⟨v95, hv95, hi95, h⟩ := rd_some h
            refine g_iald (pc := 95) C dX6_solver_95 la_40 hi95 ?_
            refine g_topi hv95 ?_
            cases h
            exact g_iret (pc := 96) C hP rfl rfl dX6_solver_96
          · skip
            refine g_tswD (pc := 11) C 97 dX6_solver_11 (by have z0 := i32_ne 0 hc11_0 (n := 0) rfl; have z1 := i32_ne 1 hc11_1 (n := 1) rfl; have z2 := i32_ne 2 hc11_2 (n := 2) rfl; have z3 := i32_ne 3 hc11_3 (n := 3) rfl; omega) (by decide) ?_
            refine g_iconst (pc := 97) (v := (-1)) C dX6_solver_97 rfl ?_
            cases h
            exact g_iret (pc := 98) C hP rfl rfl dX6_solver_98

theorem dX6_evening_0 : decode cX6_evening 0 = .ok (.aload_n 0, 1) := by decide +kernel
theorem dX6_evening_1 : decode cX6_evening 1 = .ok (.getfield 55, 3) := by decide +kernel
theorem dX6_evening_4 : decode cX6_evening 4 = .ok (.aload_n 0, 1) := by decide +kernel
theorem dX6_evening_5 : decode cX6_evening 5 = .ok (.getfield 29, 3) := by decide +kernel
theorem dX6_evening_8 : decode cX6_evening 8 = .ok (.invokevirtual 158, 3) := by decide +kernel
theorem dX6_evening_11 : decode cX6_evening 11 = .ok (.aload_n 0, 1) := by decide +kernel
theorem dX6_evening_12 : decode cX6_evening 12 = .ok (.getfield 39, 3) := by decide +kernel
theorem dX6_evening_15 : decode cX6_evening 15 = .ok (.aload_n 0, 1) := by decide +kernel
theorem dX6_evening_16 : decode cX6_evening 16 = .ok (.getfield 19, 3) := by decide +kernel
theorem dX6_evening_19 : decode cX6_evening 19 = .ok (.aload_n 0, 1) := by decide +kernel
theorem dX6_evening_20 : decode cX6_evening 20 = .ok (.getfield 29, 3) := by decide +kernel
theorem dX6_evening_23 : decode cX6_evening 23 = .ok (.bipush 63, 2) := by decide +kernel
theorem dX6_evening_25 : decode cX6_evening 25 = .ok (.invokevirtual 162, 3) := by decide +kernel
theorem dX6_evening_28 : decode cX6_evening 28 = .ok (.ireturn, 1) := by decide +kernel
noncomputable def f_X6_evening (sh : Nat)  (mem : Mem) : Option (Int32 × Mem) :=
  ob (f_X1_push_U 31 mem) fun m8 => ob2 (f_X3_hold sh 31 63 m8) fun r25 m25 => some (r25, m25)
set_option maxRecDepth 100000 in
set_option maxHeartbeats 4000000 in
theorem m_X6_evening {E : Ex} {ad : Nat → Nat} {sh sp : Nat} {tl : List Ent} {d : Nat} (hd : 5 ≤ d) (hsh : isS sh) (hsp : isS sp)  {mem : Mem} {r : Int32 × Mem} (h : f_X6_evening sh mem = some r) : Cl E yX6_evening cX6_evening 1 (some .int) d [.ref (ad 0)] (some (.int r.1)) ad (LC sh sp ++ tl) mem (LC sh sp ++ tl) r.2 := by
  refine Cl.of [some (.ref (ad 0))] (by decide +kernel) rfl (Nat.le_of_ble_eq_true rfl) (fun κ C hP => ?_)
  have C : Cx E κ cX6_evening RX6 1 (some .int) d := C
  unfold f_X6_evening at h
  refine g_aload_n (pc := 0) (i := 0) (x := ad 0) C dX6_evening_0 rfl rfl ?_
  refine g_get (pc := 1) (v := .ref (ad 52)) C ok_X6 7 (by decide) wf_X6_55 dX6_evening_1 la_0 rfl ?_
  refine g_aload_n (pc := 4) (i := 0) (x := ad 0) C dX6_evening_4 rfl rfl ?_
  refine g_get (pc := 5) (v := .ref (ad 31)) C ok_X6 3 (by decide) wf_X6_29 dX6_evening_5 la_0 rfl ?_
  obtain ⟨m8, hcall8, h⟩ := ob_some h
  refine g_callN (pc := 8) C ce0 mi_X1_push mv_X1_push nm_X6_158 dX6_evening_8 ok_X1 [.ref (ad 31)] [] la_52 (by omega) rfl rfl (Nat.le_of_ble_eq_true rfl) (m_X1_push_U (d := d - 1) (by omega) t_31 hcall8) ?_
  show Gw E κ 1 0 0 11 [some (.ref (ad 0))] [] ad (LC sh sp ++ tl) m8
  refine g_aload_n (pc := 11) (i := 0) (x := ad 0) C dX6_evening_11 rfl rfl ?_
  refine g_get (pc := 12) (v := .ref (ad 39)) C ok_X6 5 (by decide) wf_X6_39 dX6_evening_12 la_0 rfl ?_
  refine g_aload_n (pc := 15) (i := 0) (x := ad 0) C dX6_evening_15 rfl rfl ?_
  refine g_get (pc := 16) (v := .ref (ad sh)) C ok_X6 1 (by decide) wf_X6_19 dX6_evening_16 la_0 rfl ?_
  refine g_aload_n (pc := 19) (i := 0) (x := ad 0) C dX6_evening_19 rfl rfl ?_
  refine g_get (pc := 20) (v := .ref (ad 31)) C ok_X6 3 (by decide) wf_X6_29 dX6_evening_20 la_0 rfl ?_
  refine g_bipush (pc := 23) (v := 63) C dX6_evening_23 rfl ?_
  obtain ⟨r25, m25, hcall25, h⟩ := ob2_some h
  refine g_callN (pc := 25) C ce0 mi_X3_hold mv_X3_hold nm_X6_162 dX6_evening_25 ok_X3 [.ref (ad sh), .ref (ad 31), .int 63] [] la_39 (by omega) rfl rfl (Nat.le_of_ble_eq_true rfl) (m_X3_hold (d := d - 1) (by omega) hsh t_31 hcall25) ?_
  show Gw E κ 1 0 0 28 [some (.ref (ad 0))] [.int r25] ad (LC sh sp ++ tl) m25
  cases h
  exact g_iret (pc := 28) C hP rfl rfl dX6_evening_28

theorem dX6_set_0 : decode cX6_set 0 = .ok (.aload_n 0, 1) := by decide +kernel
theorem dX6_set_1 : decode cX6_set 1 = .ok (.iload_n 1, 1) := by decide +kernel
theorem dX6_set_2 : decode cX6_set 2 = .ok (.invokevirtual 107, 3) := by decide +kernel
theorem dX6_set_5 : decode cX6_set 5 = .ok (.ifCond .eq 11, 3) := by decide +kernel
theorem dX6_set_8 : decode cX6_set 8 = .ok (.aload_n 0, 1) := by decide +kernel
theorem dX6_set_9 : decode cX6_set 9 = .ok (.iload_n 2, 1) := by decide +kernel
theorem dX6_set_10 : decode cX6_set 10 = .ok (.invokevirtual 126, 3) := by decide +kernel
theorem dX6_set_13 : decode cX6_set 13 = .ok (.ifCond .ne 5, 3) := by decide +kernel
theorem dX6_set_16 : decode cX6_set 16 = .ok (.iconst (-1), 1) := by decide +kernel
theorem dX6_set_17 : decode cX6_set 17 = .ok (.ireturn, 1) := by decide +kernel
theorem dX6_set_18 : decode cX6_set 18 = .ok (.aload_n 0, 1) := by decide +kernel
theorem dX6_set_19 : decode cX6_set 19 = .ok (.getfield 19, 3) := by decide +kernel
theorem dX6_set_22 : decode cX6_set 22 = .ok (.aload_n 0, 1) := by decide +kernel
theorem dX6_set_23 : decode cX6_set 23 = .ok (.getfield 29, 3) := by decide +kernel
theorem dX6_set_26 : decode cX6_set 26 = .ok (.iload_n 1, 1) := by decide +kernel
theorem dX6_set_27 : decode cX6_set 27 = .ok (.iload_n 2, 1) := by decide +kernel
theorem dX6_set_28 : decode cX6_set 28 = .ok (.invokevirtual 166, 3) := by decide +kernel
theorem dX6_set_31 : decode cX6_set 31 = .ok (.ifCond .ne 6, 3) := by decide +kernel
theorem dX6_set_34 : decode cX6_set 34 = .ok (.bipush (-2), 2) := by decide +kernel
theorem dX6_set_36 : decode cX6_set 36 = .ok (.ireturn, 1) := by decide +kernel
theorem dX6_set_37 : decode cX6_set 37 = .ok (.aload_n 0, 1) := by decide +kernel
theorem dX6_set_38 : decode cX6_set 38 = .ok (.getfield 19, 3) := by decide +kernel
theorem dX6_set_41 : decode cX6_set 41 = .ok (.getfield 113, 3) := by decide +kernel
theorem dX6_set_44 : decode cX6_set 44 = .ok (.iload_n 1, 1) := by decide +kernel
theorem dX6_set_45 : decode cX6_set 45 = .ok (.iaload, 1) := by decide +kernel
theorem dX6_set_46 : decode cX6_set 46 = .ok (.aload_n 0, 1) := by decide +kernel
theorem dX6_set_47 : decode cX6_set 47 = .ok (.getfield 19, 3) := by decide +kernel
theorem dX6_set_50 : decode cX6_set 50 = .ok (.aload_n 0, 1) := by decide +kernel
theorem dX6_set_51 : decode cX6_set 51 = .ok (.getfield 29, 3) := by decide +kernel
theorem dX6_set_54 : decode cX6_set 54 = .ok (.iload_n 1, 1) := by decide +kernel
theorem dX6_set_55 : decode cX6_set 55 = .ok (.invokevirtual 170, 3) := by decide +kernel
theorem dX6_set_58 : decode cX6_set 58 = .ok (.isub, 1) := by decide +kernel
theorem dX6_set_59 : decode cX6_set 59 = .ok (.istore_n 3, 1) := by decide +kernel
theorem dX6_set_60 : decode cX6_set 60 = .ok (.aload_n 0, 1) := by decide +kernel
theorem dX6_set_61 : decode cX6_set 61 = .ok (.getfield 55, 3) := by decide +kernel
theorem dX6_set_64 : decode cX6_set 64 = .ok (.aload_n 0, 1) := by decide +kernel
theorem dX6_set_65 : decode cX6_set 65 = .ok (.getfield 29, 3) := by decide +kernel
theorem dX6_set_68 : decode cX6_set 68 = .ok (.invokevirtual 158, 3) := by decide +kernel
theorem dX6_set_71 : decode cX6_set 71 = .ok (.aload_n 0, 1) := by decide +kernel
theorem dX6_set_72 : decode cX6_set 72 = .ok (.getfield 19, 3) := by decide +kernel
theorem dX6_set_75 : decode cX6_set 75 = .ok (.aload_n 0, 1) := by decide +kernel
theorem dX6_set_76 : decode cX6_set 76 = .ok (.getfield 29, 3) := by decide +kernel
theorem dX6_set_79 : decode cX6_set 79 = .ok (.iload_n 1, 1) := by decide +kernel
theorem dX6_set_80 : decode cX6_set 80 = .ok (.aload_n 0, 1) := by decide +kernel
theorem dX6_set_81 : decode cX6_set 81 = .ok (.getfield 19, 3) := by decide +kernel
theorem dX6_set_84 : decode cX6_set 84 = .ok (.getfield 132, 3) := by decide +kernel
theorem dX6_set_87 : decode cX6_set 87 = .ok (.iload_n 2, 1) := by decide +kernel
theorem dX6_set_88 : decode cX6_set 88 = .ok (.iaload, 1) := by decide +kernel
theorem dX6_set_89 : decode cX6_set 89 = .ok (.invokevirtual 173, 3) := by decide +kernel
theorem dX6_set_92 : decode cX6_set 92 = .ok (.iload_n 3, 1) := by decide +kernel
theorem dX6_set_93 : decode cX6_set 93 = .ok (.ireturn, 1) := by decide +kernel
noncomputable def f_X6_set (sh : Nat) (l1 : Int32) (l2 : Int32) (mem : Mem) : Option (Int32 × Mem) :=
  ob (f_X6_isPlace sh l1 mem) fun r2 => if r2 = 0 then (some ((-1), mem)) else (ob (f_X6_isWord sh l2 mem) fun r10 => if r10 = 0 then (some ((-1), mem)) else (ob (f_X5_fits sh 31 l1 l2 mem) fun r28 => if r28 = 0 then (some ((-2), mem)) else (rd (mem (sh + 2)) 8 l1 fun v45 => ob (f_X5_lettersIn sh 31 l1 mem) fun r55 => lt' (v45 - r55) fun v59 => ob (f_X1_push_U 31 mem) fun m68 => rd (m68 (sh + 6)) 9 l2 fun v88 => ob (f_X5_put sh 31 l1 v88 m68) fun m89 => some (v59, m89))))
set_option maxRecDepth 100000 in
set_option maxHeartbeats 4000000 in
theorem m_X6_set {E : Ex} {ad : Nat → Nat} {sh sp : Nat} {tl : List Ent} {d : Nat} (hd : 4 ≤ d) (hsh : isS sh) (hsp : isS sp) {l1 : Int32} {l2 : Int32} {mem : Mem} {r : Int32 × Mem} (h : f_X6_set sh l1 l2 mem = some r) : Cl E yX6_set cX6_set 4 (some .int) d [.ref (ad 0), .int l1, .int l2] (some (.int r.1)) ad (LC sh sp ++ tl) mem (LC sh sp ++ tl) r.2 := by
  refine Cl.of [some (.ref (ad 0)), some (.int l1), some (.int l2), none] (by decide +kernel) rfl (Nat.le_of_ble_eq_true rfl) (fun κ C hP => ?_)
  have C : Cx E κ cX6_set RX6 4 (some .int) d := C
  unfold f_X6_set at h
  refine g_aload_n (pc := 0) (i := 0) (x := ad 0) C dX6_set_0 rfl rfl ?_
  refine g_iload_n (pc := 1) (i := 1) (x := l1) C dX6_set_1 rfl rfl ?_
  obtain ⟨r2, hcall2, h⟩ := ob_some h
  refine g_callV (pc := 2) C ce0 mi_X6_isPlace mv_X6_isPlace wm_X6_107 dX6_set_2 ok_X6 [.int l1] [] la_0 (by omega) rfl rfl (Nat.le_of_ble_eq_true rfl) (m_X6_isPlace (d := d - 1) (by omega) hsh hsp hcall2) ?_
  show Gw E κ 4 0 0 5 [some (.ref (ad 0)), some (.int l1), some (.int l2), none] [.int r2] ad (LC sh sp ++ tl) mem
  rcases ite_some' h with ⟨hc5, h⟩ | ⟨hc5, h⟩
  · refine g_if_eq_t (pc := 5) C 16 dX6_set_5 (by decide) hc5 ?_
    refine g_iconst (pc := 16) (v := (-1)) C dX6_set_16 rfl ?_
    cases h
    exact g_iret (pc := 17) C hP rfl rfl dX6_set_17
  · refine g_if_eq_f (pc := 5) C 16 dX6_set_5 (by decide) hc5 ?_
    refine g_aload_n (pc := 8) (i := 0) (x := ad 0) C dX6_set_8 rfl rfl ?_
    refine g_iload_n (pc := 9) (i := 2) (x := l2) C dX6_set_9 rfl rfl ?_
    obtain ⟨r10, hcall10, h⟩ := ob_some h
    refine g_callV (pc := 10) C ce0 mi_X6_isWord mv_X6_isWord wm_X6_126 dX6_set_10 ok_X6 [.int l2] [] la_0 (by omega) rfl rfl (Nat.le_of_ble_eq_true rfl) (m_X6_isWord (d := d - 1) (by omega) hsh hsp hcall10) ?_
    show Gw E κ 4 0 0 13 [some (.ref (ad 0)), some (.int l1), some (.int l2), none] [.int r10] ad (LC sh sp ++ tl) mem
    rcases ite_some' h with ⟨hc13, h⟩ | ⟨hc13, h⟩
    · refine g_if_ne_f (pc := 13) C 18 dX6_set_13 (by decide) hc13 ?_
      refine g_iconst (pc := 16) (v := (-1)) C dX6_set_16 rfl ?_
      cases h
      exact g_iret (pc := 17) C hP rfl rfl dX6_set_17
    · refine g_if_ne_t (pc := 13) C 18 dX6_set_13 (by decide) hc13 ?_
      refine g_aload_n (pc := 18) (i := 0) (x := ad 0) C dX6_set_18 rfl rfl ?_
      refine g_get (pc := 19) (v := .ref (ad sh)) C ok_X6 1 (by decide) wf_X6_19 dX6_set_19 la_0 rfl ?_
      refine g_aload_n (pc := 22) (i := 0) (x := ad 0) C dX6_set_22 rfl rfl ?_
      refine g_get (pc := 23) (v := .ref (ad 31)) C ok_X6 3 (by decide) wf_X6_29 dX6_set_23 la_0 rfl ?_
      refine g_iload_n (pc := 26) (i := 1) (x := l1) C dX6_set_26 rfl rfl ?_
      refine g_iload_n (pc := 27) (i := 2) (x := l2) C dX6_set_27 rfl rfl ?_
      obtain ⟨r28, hcall28, h⟩ := ob_some h
      refine g_callN (pc := 28) C ce0 mi_X5_fits mv_X5_fits nm_X6_166 dX6_set_28 ok_X5 [.ref (ad 31), .int l1, .int l2] [] (lz_0 hsh) (by omega) rfl rfl (Nat.le_of_ble_eq_true rfl) (m_X5_fits (d := d - 1) (by omega) hsh t_31 hcall28) ?_
      show Gw E κ 4 0 0 31 [some (.ref (ad 0)), some (.int l1), some (.int l2), none] [.int r28] ad (LC sh sp ++ tl) mem
      rcases ite_some' h with ⟨hc31, h⟩ | ⟨hc31, h⟩
      · refine g_if_ne_f (pc := 31) C 37 dX6_set_31 (by decide) hc31 ?_
        refine g_bipush (pc := 34) (v := (-2)) C dX6_set_34 rfl ?_
        cases h
        exact g_iret (pc := 36) C hP rfl rfl dX6_set_36
      · refine g_if_ne_t (pc := 31) C 37 dX6_set_31 (by decide) hc31 ?_
        refine g_aload_n (pc := 37) (i := 0) (x := ad 0) C dX6_set_37 rfl rfl ?_
        refine g_get (pc := 38) (v := .ref (ad sh)) C ok_X6 1 (by decide) wf_X6_19 dX6_set_38 la_0 rfl ?_
        refine g_getN (pc := 41) (v := .ref (ad (sh + 2))) C ok_X5 4 (by decide) nf_X6_113 dX6_set_41 (lz_0 hsh) rfl ?_
        refine g_iload_n (pc := 44) (i := 1) (x := l1) C dX6_set_44 rfl rfl ?_
        obtain ⟨v45, hv45, hi45, h⟩ := rd_some h
        refine g_iald (pc := 45) C dX6_set_45 (lz_2 hsh) hi45 ?_
        refine g_topi hv45 ?_
        refine g_aload_n (pc := 46) (i := 0) (x := ad 0) C dX6_set_46 rfl rfl ?_
        refine g_get (pc := 47) (v := .ref (ad sh)) C ok_X6 1 (by decide) wf_X6_19 dX6_set_47 la_0 rfl ?_
        refine g_aload_n (pc := 50) (i := 0) (x := ad 0) C dX6_set_50 rfl rfl ?_
        refine g_get (pc := 51) (v := .ref (ad 31)) C ok_X6 3 (by decide) wf_X6_29 dX6_set_51 la_0 rfl ?_
        refine g_iload_n (pc := 54) (i := 1) (x := l1) C dX6_set_54 rfl rfl ?_
        obtain ⟨r55, hcall55, h⟩ := ob_some h
        refine g_callN (pc := 55) C ce0 mi_X5_lettersIn mv_X5_lettersIn nm_X6_170 dX6_set_55 ok_X5 [.ref (ad 31), .int l1] [.int v45] (lz_0 hsh) (by omega) rfl rfl (Nat.le_of_ble_eq_true rfl) (m_X5_lettersIn (d := d - 1) (by omega) hsh t_31 hcall55) ?_
        show Gw E κ 4 0 0 58 [some (.ref (ad 0)), some (.int l1), some (.int l2), none] [.int r55, .int v45] ad (LC sh sp ++ tl) mem
        refine g_isub (pc := 58) C dX6_set_58 ?_
        obtain ⟨v59, hv59, h⟩ := lt_some h
        refine g_topi hv59 ?_
        refine g_istore_n (pc := 59) (i := 3) (lv' := [some (.ref (ad 0)), some (.int l1), some (.int l2), some (.int v59)]) C dX6_set_59 rfl (by decide) rfl rfl ?_
        refine g_aload_n (pc := 60) (i := 0) (x := ad 0) C dX6_set_60 rfl rfl ?_
        refine g_get (pc := 61) (v := .ref (ad 52)) C ok_X6 7 (by decide) wf_X6_55 dX6_set_61 la_0 rfl ?_
        refine g_aload_n (pc := 64) (i := 0) (x := ad 0) C dX6_set_64 rfl rfl ?_
        refine g_get (pc := 65) (v := .ref (ad 31)) C ok_X6 3 (by decide) wf_X6_29 dX6_set_65 la_0 rfl ?_
        obtain ⟨m68, hcall68, h⟩ := ob_some h
        refine g_callN (pc := 68) C ce0 mi_X1_push mv_X1_push nm_X6_158 dX6_set_68 ok_X1 [.ref (ad 31)] [] la_52 (by omega) rfl rfl (Nat.le_of_ble_eq_true rfl) (m_X1_push_U (d := d - 1) (by omega) t_31 hcall68) ?_
        show Gw E κ 4 0 0 71 [some (.ref (ad 0)), some (.int l1), some (.int l2), some (.int v59)] [] ad (LC sh sp ++ tl) m68
        refine g_aload_n (pc := 71) (i := 0) (x := ad 0) C dX6_set_71 rfl rfl ?_
        refine g_get (pc := 72) (v := .ref (ad sh)) C ok_X6 1 (by decide) wf_X6_19 dX6_set_72 la_0 rfl ?_
        refine g_aload_n (pc := 75) (i := 0) (x := ad 0) C dX6_set_75 rfl rfl ?_
        refine g_get (pc := 76) (v := .ref (ad 31)) C ok_X6 3 (by decide) wf_X6_29 dX6_set_76 la_0 rfl ?_
        refine g_iload_n (pc := 79) (i := 1) (x := l1) C dX6_set_79 rfl rfl ?_
        refine g_aload_n (pc := 80) (i := 0) (x := ad 0) C dX6_set_80 rfl rfl ?_
        refine g_get (pc := 81) (v := .ref (ad sh)) C ok_X6 1 (by decide) wf_X6_19 dX6_set_81 la_0 rfl ?_
        refine g_getN (pc := 84) (v := .ref (ad (sh + 6))) C ok_X5 9 (by decide) nf_X6_132 dX6_set_84 (lz_0 hsh) rfl ?_
        refine g_iload_n (pc := 87) (i := 2) (x := l2) C dX6_set_87 rfl rfl ?_
        obtain ⟨v88, hv88, hi88, h⟩ := rd_some h
        refine g_iald (pc := 88) C dX6_set_88 (lz_6 hsh) hi88 ?_
        refine g_topi hv88 ?_
        obtain ⟨m89, hcall89, h⟩ := ob_some h
        refine g_callN (pc := 89) C ce0 mi_X5_put mv_X5_put nm_X6_173 dX6_set_89 ok_X5 [.ref (ad 31), .int l1, .int v88] [] (lz_0 hsh) (by omega) rfl rfl (Nat.le_of_ble_eq_true rfl) (m_X5_put (d := d - 1) (by omega) hsh t_31 hcall89) ?_
        show Gw E κ 4 0 0 92 [some (.ref (ad 0)), some (.int l1), some (.int l2), some (.int v59)] [] ad (LC sh sp ++ tl) m89
        refine g_iload_n (pc := 92) (i := 3) (x := v59) C dX6_set_92 rfl rfl ?_
        cases h
        exact g_iret (pc := 93) C hP rfl rfl dX6_set_93

theorem dX6_strike_0 : decode cX6_strike 0 = .ok (.aload_n 0, 1) := by decide +kernel
theorem dX6_strike_1 : decode cX6_strike 1 = .ok (.iload_n 1, 1) := by decide +kernel
theorem dX6_strike_2 : decode cX6_strike 2 = .ok (.invokevirtual 107, 3) := by decide +kernel
theorem dX6_strike_5 : decode cX6_strike 5 = .ok (.ifCond .ne 5, 3) := by decide +kernel
theorem dX6_strike_8 : decode cX6_strike 8 = .ok (.iconst (-1), 1) := by decide +kernel
theorem dX6_strike_9 : decode cX6_strike 9 = .ok (.ireturn, 1) := by decide +kernel
theorem dX6_strike_10 : decode cX6_strike 10 = .ok (.aload_n 0, 1) := by decide +kernel
theorem dX6_strike_11 : decode cX6_strike 11 = .ok (.getfield 19, 3) := by decide +kernel
theorem dX6_strike_14 : decode cX6_strike 14 = .ok (.aload_n 0, 1) := by decide +kernel
theorem dX6_strike_15 : decode cX6_strike 15 = .ok (.getfield 29, 3) := by decide +kernel
theorem dX6_strike_18 : decode cX6_strike 18 = .ok (.iload_n 1, 1) := by decide +kernel
theorem dX6_strike_19 : decode cX6_strike 19 = .ok (.invokevirtual 170, 3) := by decide +kernel
theorem dX6_strike_22 : decode cX6_strike 22 = .ok (.istore_n 2, 1) := by decide +kernel
theorem dX6_strike_23 : decode cX6_strike 23 = .ok (.iload_n 2, 1) := by decide +kernel
theorem dX6_strike_24 : decode cX6_strike 24 = .ok (.ifCond .ne 6, 3) := by decide +kernel
theorem dX6_strike_27 : decode cX6_strike 27 = .ok (.bipush (-2), 2) := by decide +kernel
theorem dX6_strike_29 : decode cX6_strike 29 = .ok (.ireturn, 1) := by decide +kernel
theorem dX6_strike_30 : decode cX6_strike 30 = .ok (.aload_n 0, 1) := by decide +kernel
theorem dX6_strike_31 : decode cX6_strike 31 = .ok (.getfield 55, 3) := by decide +kernel
theorem dX6_strike_34 : decode cX6_strike 34 = .ok (.aload_n 0, 1) := by decide +kernel
theorem dX6_strike_35 : decode cX6_strike 35 = .ok (.getfield 29, 3) := by decide +kernel
theorem dX6_strike_38 : decode cX6_strike 38 = .ok (.invokevirtual 158, 3) := by decide +kernel
theorem dX6_strike_41 : decode cX6_strike 41 = .ok (.aload_n 0, 1) := by decide +kernel
theorem dX6_strike_42 : decode cX6_strike 42 = .ok (.getfield 19, 3) := by decide +kernel
theorem dX6_strike_45 : decode cX6_strike 45 = .ok (.aload_n 0, 1) := by decide +kernel
theorem dX6_strike_46 : decode cX6_strike 46 = .ok (.getfield 29, 3) := by decide +kernel
theorem dX6_strike_49 : decode cX6_strike 49 = .ok (.iload_n 1, 1) := by decide +kernel
theorem dX6_strike_50 : decode cX6_strike 50 = .ok (.iconst 0, 1) := by decide +kernel
theorem dX6_strike_51 : decode cX6_strike 51 = .ok (.invokevirtual 173, 3) := by decide +kernel
theorem dX6_strike_54 : decode cX6_strike 54 = .ok (.iload_n 2, 1) := by decide +kernel
theorem dX6_strike_55 : decode cX6_strike 55 = .ok (.ireturn, 1) := by decide +kernel
noncomputable def f_X6_strike (sh : Nat) (l1 : Int32) (mem : Mem) : Option (Int32 × Mem) :=
  ob (f_X6_isPlace sh l1 mem) fun r2 => if r2 = 0 then (some ((-1), mem)) else (ob (f_X5_lettersIn sh 31 l1 mem) fun r19 => if r19 = 0 then (some ((-2), mem)) else (ob (f_X1_push_U 31 mem) fun m38 => ob (f_X5_put sh 31 l1 0 m38) fun m51 => some (r19, m51)))
set_option maxRecDepth 100000 in
set_option maxHeartbeats 4000000 in
theorem m_X6_strike {E : Ex} {ad : Nat → Nat} {sh sp : Nat} {tl : List Ent} {d : Nat} (hd : 4 ≤ d) (hsh : isS sh) (hsp : isS sp) {l1 : Int32} {mem : Mem} {r : Int32 × Mem} (h : f_X6_strike sh l1 mem = some r) : Cl E yX6_strike cX6_strike 3 (some .int) d [.ref (ad 0), .int l1] (some (.int r.1)) ad (LC sh sp ++ tl) mem (LC sh sp ++ tl) r.2 := by
  refine Cl.of [some (.ref (ad 0)), some (.int l1), none] (by decide +kernel) rfl (Nat.le_of_ble_eq_true rfl) (fun κ C hP => ?_)
  have C : Cx E κ cX6_strike RX6 3 (some .int) d := C
  unfold f_X6_strike at h
  refine g_aload_n (pc := 0) (i := 0) (x := ad 0) C dX6_strike_0 rfl rfl ?_
  refine g_iload_n (pc := 1) (i := 1) (x := l1) C dX6_strike_1 rfl rfl ?_
  obtain ⟨r2, hcall2, h⟩ := ob_some h
  refine g_callV (pc := 2) C ce0 mi_X6_isPlace mv_X6_isPlace wm_X6_107 dX6_strike_2 ok_X6 [.int l1] [] la_0 (by omega) rfl rfl (Nat.le_of_ble_eq_true rfl) (m_X6_isPlace (d := d - 1) (by omega) hsh hsp hcall2) ?_
  show Gw E κ 3 0 0 5 [some (.ref (ad 0)), some (.int l1), none] [.int r2] ad (LC sh sp ++ tl) mem
  rcases ite_some' h with ⟨hc5, h⟩ | ⟨hc5, h⟩
  · refine g_if_ne_f (pc := 5) C 10 dX6_strike_5 (by decide) hc5 ?_
    refine g_iconst (pc := 8) (v := (-1)) C dX6_strike_8 rfl ?_
    cases h
    exact g_iret (pc := 9) C hP rfl rfl dX6_strike_9
  · refine g_if_ne_t (pc := 5) C 10 dX6_strike_5 (by decide) hc5 ?_
    refine g_aload_n (pc := 10) (i := 0) (x := ad 0) C dX6_strike_10 rfl rfl ?_
    refine g_get (pc := 11) (v := .ref (ad sh)) C ok_X6 1 (by decide) wf_X6_19 dX6_strike_11 la_0 rfl ?_
    refine g_aload_n (pc := 14) (i := 0) (x := ad 0) C dX6_strike_14 rfl rfl ?_
    refine g_get (pc := 15) (v := .ref (ad 31)) C ok_X6 3 (by decide) wf_X6_29 dX6_strike_15 la_0 rfl ?_
    refine g_iload_n (pc := 18) (i := 1) (x := l1) C dX6_strike_18 rfl rfl ?_
    obtain ⟨r19, hcall19, h⟩ := ob_some h
    refine g_callN (pc := 19) C ce0 mi_X5_lettersIn mv_X5_lettersIn nm_X6_170 dX6_strike_19 ok_X5 [.ref (ad 31), .int l1] [] (lz_0 hsh) (by omega) rfl rfl (Nat.le_of_ble_eq_true rfl) (m_X5_lettersIn (d := d - 1) (by omega) hsh t_31 hcall19) ?_
    show Gw E κ 3 0 0 22 [some (.ref (ad 0)), some (.int l1), none] [.int r19] ad (LC sh sp ++ tl) mem
    refine g_istore_n (pc := 22) (i := 2) (lv' := [some (.ref (ad 0)), some (.int l1), some (.int r19)]) C dX6_strike_22 rfl (by decide) rfl rfl ?_
    refine g_iload_n (pc := 23) (i := 2) (x := r19) C dX6_strike_23 rfl rfl ?_
    rcases ite_some' h with ⟨hc24, h⟩ | ⟨hc24, h⟩
    · refine g_if_ne_f (pc := 24) C 30 dX6_strike_24 (by decide) hc24 ?_
      refine g_bipush (pc := 27) (v := (-2)) C dX6_strike_27 rfl ?_
      cases h
      exact g_iret (pc := 29) C hP rfl rfl dX6_strike_29
    · refine g_if_ne_t (pc := 24) C 30 dX6_strike_24 (by decide) hc24 ?_
      refine g_aload_n (pc := 30) (i := 0) (x := ad 0) C dX6_strike_30 rfl rfl ?_
      refine g_get (pc := 31) (v := .ref (ad 52)) C ok_X6 7 (by decide) wf_X6_55 dX6_strike_31 la_0 rfl ?_
      refine g_aload_n (pc := 34) (i := 0) (x := ad 0) C dX6_strike_34 rfl rfl ?_
      refine g_get (pc := 35) (v := .ref (ad 31)) C ok_X6 3 (by decide) wf_X6_29 dX6_strike_35 la_0 rfl ?_
      obtain ⟨m38, hcall38, h⟩ := ob_some h
      refine g_callN (pc := 38) C ce0 mi_X1_push mv_X1_push nm_X6_158 dX6_strike_38 ok_X1 [.ref (ad 31)] [] la_52 (by omega) rfl rfl (Nat.le_of_ble_eq_true rfl) (m_X1_push_U (d := d - 1) (by omega) t_31 hcall38) ?_
      show Gw E κ 3 0 0 41 [some (.ref (ad 0)), some (.int l1), some (.int r19)] [] ad (LC sh sp ++ tl) m38
      refine g_aload_n (pc := 41) (i := 0) (x := ad 0) C dX6_strike_41 rfl rfl ?_
      refine g_get (pc := 42) (v := .ref (ad sh)) C ok_X6 1 (by decide) wf_X6_19 dX6_strike_42 la_0 rfl ?_
      refine g_aload_n (pc := 45) (i := 0) (x := ad 0) C dX6_strike_45 rfl rfl ?_
      refine g_get (pc := 46) (v := .ref (ad 31)) C ok_X6 3 (by decide) wf_X6_29 dX6_strike_46 la_0 rfl ?_
      refine g_iload_n (pc := 49) (i := 1) (x := l1) C dX6_strike_49 rfl rfl ?_
      refine g_iconst (pc := 50) (v := 0) C dX6_strike_50 rfl ?_
      obtain ⟨m51, hcall51, h⟩ := ob_some h
      refine g_callN (pc := 51) C ce0 mi_X5_put mv_X5_put nm_X6_173 dX6_strike_51 ok_X5 [.ref (ad 31), .int l1, .int 0] [] (lz_0 hsh) (by omega) rfl rfl (Nat.le_of_ble_eq_true rfl) (m_X5_put (d := d - 1) (by omega) hsh t_31 hcall51) ?_
      show Gw E κ 3 0 0 54 [some (.ref (ad 0)), some (.int l1), some (.int r19)] [] ad (LC sh sp ++ tl) m51
      refine g_iload_n (pc := 54) (i := 2) (x := r19) C dX6_strike_54 rfl rfl ?_
      cases h
      exact g_iret (pc := 55) C hP rfl rfl dX6_strike_55

theorem dX6_want_0 : decode cX6_want 0 = .ok (.aload_n 0, 1) := by decide +kernel
theorem dX6_want_1 : decode cX6_want 1 = .ok (.iload_n 1, 1) := by decide +kernel
theorem dX6_want_2 : decode cX6_want 2 = .ok (.invokevirtual 139, 3) := by decide +kernel
theorem dX6_want_5 : decode cX6_want 5 = .ok (.ifCond .eq 21, 3) := by decide +kernel
theorem dX6_want_8 : decode cX6_want 8 = .ok (.iload_n 2, 1) := by decide +kernel
theorem dX6_want_9 : decode cX6_want 9 = .ok (.ifCond .lt 17, 3) := by decide +kernel
theorem dX6_want_12 : decode cX6_want 12 = .ok (.iload_n 2, 1) := by decide +kernel
theorem dX6_want_13 : decode cX6_want 13 = .ok (.bipush 8, 2) := by decide +kernel
theorem dX6_want_15 : decode cX6_want 15 = .ok (.if_icmp .ge 11, 3) := by decide +kernel
theorem dX6_want_18 : decode cX6_want 18 = .ok (.aload_n 0, 1) := by decide +kernel
theorem dX6_want_19 : decode cX6_want 19 = .ok (.iload_n 3, 1) := by decide +kernel
theorem dX6_want_20 : decode cX6_want 20 = .ok (.invokevirtual 126, 3) := by decide +kernel
theorem dX6_want_23 : decode cX6_want 23 = .ok (.ifCond .ne 5, 3) := by decide +kernel
theorem dX6_want_26 : decode cX6_want 26 = .ok (.iconst (-1), 1) := by decide +kernel
theorem dX6_want_27 : decode cX6_want 27 = .ok (.ireturn, 1) := by decide +kernel
theorem dX6_want_28 : decode cX6_want 28 = .ok (.aload_n 0, 1) := by decide +kernel
theorem dX6_want_29 : decode cX6_want 29 = .ok (.getfield 29, 3) := by decide +kernel
theorem dX6_want_32 : decode cX6_want 32 = .ok (.getfield 148, 3) := by decide +kernel
theorem dX6_want_35 : decode cX6_want 35 = .ok (.iload_n 1, 1) := by decide +kernel
theorem dX6_want_36 : decode cX6_want 36 = .ok (.iaload, 1) := by decide +kernel
theorem dX6_want_37 : decode cX6_want 37 = .ok (.istore 4, 2) := by decide +kernel
theorem dX6_want_39 : decode cX6_want 39 = .ok (.aload_n 0, 1) := by decide +kernel
theorem dX6_want_40 : decode cX6_want 40 = .ok (.getfield 55, 3) := by decide +kernel
theorem dX6_want_43 : decode cX6_want 43 = .ok (.aload_n 0, 1) := by decide +kernel
theorem dX6_want_44 : decode cX6_want 44 = .ok (.getfield 29, 3) := by decide +kernel
theorem dX6_want_47 : decode cX6_want 47 = .ok (.invokevirtual 158, 3) := by decide +kernel
theorem dX6_want_50 : decode cX6_want 50 = .ok (.aload_n 0, 1) := by decide +kernel
theorem dX6_want_51 : decode cX6_want 51 = .ok (.getfield 29, 3) := by decide +kernel
theorem dX6_want_54 : decode cX6_want 54 = .ok (.iload_n 1, 1) := by decide +kernel
theorem dX6_want_55 : decode cX6_want 55 = .ok (.iload_n 2, 1) := by decide +kernel
theorem dX6_want_56 : decode cX6_want 56 = .ok (.iload_n 3, 1) := by decide +kernel
theorem dX6_want_57 : decode cX6_want 57 = .ok (.invokevirtual 177, 3) := by decide +kernel
theorem dX6_want_60 : decode cX6_want 60 = .ok (.iload 4, 2) := by decide +kernel
theorem dX6_want_62 : decode cX6_want 62 = .ok (.ireturn, 1) := by decide +kernel
noncomputable def f_X6_want (sh : Nat) (l1 : Int32) (l2 : Int32) (l3 : Int32) (mem : Mem) : Option (Int32 × Mem) :=
  ob (f_X6_isSolver sh l1 mem) fun r2 => if r2 = 0 then (some ((-1), mem)) else (if l2 < 0 then (some ((-1), mem)) else (if 8 ≤ l2 then (some ((-1), mem)) else (ob (f_X6_isWord sh l3 mem) fun r20 => if r20 = 0 then (some ((-1), mem)) else (rd (mem 34) 6 l1 fun v36 => ob (f_X1_push_U 31 mem) fun m47 => ob (f_X0_wish 31 l1 l2 l3 m47) fun m57 => some (v36, m57)))))
set_option maxRecDepth 100000 in
set_option maxHeartbeats 4000000 in
theorem m_X6_want {E : Ex} {ad : Nat → Nat} {sh sp : Nat} {tl : List Ent} {d : Nat} (hd : 4 ≤ d) (hsh : isS sh) (hsp : isS sp) {l1 : Int32} {l2 : Int32} {l3 : Int32} {mem : Mem} {r : Int32 × Mem} (h : f_X6_want sh l1 l2 l3 mem = some r) : Cl E yX6_want cX6_want 5 (some .int) d [.ref (ad 0), .int l1, .int l2, .int l3] (some (.int r.1)) ad (LC sh sp ++ tl) mem (LC sh sp ++ tl) r.2 := by
  refine Cl.of [some (.ref (ad 0)), some (.int l1), some (.int l2), some (.int l3), none] (by decide +kernel) rfl (Nat.le_of_ble_eq_true rfl) (fun κ C hP => ?_)
  have C : Cx E κ cX6_want RX6 5 (some .int) d := C
  unfold f_X6_want at h
  refine g_aload_n (pc := 0) (i := 0) (x := ad 0) C dX6_want_0 rfl rfl ?_
  refine g_iload_n (pc := 1) (i := 1) (x := l1) C dX6_want_1 rfl rfl ?_
  obtain ⟨r2, hcall2, h⟩ := ob_some h
  refine g_callV (pc := 2) C ce0 mi_X6_isSolver mv_X6_isSolver wm_X6_139 dX6_want_2 ok_X6 [.int l1] [] la_0 (by omega) rfl rfl (Nat.le_of_ble_eq_true rfl) (m_X6_isSolver (d := d - 1) (by omega) hsh hsp hcall2) ?_
  show Gw E κ 5 0 0 5 [some (.ref (ad 0)), some (.int l1), some (.int l2), some (.int l3), none] [.int r2] ad (LC sh sp ++ tl) mem
  rcases ite_some' h with ⟨hc5, h⟩ | ⟨hc5, h⟩
  · refine g_if_eq_t (pc := 5) C 26 dX6_want_5 (by decide) hc5 ?_
    refine g_iconst (pc := 26) (v := (-1)) C dX6_want_26 rfl ?_
    cases h
    exact g_iret (pc := 27) C hP rfl rfl dX6_want_27
  · refine g_if_eq_f (pc := 5) C 26 dX6_want_5 (by decide) hc5 ?_
    refine g_iload_n (pc := 8) (i := 2) (x := l2) C dX6_want_8 rfl rfl ?_
    rcases ite_some' h with ⟨hc9, h⟩ | ⟨hc9, h⟩
    · refine g_if_lt_t (pc := 9) C 26 dX6_want_9 (by decide) hc9 ?_
      refine g_iconst (pc := 26) (v := (-1)) C dX6_want_26 rfl ?_
      cases h
      exact g_iret (pc := 27) C hP rfl rfl dX6_want_27
    · refine g_if_lt_f (pc := 9) C 26 dX6_want_9 (by decide) hc9 ?_
      refine g_iload_n (pc := 12) (i := 2) (x := l2) C dX6_want_12 rfl rfl ?_
      refine g_bipush (pc := 13) (v := 8) C dX6_want_13 rfl ?_
      rcases ite_some' h with ⟨hc15, h⟩ | ⟨hc15, h⟩
      · refine g_icmp_ge_t (pc := 15) C 26 dX6_want_15 (by decide) hc15 ?_
        refine g_iconst (pc := 26) (v := (-1)) C dX6_want_26 rfl ?_
        cases h
        exact g_iret (pc := 27) C hP rfl rfl dX6_want_27
      · refine g_icmp_ge_f (pc := 15) C 26 dX6_want_15 (by decide) hc15 ?_
        refine g_aload_n (pc := 18) (i := 0) (x := ad 0) C dX6_want_18 rfl rfl ?_
        refine g_iload_n (pc := 19) (i := 3) (x := l3) C dX6_want_19 rfl rfl ?_
        obtain ⟨r20, hcall20, h⟩ := ob_some h
        refine g_callV (pc := 20) C ce0 mi_X6_isWord mv_X6_isWord wm_X6_126 dX6_want_20 ok_X6 [.int l3] [] la_0 (by omega) rfl rfl (Nat.le_of_ble_eq_true rfl) (m_X6_isWord (d := d - 1) (by omega) hsh hsp hcall20) ?_
        show Gw E κ 5 0 0 23 [some (.ref (ad 0)), some (.int l1), some (.int l2), some (.int l3), none] [.int r20] ad (LC sh sp ++ tl) mem
        rcases ite_some' h with ⟨hc23, h⟩ | ⟨hc23, h⟩
        · refine g_if_ne_f (pc := 23) C 28 dX6_want_23 (by decide) hc23 ?_
          refine g_iconst (pc := 26) (v := (-1)) C dX6_want_26 rfl ?_
          cases h
          exact g_iret (pc := 27) C hP rfl rfl dX6_want_27
        · refine g_if_ne_t (pc := 23) C 28 dX6_want_23 (by decide) hc23 ?_
          refine g_aload_n (pc := 28) (i := 0) (x := ad 0) C dX6_want_28 rfl rfl ?_
          refine g_get (pc := 29) (v := .ref (ad 31)) C ok_X6 3 (by decide) wf_X6_29 dX6_want_29 la_0 rfl ?_
          refine g_getN (pc := 32) (v := .ref (ad 34)) C ok_X0 2 (by decide) nf_X6_148 dX6_want_32 la_31 rfl ?_
          refine g_iload_n (pc := 35) (i := 1) (x := l1) C dX6_want_35 rfl rfl ?_
          obtain ⟨v36, hv36, hi36, h⟩ := rd_some h
          refine g_iald (pc := 36) C dX6_want_36 la_34 hi36 ?_
          refine g_topi hv36 ?_
          refine g_istore (pc := 37) (i := 4) (lv' := [some (.ref (ad 0)), some (.int l1), some (.int l2), some (.int l3), some (.int v36)]) C dX6_want_37 (by decide) rfl rfl ?_
          refine g_aload_n (pc := 39) (i := 0) (x := ad 0) C dX6_want_39 rfl rfl ?_
          refine g_get (pc := 40) (v := .ref (ad 52)) C ok_X6 7 (by decide) wf_X6_55 dX6_want_40 la_0 rfl ?_
          refine g_aload_n (pc := 43) (i := 0) (x := ad 0) C dX6_want_43 rfl rfl ?_
          refine g_get (pc := 44) (v := .ref (ad 31)) C ok_X6 3 (by decide) wf_X6_29 dX6_want_44 la_0 rfl ?_
          obtain ⟨m47, hcall47, h⟩ := ob_some h
          refine g_callN (pc := 47) C ce0 mi_X1_push mv_X1_push nm_X6_158 dX6_want_47 ok_X1 [.ref (ad 31)] [] la_52 (by omega) rfl rfl (Nat.le_of_ble_eq_true rfl) (m_X1_push_U (d := d - 1) (by omega) t_31 hcall47) ?_
          show Gw E κ 5 0 0 50 [some (.ref (ad 0)), some (.int l1), some (.int l2), some (.int l3), some (.int v36)] [] ad (LC sh sp ++ tl) m47
          refine g_aload_n (pc := 50) (i := 0) (x := ad 0) C dX6_want_50 rfl rfl ?_
          refine g_get (pc := 51) (v := .ref (ad 31)) C ok_X6 3 (by decide) wf_X6_29 dX6_want_51 la_0 rfl ?_
          refine g_iload_n (pc := 54) (i := 1) (x := l1) C dX6_want_54 rfl rfl ?_
          refine g_iload_n (pc := 55) (i := 2) (x := l2) C dX6_want_55 rfl rfl ?_
          refine g_iload_n (pc := 56) (i := 3) (x := l3) C dX6_want_56 rfl rfl ?_
          obtain ⟨m57, hcall57, h⟩ := ob_some h
          refine g_callN (pc := 57) C ce0 mi_X0_wish mv_X0_wish nm_X6_177 dX6_want_57 ok_X0 [.int l1, .int l2, .int l3] [] la_31 (by omega) rfl rfl (Nat.le_of_ble_eq_true rfl) (m_X0_wish (d := d - 1) (by omega) t_31 hcall57) ?_
          show Gw E κ 5 0 0 60 [some (.ref (ad 0)), some (.int l1), some (.int l2), some (.int l3), some (.int v36)] [] ad (LC sh sp ++ tl) m57
          refine g_iload (pc := 60) (i := 4) (x := v36) C dX6_want_60 rfl ?_
          cases h
          exact g_iret (pc := 62) C hP rfl rfl dX6_want_62

theorem dX6_undo_0 : decode cX6_undo 0 = .ok (.aload_n 0, 1) := by decide +kernel
theorem dX6_undo_1 : decode cX6_undo 1 = .ok (.getfield 55, 3) := by decide +kernel
theorem dX6_undo_4 : decode cX6_undo 4 = .ok (.aload_n 0, 1) := by decide +kernel
theorem dX6_undo_5 : decode cX6_undo 5 = .ok (.getfield 29, 3) := by decide +kernel
theorem dX6_undo_8 : decode cX6_undo 8 = .ok (.invokevirtual 181, 3) := by decide +kernel
theorem dX6_undo_11 : decode cX6_undo 11 = .ok (.ifCond .eq 13, 3) := by decide +kernel
theorem dX6_undo_14 : decode cX6_undo 14 = .ok (.aload_n 0, 1) := by decide +kernel
theorem dX6_undo_15 : decode cX6_undo 15 = .ok (.getfield 55, 3) := by decide +kernel
theorem dX6_undo_18 : decode cX6_undo 18 = .ok (.getfield 185, 3) := by decide +kernel
theorem dX6_undo_21 : decode cX6_undo 21 = .ok (.goto 5, 3) := by decide +kernel
theorem dX6_undo_24 : decode cX6_undo 24 = .ok (.bipush (-2), 2) := by decide +kernel
theorem dX6_undo_26 : decode cX6_undo 26 = .ok (.ireturn, 1) := by decide +kernel
noncomputable def f_X6_undo  (mem : Mem) : Option (Int32 × Mem) :=
  ob2 (f_X1_pop_U 31 mem) fun r8 m8 => if r8 = 0 then (some ((-2), m8)) else (lt' (m8 52 4) fun v26 => some (v26, m8))
set_option maxRecDepth 100000 in
set_option maxHeartbeats 4000000 in
theorem m_X6_undo {E : Ex} {ad : Nat → Nat} {sh sp : Nat} {tl : List Ent} {d : Nat} (hd : 3 ≤ d) (hsh : isS sh) (hsp : isS sp)  {mem : Mem} {r : Int32 × Mem} (h : f_X6_undo mem = some r) : Cl E yX6_undo cX6_undo 1 (some .int) d [.ref (ad 0)] (some (.int r.1)) ad (LC sh sp ++ tl) mem (LC sh sp ++ tl) r.2 := by
  refine Cl.of [some (.ref (ad 0))] (by decide +kernel) rfl (Nat.le_of_ble_eq_true rfl) (fun κ C hP => ?_)
  have C : Cx E κ cX6_undo RX6 1 (some .int) d := C
  unfold f_X6_undo at h
  refine g_aload_n (pc := 0) (i := 0) (x := ad 0) C dX6_undo_0 rfl rfl ?_
  refine g_get (pc := 1) (v := .ref (ad 52)) C ok_X6 7 (by decide) wf_X6_55 dX6_undo_1 la_0 rfl ?_
  refine g_aload_n (pc := 4) (i := 0) (x := ad 0) C dX6_undo_4 rfl rfl ?_
  refine g_get (pc := 5) (v := .ref (ad 31)) C ok_X6 3 (by decide) wf_X6_29 dX6_undo_5 la_0 rfl ?_
  obtain ⟨r8, m8, hcall8, h⟩ := ob2_some h
  refine g_callN (pc := 8) C ce0 mi_X1_pop mv_X1_pop nm_X6_181 dX6_undo_8 ok_X1 [.ref (ad 31)] [] la_52 (by omega) rfl rfl (Nat.le_of_ble_eq_true rfl) (m_X1_pop_U (d := d - 1) (by omega) t_31 hcall8) ?_
  show Gw E κ 1 0 0 11 [some (.ref (ad 0))] [.int r8] ad (LC sh sp ++ tl) m8
  rcases ite_some' h with ⟨hc11, h⟩ | ⟨hc11, h⟩
  · refine g_if_eq_t (pc := 11) C 24 dX6_undo_11 (by decide) hc11 ?_
    refine g_bipush (pc := 24) (v := (-2)) C dX6_undo_24 rfl ?_
    cases h
    exact g_iret (pc := 26) C hP rfl rfl dX6_undo_26
  · refine g_if_eq_f (pc := 11) C 24 dX6_undo_11 (by decide) hc11 ?_
    refine g_aload_n (pc := 14) (i := 0) (x := ad 0) C dX6_undo_14 rfl rfl ?_
    refine g_get (pc := 15) (v := .ref (ad 52)) C ok_X6 7 (by decide) wf_X6_55 dX6_undo_15 la_0 rfl ?_
    refine g_getN (pc := 18) (v := .int (m8 52 4)) C ok_X1 4 (by decide) nf_X6_185 dX6_undo_18 la_52 rfl ?_
    refine g_goto (pc := 21) C 26 dX6_undo_21 (by decide) ?_
    obtain ⟨v26, hv26, h⟩ := lt_some h
    refine g_topi hv26 ?_
    cases h
    exact g_iret (pc := 26) C hP rfl rfl dX6_undo_26

theorem dX6_behind_0 : decode cX6_behind 0 = .ok (.iload_n 1, 1) := by decide +kernel
theorem dX6_behind_1 : decode cX6_behind 1 = .ok (.ifCond .lt 17, 3) := by decide +kernel
theorem dX6_behind_4 : decode cX6_behind 4 = .ok (.iload_n 1, 1) := by decide +kernel
theorem dX6_behind_5 : decode cX6_behind 5 = .ok (.bipush 20, 2) := by decide +kernel
theorem dX6_behind_7 : decode cX6_behind 7 = .ok (.if_icmp .gt 11, 3) := by decide +kernel
theorem dX6_behind_10 : decode cX6_behind 10 = .ok (.aload_n 0, 1) := by decide +kernel
theorem dX6_behind_11 : decode cX6_behind 11 = .ok (.iload_n 2, 1) := by decide +kernel
theorem dX6_behind_12 : decode cX6_behind 12 = .ok (.invokevirtual 100, 3) := by decide +kernel
theorem dX6_behind_15 : decode cX6_behind 15 = .ok (.ifCond .ne 5, 3) := by decide +kernel
theorem dX6_behind_18 : decode cX6_behind 18 = .ok (.iconst (-1), 1) := by decide +kernel
theorem dX6_behind_19 : decode cX6_behind 19 = .ok (.ireturn, 1) := by decide +kernel
theorem dX6_behind_20 : decode cX6_behind 20 = .ok (.aload_n 0, 1) := by decide +kernel
theorem dX6_behind_21 : decode cX6_behind 21 = .ok (.getfield 33, 3) := by decide +kernel
theorem dX6_behind_24 : decode cX6_behind 24 = .ok (.aload_n 0, 1) := by decide +kernel
theorem dX6_behind_25 : decode cX6_behind 25 = .ok (.getfield 29, 3) := by decide +kernel
theorem dX6_behind_28 : decode cX6_behind 28 = .ok (.invokevirtual 188, 3) := by decide +kernel
theorem dX6_behind_31 : decode cX6_behind 31 = .ok (.iconst 0, 1) := by decide +kernel
theorem dX6_behind_32 : decode cX6_behind 32 = .ok (.istore_n 3, 1) := by decide +kernel
theorem dX6_behind_33 : decode cX6_behind 33 = .ok (.iload_n 3, 1) := by decide +kernel
theorem dX6_behind_34 : decode cX6_behind 34 = .ok (.iload_n 1, 1) := by decide +kernel
theorem dX6_behind_35 : decode cX6_behind 35 = .ok (.if_icmp .ge 27, 3) := by decide +kernel
theorem dX6_behind_38 : decode cX6_behind 38 = .ok (.aload_n 0, 1) := by decide +kernel
theorem dX6_behind_39 : decode cX6_behind 39 = .ok (.getfield 39, 3) := by decide +kernel
theorem dX6_behind_42 : decode cX6_behind 42 = .ok (.aload_n 0, 1) := by decide +kernel
theorem dX6_behind_43 : decode cX6_behind 43 = .ok (.getfield 19, 3) := by decide +kernel
theorem dX6_behind_46 : decode cX6_behind 46 = .ok (.aload_n 0, 1) := by decide +kernel
theorem dX6_behind_47 : decode cX6_behind 47 = .ok (.getfield 33, 3) := by decide +kernel
theorem dX6_behind_50 : decode cX6_behind 50 = .ok (.bipush 63, 2) := by decide +kernel
theorem dX6_behind_52 : decode cX6_behind 52 = .ok (.invokevirtual 162, 3) := by decide +kernel
theorem dX6_behind_55 : decode cX6_behind 55 = .ok (.pop, 1) := by decide +kernel
theorem dX6_behind_56 : decode cX6_behind 56 = .ok (.iinc 3 1, 3) := by decide +kernel
theorem dX6_behind_59 : decode cX6_behind 59 = .ok (.goto (-26), 3) := by decide +kernel
theorem dX6_behind_62 : decode cX6_behind 62 = .ok (.aload_n 0, 1) := by decide +kernel
theorem dX6_behind_63 : decode cX6_behind 63 = .ok (.aload_n 0, 1) := by decide +kernel
theorem dX6_behind_64 : decode cX6_behind 64 = .ok (.getfield 33, 3) := by decide +kernel
theorem dX6_behind_67 : decode cX6_behind 67 = .ok (.iload_n 2, 1) := by decide +kernel
theorem dX6_behind_68 : decode cX6_behind 68 = .ok (.invokevirtual 103, 3) := by decide +kernel
theorem dX6_behind_71 : decode cX6_behind 71 = .ok (.ireturn, 1) := by decide +kernel
noncomputable def f_X6_behind_b33 (sh : Nat) (l1 : Int32) (l2 : Int32) (q : Int32 × Mem) : Option ((Int32 × Mem) ⊕ (Int32 × Mem)) :=
  if l1 ≤ q.1 then (some (.inr (q.1, q.2))) else (ob2 (f_X3_hold sh 35 63 q.2) fun r52 m52 => lt' (q.1 + 1) fun v56 => some (.inl (v56, m52)))
noncomputable def f_X6_behind (sh : Nat) (l1 : Int32) (l2 : Int32) (mem : Mem) : Option (Int32 × Mem) :=
  if l1 < 0 then (some ((-1), mem)) else (if 20 < l1 then (some ((-1), mem)) else (ob (f_X6_isSquare sh l2 mem) fun r12 => if r12 = 0 then (some ((-1), mem)) else (ob (f_X0_copy 35 31 mem) fun m28 => ob (lp (f_X6_behind_b33 sh l1 l2) FU (0, m28)) fun q33 => ob (f_X6_letterIn 35 sh l2 q33.2) fun r68 => some (r68, q33.2))))
def P_X6_behind_33 (E : Ex) (κ : Kx) (ad : Nat → Nat) (lay : List Ent) (sh : Nat) (l1 : Int32) (l2 : Int32) : (Int32 × Mem) ⊕ (Int32 × Mem) → Prop
  | .inl q => Gw E κ 4 0 0 33 [some (.ref (ad 0)), some (.int l1), some (.int l2), some (.int q.1)] [] ad lay q.2
  | .inr q => Gw E κ 4 0 0 62 [some (.ref (ad 0)), none, some (.int l2), none] [] ad lay q.2
set_option maxRecDepth 100000 in
set_option maxHeartbeats 4000000 in
theorem b_X6_behind_33 {E : Ex} {κ : Kx} {ad : Nat → Nat} {sh sp : Nat} {tl : List Ent} {d : Nat} (C : Cx E κ cX6_behind RX6 4 (some .int) d) (hd : 5 ≤ d) (hsh : isS sh) (hsp : isS sp) {l1 : Int32} {l2 : Int32} {q : Int32 × Mem} {x : (Int32 × Mem) ⊕ (Int32 × Mem)} (h : f_X6_behind_b33 sh l1 l2 q = some x) (hP : (P_X6_behind_33 E κ ad (LC sh sp ++ tl) sh l1 l2) x) : Gw E κ 4 0 0 33 [some (.ref (ad 0)), some (.int l1), some (.int l2), some (.int q.1)] [] ad (LC sh sp ++ tl) q.2 := by
  unfold f_X6_behind_b33 at h
  refine g_iload_n (pc := 33) (i := 3) (x := q.1) C dX6_behind_33 rfl rfl ?_
  refine g_iload_n (pc := 34) (i := 1) (x := l1) C dX6_behind_34 rfl rfl ?_
  rcases ite_some' h with ⟨hc35, h⟩ | ⟨hc35, h⟩
  · refine g_icmp_ge_t (pc := 35) C 62 dX6_behind_35 (by decide) hc35 ?_
    refine g_mask (lv' := [some (.ref (ad 0)), none, some (.int l2), none]) [true, false, true, false] rfl ?_
    cases h
    exact hP
  · refine g_icmp_ge_f (pc := 35) C 62 dX6_behind_35 (by decide) hc35 ?_
    refine g_aload_n (pc := 38) (i := 0) (x := ad 0) C dX6_behind_38 rfl rfl ?_
    refine g_get (pc := 39) (v := .ref (ad 39)) C ok_X6 5 (by decide) wf_X6_39 dX6_behind_39 la_0 rfl ?_
    refine g_aload_n (pc := 42) (i := 0) (x := ad 0) C dX6_behind_42 rfl rfl ?_
    refine g_get (pc := 43) (v := .ref (ad sh)) C ok_X6 1 (by decide) wf_X6_19 dX6_behind_43 la_0 rfl ?_
    refine g_aload_n (pc := 46) (i := 0) (x := ad 0) C dX6_behind_46 rfl rfl ?_
    refine g_get (pc := 47) (v := .ref (ad 35)) C ok_X6 4 (by decide) wf_X6_33 dX6_behind_47 la_0 rfl ?_
    refine g_bipush (pc := 50) (v := 63) C dX6_behind_50 rfl ?_
    obtain ⟨r52, m52, hcall52, h⟩ := ob2_some h
    refine g_callN (pc := 52) C ce0 mi_X3_hold mv_X3_hold nm_X6_162 dX6_behind_52 ok_X3 [.ref (ad sh), .ref (ad 35), .int 63] [] la_39 (by omega) rfl rfl (Nat.le_of_ble_eq_true rfl) (m_X3_hold (d := d - 1) (by omega) hsh t_35 hcall52) ?_
    show Gw E κ 4 0 0 55 [some (.ref (ad 0)), some (.int l1), some (.int l2), some (.int q.1)] [.int r52] ad (LC sh sp ++ tl) m52
    refine g_pop (pc := 55) C dX6_behind_55 rfl ?_
    obtain ⟨v56, hv56, h⟩ := lt_some h
    refine g_iinc (pc := 56) (i := 3) (x := q.1) (v := v56) (lv' := [some (.ref (ad 0)), some (.int l1), some (.int l2), some (.int v56)]) C dX6_behind_56 rfl hv56.symm (by decide) rfl rfl ?_
    refine g_goto (pc := 59) C 33 dX6_behind_59 (by decide) ?_
    cases h
    exact hP
set_option maxRecDepth 100000 in
set_option maxHeartbeats 4000000 in
theorem m_X6_behind {E : Ex} {ad : Nat → Nat} {sh sp : Nat} {tl : List Ent} {d : Nat} (hd : 5 ≤ d) (hsh : isS sh) (hsp : isS sp) {l1 : Int32} {l2 : Int32} {mem : Mem} {r : Int32 × Mem} (h : f_X6_behind sh l1 l2 mem = some r) : Cl E yX6_behind cX6_behind 4 (some .int) d [.ref (ad 0), .int l1, .int l2] (some (.int r.1)) ad (LC sh sp ++ tl) mem (LC sh sp ++ tl) r.2 := by
  refine Cl.of [some (.ref (ad 0)), some (.int l1), some (.int l2), none] (by decide +kernel) rfl (Nat.le_of_ble_eq_true rfl) (fun κ C hP => ?_)
  have C : Cx E κ cX6_behind RX6 4 (some .int) d := C
  unfold f_X6_behind at h
  refine g_iload_n (pc := 0) (i := 1) (x := l1) C dX6_behind_0 rfl rfl ?_
  rcases ite_some' h with ⟨hc1, h⟩ | ⟨hc1, h⟩
  · refine g_if_lt_t (pc := 1) C 18 dX6_behind_1 (by decide) hc1 ?_
    refine g_iconst (pc := 18) (v := (-1)) C dX6_behind_18 rfl ?_
    cases h
    exact g_iret (pc := 19) C hP rfl rfl dX6_behind_19
  · refine g_if_lt_f (pc := 1) C 18 dX6_behind_1 (by decide) hc1 ?_
    refine g_iload_n (pc := 4) (i := 1) (x := l1) C dX6_behind_4 rfl rfl ?_
    refine g_bipush (pc := 5) (v := 20) C dX6_behind_5 rfl ?_
    rcases ite_some' h with ⟨hc7, h⟩ | ⟨hc7, h⟩
    · refine g_icmp_gt_t (pc := 7) C 18 dX6_behind_7 (by decide) hc7 ?_
      refine g_iconst (pc := 18) (v := (-1)) C dX6_behind_18 rfl ?_
      cases h
      exact g_iret (pc := 19) C hP rfl rfl dX6_behind_19
    · refine g_icmp_gt_f (pc := 7) C 18 dX6_behind_7 (by decide) hc7 ?_
      refine g_aload_n (pc := 10) (i := 0) (x := ad 0) C dX6_behind_10 rfl rfl ?_
      refine g_iload_n (pc := 11) (i := 2) (x := l2) C dX6_behind_11 rfl rfl ?_
      obtain ⟨r12, hcall12, h⟩ := ob_some h
      refine g_callV (pc := 12) C ce0 mi_X6_isSquare mv_X6_isSquare wm_X6_100 dX6_behind_12 ok_X6 [.int l2] [] la_0 (by omega) rfl rfl (Nat.le_of_ble_eq_true rfl) (m_X6_isSquare (d := d - 1) (by omega) hsh hsp hcall12) ?_
      show Gw E κ 4 0 0 15 [some (.ref (ad 0)), some (.int l1), some (.int l2), none] [.int r12] ad (LC sh sp ++ tl) mem
      rcases ite_some' h with ⟨hc15, h⟩ | ⟨hc15, h⟩
      · refine g_if_ne_f (pc := 15) C 20 dX6_behind_15 (by decide) hc15 ?_
        refine g_iconst (pc := 18) (v := (-1)) C dX6_behind_18 rfl ?_
        cases h
        exact g_iret (pc := 19) C hP rfl rfl dX6_behind_19
      · refine g_if_ne_t (pc := 15) C 20 dX6_behind_15 (by decide) hc15 ?_
        refine g_aload_n (pc := 20) (i := 0) (x := ad 0) C dX6_behind_20 rfl rfl ?_
        refine g_get (pc := 21) (v := .ref (ad 35)) C ok_X6 4 (by decide) wf_X6_33 dX6_behind_21 la_0 rfl ?_
        refine g_aload_n (pc := 24) (i := 0) (x := ad 0) C dX6_behind_24 rfl rfl ?_
        refine g_get (pc := 25) (v := .ref (ad 31)) C ok_X6 3 (by decide) wf_X6_29 dX6_behind_25 la_0 rfl ?_
        obtain ⟨m28, hcall28, h⟩ := ob_some h
        refine g_callN (pc := 28) C ce0 mi_X0_copy mv_X0_copy nm_X6_188 dX6_behind_28 ok_X0 [.ref (ad 31)] [] la_35 (by omega) rfl rfl (Nat.le_of_ble_eq_true rfl) (m_X0_copy (d := d - 1) (by omega) t_35 t_31 hcall28) ?_
        show Gw E κ 4 0 0 31 [some (.ref (ad 0)), some (.int l1), some (.int l2), none] [] ad (LC sh sp ++ tl) m28
        refine g_iconst (pc := 31) (v := 0) C dX6_behind_31 rfl ?_
        refine g_istore_n (pc := 32) (i := 3) (lv' := [some (.ref (ad 0)), some (.int l1), some (.int l2), some (.int 0)]) C dX6_behind_32 rfl (by decide) rfl rfl ?_
        obtain ⟨q33, hq, h⟩ := ob_some h
        refine lp_gw (P_X6_behind_33 E κ ad (LC sh sp ++ tl) sh l1 l2) (fun q x hb hp => b_X6_behind_33 C hd hsh hsp hb hp) _ (0, m28) _ hq ?_
        show Gw E κ 4 0 0 62 [some (.ref (ad 0)), none, some (.int l2), none] [] ad (LC sh sp ++ tl) q33.2
        refine g_aload_n (pc := 62) (i := 0) (x := ad 0) C dX6_behind_62 rfl rfl ?_
        refine g_aload_n (pc := 63) (i := 0) (x := ad 0) C dX6_behind_63 rfl rfl ?_
        refine g_get (pc := 64) (v := .ref (ad 35)) C ok_X6 4 (by decide) wf_X6_33 dX6_behind_64 la_0 rfl ?_
        refine g_iload_n (pc := 67) (i := 2) (x := l2) C dX6_behind_67 rfl rfl ?_
        obtain ⟨r68, hcall68, h⟩ := ob_some h
        refine g_callV (pc := 68) C ce0 mi_X6_letterIn mv_X6_letterIn wm_X6_103 dX6_behind_68 ok_X6 [.ref (ad 35), .int l2] [] la_0 (by omega) rfl rfl (Nat.le_of_ble_eq_true rfl) (m_X6_letterIn (d := d - 1) (by omega) t_35 hsh hsp hcall68) ?_
        show Gw E κ 4 0 0 71 [some (.ref (ad 0)), none, some (.int l2), none] [.int r68] ad (LC sh sp ++ tl) q33.2
        cases h
        exact g_iret (pc := 71) C hP rfl rfl dX6_behind_71

theorem dX6_dead_0 : decode cX6_dead 0 = .ok (.iconst 0, 1) := by decide +kernel
theorem dX6_dead_1 : decode cX6_dead 1 = .ok (.istore_n 1, 1) := by decide +kernel
theorem dX6_dead_2 : decode cX6_dead 2 = .ok (.iconst 0, 1) := by decide +kernel
theorem dX6_dead_3 : decode cX6_dead 3 = .ok (.istore_n 2, 1) := by decide +kernel
theorem dX6_dead_4 : decode cX6_dead 4 = .ok (.iload_n 2, 1) := by decide +kernel
theorem dX6_dead_5 : decode cX6_dead 5 = .ok (.aload_n 0, 1) := by decide +kernel
theorem dX6_dead_6 : decode cX6_dead 6 = .ok (.getfield 19, 3) := by decide +kernel
theorem dX6_dead_9 : decode cX6_dead 9 = .ok (.getfield 97, 3) := by decide +kernel
theorem dX6_dead_12 : decode cX6_dead 12 = .ok (.if_icmp .ge 45, 3) := by decide +kernel
theorem dX6_dead_15 : decode cX6_dead 15 = .ok (.aload_n 0, 1) := by decide +kernel
theorem dX6_dead_16 : decode cX6_dead 16 = .ok (.getfield 19, 3) := by decide +kernel
theorem dX6_dead_19 : decode cX6_dead 19 = .ok (.aload_n 0, 1) := by decide +kernel
theorem dX6_dead_20 : decode cX6_dead 20 = .ok (.getfield 29, 3) := by decide +kernel
theorem dX6_dead_23 : decode cX6_dead 23 = .ok (.iload_n 2, 1) := by decide +kernel
theorem dX6_dead_24 : decode cX6_dead 24 = .ok (.invokevirtual 119, 3) := by decide +kernel
theorem dX6_dead_27 : decode cX6_dead 27 = .ok (.ifCond .ne 24, 3) := by decide +kernel
theorem dX6_dead_30 : decode cX6_dead 30 = .ok (.aload_n 0, 1) := by decide +kernel
theorem dX6_dead_31 : decode cX6_dead 31 = .ok (.getfield 19, 3) := by decide +kernel
theorem dX6_dead_34 : decode cX6_dead 34 = .ok (.aload_n 0, 1) := by decide +kernel
theorem dX6_dead_35 : decode cX6_dead 35 = .ok (.getfield 29, 3) := by decide +kernel
theorem dX6_dead_38 : decode cX6_dead 38 = .ok (.iload_n 2, 1) := by decide +kernel
theorem dX6_dead_39 : decode cX6_dead 39 = .ok (.invokevirtual 123, 3) := by decide +kernel
theorem dX6_dead_42 : decode cX6_dead 42 = .ok (.ifCond .ne 9, 3) := by decide +kernel
theorem dX6_dead_45 : decode cX6_dead 45 = .ok (.iload_n 1, 1) := by decide +kernel
theorem dX6_dead_46 : decode cX6_dead 46 = .ok (.iconst 1, 1) := by decide +kernel
theorem dX6_dead_47 : decode cX6_dead 47 = .ok (.iload_n 2, 1) := by decide +kernel
theorem dX6_dead_48 : decode cX6_dead 48 = .ok (.ishl, 1) := by decide +kernel
theorem dX6_dead_49 : decode cX6_dead 49 = .ok (.ior, 1) := by decide +kernel
theorem dX6_dead_50 : decode cX6_dead 50 = .ok (.istore_n 1, 1) := by decide +kernel
theorem dX6_dead_51 : decode cX6_dead 51 = .ok (.iinc 2 1, 3) := by decide +kernel
theorem dX6_dead_54 : decode cX6_dead 54 = .ok (.goto (-50), 3) := by decide +kernel
theorem dX6_dead_57 : decode cX6_dead 57 = .ok (.iload_n 1, 1) := by decide +kernel
theorem dX6_dead_58 : decode cX6_dead 58 = .ok (.ireturn, 1) := by decide +kernel
noncomputable def f_X6_dead_b4 (sh : Nat) (mem : Mem) (q : Int32 × Int32) : Option ((Int32 × Int32) ⊕ (Int32 × Int32)) :=
  if (mem sh 3) ≤ q.2 then (some (.inr (q.1, q.2))) else (ob (f_X5_isFilled sh 31 q.2 mem) fun r24 => if r24 = 0 then (ob (f_X5_fitting sh 31 q.2 mem) fun r39 => if r39 = 0 then (lt' (q.1 ||| (1 <<< (q.2 &&& 31))) fun v50 => lt' (q.2 + 1) fun v51 => some (.inl (v50, v51))) else (lt' (q.2 + 1) fun v51 => some (.inl (q.1, v51)))) else (lt' (q.2 + 1) fun v51 => some (.inl (q.1, v51))))
noncomputable def f_X6_dead (sh : Nat)  (mem : Mem) : Option (Int32) :=
  ob (lp (f_X6_dead_b4 sh mem) FU (0, 0)) fun q4 => some q4.1
def P_X6_dead_4 (E : Ex) (κ : Kx) (ad : Nat → Nat) (lay : List Ent) (sh : Nat) (mem : Mem) : (Int32 × Int32) ⊕ (Int32 × Int32) → Prop
  | .inl q => Gw E κ 3 0 0 4 [some (.ref (ad 0)), some (.int q.1), some (.int q.2)] [] ad lay mem
  | .inr q => Gw E κ 3 0 0 57 [none, some (.int q.1), none] [] ad lay mem
set_option maxRecDepth 100000 in
set_option maxHeartbeats 4000000 in
theorem b_X6_dead_4 {E : Ex} {κ : Kx} {ad : Nat → Nat} {sh sp : Nat} {tl : List Ent} {d : Nat} (C : Cx E κ cX6_dead RX6 3 (some .int) d) (hd : 2 ≤ d) (hsh : isS sh) (hsp : isS sp) {mem : Mem} {q : Int32 × Int32} {x : (Int32 × Int32) ⊕ (Int32 × Int32)} (h : f_X6_dead_b4 sh mem q = some x) (hP : (P_X6_dead_4 E κ ad (LC sh sp ++ tl) sh mem) x) : Gw E κ 3 0 0 4 [some (.ref (ad 0)), some (.int q.1), some (.int q.2)] [] ad (LC sh sp ++ tl) mem := by
  unfold f_X6_dead_b4 at h
  refine g_iload_n (pc := 4) (i := 2) (x := q.2) C dX6_dead_4 rfl rfl ?_
  refine g_aload_n (pc := 5) (i := 0) (x := ad 0) C dX6_dead_5 rfl rfl ?_
  refine g_get (pc := 6) (v := .ref (ad sh)) C ok_X6 1 (by decide) wf_X6_19 dX6_dead_6 la_0 rfl ?_
  refine g_getN (pc := 9) (v := .int (mem sh 3)) C ok_X5 3 (by decide) nf_X6_97 dX6_dead_9 (lz_0 hsh) rfl ?_
  rcases ite_some' h with ⟨hc12, h⟩ | ⟨hc12, h⟩
  · refine g_icmp_ge_t (pc := 12) C 57 dX6_dead_12 (by decide) hc12 ?_
    refine g_mask (lv' := [none, some (.int q.1), none]) [false, true, false] rfl ?_
    cases h
    exact hP
  · refine g_icmp_ge_f (pc := 12) C 57 dX6_dead_12 (by decide) hc12 ?_
    refine g_aload_n (pc := 15) (i := 0) (x := ad 0) C dX6_dead_15 rfl rfl ?_
    refine g_get (pc := 16) (v := .ref (ad sh)) C ok_X6 1 (by decide) wf_X6_19 dX6_dead_16 la_0 rfl ?_
    refine g_aload_n (pc := 19) (i := 0) (x := ad 0) C dX6_dead_19 rfl rfl ?_
    refine g_get (pc := 20) (v := .ref (ad 31)) C ok_X6 3 (by decide) wf_X6_29 dX6_dead_20 la_0 rfl ?_
    refine g_iload_n (pc := 23) (i := 2) (x := q.2) C dX6_dead_23 rfl rfl ?_
    obtain ⟨r24, hcall24, h⟩ := ob_some h
    refine g_callN (pc := 24) C ce0 mi_X5_isFilled mv_X5_isFilled nm_X6_119 dX6_dead_24 ok_X5 [.ref (ad 31), .int q.2] [] (lz_0 hsh) (by omega) rfl rfl (Nat.le_of_ble_eq_true rfl) (m_X5_isFilled (d := d - 1) (by omega) hsh t_31 hcall24) ?_
    show Gw E κ 3 0 0 27 [some (.ref (ad 0)), some (.int q.1), some (.int q.2)] [.int r24] ad (LC sh sp ++ tl) mem
    rcases ite_some' h with ⟨hc27, h⟩ | ⟨hc27, h⟩
    · refine g_if_ne_f (pc := 27) C 51 dX6_dead_27 (by decide) hc27 ?_
      refine g_aload_n (pc := 30) (i := 0) (x := ad 0) C dX6_dead_30 rfl rfl ?_
      refine g_get (pc := 31) (v := .ref (ad sh)) C ok_X6 1 (by decide) wf_X6_19 dX6_dead_31 la_0 rfl ?_
      refine g_aload_n (pc := 34) (i := 0) (x := ad 0) C dX6_dead_34 rfl rfl ?_
      refine g_get (pc := 35) (v := .ref (ad 31)) C ok_X6 3 (by decide) wf_X6_29 dX6_dead_35 la_0 rfl ?_
      refine g_iload_n (pc := 38) (i := 2) (x := q.2) C dX6_dead_38 rfl rfl ?_
      obtain ⟨r39, hcall39, h⟩ := ob_some h
      refine g_callN (pc := 39) C ce0 mi_X5_fitting mv_X5_fitting nm_X6_123 dX6_dead_39 ok_X5 [.ref (ad 31), .int q.2] [] (lz_0 hsh) (by omega) rfl rfl (Nat.le_of_ble_eq_true rfl) (m_X5_fitting (d := d - 1) (by omega) hsh t_31 hcall39) ?_
      show Gw E κ 3 0 0 42 [some (.ref (ad 0)), some (.int q.1), some (.int q.2)] [.int r39] ad (LC sh sp ++ tl) mem
      rcases ite_some' h with ⟨hc42, h⟩ | ⟨hc42, h⟩
      · refine g_if_ne_f (pc := 42) C 51 dX6_dead_42 (by decide) hc42 ?_
        refine g_iload_n (pc := 45) (i := 1) (x := q.1) C dX6_dead_45 rfl rfl ?_
        refine g_iconst (pc := 46) (v := 1) C dX6_dead_46 rfl ?_
        refine g_iload_n (pc := 47) (i := 2) (x := q.2) C dX6_dead_47 rfl rfl ?_
        refine g_ishl (pc := 48) C dX6_dead_48 ?_
        refine g_ior (pc := 49) C dX6_dead_49 ?_
        obtain ⟨v50, hv50, h⟩ := lt_some h
        refine g_topi hv50 ?_
        refine g_istore_n (pc := 50) (i := 1) (lv' := [some (.ref (ad 0)), some (.int v50), some (.int q.2)]) C dX6_dead_50 rfl (by decide) rfl rfl ?_
        obtain ⟨v51, hv51, h⟩ := lt_some h
        refine g_iinc (pc := 51) (i := 2) (x := q.2) (v := v51) (lv' := [some (.ref (ad 0)), some (.int v50), some (.int v51)]) C dX6_dead_51 rfl hv51.symm (by decide) rfl rfl ?_
        refine g_goto (pc := 54) C 4 dX6_dead_54 (by decide) ?_
        cases h
        exact hP
      · refine g_if_ne_t (pc := 42) C 51 dX6_dead_42 (by decide) hc42 ?_
        obtain ⟨v51, hv51, h⟩ := lt_some h
        refine g_iinc (pc := 51) (i := 2) (x := q.2) (v := v51) (lv' := [some (.ref (ad 0)), some (.int q.1), some (.int v51)]) C dX6_dead_51 rfl hv51.symm (by decide) rfl rfl ?_
        refine g_goto (pc := 54) C 4 dX6_dead_54 (by decide) ?_
        cases h
        exact hP
    · refine g_if_ne_t (pc := 27) C 51 dX6_dead_27 (by decide) hc27 ?_
      obtain ⟨v51, hv51, h⟩ := lt_some h
      refine g_iinc (pc := 51) (i := 2) (x := q.2) (v := v51) (lv' := [some (.ref (ad 0)), some (.int q.1), some (.int v51)]) C dX6_dead_51 rfl hv51.symm (by decide) rfl rfl ?_
      refine g_goto (pc := 54) C 4 dX6_dead_54 (by decide) ?_
      cases h
      exact hP
set_option maxRecDepth 100000 in
set_option maxHeartbeats 4000000 in
theorem m_X6_dead {E : Ex} {ad : Nat → Nat} {sh sp : Nat} {tl : List Ent} {d : Nat} (hd : 2 ≤ d) (hsh : isS sh) (hsp : isS sp)  {mem : Mem} {r : Int32} (h : f_X6_dead sh mem = some r) : Cl E yX6_dead cX6_dead 3 (some .int) d [.ref (ad 0)] (some (.int r)) ad (LC sh sp ++ tl) mem (LC sh sp ++ tl) mem := by
  refine Cl.of [some (.ref (ad 0)), none, none] (by decide +kernel) rfl (Nat.le_of_ble_eq_true rfl) (fun κ C hP => ?_)
  have C : Cx E κ cX6_dead RX6 3 (some .int) d := C
  unfold f_X6_dead at h
  refine g_iconst (pc := 0) (v := 0) C dX6_dead_0 rfl ?_
  refine g_istore_n (pc := 1) (i := 1) (lv' := [some (.ref (ad 0)), some (.int 0), none]) C dX6_dead_1 rfl (by decide) rfl rfl ?_
  refine g_iconst (pc := 2) (v := 0) C dX6_dead_2 rfl ?_
  refine g_istore_n (pc := 3) (i := 2) (lv' := [some (.ref (ad 0)), some (.int 0), some (.int 0)]) C dX6_dead_3 rfl (by decide) rfl rfl ?_
  obtain ⟨q4, hq, h⟩ := ob_some h
  refine lp_gw (P_X6_dead_4 E κ ad (LC sh sp ++ tl) sh mem) (fun q x hb hp => b_X6_dead_4 C hd hsh hsp hb hp) _ (0, 0) _ hq ?_
  show Gw E κ 3 0 0 57 [none, some (.int q4.1), none] [] ad (LC sh sp ++ tl) mem
  refine g_iload_n (pc := 57) (i := 1) (x := q4.1) C dX6_dead_57 rfl rfl ?_
  cases h
  exact g_iret (pc := 58) C hP rfl rfl dX6_dead_58
