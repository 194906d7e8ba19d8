theorem dX7_undo_0 : decode cX7_undo 0 = .ok (.aload_n 0, 1) := by decide +kernel
theorem dX7_undo_1 : decode cX7_undo 1 = .ok (.getfield 189, 3) := by decide +kernel
theorem dX7_undo_4 : decode cX7_undo 4 = .ok (.ifCond .ne 6, 3) := by decide +kernel
theorem dX7_undo_7 : decode cX7_undo 7 = .ok (.bipush (-2), 2) := by decide +kernel
theorem dX7_undo_9 : decode cX7_undo 9 = .ok (.ireturn, 1) := by decide +kernel
theorem dX7_undo_10 : decode cX7_undo 10 = .ok (.aload_n 0, 1) := by decide +kernel
theorem dX7_undo_11 : decode cX7_undo 11 = .ok (.aload_n 0, 1) := by decide +kernel
theorem dX7_undo_12 : decode cX7_undo 12 = .ok (.getfield 254, 3) := by decide +kernel
theorem dX7_undo_15 : decode cX7_undo 15 = .ok (.bipush 8, 2) := by decide +kernel
theorem dX7_undo_17 : decode cX7_undo 17 = .ok (.iadd, 1) := by decide +kernel
theorem dX7_undo_18 : decode cX7_undo 18 = .ok (.iconst 1, 1) := by decide +kernel
theorem dX7_undo_19 : decode cX7_undo 19 = .ok (.isub, 1) := by decide +kernel
theorem dX7_undo_20 : decode cX7_undo 20 = .ok (.bipush 8, 2) := by decide +kernel
theorem dX7_undo_22 : decode cX7_undo 22 = .ok (.irem, 1) := by decide +kernel
theorem dX7_undo_23 : decode cX7_undo 23 = .ok (.putfield 254, 3) := by decide +kernel
theorem dX7_undo_26 : decode cX7_undo 26 = .ok (.aload_n 0, 1) := by decide +kernel
theorem dX7_undo_27 : decode cX7_undo 27 = .ok (.dup, 1) := by decide +kernel
theorem dX7_undo_28 : decode cX7_undo 28 = .ok (.getfield 189, 3) := by decide +kernel
theorem dX7_undo_31 : decode cX7_undo 31 = .ok (.iconst 1, 1) := by decide +kernel
theorem dX7_undo_32 : decode cX7_undo 32 = .ok (.isub, 1) := by decide +kernel
theorem dX7_undo_33 : decode cX7_undo 33 = .ok (.putfield 189, 3) := by decide +kernel
theorem dX7_undo_36 : decode cX7_undo 36 = .ok (.iconst 0, 1) := by decide +kernel
theorem dX7_undo_37 : decode cX7_undo 37 = .ok (.istore_n 1, 1) := by decide +kernel
theorem dX7_undo_38 : decode cX7_undo 38 = .ok (.iload_n 1, 1) := by decide +kernel
theorem dX7_undo_39 : decode cX7_undo 39 = .ok (.bipush 28, 2) := by decide +kernel
theorem dX7_undo_41 : decode cX7_undo 41 = .ok (.if_icmp .ge 29, 3) := by decide +kernel
theorem dX7_undo_44 : decode cX7_undo 44 = .ok (.aload_n 0, 1) := by decide +kernel
theorem dX7_undo_45 : decode cX7_undo 45 = .ok (.getfield 52, 3) := by decide +kernel
theorem dX7_undo_48 : decode cX7_undo 48 = .ok (.iload_n 1, 1) := by decide +kernel
theorem dX7_undo_49 : decode cX7_undo 49 = .ok (.aload_n 0, 1) := by decide +kernel
theorem dX7_undo_50 : decode cX7_undo 50 = .ok (.getfield 68, 3) := by decide +kernel
theorem dX7_undo_53 : decode cX7_undo 53 = .ok (.bipush 28, 2) := by decide +kernel
theorem dX7_undo_55 : decode cX7_undo 55 = .ok (.aload_n 0, 1) := by decide +kernel
theorem dX7_undo_56 : decode cX7_undo 56 = .ok (.getfield 254, 3) := by decide +kernel
theorem dX7_undo_59 : decode cX7_undo 59 = .ok (.imul, 1) := by decide +kernel
theorem dX7_undo_60 : decode cX7_undo 60 = .ok (.iload_n 1, 1) := by decide +kernel
theorem dX7_undo_61 : decode cX7_undo 61 = .ok (.iadd, 1) := by decide +kernel
theorem dX7_undo_62 : decode cX7_undo 62 = .ok (.iaload, 1) := by decide +kernel
theorem dX7_undo_63 : decode cX7_undo 63 = .ok (.iastore, 1) := by decide +kernel
theorem dX7_undo_64 : decode cX7_undo 64 = .ok (.iinc 1 1, 3) := by decide +kernel
theorem dX7_undo_67 : decode cX7_undo 67 = .ok (.goto (-29), 3) := by decide +kernel
theorem dX7_undo_70 : decode cX7_undo 70 = .ok (.aload_n 0, 1) := by decide +kernel
theorem dX7_undo_71 : decode cX7_undo 71 = .ok (.getfield 189, 3) := by decide +kernel
theorem dX7_undo_74 : decode cX7_undo 74 = .ok (.ireturn, 1) := by decide +kernel
noncomputable def f_X7_undo_b38 (q : Int32 × Mem) : Option ((Int32 × Mem) ⊕ (Int32 × Mem)) :=
  if 28 ≤ q.1 then (some (.inr (q.1, q.2))) else (rd (q.2 82) 224 ((28 * (q.2 62 32)) + q.1) fun v62 => wr q.2 77 28 q.1 v62 fun m63 => lt' (q.1 + 1) fun v64 => some (.inl (v64, m63)))
noncomputable def f_X7_undo  (mem : Mem) : Option (Int32 × Mem) :=
  if (mem 62 31) = 0 then (some ((-2), mem)) else (lt' (mset mem 62 32 (irm (((mem 62 32) + 8) - 1) 8)) fun m23 => lt' (mset m23 62 31 ((m23 62 31) - 1)) fun m33 => ob (lp f_X7_undo_b38 FU (0, m33)) fun q38 => lt' (q38.2 62 31) fun v74 => some (v74, q38.2))
def P_X7_undo_38 (E : Ex) (κ : Kx) (ad : Nat → Nat) (lay : List Ent) : (Int32 × Mem) ⊕ (Int32 × Mem) → Prop
  | .inl q => Gw E κ 2 0 0 38 [some (.ref (ad 62)), some (.int q.1)] [] ad lay q.2
  | .inr q => Gw E κ 2 0 0 70 [some (.ref (ad 62)), none] [] ad lay q.2
set_option maxRecDepth 100000 in
set_option maxHeartbeats 4000000 in
theorem b_X7_undo_38 {E : Ex} {κ : Kx} {ad : Nat → Nat} {sh sp : Nat} {d : Nat} (C : Cx E κ cX7_undo RX7 2 (some .int) d) (hd : 0 ≤ d)  {q : Int32 × Mem} {x : (Int32 × Mem) ⊕ (Int32 × Mem)} (h : f_X7_undo_b38  q = some x) (hP : (P_X7_undo_38 E κ ad (LC sh sp ++ LM) ) x) : Gw E κ 2 0 0 38 [some (.ref (ad 62)), some (.int q.1)] [] ad (LC sh sp ++ LM) q.2 := by
  unfold f_X7_undo_b38 at h
  refine g_iload_n (pc := 38) (i := 1) (x := q.1) C dX7_undo_38 rfl rfl ?_
  refine g_bipush (pc := 39) (v := 28) C dX7_undo_39 rfl ?_
  rcases ite_some' h with ⟨hc41, h⟩ | ⟨hc41, h⟩
  · refine g_icmp_ge_t (pc := 41) C 70 dX7_undo_41 (by decide) hc41 ?_
    refine g_mask (lv' := [some (.ref (ad 62)), none]) [true, false] rfl ?_
    cases h
    exact hP
  · refine g_icmp_ge_f (pc := 41) C 70 dX7_undo_41 (by decide) hc41 ?_
    refine g_aload_n (pc := 44) (i := 0) (x := ad 62) C dX7_undo_44 rfl rfl ?_
    refine g_get (pc := 45) (v := .ref (ad 77)) C ok_X7 26 (by decide) wf_X7_52 dX7_undo_45 la_62 rfl ?_
    refine g_iload_n (pc := 48) (i := 1) (x := q.1) C dX7_undo_48 rfl rfl ?_
    refine g_aload_n (pc := 49) (i := 0) (x := ad 62) C dX7_undo_49 rfl rfl ?_
    refine g_get (pc := 50) (v := .ref (ad 82)) C ok_X7 33 (by decide) wf_X7_68 dX7_undo_50 la_62 rfl ?_
    refine g_bipush (pc := 53) (v := 28) C dX7_undo_53 rfl ?_
    refine g_aload_n (pc := 55) (i := 0) (x := ad 62) C dX7_undo_55 rfl rfl ?_
    refine g_get (pc := 56) (v := .int (q.2 62 32)) C ok_X7 32 (by decide) wf_X7_254 dX7_undo_56 la_62 rfl ?_
    refine g_imul (pc := 59) C dX7_undo_59 ?_
    refine g_iload_n (pc := 60) (i := 1) (x := q.1) C dX7_undo_60 rfl rfl ?_
    refine g_iadd (pc := 61) C dX7_undo_61 ?_
    obtain ⟨v62, hv62, hi62, h⟩ := rd_some h
    refine g_iald (pc := 62) C dX7_undo_62 la_82 hi62 ?_
    refine g_topi hv62 ?_
    obtain ⟨m63, hm63, hi63, h⟩ := wr_some h
    refine g_iast (pc := 63) C dX7_undo_63 la_77 hi63 ?_
    refine g_mem hm63 ?_
    obtain ⟨v64, hv64, h⟩ := lt_some h
    refine g_iinc (pc := 64) (i := 1) (x := q.1) (v := v64) (lv' := [some (.ref (ad 62)), some (.int v64)]) C dX7_undo_64 rfl hv64.symm (by decide) rfl rfl ?_
    refine g_goto (pc := 67) C 38 dX7_undo_67 (by decide) ?_
    cases h
    exact hP
set_option maxRecDepth 100000 in
set_option maxHeartbeats 4000000 in
theorem m_X7_undo {E : Ex} {ad : Nat → Nat} {sh sp : Nat} {d : Nat} (hd : 0 ≤ d)   {mem : Mem} {r : Int32 × Mem} (h : f_X7_undo mem = some r) : Cl E yX7_undo cX7_undo 2 (some .int) d [.ref (ad 62)] (some (.int r.1)) ad (LC sh sp ++ LM) mem (LC sh sp ++ LM) r.2 := by
  refine Cl.of [some (.ref (ad 62)), none] (by decide +kernel) rfl (Nat.le_of_ble_eq_true rfl) (fun κ C hP => ?_)
  have C : Cx E κ cX7_undo RX7 2 (some .int) d := C
  unfold f_X7_undo at h
  refine g_aload_n (pc := 0) (i := 0) (x := ad 62) C dX7_undo_0 rfl rfl ?_
  refine g_get (pc := 1) (v := .int (mem 62 31)) C ok_X7 31 (by decide) wf_X7_189 dX7_undo_1 la_62 rfl ?_
  rcases ite_some' h with ⟨hc4, h⟩ | ⟨hc4, h⟩
  · refine g_if_ne_f (pc := 4) C 10 dX7_undo_4 (by decide) hc4 ?_
    refine g_bipush (pc := 7) (v := (-2)) C dX7_undo_7 rfl ?_
    cases h
    exact g_iret (pc := 9) C hP rfl rfl dX7_undo_9
  · refine g_if_ne_t (pc := 4) C 10 dX7_undo_4 (by decide) hc4 ?_
    refine g_aload_n (pc := 10) (i := 0) (x := ad 62) C dX7_undo_10 rfl rfl ?_
    refine g_aload_n (pc := 11) (i := 0) (x := ad 62) C dX7_undo_11 rfl rfl ?_
    refine g_get (pc := 12) (v := .int (mem 62 32)) C ok_X7 32 (by decide) wf_X7_254 dX7_undo_12 la_62 rfl ?_
    refine g_bipush (pc := 15) (v := 8) C dX7_undo_15 rfl ?_
    refine g_iadd (pc := 17) C dX7_undo_17 ?_
    refine g_iconst (pc := 18) (v := 1) C dX7_undo_18 rfl ?_
    refine g_isub (pc := 19) C dX7_undo_19 ?_
    refine g_bipush (pc := 20) (v := 8) C dX7_undo_20 rfl ?_
    refine g_irem' (pc := 22) C dX7_undo_22 (by decide) ?_
    obtain ⟨m23, hm23, h⟩ := lt_some h
    refine g_put (pc := 23) C ok_X7 32 (by decide) wf_X7_254 dX7_undo_23 rfl rfl la_62 ?_
    refine g_mem hm23 ?_
    refine g_aload_n (pc := 26) (i := 0) (x := ad 62) C dX7_undo_26 rfl rfl ?_
    refine g_dup (pc := 27) C dX7_undo_27 rfl ?_
    refine g_get (pc := 28) (v := .int (m23 62 31)) C ok_X7 31 (by decide) wf_X7_189 dX7_undo_28 la_62 rfl ?_
    refine g_iconst (pc := 31) (v := 1) C dX7_undo_31 rfl ?_
    refine g_isub (pc := 32) C dX7_undo_32 ?_
    obtain ⟨m33, hm33, h⟩ := lt_some h
    refine g_put (pc := 33) C ok_X7 31 (by decide) wf_X7_189 dX7_undo_33 rfl rfl la_62 ?_
    refine g_mem hm33 ?_
    refine g_iconst (pc := 36) (v := 0) C dX7_undo_36 rfl ?_
    refine g_istore_n (pc := 37) (i := 1) (lv' := [some (.ref (ad 62)), some (.int 0)]) C dX7_undo_37 rfl (by decide) rfl rfl ?_
    obtain ⟨q38, hq, h⟩ := ob_some h
    refine lp_gw (P_X7_undo_38 E κ ad (LC sh sp ++ LM) ) (fun q x hb hp => b_X7_undo_38 C hd hb hp) _ (0, m33) _ hq ?_
    show Gw E κ 2 0 0 70 [some (.ref (ad 62)), none] [] ad (LC sh sp ++ LM) q38.2
    refine g_aload_n (pc := 70) (i := 0) (x := ad 62) C dX7_undo_70 rfl rfl ?_
    refine g_get (pc := 71) (v := .int (q38.2 62 31)) C ok_X7 31 (by decide) wf_X7_189 dX7_undo_71 la_62 rfl ?_
    obtain ⟨v74, hv74, h⟩ := lt_some h
    refine g_topi hv74 ?_
    cases h
    exact g_iret (pc := 74) C hP rfl rfl dX7_undo_74

theorem dX7_behind_0 : decode cX7_behind 0 = .ok (.iload_n 1, 1) := by decide +kernel
theorem dX7_behind_1 : decode cX7_behind 1 = .ok (.iconst 0, 1) := by decide +kernel
theorem dX7_behind_2 : decode cX7_behind 2 = .ok (.bipush 20, 2) := by decide +kernel
theorem dX7_behind_4 : decode cX7_behind 4 = .ok (.invokestatic 123, 3) := by decide +kernel
theorem dX7_behind_7 : decode cX7_behind 7 = .ok (.ifCond .eq 11, 3) := by decide +kernel
theorem dX7_behind_10 : decode cX7_behind 10 = .ok (.aload_n 0, 1) := by decide +kernel
theorem dX7_behind_11 : decode cX7_behind 11 = .ok (.iload_n 2, 1) := by decide +kernel
theorem dX7_behind_12 : decode cX7_behind 12 = .ok (.invokevirtual 201, 3) := by decide +kernel
theorem dX7_behind_15 : decode cX7_behind 15 = .ok (.ifCond .ne 5, 3) := by decide +kernel
theorem dX7_behind_18 : decode cX7_behind 18 = .ok (.iconst (-1), 1) := by decide +kernel
theorem dX7_behind_19 : decode cX7_behind 19 = .ok (.ireturn, 1) := by decide +kernel
theorem dX7_behind_20 : decode cX7_behind 20 = .ok (.aload_n 0, 1) := by decide +kernel
theorem dX7_behind_21 : decode cX7_behind 21 = .ok (.invokevirtual 266, 3) := by decide +kernel
theorem dX7_behind_24 : decode cX7_behind 24 = .ok (.iconst 0, 1) := by decide +kernel
theorem dX7_behind_25 : decode cX7_behind 25 = .ok (.istore_n 3, 1) := by decide +kernel
theorem dX7_behind_26 : decode cX7_behind 26 = .ok (.iload_n 3, 1) := by decide +kernel
theorem dX7_behind_27 : decode cX7_behind 27 = .ok (.iload_n 1, 1) := by decide +kernel
theorem dX7_behind_28 : decode cX7_behind 28 = .ok (.if_icmp .ge 19, 3) := by decide +kernel
theorem dX7_behind_31 : decode cX7_behind 31 = .ok (.aload_n 0, 1) := by decide +kernel
theorem dX7_behind_32 : decode cX7_behind 32 = .ok (.aload_n 0, 1) := by decide +kernel
theorem dX7_behind_33 : decode cX7_behind 33 = .ok (.getfield 55, 3) := by decide +kernel
theorem dX7_behind_36 : decode cX7_behind 36 = .ok (.iconst (-1), 1) := by decide +kernel
theorem dX7_behind_37 : decode cX7_behind 37 = .ok (.invokevirtual 260, 3) := by decide +kernel
theorem dX7_behind_40 : decode cX7_behind 40 = .ok (.pop, 1) := by decide +kernel
theorem dX7_behind_41 : decode cX7_behind 41 = .ok (.iinc 3 1, 3) := by decide +kernel
theorem dX7_behind_44 : decode cX7_behind 44 = .ok (.goto (-18), 3) := by decide +kernel
theorem dX7_behind_47 : decode cX7_behind 47 = .ok (.aload_n 0, 1) := by decide +kernel
theorem dX7_behind_48 : decode cX7_behind 48 = .ok (.getfield 31, 3) := by decide +kernel
theorem dX7_behind_51 : decode cX7_behind 51 = .ok (.iload_n 2, 1) := by decide +kernel
theorem dX7_behind_52 : decode cX7_behind 52 = .ok (.iaload, 1) := by decide +kernel
theorem dX7_behind_53 : decode cX7_behind 53 = .ok (.iconst 1, 1) := by decide +kernel
theorem dX7_behind_54 : decode cX7_behind 54 = .ok (.if_icmp .ne 8, 3) := by decide +kernel
theorem dX7_behind_57 : decode cX7_behind 57 = .ok (.bipush (-4), 2) := by decide +kernel
theorem dX7_behind_59 : decode cX7_behind 59 = .ok (.goto 9, 3) := by decide +kernel
theorem dX7_behind_62 : decode cX7_behind 62 = .ok (.aload_n 0, 1) := by decide +kernel
theorem dX7_behind_63 : decode cX7_behind 63 = .ok (.getfield 55, 3) := by decide +kernel
theorem dX7_behind_66 : decode cX7_behind 66 = .ok (.iload_n 2, 1) := by decide +kernel
theorem dX7_behind_67 : decode cX7_behind 67 = .ok (.iaload, 1) := by decide +kernel
theorem dX7_behind_68 : decode cX7_behind 68 = .ok (.ireturn, 1) := by decide +kernel
noncomputable def f_X7_behind_b26 (l1 : Int32) (l2 : Int32) (q : Int32 × Mem) : Option ((Int32 × Mem) ⊕ (Int32 × Mem)) :=
  if l1 ≤ q.1 then (some (.inr (q.1, q.2))) else (ob2 (f_X7_passes 78 (-1) q.2) fun r37 m37 => lt' (q.1 + 1) fun v41 => some (.inl (v41, m37)))
noncomputable def f_X7_behind (l1 : Int32) (l2 : Int32) (mem : Mem) : Option (Int32 × Mem) :=
  ob (f_X7_in l1 0 20) fun r4 => if r4 = 0 then (some ((-1), mem)) else (ob (f_X7_isSquare l2 mem) fun r12 => if r12 = 0 then (some ((-1), mem)) else (ob (f_X7_copyNow mem) fun m21 => ob (lp (f_X7_behind_b26 l1 l2) FU (0, m21)) fun q26 => rd (q26.2 70) 16 l2 fun v52 => if v52 = 1 then (some ((-4), q26.2)) else (rd (q26.2 78) 28 l2 fun v67 => some (v67, q26.2))))
def P_X7_behind_26 (E : Ex) (κ : Kx) (ad : Nat → Nat) (lay : List Ent) (l1 : Int32) (l2 : Int32) : (Int32 × Mem) ⊕ (Int32 × Mem) → Prop
  | .inl q => Gw E κ 4 0 0 26 [some (.ref (ad 62)), some (.int l1), some (.int l2), some (.int q.1)] [] ad lay q.2
  | .inr q => Gw E κ 4 0 0 47 [some (.ref (ad 62)), none, some (.int l2), none] [] ad lay q.2
set_option maxRecDepth 100000 in
set_option maxHeartbeats 4000000 in
theorem b_X7_behind_26 {E : Ex} {κ : Kx} {ad : Nat → Nat} {sh sp : Nat} {d : Nat} (C : Cx E κ cX7_behind RX7 4 (some .int) d) (hd : 6 ≤ d)  {l1 : Int32} {l2 : Int32} {q : Int32 × Mem} {x : (Int32 × Mem) ⊕ (Int32 × Mem)} (h : f_X7_behind_b26 l1 l2 q = some x) (hP : (P_X7_behind_26 E κ ad (LC sh sp ++ LM) l1 l2) x) : Gw E κ 4 0 0 26 [some (.ref (ad 62)), some (.int l1), some (.int l2), some (.int q.1)] [] ad (LC sh sp ++ LM) q.2 := by
  unfold f_X7_behind_b26 at h
  refine g_iload_n (pc := 26) (i := 3) (x := q.1) C dX7_behind_26 rfl rfl ?_
  refine g_iload_n (pc := 27) (i := 1) (x := l1) C dX7_behind_27 rfl rfl ?_
  rcases ite_some' h with ⟨hc28, h⟩ | ⟨hc28, h⟩
  · refine g_icmp_ge_t (pc := 28) C 47 dX7_behind_28 (by decide) hc28 ?_
    refine g_mask (lv' := [some (.ref (ad 62)), none, some (.int l2), none]) [true, false, true, false] rfl ?_
    cases h
    exact hP
  · refine g_icmp_ge_f (pc := 28) C 47 dX7_behind_28 (by decide) hc28 ?_
    refine g_aload_n (pc := 31) (i := 0) (x := ad 62) C dX7_behind_31 rfl rfl ?_
    refine g_aload_n (pc := 32) (i := 0) (x := ad 62) C dX7_behind_32 rfl rfl ?_
    refine g_get (pc := 33) (v := .ref (ad 78)) C ok_X7 27 (by decide) wf_X7_55 dX7_behind_33 la_62 rfl ?_
    refine g_iconst (pc := 36) (v := (-1)) C dX7_behind_36 rfl ?_
    obtain ⟨r37, m37, hcall37, h⟩ := ob2_some h
    refine g_callV (pc := 37) C ce0 mi_X7_passes mv_X7_passes wm_X7_260 dX7_behind_37 ok_X7 [.ref (ad 78), .int (-1)] [] la_62 (by omega) rfl rfl (Nat.le_of_ble_eq_true rfl) (m_X7_passes (d := d - 1) (by omega) o_78 hcall37) ?_
    show Gw E κ 4 0 0 40 [some (.ref (ad 62)), some (.int l1), some (.int l2), some (.int q.1)] [.int r37] ad (LC sh sp ++ LM) m37
    refine g_pop (pc := 40) C dX7_behind_40 rfl ?_
    obtain ⟨v41, hv41, h⟩ := lt_some h
    refine g_iinc (pc := 41) (i := 3) (x := q.1) (v := v41) (lv' := [some (.ref (ad 62)), some (.int l1), some (.int l2), some (.int v41)]) C dX7_behind_41 rfl hv41.symm (by decide) rfl rfl ?_
    refine g_goto (pc := 44) C 26 dX7_behind_44 (by decide) ?_
    cases h
    exact hP
set_option maxRecDepth 100000 in
set_option maxHeartbeats 4000000 in
theorem m_X7_behind {E : Ex} {ad : Nat → Nat} {sh sp : Nat} {d : Nat} (hd : 6 ≤ d)  {l1 : Int32} {l2 : Int32} {mem : Mem} {r : Int32 × Mem} (h : f_X7_behind l1 l2 mem = some r) : Cl E yX7_behind cX7_behind 4 (some .int) d [.ref (ad 62), .int l1, .int l2] (some (.int r.1)) ad (LC sh sp ++ LM) mem (LC sh sp ++ LM) r.2 := by
  refine Cl.of [some (.ref (ad 62)), some (.int l1), some (.int l2), none] (by decide +kernel) rfl (Nat.le_of_ble_eq_true rfl) (fun κ C hP => ?_)
  have C : Cx E κ cX7_behind RX7 4 (some .int) d := C
  unfold f_X7_behind at h
  refine g_iload_n (pc := 0) (i := 1) (x := l1) C dX7_behind_0 rfl rfl ?_
  refine g_iconst (pc := 1) (v := 0) C dX7_behind_1 rfl ?_
  refine g_bipush (pc := 2) (v := 20) C dX7_behind_2 rfl ?_
  obtain ⟨r4, hcall4, h⟩ := ob_some h
  refine g_callS (pc := 4) C ce0 mi_X7_in ms_X7_in wm_X7_123 dX7_behind_4 [.int l1, .int 0, .int 20] [] (by omega) rfl rfl (Nat.le_of_ble_eq_true rfl) (m_X7_in (d := d - 1) (by omega)  hcall4) ?_
  show Gw E κ 4 0 0 7 [some (.ref (ad 62)), some (.int l1), some (.int l2), none] [.int r4] ad (LC sh sp ++ LM) mem
  rcases ite_some' h with ⟨hc7, h⟩ | ⟨hc7, h⟩
  · refine g_if_eq_t (pc := 7) C 18 dX7_behind_7 (by decide) hc7 ?_
    refine g_iconst (pc := 18) (v := (-1)) C dX7_behind_18 rfl ?_
    cases h
    exact g_iret (pc := 19) C hP rfl rfl dX7_behind_19
  · refine g_if_eq_f (pc := 7) C 18 dX7_behind_7 (by decide) hc7 ?_
    refine g_aload_n (pc := 10) (i := 0) (x := ad 62) C dX7_behind_10 rfl rfl ?_
    refine g_iload_n (pc := 11) (i := 2) (x := l2) C dX7_behind_11 rfl rfl ?_
    obtain ⟨r12, hcall12, h⟩ := ob_some h
    refine g_callV (pc := 12) C ce0 mi_X7_isSquare mv_X7_isSquare wm_X7_201 dX7_behind_12 ok_X7 [.int l2] [] la_62 (by omega) rfl rfl (Nat.le_of_ble_eq_true rfl) (m_X7_isSquare (d := d - 1) (by omega)  hcall12) ?_
    show Gw E κ 4 0 0 15 [some (.ref (ad 62)), some (.int l1), some (.int l2), none] [.int r12] ad (LC sh sp ++ LM) mem
    rcases ite_some' h with ⟨hc15, h⟩ | ⟨hc15, h⟩
    · refine g_if_ne_f (pc := 15) C 20 dX7_behind_15 (by decide) hc15 ?_
      refine g_iconst (pc := 18) (v := (-1)) C dX7_behind_18 rfl ?_
      cases h
      exact g_iret (pc := 19) C hP rfl rfl dX7_behind_19
    · refine g_if_ne_t (pc := 15) C 20 dX7_behind_15 (by decide) hc15 ?_
      refine g_aload_n (pc := 20) (i := 0) (x := ad 62) C dX7_behind_20 rfl rfl ?_
      obtain ⟨m21, hcall21, h⟩ := ob_some h
      refine g_callV (pc := 21) C ce0 mi_X7_copyNow mv_X7_copyNow wm_X7_266 dX7_behind_21 ok_X7 [] [] la_62 (by omega) rfl rfl (Nat.le_of_ble_eq_true rfl) (m_X7_copyNow (d := d - 1) (by omega)  hcall21) ?_
      show Gw E κ 4 0 0 24 [some (.ref (ad 62)), some (.int l1), some (.int l2), none] [] ad (LC sh sp ++ LM) m21
      refine g_iconst (pc := 24) (v := 0) C dX7_behind_24 rfl ?_
      refine g_istore_n (pc := 25) (i := 3) (lv' := [some (.ref (ad 62)), some (.int l1), some (.int l2), some (.int 0)]) C dX7_behind_25 rfl (by decide) rfl rfl ?_
      obtain ⟨q26, hq, h⟩ := ob_some h
      refine lp_gw (P_X7_behind_26 E κ ad (LC sh sp ++ LM) l1 l2) (fun q x hb hp => b_X7_behind_26 C hd hb hp) _ (0, m21) _ hq ?_
      show Gw E κ 4 0 0 47 [some (.ref (ad 62)), none, some (.int l2), none] [] ad (LC sh sp ++ LM) q26.2
      refine g_aload_n (pc := 47) (i := 0) (x := ad 62) C dX7_behind_47 rfl rfl ?_
      refine g_get (pc := 48) (v := .ref (ad 70)) C ok_X7 19 (by decide) wf_X7_31 dX7_behind_48 la_62 rfl ?_
      refine g_iload_n (pc := 51) (i := 2) (x := l2) C dX7_behind_51 rfl rfl ?_
      obtain ⟨v52, hv52, hi52, h⟩ := rd_some h
      refine g_iald (pc := 52) C dX7_behind_52 la_70 hi52 ?_
      refine g_topi hv52 ?_
      refine g_iconst (pc := 53) (v := 1) C dX7_behind_53 rfl ?_
      rcases ite_some' h with ⟨hc54, h⟩ | ⟨hc54, h⟩
      · refine g_icmp_ne_f (pc := 54) C 62 dX7_behind_54 (by decide) hc54 ?_
        refine g_bipush (pc := 57) (v := (-4)) C dX7_behind_57 rfl ?_
        refine g_goto (pc := 59) C 68 dX7_behind_59 (by decide) ?_
        cases h
        exact g_iret (pc := 68) C hP rfl rfl dX7_behind_68
      · refine g_icmp_ne_t (pc := 54) C 62 dX7_behind_54 (by decide) hc54 ?_
        refine g_aload_n (pc := 62) (i := 0) (x := ad 62) C dX7_behind_62 rfl rfl ?_
        refine g_get (pc := 63) (v := .ref (ad 78)) C ok_X7 27 (by decide) wf_X7_55 dX7_behind_63 la_62 rfl ?_
        refine g_iload_n (pc := 66) (i := 2) (x := l2) C dX7_behind_66 rfl rfl ?_
        obtain ⟨v67, hv67, hi67, h⟩ := rd_some h
        refine g_iald (pc := 67) C dX7_behind_67 la_78 hi67 ?_
        refine g_topi hv67 ?_
        cases h
        exact g_iret (pc := 68) C hP rfl rfl dX7_behind_68

theorem dX7_letterAt_0 : decode cX7_letterAt 0 = .ok (.aload_n 0, 1) := by decide +kernel
theorem dX7_letterAt_1 : decode cX7_letterAt 1 = .ok (.getfield 71, 3) := by decide +kernel
theorem dX7_letterAt_4 : decode cX7_letterAt 4 = .ok (.bipush 16, 2) := by decide +kernel
theorem dX7_letterAt_6 : decode cX7_letterAt 6 = .ok (.iload_n 1, 1) := by decide +kernel
theorem dX7_letterAt_7 : decode cX7_letterAt 7 = .ok (.imul, 1) := by decide +kernel
theorem dX7_letterAt_8 : decode cX7_letterAt 8 = .ok (.iload_n 2, 1) := by decide +kernel
theorem dX7_letterAt_9 : decode cX7_letterAt 9 = .ok (.iadd, 1) := by decide +kernel
theorem dX7_letterAt_10 : decode cX7_letterAt 10 = .ok (.iaload, 1) := by decide +kernel
theorem dX7_letterAt_11 : decode cX7_letterAt 11 = .ok (.ireturn, 1) := by decide +kernel
noncomputable def f_X7_letterAt (l1 : Int32) (l2 : Int32) (mem : Mem) : Option (Int32) :=
  rd (mem 83) 144 ((16 * l1) + l2) fun v10 => some v10
set_option maxRecDepth 100000 in
set_option maxHeartbeats 4000000 in
theorem m_X7_letterAt {E : Ex} {ad : Nat → Nat} {sh sp : Nat} {d : Nat} (hd : 0 ≤ d)  {l1 : Int32} {l2 : Int32} {mem : Mem} {r : Int32} (h : f_X7_letterAt l1 l2 mem = some r) : Cl E yX7_letterAt cX7_letterAt 3 (some .int) d [.ref (ad 62), .int l1, .int l2] (some (.int r)) ad (LC sh sp ++ LM) mem (LC sh sp ++ LM) mem := by
  refine Cl.of [some (.ref (ad 62)), some (.int l1), some (.int l2)] (by decide +kernel) rfl (Nat.le_of_ble_eq_true rfl) (fun κ C hP => ?_)
  have C : Cx E κ cX7_letterAt RX7 3 (some .int) d := C
  unfold f_X7_letterAt at h
  refine g_aload_n (pc := 0) (i := 0) (x := ad 62) C dX7_letterAt_0 rfl rfl ?_
  refine g_get (pc := 1) (v := .ref (ad 83)) C ok_X7 34 (by decide) wf_X7_71 dX7_letterAt_1 la_62 rfl ?_
  refine g_bipush (pc := 4) (v := 16) C dX7_letterAt_4 rfl ?_
  refine g_iload_n (pc := 6) (i := 1) (x := l1) C dX7_letterAt_6 rfl rfl ?_
  refine g_imul (pc := 7) C dX7_letterAt_7 ?_
  refine g_iload_n (pc := 8) (i := 2) (x := l2) C dX7_letterAt_8 rfl rfl ?_
  refine g_iadd (pc := 9) C dX7_letterAt_9 ?_
  obtain ⟨v10, hv10, hi10, h⟩ := rd_some h
  refine g_iald (pc := 10) C dX7_letterAt_10 la_83 hi10 ?_
  refine g_topi hv10 ?_
  cases h
  exact g_iret (pc := 11) C hP rfl rfl dX7_letterAt_11

theorem dX7_fills_0 : decode cX7_fills 0 = .ok (.aload_n 0, 1) := by decide +kernel
theorem dX7_fills_1 : decode cX7_fills 1 = .ok (.getfield 34, 3) := by decide +kernel
theorem dX7_fills_4 : decode cX7_fills 4 = .ok (.iload_n 2, 1) := by decide +kernel
theorem dX7_fills_5 : decode cX7_fills 5 = .ok (.iaload, 1) := by decide +kernel
theorem dX7_fills_6 : decode cX7_fills 6 = .ok (.aload_n 0, 1) := by decide +kernel
theorem dX7_fills_7 : decode cX7_fills 7 = .ok (.getfield 46, 3) := by decide +kernel
theorem dX7_fills_10 : decode cX7_fills 10 = .ok (.iload_n 1, 1) := by decide +kernel
theorem dX7_fills_11 : decode cX7_fills 11 = .ok (.iaload, 1) := by decide +kernel
theorem dX7_fills_12 : decode cX7_fills 12 = .ok (.if_icmp .ne 7, 3) := by decide +kernel
theorem dX7_fills_15 : decode cX7_fills 15 = .ok (.iconst 1, 1) := by decide +kernel
theorem dX7_fills_16 : decode cX7_fills 16 = .ok (.goto 4, 3) := by decide +kernel
theorem dX7_fills_19 : decode cX7_fills 19 = .ok (.iconst 0, 1) := by decide +kernel
theorem dX7_fills_20 : decode cX7_fills 20 = .ok (.istore_n 3, 1) := by decide +kernel
theorem dX7_fills_21 : decode cX7_fills 21 = .ok (.iconst 0, 1) := by decide +kernel
theorem dX7_fills_22 : decode cX7_fills 22 = .ok (.istore 4, 2) := by decide +kernel
theorem dX7_fills_24 : decode cX7_fills 24 = .ok (.iload 4, 2) := by decide +kernel
theorem dX7_fills_26 : decode cX7_fills 26 = .ok (.aload_n 0, 1) := by decide +kernel
theorem dX7_fills_27 : decode cX7_fills 27 = .ok (.getfield 46, 3) := by decide +kernel
theorem dX7_fills_30 : decode cX7_fills 30 = .ok (.iload_n 1, 1) := by decide +kernel
theorem dX7_fills_31 : decode cX7_fills 31 = .ok (.iaload, 1) := by decide +kernel
theorem dX7_fills_32 : decode cX7_fills 32 = .ok (.if_icmp .ge 54, 3) := by decide +kernel
theorem dX7_fills_35 : decode cX7_fills 35 = .ok (.iload_n 3, 1) := by decide +kernel
theorem dX7_fills_36 : decode cX7_fills 36 = .ok (.ifCond .eq 50, 3) := by decide +kernel
theorem dX7_fills_39 : decode cX7_fills 39 = .ok (.aload_n 0, 1) := by decide +kernel
theorem dX7_fills_40 : decode cX7_fills 40 = .ok (.iload_n 1, 1) := by decide +kernel
theorem dX7_fills_41 : decode cX7_fills 41 = .ok (.aload_n 0, 1) := by decide +kernel
theorem dX7_fills_42 : decode cX7_fills 42 = .ok (.iload_n 1, 1) := by decide +kernel
theorem dX7_fills_43 : decode cX7_fills 43 = .ok (.iload 4, 2) := by decide +kernel
theorem dX7_fills_45 : decode cX7_fills 45 = .ok (.invokevirtual 204, 3) := by decide +kernel
theorem dX7_fills_48 : decode cX7_fills 48 = .ok (.invokevirtual 269, 3) := by decide +kernel
theorem dX7_fills_51 : decode cX7_fills 51 = .ok (.istore 5, 2) := by decide +kernel
theorem dX7_fills_53 : decode cX7_fills 53 = .ok (.iload 5, 2) := by decide +kernel
theorem dX7_fills_55 : decode cX7_fills 55 = .ok (.ifCond .eq 19, 3) := by decide +kernel
theorem dX7_fills_58 : decode cX7_fills 58 = .ok (.iload 5, 2) := by decide +kernel
theorem dX7_fills_60 : decode cX7_fills 60 = .ok (.aload_n 0, 1) := by decide +kernel
theorem dX7_fills_61 : decode cX7_fills 61 = .ok (.getfield 37, 3) := by decide +kernel
theorem dX7_fills_64 : decode cX7_fills 64 = .ok (.iconst 4, 1) := by decide +kernel
theorem dX7_fills_65 : decode cX7_fills 65 = .ok (.iload_n 2, 1) := by decide +kernel
theorem dX7_fills_66 : decode cX7_fills 66 = .ok (.imul, 1) := by decide +kernel
theorem dX7_fills_67 : decode cX7_fills 67 = .ok (.iload 4, 2) := by decide +kernel
theorem dX7_fills_69 : decode cX7_fills 69 = .ok (.iadd, 1) := by decide +kernel
theorem dX7_fills_70 : decode cX7_fills 70 = .ok (.iaload, 1) := by decide +kernel
theorem dX7_fills_71 : decode cX7_fills 71 = .ok (.if_icmp .ne 7, 3) := by decide +kernel
theorem dX7_fills_74 : decode cX7_fills 74 = .ok (.iconst 1, 1) := by decide +kernel
theorem dX7_fills_75 : decode cX7_fills 75 = .ok (.goto 4, 3) := by decide +kernel
theorem dX7_fills_78 : decode cX7_fills 78 = .ok (.iconst 0, 1) := by decide +kernel
theorem dX7_fills_79 : decode cX7_fills 79 = .ok (.istore_n 3, 1) := by decide +kernel
theorem dX7_fills_80 : decode cX7_fills 80 = .ok (.iinc 4 1, 3) := by decide +kernel
theorem dX7_fills_83 : decode cX7_fills 83 = .ok (.goto (-59), 3) := by decide +kernel
theorem dX7_fills_86 : decode cX7_fills 86 = .ok (.iload_n 3, 1) := by decide +kernel
theorem dX7_fills_87 : decode cX7_fills 87 = .ok (.ifCond .eq 90, 3) := by decide +kernel
theorem dX7_fills_90 : decode cX7_fills 90 = .ok (.iconst 0, 1) := by decide +kernel
theorem dX7_fills_91 : decode cX7_fills 91 = .ok (.istore 4, 2) := by decide +kernel
theorem dX7_fills_93 : decode cX7_fills 93 = .ok (.iload 4, 2) := by decide +kernel
theorem dX7_fills_95 : decode cX7_fills 95 = .ok (.bipush 16, 2) := by decide +kernel
theorem dX7_fills_97 : decode cX7_fills 97 = .ok (.if_icmp .ge 30, 3) := by decide +kernel
theorem dX7_fills_100 : decode cX7_fills 100 = .ok (.aload_n 0, 1) := by decide +kernel
theorem dX7_fills_101 : decode cX7_fills 101 = .ok (.getfield 71, 3) := by decide +kernel
theorem dX7_fills_104 : decode cX7_fills 104 = .ok (.bipush 16, 2) := by decide +kernel
theorem dX7_fills_106 : decode cX7_fills 106 = .ok (.iload_n 1, 1) := by decide +kernel
theorem dX7_fills_107 : decode cX7_fills 107 = .ok (.iconst 1, 1) := by decide +kernel
theorem dX7_fills_108 : decode cX7_fills 108 = .ok (.iadd, 1) := by decide +kernel
theorem dX7_fills_109 : decode cX7_fills 109 = .ok (.imul, 1) := by decide +kernel
theorem dX7_fills_110 : decode cX7_fills 110 = .ok (.iload 4, 2) := by decide +kernel
theorem dX7_fills_112 : decode cX7_fills 112 = .ok (.iadd, 1) := by decide +kernel
theorem dX7_fills_113 : decode cX7_fills 113 = .ok (.aload_n 0, 1) := by decide +kernel
theorem dX7_fills_114 : decode cX7_fills 114 = .ok (.iload_n 1, 1) := by decide +kernel
theorem dX7_fills_115 : decode cX7_fills 115 = .ok (.iload 4, 2) := by decide +kernel
theorem dX7_fills_117 : decode cX7_fills 117 = .ok (.invokevirtual 269, 3) := by decide +kernel
theorem dX7_fills_120 : decode cX7_fills 120 = .ok (.iastore, 1) := by decide +kernel
theorem dX7_fills_121 : decode cX7_fills 121 = .ok (.iinc 4 1, 3) := by decide +kernel
theorem dX7_fills_124 : decode cX7_fills 124 = .ok (.goto (-31), 3) := by decide +kernel
theorem dX7_fills_127 : decode cX7_fills 127 = .ok (.iconst 0, 1) := by decide +kernel
theorem dX7_fills_128 : decode cX7_fills 128 = .ok (.istore 4, 2) := by decide +kernel
theorem dX7_fills_130 : decode cX7_fills 130 = .ok (.iload 4, 2) := by decide +kernel
theorem dX7_fills_132 : decode cX7_fills 132 = .ok (.aload_n 0, 1) := by decide +kernel
theorem dX7_fills_133 : decode cX7_fills 133 = .ok (.getfield 46, 3) := by decide +kernel
theorem dX7_fills_136 : decode cX7_fills 136 = .ok (.iload_n 1, 1) := by decide +kernel
theorem dX7_fills_137 : decode cX7_fills 137 = .ok (.iaload, 1) := by decide +kernel
theorem dX7_fills_138 : decode cX7_fills 138 = .ok (.if_icmp .ge 39, 3) := by decide +kernel
theorem dX7_fills_141 : decode cX7_fills 141 = .ok (.aload_n 0, 1) := by decide +kernel
theorem dX7_fills_142 : decode cX7_fills 142 = .ok (.getfield 71, 3) := by decide +kernel
theorem dX7_fills_145 : decode cX7_fills 145 = .ok (.bipush 16, 2) := by decide +kernel
theorem dX7_fills_147 : decode cX7_fills 147 = .ok (.iload_n 1, 1) := by decide +kernel
theorem dX7_fills_148 : decode cX7_fills 148 = .ok (.iconst 1, 1) := by decide +kernel
theorem dX7_fills_149 : decode cX7_fills 149 = .ok (.iadd, 1) := by decide +kernel
theorem dX7_fills_150 : decode cX7_fills 150 = .ok (.imul, 1) := by decide +kernel
theorem dX7_fills_151 : decode cX7_fills 151 = .ok (.aload_n 0, 1) := by decide +kernel
theorem dX7_fills_152 : decode cX7_fills 152 = .ok (.iload_n 1, 1) := by decide +kernel
theorem dX7_fills_153 : decode cX7_fills 153 = .ok (.iload 4, 2) := by decide +kernel
theorem dX7_fills_155 : decode cX7_fills 155 = .ok (.invokevirtual 204, 3) := by decide +kernel
theorem dX7_fills_158 : decode cX7_fills 158 = .ok (.iadd, 1) := by decide +kernel
theorem dX7_fills_159 : decode cX7_fills 159 = .ok (.aload_n 0, 1) := by decide +kernel
theorem dX7_fills_160 : decode cX7_fills 160 = .ok (.getfield 37, 3) := by decide +kernel
theorem dX7_fills_163 : decode cX7_fills 163 = .ok (.iconst 4, 1) := by decide +kernel
theorem dX7_fills_164 : decode cX7_fills 164 = .ok (.iload_n 2, 1) := by decide +kernel
theorem dX7_fills_165 : decode cX7_fills 165 = .ok (.imul, 1) := by decide +kernel
theorem dX7_fills_166 : decode cX7_fills 166 = .ok (.iload 4, 2) := by decide +kernel
theorem dX7_fills_168 : decode cX7_fills 168 = .ok (.iadd, 1) := by decide +kernel
theorem dX7_fills_169 : decode cX7_fills 169 = .ok (.iaload, 1) := by decide +kernel
theorem dX7_fills_170 : decode cX7_fills 170 = .ok (.iastore, 1) := by decide +kernel
theorem dX7_fills_171 : decode cX7_fills 171 = .ok (.iinc 4 1, 3) := by decide +kernel
theorem dX7_fills_174 : decode cX7_fills 174 = .ok (.goto (-44), 3) := by decide +kernel
theorem dX7_fills_177 : decode cX7_fills 177 = .ok (.iload_n 3, 1) := by decide +kernel
theorem dX7_fills_178 : decode cX7_fills 178 = .ok (.ireturn, 1) := by decide +kernel
noncomputable def f_X7_fills_b24 (l1 : Int32) (l2 : Int32) (mem : Mem) (q : Int32 × Int32) : Option ((Int32 × Int32) ⊕ (Int32 × Int32)) :=
  rd (mem 75) 8 l1 fun v31 => if v31 ≤ q.2 then (some (.inr (q.1, q.2))) else (if q.1 = 0 then (some (.inr (q.1, q.2))) else (ob (f_X7_squareOf l1 q.2 mem) fun r45 => ob (f_X7_letterAt l1 r45 mem) fun r48 => if r48 = 0 then (lt' (q.2 + 1) fun v80 => some (.inl (1, v80))) else (rd (mem 72) 36 ((4 * l2) + q.2) fun v70 => if r48 = v70 then (lt' (q.2 + 1) fun v80 => some (.inl (1, v80))) else (lt' (q.2 + 1) fun v80 => some (.inl (0, v80))))))
noncomputable def f_X7_fills_b93 (l1 : Int32) (l2 : Int32) (l3 : Int32) (q : Int32 × Mem) : Option ((Int32 × Mem) ⊕ (Int32 × Mem)) :=
  if 16 ≤ q.1 then (some (.inr (q.1, q.2))) else (ob (f_X7_letterAt l1 q.1 q.2) fun r117 => wr q.2 83 144 ((16 * (l1 + 1)) + q.1) r117 fun m120 => lt' (q.1 + 1) fun v121 => some (.inl (v121, m120)))
noncomputable def f_X7_fills_b130 (l1 : Int32) (l2 : Int32) (l3 : Int32) (q : Int32 × Mem) : Option ((Int32 × Mem) ⊕ (Int32 × Mem)) :=
  rd (q.2 75) 8 l1 fun v137 => if v137 ≤ q.1 then (some (.inr (q.1, q.2))) else (ob (f_X7_squareOf l1 q.1 q.2) fun r155 => rd (q.2 72) 36 ((4 * l2) + q.1) fun v169 => wr q.2 83 144 ((16 * (l1 + 1)) + r155) v169 fun m170 => lt' (q.1 + 1) fun v171 => some (.inl (v171, m170)))
noncomputable def f_X7_fills_j86 (l1 : Int32) (l2 : Int32) (l3 : Int32) (mem : Mem) : Option (Int32 × Mem) :=
  if l3 = 0 then (bk l3 (some (l3, mem))) else (ob (lp (f_X7_fills_b93 l1 l2 l3) FU (0, mem)) fun q93 => ob (lp (f_X7_fills_b130 l1 l2 l3) FU (0, q93.2)) fun q130 => bk l3 (some (l3, q130.2)))
noncomputable def f_X7_fills_j20 (l1 : Int32) (l2 : Int32) (w0 : Int32) (mem : Mem) : Option (Int32 × Mem) :=
  ob (lp (f_X7_fills_b24 l1 l2 mem) FU (w0, 0)) fun q24 => f_X7_fills_j86 l1 l2 q24.1 mem
noncomputable def f_X7_fills (l1 : Int32) (l2 : Int32) (mem : Mem) : Option (Int32 × Mem) :=
  rd (mem 71) 9 l2 fun v5 => rd (mem 75) 8 l1 fun v11 => if v5 = v11 then (f_X7_fills_j20 l1 l2 1 mem) else (f_X7_fills_j20 l1 l2 0 mem)
def P_X7_fills_24 (E : Ex) (κ : Kx) (ad : Nat → Nat) (lay : List Ent) (l1 : Int32) (l2 : Int32) (mem : Mem) : (Int32 × Int32) ⊕ (Int32 × Int32) → Prop
  | .inl q => Gw E κ 6 0 0 24 [some (.ref (ad 62)), some (.int l1), some (.int l2), some (.int q.1), some (.int q.2), none] [] ad lay mem
  | .inr q => Gw E κ 6 0 0 86 [some (.ref (ad 62)), some (.int l1), some (.int l2), some (.int q.1), none, none] [] ad lay mem
def P_X7_fills_93 (E : Ex) (κ : Kx) (ad : Nat → Nat) (lay : List Ent) (l1 : Int32) (l2 : Int32) (l3 : Int32) : (Int32 × Mem) ⊕ (Int32 × Mem) → Prop
  | .inl q => Gw E κ 6 0 0 93 [some (.ref (ad 62)), some (.int l1), some (.int l2), some (.int l3), some (.int q.1), none] [] ad lay q.2
  | .inr q => Gw E κ 6 0 0 127 [some (.ref (ad 62)), some (.int l1), some (.int l2), some (.int l3), none, none] [] ad lay q.2
def P_X7_fills_130 (E : Ex) (κ : Kx) (ad : Nat → Nat) (lay : List Ent) (l1 : Int32) (l2 : Int32) (l3 : Int32) : (Int32 × Mem) ⊕ (Int32 × Mem) → Prop
  | .inl q => Gw E κ 6 0 0 130 [some (.ref (ad 62)), some (.int l1), some (.int l2), some (.int l3), some (.int q.1), none] [] ad lay q.2
  | .inr q => Gw E κ 6 0 0 177 [none, none, none, some (.int l3), none, none] [] ad lay q.2
set_option maxRecDepth 100000 in
set_option maxHeartbeats 4000000 in
theorem b_X7_fills_24 {E : Ex} {κ : Kx} {ad : Nat → Nat} {sh sp : Nat} {d : Nat} (C : Cx E κ cX7_fills RX7 6 (some .boolean) d) (hd : 1 ≤ d)  {l1 : Int32} {l2 : Int32} {mem : Mem} {q : Int32 × Int32} {x : (Int32 × Int32) ⊕ (Int32 × Int32)} (h : f_X7_fills_b24 l1 l2 mem q = some x) (hP : (P_X7_fills_24 E κ ad (LC sh sp ++ LM) l1 l2 mem) x) : Gw E κ 6 0 0 24 [some (.ref (ad 62)), some (.int l1), some (.int l2), some (.int q.1), some (.int q.2), none] [] ad (LC sh sp ++ LM) mem := by
  unfold f_X7_fills_b24 at h
  refine g_iload (pc := 24) (i := 4) (x := q.2) C dX7_fills_24 rfl ?_
  refine g_aload_n (pc := 26) (i := 0) (x := ad 62) C dX7_fills_26 rfl rfl ?_
  refine g_get (pc := 27) (v := .ref (ad 75)) C ok_X7 24 (by decide) wf_X7_46 dX7_fills_27 la_62 rfl ?_
  refine g_iload_n (pc := 30) (i := 1) (x := l1) C dX7_fills_30 rfl rfl ?_
  obtain ⟨v31, hv31, hi31, h⟩ := rd_some h
  refine g_iald (pc := 31) C dX7_fills_31 la_75 hi31 ?_
  refine g_topi hv31 ?_
  rcases ite_some' h with ⟨hc32, h⟩ | ⟨hc32, h⟩
  · refine g_icmp_ge_t (pc := 32) C 86 dX7_fills_32 (by decide) hc32 ?_
    refine g_mask (lv' := [some (.ref (ad 62)), some (.int l1), some (.int l2), some (.int q.1), none, none]) [true, true, true, true, false, false] rfl ?_
    cases h
    exact hP
  · refine g_icmp_ge_f (pc := 32) C 86 dX7_fills_32 (by decide) hc32 ?_
    refine g_iload_n (pc := 35) (i := 3) (x := q.1) C dX7_fills_35 rfl rfl ?_
    rcases ite_some' h with ⟨hc36, h⟩ | ⟨hc36, h⟩
    · refine g_if_eq_t (pc := 36) C 86 dX7_fills_36 (by decide) hc36 ?_
      refine g_mask (lv' := [some (.ref (ad 62)), some (.int l1), some (.int l2), some (.int q.1), none, none]) [true, true, true, true, false, false] rfl ?_
      cases h
      exact hP
    · refine g_if_eq_f (pc := 36) C 86 dX7_fills_36 (by decide) hc36 ?_
      refine g_aload_n (pc := 39) (i := 0) (x := ad 62) C dX7_fills_39 rfl rfl ?_
      refine g_iload_n (pc := 40) (i := 1) (x := l1) C dX7_fills_40 rfl rfl ?_
      refine g_aload_n (pc := 41) (i := 0) (x := ad 62) C dX7_fills_41 rfl rfl ?_
      refine g_iload_n (pc := 42) (i := 1) (x := l1) C dX7_fills_42 rfl rfl ?_
      refine g_iload (pc := 43) (i := 4) (x := q.2) C dX7_fills_43 rfl ?_
      obtain ⟨r45, hcall45, h⟩ := ob_some h
      refine g_callV (pc := 45) C ce0 mi_X7_squareOf mv_X7_squareOf wm_X7_204 dX7_fills_45 ok_X7 [.int l1, .int q.2] [.int l1, .ref (ad 62)] la_62 (by omega) rfl rfl (Nat.le_of_ble_eq_true rfl) (m_X7_squareOf (d := d - 1) (by omega)  hcall45) ?_
      show Gw E κ 6 0 0 48 [some (.ref (ad 62)), some (.int l1), some (.int l2), some (.int q.1), some (.int q.2), none] [.int r45, .int l1, .ref (ad 62)] ad (LC sh sp ++ LM) mem
      obtain ⟨r48, hcall48, h⟩ := ob_some h
      refine g_callV (pc := 48) C ce0 mi_X7_letterAt mv_X7_letterAt wm_X7_269 dX7_fills_48 ok_X7 [.int l1, .int r45] [] la_62 (by omega) rfl rfl (Nat.le_of_ble_eq_true rfl) (m_X7_letterAt (d := d - 1) (by omega)  hcall48) ?_
      show Gw E κ 6 0 0 51 [some (.ref (ad 62)), some (.int l1), some (.int l2), some (.int q.1), some (.int q.2), none] [.int r48] ad (LC sh sp ++ LM) mem
      refine g_istore (pc := 51) (i := 5) (lv' := [some (.ref (ad 62)), some (.int l1), some (.int l2), some (.int q.1), some (.int q.2), some (.int r48)]) C dX7_fills_51 (by decide) rfl rfl ?_
      refine g_iload (pc := 53) (i := 5) (x := r48) C dX7_fills_53 rfl ?_
      rcases ite_some' h with ⟨hc55, h⟩ | ⟨hc55, h⟩
      · refine g_if_eq_t (pc := 55) C 74 dX7_fills_55 (by decide) hc55 ?_
        refine g_iconst (pc := 74) (v := 1) C dX7_fills_74 rfl ?_
        refine g_goto (pc := 75) C 79 dX7_fills_75 (by decide) ?_
        refine g_istore_n (pc := 79) (i := 3) (lv' := [some (.ref (ad 62)), some (.int l1), some (.int l2), some (.int 1), some (.int q.2), some (.int r48)]) C dX7_fills_79 rfl (by decide) rfl rfl ?_
        obtain ⟨v80, hv80, h⟩ := lt_some h
        refine g_iinc (pc := 80) (i := 4) (x := q.2) (v := v80) (lv' := [some (.ref (ad 62)), some (.int l1), some (.int l2), some (.int 1), some (.int v80), some (.int r48)]) C dX7_fills_80 rfl hv80.symm (by decide) rfl rfl ?_
        refine g_goto (pc := 83) C 24 dX7_fills_83 (by decide) ?_
        refine g_mask (lv' := [some (.ref (ad 62)), some (.int l1), some (.int l2), some (.int 1), some (.int v80), none]) [true, true, true, true, true, false] rfl ?_
        cases h
        exact hP
      · refine g_if_eq_f (pc := 55) C 74 dX7_fills_55 (by decide) hc55 ?_
        refine g_iload (pc := 58) (i := 5) (x := r48) C dX7_fills_58 rfl ?_
        refine g_aload_n (pc := 60) (i := 0) (x := ad 62) C dX7_fills_60 rfl rfl ?_
        refine g_get (pc := 61) (v := .ref (ad 72)) C ok_X7 21 (by decide) wf_X7_37 dX7_fills_61 la_62 rfl ?_
        refine g_iconst (pc := 64) (v := 4) C dX7_fills_64 rfl ?_
        refine g_iload_n (pc := 65) (i := 2) (x := l2) C dX7_fills_65 rfl rfl ?_
        refine g_imul (pc := 66) C dX7_fills_66 ?_
        refine g_iload (pc := 67) (i := 4) (x := q.2) C dX7_fills_67 rfl ?_
        refine g_iadd (pc := 69) C dX7_fills_69 ?_
        obtain ⟨v70, hv70, hi70, h⟩ := rd_some h
        refine g_iald (pc := 70) C dX7_fills_70 la_72 hi70 ?_
        refine g_topi hv70 ?_
        rcases ite_some' h with ⟨hc71, h⟩ | ⟨hc71, h⟩
        · refine g_icmp_ne_f (pc := 71) C 78 dX7_fills_71 (by decide) hc71 ?_
          refine g_iconst (pc := 74) (v := 1) C dX7_fills_74 rfl ?_
          refine g_goto (pc := 75) C 79 dX7_fills_75 (by decide) ?_
          refine g_istore_n (pc := 79) (i := 3) (lv' := [some (.ref (ad 62)), some (.int l1), some (.int l2), some (.int 1), some (.int q.2), some (.int r48)]) C dX7_fills_79 rfl (by decide) rfl rfl ?_
          obtain ⟨v80, hv80, h⟩ := lt_some h
          refine g_iinc (pc := 80) (i := 4) (x := q.2) (v := v80) (lv' := [some (.ref (ad 62)), some (.int l1), some (.int l2), some (.int 1), some (.int v80), some (.int r48)]) C dX7_fills_80 rfl hv80.symm (by decide) rfl rfl ?_
          refine g_goto (pc := 83) C 24 dX7_fills_83 (by decide) ?_
          refine g_mask (lv' := [some (.ref (ad 62)), some (.int l1), some (.int l2), some (.int 1), some (.int v80), none]) [true, true, true, true, true, false] rfl ?_
          cases h
          exact hP
        · refine g_icmp_ne_t (pc := 71) C 78 dX7_fills_71 (by decide) hc71 ?_
          refine g_iconst (pc := 78) (v := 0) C dX7_fills_78 rfl ?_
          refine g_istore_n (pc := 79) (i := 3) (lv' := [some (.ref (ad 62)), some (.int l1), some (.int l2), some (.int 0), some (.int q.2), some (.int r48)]) C dX7_fills_79 rfl (by decide) rfl rfl ?_
          obtain ⟨v80, hv80, h⟩ := lt_some h
          refine g_iinc (pc := 80) (i := 4) (x := q.2) (v := v80) (lv' := [some (.ref (ad 62)), some (.int l1), some (.int l2), some (.int 0), some (.int v80), some (.int r48)]) C dX7_fills_80 rfl hv80.symm (by decide) rfl rfl ?_
          refine g_goto (pc := 83) C 24 dX7_fills_83 (by decide) ?_
          refine g_mask (lv' := [some (.ref (ad 62)), some (.int l1), some (.int l2), some (.int 0), some (.int v80), none]) [true, true, true, true, true, false] rfl ?_
          cases h
          exact hP
set_option maxRecDepth 100000 in
set_option maxHeartbeats 4000000 in
theorem b_X7_fills_93 {E : Ex} {κ : Kx} {ad : Nat → Nat} {sh sp : Nat} {d : Nat} (C : Cx E κ cX7_fills RX7 6 (some .boolean) d) (hd : 1 ≤ d)  {l1 : Int32} {l2 : Int32} {l3 : Int32} {q : Int32 × Mem} {x : (Int32 × Mem) ⊕ (Int32 × Mem)} (h : f_X7_fills_b93 l1 l2 l3 q = some x) (hP : (P_X7_fills_93 E κ ad (LC sh sp ++ LM) l1 l2 l3) x) : Gw E κ 6 0 0 93 [some (.ref (ad 62)), some (.int l1), some (.int l2), some (.int l3), some (.int q.1), none] [] ad (LC sh sp ++ LM) q.2 := by
  unfold f_X7_fills_b93 at h
  refine g_iload (pc := 93) (i := 4) (x := q.1) C dX7_fills_93 rfl ?_
  refine g_bipush (pc := 95) (v := 16) C dX7_fills_95 rfl ?_
  rcases ite_some' h with ⟨hc97, h⟩ | ⟨hc97, h⟩
  · refine g_icmp_ge_t (pc := 97) C 127 dX7_fills_97 (by decide) hc97 ?_
    refine g_mask (lv' := [some (.ref (ad 62)), some (.int l1), some (.int l2), some (.int l3), none, none]) [true, true, true, true, false, false] rfl ?_
    cases h
    exact hP
  · refine g_icmp_ge_f (pc := 97) C 127 dX7_fills_97 (by decide) hc97 ?_
    refine g_aload_n (pc := 100) (i := 0) (x := ad 62) C dX7_fills_100 rfl rfl ?_
    refine g_get (pc := 101) (v := .ref (ad 83)) C ok_X7 34 (by decide) wf_X7_71 dX7_fills_101 la_62 rfl ?_
    refine g_bipush (pc := 104) (v := 16) C dX7_fills_104 rfl ?_
    refine g_iload_n (pc := 106) (i := 1) (x := l1) C dX7_fills_106 rfl rfl ?_
    refine g_iconst (pc := 107) (v := 1) C dX7_fills_107 rfl ?_
    refine g_iadd (pc := 108) C dX7_fills_108 ?_
    refine g_imul (pc := 109) C dX7_fills_109 ?_
    refine g_iload (pc := 110) (i := 4) (x := q.1) C dX7_fills_110 rfl ?_
    refine g_iadd (pc := 112) C dX7_fills_112 ?_
    refine g_aload_n (pc := 113) (i := 0) (x := ad 62) C dX7_fills_113 rfl rfl ?_
    refine g_iload_n (pc := 114) (i := 1) (x := l1) C dX7_fills_114 rfl rfl ?_
    refine g_iload (pc := 115) (i := 4) (x := q.1) C dX7_fills_115 rfl ?_
    obtain ⟨r117, hcall117, h⟩ := ob_some h
    refine g_callV (pc := 117) C ce0 mi_X7_letterAt mv_X7_letterAt wm_X7_269 dX7_fills_117 ok_X7 [.int l1, .int q.1] [.int ((16 * (l1 + 1)) + q.1), .ref (ad 83)] la_62 (by omega) rfl rfl (Nat.le_of_ble_eq_true rfl) (m_X7_letterAt (d := d - 1) (by omega)  hcall117) ?_
    show Gw E κ 6 0 0 120 [some (.ref (ad 62)), some (.int l1), some (.int l2), some (.int l3), some (.int q.1), none] [.int r117, .int ((16 * (l1 + 1)) + q.1), .ref (ad 83)] ad (LC sh sp ++ LM) q.2
    obtain ⟨m120, hm120, hi120, h⟩ := wr_some h
    refine g_iast (pc := 120) C dX7_fills_120 la_83 hi120 ?_
    refine g_mem hm120 ?_
    obtain ⟨v121, hv121, h⟩ := lt_some h
    refine g_iinc (pc := 121) (i := 4) (x := q.1) (v := v121) (lv' := [some (.ref (ad 62)), some (.int l1), some (.int l2), some (.int l3), some (.int v121), none]) C dX7_fills_121 rfl hv121.symm (by decide) rfl rfl ?_
    refine g_goto (pc := 124) C 93 dX7_fills_124 (by decide) ?_
    cases h
    exact hP
set_option maxRecDepth 100000 in
set_option maxHeartbeats 4000000 in
theorem b_X7_fills_130 {E : Ex} {κ : Kx} {ad : Nat → Nat} {sh sp : Nat} {d : Nat} (C : Cx E κ cX7_fills RX7 6 (some .boolean) d) (hd : 1 ≤ d)  {l1 : Int32} {l2 : Int32} {l3 : Int32} {q : Int32 × Mem} {x : (Int32 × Mem) ⊕ (Int32 × Mem)} (h : f_X7_fills_b130 l1 l2 l3 q = some x) (hP : (P_X7_fills_130 E κ ad (LC sh sp ++ LM) l1 l2 l3) x) : Gw E κ 6 0 0 130 [some (.ref (ad 62)), some (.int l1), some (.int l2), some (.int l3), some (.int q.1), none] [] ad (LC sh sp ++ LM) q.2 := by
  unfold f_X7_fills_b130 at h
  refine g_iload (pc := 130) (i := 4) (x := q.1) C dX7_fills_130 rfl ?_
  refine g_aload_n (pc := 132) (i := 0) (x := ad 62) C dX7_fills_132 rfl rfl ?_
  refine g_get (pc := 133) (v := .ref (ad 75)) C ok_X7 24 (by decide) wf_X7_46 dX7_fills_133 la_62 rfl ?_
  refine g_iload_n (pc := 136) (i := 1) (x := l1) C dX7_fills_136 rfl rfl ?_
  obtain ⟨v137, hv137, hi137, h⟩ := rd_some h
  refine g_iald (pc := 137) C dX7_fills_137 la_75 hi137 ?_
  refine g_topi hv137 ?_
  rcases ite_some' h with ⟨hc138, h⟩ | ⟨hc138, h⟩
  · refine g_icmp_ge_t (pc := 138) C 177 dX7_fills_138 (by decide) hc138 ?_
    refine g_mask (lv' := [none, none, none, some (.int l3), none, none]) [false, false, false, true, false, false] rfl ?_
    cases h
    exact hP
  · refine g_icmp_ge_f (pc := 138) C 177 dX7_fills_138 (by decide) hc138 ?_
    refine g_aload_n (pc := 141) (i := 0) (x := ad 62) C dX7_fills_141 rfl rfl ?_
    refine g_get (pc := 142) (v := .ref (ad 83)) C ok_X7 34 (by decide) wf_X7_71 dX7_fills_142 la_62 rfl ?_
    refine g_bipush (pc := 145) (v := 16) C dX7_fills_145 rfl ?_
    refine g_iload_n (pc := 147) (i := 1) (x := l1) C dX7_fills_147 rfl rfl ?_
    refine g_iconst (pc := 148) (v := 1) C dX7_fills_148 rfl ?_
    refine g_iadd (pc := 149) C dX7_fills_149 ?_
    refine g_imul (pc := 150) C dX7_fills_150 ?_
    refine g_aload_n (pc := 151) (i := 0) (x := ad 62) C dX7_fills_151 rfl rfl ?_
    refine g_iload_n (pc := 152) (i := 1) (x := l1) C dX7_fills_152 rfl rfl ?_
    refine g_iload (pc := 153) (i := 4) (x := q.1) C dX7_fills_153 rfl ?_
    obtain ⟨r155, hcall155, h⟩ := ob_some h
    refine g_callV (pc := 155) C ce0 mi_X7_squareOf mv_X7_squareOf wm_X7_204 dX7_fills_155 ok_X7 [.int l1, .int q.1] [.int (16 * (l1 + 1)), .ref (ad 83)] la_62 (by omega) rfl rfl (Nat.le_of_ble_eq_true rfl) (m_X7_squareOf (d := d - 1) (by omega)  hcall155) ?_
    show Gw E κ 6 0 0 158 [some (.ref (ad 62)), some (.int l1), some (.int l2), some (.int l3), some (.int q.1), none] [.int r155, .int (16 * (l1 + 1)), .ref (ad 83)] ad (LC sh sp ++ LM) q.2
    refine g_iadd (pc := 158) C dX7_fills_158 ?_
    refine g_aload_n (pc := 159) (i := 0) (x := ad 62) C dX7_fills_159 rfl rfl ?_
    refine g_get (pc := 160) (v := .ref (ad 72)) C ok_X7 21 (by decide) wf_X7_37 dX7_fills_160 la_62 rfl ?_
    refine g_iconst (pc := 163) (v := 4) C dX7_fills_163 rfl ?_
    refine g_iload_n (pc := 164) (i := 2) (x := l2) C dX7_fills_164 rfl rfl ?_
    refine g_imul (pc := 165) C dX7_fills_165 ?_
    refine g_iload (pc := 166) (i := 4) (x := q.1) C dX7_fills_166 rfl ?_
    refine g_iadd (pc := 168) C dX7_fills_168 ?_
    obtain ⟨v169, hv169, hi169, h⟩ := rd_some h
    refine g_iald (pc := 169) C dX7_fills_169 la_72 hi169 ?_
    refine g_topi hv169 ?_
    obtain ⟨m170, hm170, hi170, h⟩ := wr_some h
    refine g_iast (pc := 170) C dX7_fills_170 la_83 hi170 ?_
    refine g_mem hm170 ?_
    obtain ⟨v171, hv171, h⟩ := lt_some h
    refine g_iinc (pc := 171) (i := 4) (x := q.1) (v := v171) (lv' := [some (.ref (ad 62)), some (.int l1), some (.int l2), some (.int l3), some (.int v171), none]) C dX7_fills_171 rfl hv171.symm (by decide) rfl rfl ?_
    refine g_goto (pc := 174) C 130 dX7_fills_174 (by decide) ?_
    cases h
    exact hP
set_option maxRecDepth 100000 in
set_option maxHeartbeats 4000000 in
theorem j_X7_fills_86 {E : Ex} {κ : Kx} {ad : Nat → Nat} {sh sp : Nat} {d : Nat} (C : Cx E κ cX7_fills RX7 6 (some .boolean) d) (hd : 1 ≤ d)  {l1 : Int32} {l2 : Int32} {l3 : Int32} {mem : Mem} {x : Int32 × Mem} (h : f_X7_fills_j86 l1 l2 l3 mem = some x) (hP : Qr E κ (some (.int x.1)) ad (LC sh sp ++ LM) x.2) : Gw E κ 6 0 0 86 [some (.ref (ad 62)), some (.int l1), some (.int l2), some (.int l3), none, none] [] ad (LC sh sp ++ LM) mem := by
  unfold f_X7_fills_j86 at h
  refine g_iload_n (pc := 86) (i := 3) (x := l3) C dX7_fills_86 rfl rfl ?_
  rcases ite_some' h with ⟨hc87, h⟩ | ⟨hc87, h⟩
  · refine g_if_eq_t (pc := 87) C 177 dX7_fills_87 (by decide) hc87 ?_
    refine g_iload_n (pc := 177) (i := 3) (x := l3) C dX7_fills_177 rfl rfl ?_
    obtain ⟨hb178, h⟩ := bk_some h
    cases h
    exact g_iret (pc := 178) C hP rfl (nb01 hb178).1 dX7_fills_178
  · refine g_if_eq_f (pc := 87) C 177 dX7_fills_87 (by decide) hc87 ?_
    refine g_iconst (pc := 90) (v := 0) C dX7_fills_90 rfl ?_
    refine g_istore (pc := 91) (i := 4) (lv' := [some (.ref (ad 62)), some (.int l1), some (.int l2), some (.int l3), some (.int 0), none]) C dX7_fills_91 (by decide) rfl rfl ?_
    obtain ⟨q93, hq, h⟩ := ob_some h
    refine lp_gw (P_X7_fills_93 E κ ad (LC sh sp ++ LM) l1 l2 l3) (fun q x hb hp => b_X7_fills_93 C hd hb hp) _ (0, mem) _ hq ?_
    show Gw E κ 6 0 0 127 [some (.ref (ad 62)), some (.int l1), some (.int l2), some (.int l3), none, none] [] ad (LC sh sp ++ LM) q93.2
    refine g_iconst (pc := 127) (v := 0) C dX7_fills_127 rfl ?_
    refine g_istore (pc := 128) (i := 4) (lv' := [some (.ref (ad 62)), some (.int l1), some (.int l2), some (.int l3), some (.int 0), none]) C dX7_fills_128 (by decide) rfl rfl ?_
    obtain ⟨q130, hq, h⟩ := ob_some h
    refine lp_gw (P_X7_fills_130 E κ ad (LC sh sp ++ LM) l1 l2 l3) (fun q x hb hp => b_X7_fills_130 C hd hb hp) _ (0, q93.2) _ hq ?_
    show Gw E κ 6 0 0 177 [none, none, none, some (.int l3), none, none] [] ad (LC sh sp ++ LM) q130.2
    refine g_iload_n (pc := 177) (i := 3) (x := l3) C dX7_fills_177 rfl rfl ?_
    obtain ⟨hb178, h⟩ := bk_some h
    cases h
    exact g_iret (pc := 178) C hP rfl (nb01 hb178).1 dX7_fills_178
set_option maxRecDepth 100000 in
set_option maxHeartbeats 4000000 in
theorem j_X7_fills_20 {E : Ex} {κ : Kx} {ad : Nat → Nat} {sh sp : Nat} {d : Nat} (C : Cx E κ cX7_fills RX7 6 (some .boolean) d) (hd : 1 ≤ d)  {l1 : Int32} {l2 : Int32} {w0 : Int32} {mem : Mem} {x : Int32 × Mem} (h : f_X7_fills_j20 l1 l2 w0 mem = some x) (hP : Qr E κ (some (.int x.1)) ad (LC sh sp ++ LM) x.2) : Gw E κ 6 0 0 20 [some (.ref (ad 62)), some (.int l1), some (.int l2), none, none, none] [.int w0] ad (LC sh sp ++ LM) mem := by
  unfold f_X7_fills_j20 at h
  refine g_istore_n (pc := 20) (i := 3) (lv' := [some (.ref (ad 62)), some (.int l1), some (.int l2), some (.int w0), none, none]) C dX7_fills_20 rfl (by decide) rfl rfl ?_
  refine g_iconst (pc := 21) (v := 0) C dX7_fills_21 rfl ?_
  refine g_istore (pc := 22) (i := 4) (lv' := [some (.ref (ad 62)), some (.int l1), some (.int l2), some (.int w0), some (.int 0), none]) C dX7_fills_22 (by decide) rfl rfl ?_
  obtain ⟨q24, hq, h⟩ := ob_some h
  refine lp_gw (P_X7_fills_24 E κ ad (LC sh sp ++ LM) l1 l2 mem) (fun q x hb hp => b_X7_fills_24 C hd hb hp) _ (w0, 0) _ hq ?_
  show Gw E κ 6 0 0 86 [some (.ref (ad 62)), some (.int l1), some (.int l2), some (.int q24.1), none, none] [] ad (LC sh sp ++ LM) mem
  exact j_X7_fills_86 C hd h hP
set_option maxRecDepth 100000 in
set_option maxHeartbeats 4000000 in
theorem m_X7_fills {E : Ex} {ad : Nat → Nat} {sh sp : Nat} {d : Nat} (hd : 1 ≤ d)  {l1 : Int32} {l2 : Int32} {mem : Mem} {r : Int32 × Mem} (h : f_X7_fills l1 l2 mem = some r) : Cl E yX7_fills cX7_fills 6 (some .boolean) d [.ref (ad 62), .int l1, .int l2] (some (.int r.1)) ad (LC sh sp ++ LM) mem (LC sh sp ++ LM) r.2 := by
  refine Cl.of [some (.ref (ad 62)), some (.int l1), some (.int l2), none, none, none] (by decide +kernel) rfl (Nat.le_of_ble_eq_true rfl) (fun κ C hP => ?_)
  have C : Cx E κ cX7_fills RX7 6 (some .boolean) d := C
  unfold f_X7_fills at h
  refine g_aload_n (pc := 0) (i := 0) (x := ad 62) C dX7_fills_0 rfl rfl ?_
  refine g_get (pc := 1) (v := .ref (ad 71)) C ok_X7 20 (by decide) wf_X7_34 dX7_fills_1 la_62 rfl ?_
  refine g_iload_n (pc := 4) (i := 2) (x := l2) C dX7_fills_4 rfl rfl ?_
  obtain ⟨v5, hv5, hi5, h⟩ := rd_some h
  refine g_iald (pc := 5) C dX7_fills_5 la_71 hi5 ?_
  refine g_topi hv5 ?_
  refine g_aload_n (pc := 6) (i := 0) (x := ad 62) C dX7_fills_6 rfl rfl ?_
  refine g_get (pc := 7) (v := .ref (ad 75)) C ok_X7 24 (by decide) wf_X7_46 dX7_fills_7 la_62 rfl ?_
  refine g_iload_n (pc := 10) (i := 1) (x := l1) C dX7_fills_10 rfl rfl ?_
  obtain ⟨v11, hv11, hi11, h⟩ := rd_some h
  refine g_iald (pc := 11) C dX7_fills_11 la_75 hi11 ?_
  refine g_topi hv11 ?_
  rcases ite_some' h with ⟨hc12, h⟩ | ⟨hc12, h⟩
  · refine g_icmp_ne_f (pc := 12) C 19 dX7_fills_12 (by decide) hc12 ?_
    refine g_iconst (pc := 15) (v := 1) C dX7_fills_15 rfl ?_
    refine g_goto (pc := 16) C 20 dX7_fills_16 (by decide) ?_
    exact j_X7_fills_20 C hd h hP
  · refine g_icmp_ne_t (pc := 12) C 19 dX7_fills_12 (by decide) hc12 ?_
    refine g_iconst (pc := 19) (v := 0) C dX7_fills_19 rfl ?_
    exact j_X7_fills_20 C hd h hP

theorem dX7_filled_0 : decode cX7_filled 0 = .ok (.iconst 0, 1) := by decide +kernel
theorem dX7_filled_1 : decode cX7_filled 1 = .ok (.istore_n 1, 1) := by decide +kernel
theorem dX7_filled_2 : decode cX7_filled 2 = .ok (.iconst 0, 1) := by decide +kernel
theorem dX7_filled_3 : decode cX7_filled 3 = .ok (.istore_n 2, 1) := by decide +kernel
theorem dX7_filled_4 : decode cX7_filled 4 = .ok (.iload_n 2, 1) := by decide +kernel
theorem dX7_filled_5 : decode cX7_filled 5 = .ok (.aload_n 0, 1) := by decide +kernel
theorem dX7_filled_6 : decode cX7_filled 6 = .ok (.invokevirtual 198, 3) := by decide +kernel
theorem dX7_filled_9 : decode cX7_filled 9 = .ok (.if_icmp .ge 35, 3) := by decide +kernel
theorem dX7_filled_12 : decode cX7_filled 12 = .ok (.aload_n 0, 1) := by decide +kernel
theorem dX7_filled_13 : decode cX7_filled 13 = .ok (.aload_n 0, 1) := by decide +kernel
theorem dX7_filled_14 : decode cX7_filled 14 = .ok (.getfield 177, 3) := by decide +kernel
theorem dX7_filled_17 : decode cX7_filled 17 = .ok (.iload_n 2, 1) := by decide +kernel
theorem dX7_filled_18 : decode cX7_filled 18 = .ok (.invokevirtual 269, 3) := by decide +kernel
theorem dX7_filled_21 : decode cX7_filled 21 = .ok (.istore_n 3, 1) := by decide +kernel
theorem dX7_filled_22 : decode cX7_filled 22 = .ok (.iload_n 1, 1) := by decide +kernel
theorem dX7_filled_23 : decode cX7_filled 23 = .ok (.iload_n 3, 1) := by decide +kernel
theorem dX7_filled_24 : decode cX7_filled 24 = .ok (.iadd, 1) := by decide +kernel
theorem dX7_filled_25 : decode cX7_filled 25 = .ok (.istore_n 1, 1) := by decide +kernel
theorem dX7_filled_26 : decode cX7_filled 26 = .ok (.aload_n 0, 1) := by decide +kernel
theorem dX7_filled_27 : decode cX7_filled 27 = .ok (.getfield 80, 3) := by decide +kernel
theorem dX7_filled_30 : decode cX7_filled 30 = .ok (.iload_n 2, 1) := by decide +kernel
theorem dX7_filled_31 : decode cX7_filled 31 = .ok (.dup2, 1) := by decide +kernel
theorem dX7_filled_32 : decode cX7_filled 32 = .ok (.iaload, 1) := by decide +kernel
theorem dX7_filled_33 : decode cX7_filled 33 = .ok (.iconst 1, 1) := by decide +kernel
theorem dX7_filled_34 : decode cX7_filled 34 = .ok (.iload_n 3, 1) := by decide +kernel
theorem dX7_filled_35 : decode cX7_filled 35 = .ok (.ishl, 1) := by decide +kernel
theorem dX7_filled_36 : decode cX7_filled 36 = .ok (.ior, 1) := by decide +kernel
theorem dX7_filled_37 : decode cX7_filled 37 = .ok (.iastore, 1) := by decide +kernel
theorem dX7_filled_38 : decode cX7_filled 38 = .ok (.iinc 2 1, 3) := by decide +kernel
theorem dX7_filled_41 : decode cX7_filled 41 = .ok (.goto (-37), 3) := by decide +kernel
theorem dX7_filled_44 : decode cX7_filled 44 = .ok (.iconst 0, 1) := by decide +kernel
theorem dX7_filled_45 : decode cX7_filled 45 = .ok (.istore_n 2, 1) := by decide +kernel
theorem dX7_filled_46 : decode cX7_filled 46 = .ok (.iload_n 2, 1) := by decide +kernel
theorem dX7_filled_47 : decode cX7_filled 47 = .ok (.aload_n 0, 1) := by decide +kernel
theorem dX7_filled_48 : decode cX7_filled 48 = .ok (.getfield 177, 3) := by decide +kernel
theorem dX7_filled_51 : decode cX7_filled 51 = .ok (.if_icmp .ge 28, 3) := by decide +kernel
theorem dX7_filled_54 : decode cX7_filled 54 = .ok (.aload_n 0, 1) := by decide +kernel
theorem dX7_filled_55 : decode cX7_filled 55 = .ok (.getfield 272, 3) := by decide +kernel
theorem dX7_filled_58 : decode cX7_filled 58 = .ok (.ifCond .ne 21, 3) := by decide +kernel
theorem dX7_filled_61 : decode cX7_filled 61 = .ok (.aload_n 0, 1) := by decide +kernel
theorem dX7_filled_62 : decode cX7_filled 62 = .ok (.getfield 77, 3) := by decide +kernel
theorem dX7_filled_65 : decode cX7_filled 65 = .ok (.iload_n 2, 1) := by decide +kernel
theorem dX7_filled_66 : decode cX7_filled 66 = .ok (.aload_n 0, 1) := by decide +kernel
theorem dX7_filled_67 : decode cX7_filled 67 = .ok (.getfield 74, 3) := by decide +kernel
theorem dX7_filled_70 : decode cX7_filled 70 = .ok (.iload_n 2, 1) := by decide +kernel
theorem dX7_filled_71 : decode cX7_filled 71 = .ok (.iaload, 1) := by decide +kernel
theorem dX7_filled_72 : decode cX7_filled 72 = .ok (.iastore, 1) := by decide +kernel
theorem dX7_filled_73 : decode cX7_filled 73 = .ok (.iinc 2 1, 3) := by decide +kernel
theorem dX7_filled_76 : decode cX7_filled 76 = .ok (.goto (-30), 3) := by decide +kernel
theorem dX7_filled_79 : decode cX7_filled 79 = .ok (.aload_n 0, 1) := by decide +kernel
theorem dX7_filled_80 : decode cX7_filled 80 = .ok (.iload_n 1, 1) := by decide +kernel
theorem dX7_filled_81 : decode cX7_filled 81 = .ok (.aload_n 0, 1) := by decide +kernel
theorem dX7_filled_82 : decode cX7_filled 82 = .ok (.getfield 275, 3) := by decide +kernel
theorem dX7_filled_85 : decode cX7_filled 85 = .ok (.if_icmp .le 7, 3) := by decide +kernel
theorem dX7_filled_88 : decode cX7_filled 88 = .ok (.iload_n 1, 1) := by decide +kernel
theorem dX7_filled_89 : decode cX7_filled 89 = .ok (.goto 7, 3) := by decide +kernel
theorem dX7_filled_92 : decode cX7_filled 92 = .ok (.aload_n 0, 1) := by decide +kernel
theorem dX7_filled_93 : decode cX7_filled 93 = .ok (.getfield 275, 3) := by decide +kernel
theorem dX7_filled_96 : decode cX7_filled 96 = .ok (.putfield 275, 3) := by decide +kernel
theorem dX7_filled_99 : decode cX7_filled 99 = .ok (.aload_n 0, 1) := by decide +kernel
theorem dX7_filled_100 : decode cX7_filled 100 = .ok (.dup, 1) := by decide +kernel
theorem dX7_filled_101 : decode cX7_filled 101 = .ok (.getfield 272, 3) := by decide +kernel
theorem dX7_filled_104 : decode cX7_filled 104 = .ok (.iconst 1, 1) := by decide +kernel
theorem dX7_filled_105 : decode cX7_filled 105 = .ok (.iadd, 1) := by decide +kernel
theorem dX7_filled_106 : decode cX7_filled 106 = .ok (.putfield 272, 3) := by decide +kernel
theorem dX7_filled_109 : decode cX7_filled 109 = .ok (.return_, 1) := by decide +kernel
noncomputable def f_X7_filled_b4 (q : Int32 × Int32 × Mem) : Option ((Int32 × Int32 × Mem) ⊕ (Int32 × Int32 × Mem)) :=
  ob (f_X7_squares q.2.2) fun r6 => if r6 ≤ q.2.1 then (some (.inr (q.1, q.2.1, q.2.2))) else (ob (f_X7_letterAt (q.2.2 62 16) q.2.1 q.2.2) fun r18 => lt' (q.1 + r18) fun v25 => rd (q.2.2 86) 16 q.2.1 fun v32 => wr q.2.2 86 16 q.2.1 (v32 ||| (1 <<< (r18 &&& 31))) fun m37 => lt' (q.2.1 + 1) fun v38 => some (.inl (v25, v38, m37)))
noncomputable def f_X7_filled_b46 (l1 : Int32) (q : Int32 × Mem) : Option ((Int32 × Mem) ⊕ (Int32 × Mem)) :=
  if (q.2 62 16) ≤ q.1 then (some (.inr (q.1, q.2))) else (if (q.2 62 38) = 0 then (rd (q.2 84) 8 q.1 fun v71 => wr q.2 85 8 q.1 v71 fun m72 => lt' (q.1 + 1) fun v73 => some (.inl (v73, m72))) else (some (.inr (q.1, q.2))))
noncomputable def f_X7_filled_j79 (l1 : Int32) (mem : Mem) : Option (Mem) :=
  if l1 ≤ (mem 62 39) then (lt' (mset mem 62 39 (mem 62 39)) fun m96 => lt' (mset m96 62 38 ((m96 62 38) + 1)) fun m106 => some m106) else (lt' (mset mem 62 39 l1) fun m96 => lt' (mset m96 62 38 ((m96 62 38) + 1)) fun m106 => some m106)
noncomputable def f_X7_filled  (mem : Mem) : Option (Mem) :=
  ob (lp f_X7_filled_b4 FU (0, 0, mem)) fun q4 => ob (lp (f_X7_filled_b46 q4.1) FU (0, q4.2.2)) fun q46 => f_X7_filled_j79 q4.1 q46.2
def P_X7_filled_4 (E : Ex) (κ : Kx) (ad : Nat → Nat) (lay : List Ent) : (Int32 × Int32 × Mem) ⊕ (Int32 × Int32 × Mem) → Prop
  | .inl q => Gw E κ 4 0 0 4 [some (.ref (ad 62)), some (.int q.1), some (.int q.2.1), none] [] ad lay q.2.2
  | .inr q => Gw E κ 4 0 0 44 [some (.ref (ad 62)), some (.int q.1), none, none] [] ad lay q.2.2
def P_X7_filled_46 (E : Ex) (κ : Kx) (ad : Nat → Nat) (lay : List Ent) (l1 : Int32) : (Int32 × Mem) ⊕ (Int32 × Mem) → Prop
  | .inl q => Gw E κ 4 0 0 46 [some (.ref (ad 62)), some (.int l1), some (.int q.1), none] [] ad lay q.2
  | .inr q => Gw E κ 4 0 0 79 [some (.ref (ad 62)), some (.int l1), none, none] [] ad lay q.2
set_option maxRecDepth 100000 in
set_option maxHeartbeats 4000000 in
theorem b_X7_filled_4 {E : Ex} {κ : Kx} {ad : Nat → Nat} {sh sp : Nat} {d : Nat} (C : Cx E κ cX7_filled RX7 4 none d) (hd : 1 ≤ d)  {q : Int32 × Int32 × Mem} {x : (Int32 × Int32 × Mem) ⊕ (Int32 × Int32 × Mem)} (h : f_X7_filled_b4  q = some x) (hP : (P_X7_filled_4 E κ ad (LC sh sp ++ LM) ) x) : Gw E κ 4 0 0 4 [some (.ref (ad 62)), some (.int q.1), some (.int q.2.1), none] [] ad (LC sh sp ++ LM) q.2.2 := by
  unfold f_X7_filled_b4 at h
  refine g_iload_n (pc := 4) (i := 2) (x := q.2.1) C dX7_filled_4 rfl rfl ?_
  refine g_aload_n (pc := 5) (i := 0) (x := ad 62) C dX7_filled_5 rfl rfl ?_
  obtain ⟨r6, hcall6, h⟩ := ob_some h
  refine g_callV (pc := 6) C ce0 mi_X7_squares mv_X7_squares wm_X7_198 dX7_filled_6 ok_X7 [] [.int q.2.1] la_62 (by omega) rfl rfl (Nat.le_of_ble_eq_true rfl) (m_X7_squares (d := d - 1) (by omega)  hcall6) ?_
  show Gw E κ 4 0 0 9 [some (.ref (ad 62)), some (.int q.1), some (.int q.2.1), none] [.int r6, .int q.2.1] ad (LC sh sp ++ LM) q.2.2
  rcases ite_some' h with ⟨hc9, h⟩ | ⟨hc9, h⟩
  · refine g_icmp_ge_t (pc := 9) C 44 dX7_filled_9 (by decide) hc9 ?_
    refine g_mask (lv' := [some (.ref (ad 62)), some (.int q.1), none, none]) [true, true, false, false] rfl ?_
    cases h
    exact hP
  · refine g_icmp_ge_f (pc := 9) C 44 dX7_filled_9 (by decide) hc9 ?_
    refine g_aload_n (pc := 12) (i := 0) (x := ad 62) C dX7_filled_12 rfl rfl ?_
    refine g_aload_n (pc := 13) (i := 0) (x := ad 62) C dX7_filled_13 rfl rfl ?_
    refine g_get (pc := 14) (v := .int (q.2.2 62 16)) C ok_X7 16 (by decide) wf_X7_177 dX7_filled_14 la_62 rfl ?_
    refine g_iload_n (pc := 17) (i := 2) (x := q.2.1) C dX7_filled_17 rfl rfl ?_
    obtain ⟨r18, hcall18, h⟩ := ob_some h
    refine g_callV (pc := 18) C ce0 mi_X7_letterAt mv_X7_letterAt wm_X7_269 dX7_filled_18 ok_X7 [.int (q.2.2 62 16), .int q.2.1] [] la_62 (by omega) rfl rfl (Nat.le_of_ble_eq_true rfl) (m_X7_letterAt (d := d - 1) (by omega)  hcall18) ?_
    show Gw E κ 4 0 0 21 [some (.ref (ad 62)), some (.int q.1), some (.int q.2.1), none] [.int r18] ad (LC sh sp ++ LM) q.2.2
    refine g_istore_n (pc := 21) (i := 3) (lv' := [some (.ref (ad 62)), some (.int q.1), some (.int q.2.1), some (.int r18)]) C dX7_filled_21 rfl (by decide) rfl rfl ?_
    refine g_iload_n (pc := 22) (i := 1) (x := q.1) C dX7_filled_22 rfl rfl ?_
    refine g_iload_n (pc := 23) (i := 3) (x := r18) C dX7_filled_23 rfl rfl ?_
    refine g_iadd (pc := 24) C dX7_filled_24 ?_
    obtain ⟨v25, hv25, h⟩ := lt_some h
    refine g_topi hv25 ?_
    refine g_istore_n (pc := 25) (i := 1) (lv' := [some (.ref (ad 62)), some (.int v25), some (.int q.2.1), some (.int r18)]) C dX7_filled_25 rfl (by decide) rfl rfl ?_
    refine g_aload_n (pc := 26) (i := 0) (x := ad 62) C dX7_filled_26 rfl rfl ?_
    refine g_get (pc := 27) (v := .ref (ad 86)) C ok_X7 37 (by decide) wf_X7_80 dX7_filled_27 la_62 rfl ?_
    refine g_iload_n (pc := 30) (i := 2) (x := q.2.1) C dX7_filled_30 rfl rfl ?_
    refine g_dup2 (pc := 31) C dX7_filled_31 rfl rfl ?_
    obtain ⟨v32, hv32, hi32, h⟩ := rd_some h
    refine g_iald (pc := 32) C dX7_filled_32 la_86 hi32 ?_
    refine g_topi hv32 ?_
    refine g_iconst (pc := 33) (v := 1) C dX7_filled_33 rfl ?_
    refine g_iload_n (pc := 34) (i := 3) (x := r18) C dX7_filled_34 rfl rfl ?_
    refine g_ishl (pc := 35) C dX7_filled_35 ?_
    refine g_ior (pc := 36) C dX7_filled_36 ?_
    obtain ⟨m37, hm37, hi37, h⟩ := wr_some h
    refine g_iast (pc := 37) C dX7_filled_37 la_86 hi37 ?_
    refine g_mem hm37 ?_
    obtain ⟨v38, hv38, h⟩ := lt_some h
    refine g_iinc (pc := 38) (i := 2) (x := q.2.1) (v := v38) (lv' := [some (.ref (ad 62)), some (.int v25), some (.int v38), some (.int r18)]) C dX7_filled_38 rfl hv38.symm (by decide) rfl rfl ?_
    refine g_goto (pc := 41) C 4 dX7_filled_41 (by decide) ?_
    refine g_mask (lv' := [some (.ref (ad 62)), some (.int v25), some (.int v38), none]) [true, true, true, false] rfl ?_
    cases h
    exact hP
set_option maxRecDepth 100000 in
set_option maxHeartbeats 4000000 in
theorem b_X7_filled_46 {E : Ex} {κ : Kx} {ad : Nat → Nat} {sh sp : Nat} {d : Nat} (C : Cx E κ cX7_filled RX7 4 none d) (hd : 1 ≤ d)  {l1 : Int32} {q : Int32 × Mem} {x : (Int32 × Mem) ⊕ (Int32 × Mem)} (h : f_X7_filled_b46 l1 q = some x) (hP : (P_X7_filled_46 E κ ad (LC sh sp ++ LM) l1) x) : Gw E κ 4 0 0 46 [some (.ref (ad 62)), some (.int l1), some (.int q.1), none] [] ad (LC sh sp ++ LM) q.2 := by
  unfold f_X7_filled_b46 at h
  refine g_iload_n (pc := 46) (i := 2) (x := q.1) C dX7_filled_46 rfl rfl ?_
  refine g_aload_n (pc := 47) (i := 0) (x := ad 62) C dX7_filled_47 rfl rfl ?_
  refine g_get (pc := 48) (v := .int (q.2 62 16)) C ok_X7 16 (by decide) wf_X7_177 dX7_filled_48 la_62 rfl ?_
  rcases ite_some' h with ⟨hc51, h⟩ | ⟨hc51, h⟩
  · refine g_icmp_ge_t (pc := 51) C 79 dX7_filled_51 (by decide) hc51 ?_
    refine g_mask (lv' := [some (.ref (ad 62)), some (.int l1), none, none]) [true, true, false, false] rfl ?_
    cases h
    exact hP
  · refine g_icmp_ge_f (pc := 51) C 79 dX7_filled_51 (by decide) hc51 ?_
    refine g_aload_n (pc := 54) (i := 0) (x := ad 62) C dX7_filled_54 rfl rfl ?_
    refine g_get (pc := 55) (v := .int (q.2 62 38)) C ok_X7 38 (by decide) wf_X7_272 dX7_filled_55 la_62 rfl ?_
    rcases ite_some' h with ⟨hc58, h⟩ | ⟨hc58, h⟩
    · refine g_if_ne_f (pc := 58) C 79 dX7_filled_58 (by decide) hc58 ?_
      refine g_aload_n (pc := 61) (i := 0) (x := ad 62) C dX7_filled_61 rfl rfl ?_
      refine g_get (pc := 62) (v := .ref (ad 85)) C ok_X7 36 (by decide) wf_X7_77 dX7_filled_62 la_62 rfl ?_
      refine g_iload_n (pc := 65) (i := 2) (x := q.1) C dX7_filled_65 rfl rfl ?_
      refine g_aload_n (pc := 66) (i := 0) (x := ad 62) C dX7_filled_66 rfl rfl ?_
      refine g_get (pc := 67) (v := .ref (ad 84)) C ok_X7 35 (by decide) wf_X7_74 dX7_filled_67 la_62 rfl ?_
      refine g_iload_n (pc := 70) (i := 2) (x := q.1) C dX7_filled_70 rfl rfl ?_
      obtain ⟨v71, hv71, hi71, h⟩ := rd_some h
      refine g_iald (pc := 71) C dX7_filled_71 la_84 hi71 ?_
      refine g_topi hv71 ?_
      obtain ⟨m72, hm72, hi72, h⟩ := wr_some h
      refine g_iast (pc := 72) C dX7_filled_72 la_85 hi72 ?_
      refine g_mem hm72 ?_
      obtain ⟨v73, hv73, h⟩ := lt_some h
      refine g_iinc (pc := 73) (i := 2) (x := q.1) (v := v73) (lv' := [some (.ref (ad 62)), some (.int l1), some (.int v73), none]) C dX7_filled_73 rfl hv73.symm (by decide) rfl rfl ?_
      refine g_goto (pc := 76) C 46 dX7_filled_76 (by decide) ?_
      cases h
      exact hP
    · refine g_if_ne_t (pc := 58) C 79 dX7_filled_58 (by decide) hc58 ?_
      refine g_mask (lv' := [some (.ref (ad 62)), some (.int l1), none, none]) [true, true, false, false] rfl ?_
      cases h
      exact hP
set_option maxRecDepth 100000 in
set_option maxHeartbeats 4000000 in
theorem j_X7_filled_79 {E : Ex} {κ : Kx} {ad : Nat → Nat} {sh sp : Nat} {d : Nat} (C : Cx E κ cX7_filled RX7 4 none d) (hd : 1 ≤ d)  {l1 : Int32} {mem : Mem} {x : Mem} (h : f_X7_filled_j79 l1 mem = some x) (hP : Qr E κ none ad (LC sh sp ++ LM) x) : Gw E κ 4 0 0 79 [some (.ref (ad 62)), some (.int l1), none, none] [] ad (LC sh sp ++ LM) mem := by
  unfold f_X7_filled_j79 at h
  refine g_aload_n (pc := 79) (i := 0) (x := ad 62) C dX7_filled_79 rfl rfl ?_
  refine g_iload_n (pc := 80) (i := 1) (x := l1) C dX7_filled_80 rfl rfl ?_
  refine g_aload_n (pc := 81) (i := 0) (x := ad 62) C dX7_filled_81 rfl rfl ?_
  refine g_get (pc := 82) (v := .int (mem 62 39)) C ok_X7 39 (by decide) wf_X7_275 dX7_filled_82 la_62 rfl ?_
  rcases ite_some' h with ⟨hc85, h⟩ | ⟨hc85, h⟩
  · refine g_icmp_le_t (pc := 85) C 92 dX7_filled_85 (by decide) hc85 ?_
    refine g_aload_n (pc := 92) (i := 0) (x := ad 62) C dX7_filled_92 rfl rfl ?_
    refine g_get (pc := 93) (v := .int (mem 62 39)) C ok_X7 39 (by decide) wf_X7_275 dX7_filled_93 la_62 rfl ?_
    obtain ⟨m96, hm96, h⟩ := lt_some h
    refine g_put (pc := 96) C ok_X7 39 (by decide) wf_X7_275 dX7_filled_96 rfl rfl la_62 ?_
    refine g_mem hm96 ?_
    refine g_aload_n (pc := 99) (i := 0) (x := ad 62) C dX7_filled_99 rfl rfl ?_
    refine g_dup (pc := 100) C dX7_filled_100 rfl ?_
    refine g_get (pc := 101) (v := .int (m96 62 38)) C ok_X7 38 (by decide) wf_X7_272 dX7_filled_101 la_62 rfl ?_
    refine g_iconst (pc := 104) (v := 1) C dX7_filled_104 rfl ?_
    refine g_iadd (pc := 105) C dX7_filled_105 ?_
    obtain ⟨m106, hm106, h⟩ := lt_some h
    refine g_put (pc := 106) C ok_X7 38 (by decide) wf_X7_272 dX7_filled_106 rfl rfl la_62 ?_
    refine g_mem hm106 ?_
    cases h
    exact g_vret (pc := 109) C hP rfl dX7_filled_109
  · refine g_icmp_le_f (pc := 85) C 92 dX7_filled_85 (by decide) hc85 ?_
    refine g_iload_n (pc := 88) (i := 1) (x := l1) C dX7_filled_88 rfl rfl ?_
    refine g_goto (pc := 89) C 96 dX7_filled_89 (by decide) ?_
    obtain ⟨m96, hm96, h⟩ := lt_some h
    refine g_put (pc := 96) C ok_X7 39 (by decide) wf_X7_275 dX7_filled_96 rfl rfl la_62 ?_
    refine g_mem hm96 ?_
    refine g_aload_n (pc := 99) (i := 0) (x := ad 62) C dX7_filled_99 rfl rfl ?_
    refine g_dup (pc := 100) C dX7_filled_100 rfl ?_
    refine g_get (pc := 101) (v := .int (m96 62 38)) C ok_X7 38 (by decide) wf_X7_272 dX7_filled_101 la_62 rfl ?_
    refine g_iconst (pc := 104) (v := 1) C dX7_filled_104 rfl ?_
    refine g_iadd (pc := 105) C dX7_filled_105 ?_
    obtain ⟨m106, hm106, h⟩ := lt_some h
    refine g_put (pc := 106) C ok_X7 38 (by decide) wf_X7_272 dX7_filled_106 rfl rfl la_62 ?_
    refine g_mem hm106 ?_
    cases h
    exact g_vret (pc := 109) C hP rfl dX7_filled_109
set_option maxRecDepth 100000 in
set_option maxHeartbeats 4000000 in
theorem m_X7_filled {E : Ex} {ad : Nat → Nat} {sh sp : Nat} {d : Nat} (hd : 1 ≤ d)   {mem : Mem} {r : Mem} (h : f_X7_filled mem = some r) : Cl E yX7_filled cX7_filled 4 none d [.ref (ad 62)] none ad (LC sh sp ++ LM) mem (LC sh sp ++ LM) r := by
  refine Cl.of [some (.ref (ad 62)), none, none, none] (by decide +kernel) rfl (Nat.le_of_ble_eq_true rfl) (fun κ C hP => ?_)
  have C : Cx E κ cX7_filled RX7 4 none d := C
  unfold f_X7_filled at h
  refine g_iconst (pc := 0) (v := 0) C dX7_filled_0 rfl ?_
  refine g_istore_n (pc := 1) (i := 1) (lv' := [some (.ref (ad 62)), some (.int 0), none, none]) C dX7_filled_1 rfl (by decide) rfl rfl ?_
  refine g_iconst (pc := 2) (v := 0) C dX7_filled_2 rfl ?_
  refine g_istore_n (pc := 3) (i := 2) (lv' := [some (.ref (ad 62)), some (.int 0), some (.int 0), none]) C dX7_filled_3 rfl (by decide) rfl rfl ?_
  obtain ⟨q4, hq, h⟩ := ob_some h
  refine lp_gw (P_X7_filled_4 E κ ad (LC sh sp ++ LM) ) (fun q x hb hp => b_X7_filled_4 C hd hb hp) _ (0, 0, mem) _ hq ?_
  show Gw E κ 4 0 0 44 [some (.ref (ad 62)), some (.int q4.1), none, none] [] ad (LC sh sp ++ LM) q4.2.2
  refine g_iconst (pc := 44) (v := 0) C dX7_filled_44 rfl ?_
  refine g_istore_n (pc := 45) (i := 2) (lv' := [some (.ref (ad 62)), some (.int q4.1), some (.int 0), none]) C dX7_filled_45 rfl (by decide) rfl rfl ?_
  obtain ⟨q46, hq, h⟩ := ob_some h
  refine lp_gw (P_X7_filled_46 E κ ad (LC sh sp ++ LM) q4.1) (fun q x hb hp => b_X7_filled_46 C hd hb hp) _ (0, q4.2.2) _ hq ?_
  show Gw E κ 4 0 0 79 [some (.ref (ad 62)), some (.int q4.1), none, none] [] ad (LC sh sp ++ LM) q46.2
  exact j_X7_filled_79 C hd h hP
