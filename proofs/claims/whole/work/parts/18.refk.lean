theorem dX7_back_0 : decode cX7_back 0 = .ok (.aload_n 0, 1) := by decide +kernel
theorem dX7_back_1 : decode cX7_back 1 = .ok (.getfield 192, 3) := by decide +kernel
theorem dX7_back_4 : decode cX7_back 4 = .ok (.ifCond .ne 6, 3) := by decide +kernel
theorem dX7_back_7 : decode cX7_back 7 = .ok (.bipush (-2), 2) := by decide +kernel
theorem dX7_back_9 : decode cX7_back 9 = .ok (.ireturn, 1) := by decide +kernel
theorem dX7_back_10 : decode cX7_back 10 = .ok (.aload_n 0, 1) := by decide +kernel
theorem dX7_back_11 : decode cX7_back 11 = .ok (.dup, 1) := by decide +kernel
theorem dX7_back_12 : decode cX7_back 12 = .ok (.getfield 192, 3) := by decide +kernel
theorem dX7_back_15 : decode cX7_back 15 = .ok (.iconst 1, 1) := by decide +kernel
theorem dX7_back_16 : decode cX7_back 16 = .ok (.isub, 1) := by decide +kernel
theorem dX7_back_17 : decode cX7_back 17 = .ok (.putfield 192, 3) := by decide +kernel
theorem dX7_back_20 : decode cX7_back 20 = .ok (.iconst 0, 1) := by decide +kernel
theorem dX7_back_21 : decode cX7_back 21 = .ok (.istore_n 1, 1) := by decide +kernel
theorem dX7_back_22 : decode cX7_back 22 = .ok (.iload_n 1, 1) := by decide +kernel
theorem dX7_back_23 : decode cX7_back 23 = .ok (.bipush 28, 2) := by decide +kernel
theorem dX7_back_25 : decode cX7_back 25 = .ok (.if_icmp .ge 29, 3) := by decide +kernel
theorem dX7_back_28 : decode cX7_back 28 = .ok (.aload_n 0, 1) := by decide +kernel
theorem dX7_back_29 : decode cX7_back 29 = .ok (.getfield 52, 3) := by decide +kernel
theorem dX7_back_32 : decode cX7_back 32 = .ok (.iload_n 1, 1) := by decide +kernel
theorem dX7_back_33 : decode cX7_back 33 = .ok (.aload_n 0, 1) := by decide +kernel
theorem dX7_back_34 : decode cX7_back 34 = .ok (.getfield 89, 3) := by decide +kernel
theorem dX7_back_37 : decode cX7_back 37 = .ok (.bipush 28, 2) := by decide +kernel
theorem dX7_back_39 : decode cX7_back 39 = .ok (.aload_n 0, 1) := by decide +kernel
theorem dX7_back_40 : decode cX7_back 40 = .ok (.getfield 192, 3) := by decide +kernel
theorem dX7_back_43 : decode cX7_back 43 = .ok (.imul, 1) := by decide +kernel
theorem dX7_back_44 : decode cX7_back 44 = .ok (.iload_n 1, 1) := by decide +kernel
theorem dX7_back_45 : decode cX7_back 45 = .ok (.iadd, 1) := by decide +kernel
theorem dX7_back_46 : decode cX7_back 46 = .ok (.iaload, 1) := by decide +kernel
theorem dX7_back_47 : decode cX7_back 47 = .ok (.iastore, 1) := by decide +kernel
theorem dX7_back_48 : decode cX7_back 48 = .ok (.iinc 1 1, 3) := by decide +kernel
theorem dX7_back_51 : decode cX7_back 51 = .ok (.goto (-29), 3) := by decide +kernel
theorem dX7_back_54 : decode cX7_back 54 = .ok (.aload_n 0, 1) := by decide +kernel
theorem dX7_back_55 : decode cX7_back 55 = .ok (.iconst 0, 1) := by decide +kernel
theorem dX7_back_56 : decode cX7_back 56 = .ok (.putfield 189, 3) := by decide +kernel
theorem dX7_back_59 : decode cX7_back 59 = .ok (.aload_n 0, 1) := by decide +kernel
theorem dX7_back_60 : decode cX7_back 60 = .ok (.getfield 192, 3) := by decide +kernel
theorem dX7_back_63 : decode cX7_back 63 = .ok (.ireturn, 1) := by decide +kernel
noncomputable def f_X7_back_b22 (q : Int32 × Mem) : Option ((Int32 × Mem) ⊕ (Int32 × Mem)) :=
  if 28 ≤ q.1 then (some (.inr (q.1, q.2))) else (rd (q.2 89) 56 ((28 * (q.2 62 43)) + q.1) fun v46 => wr q.2 77 28 q.1 v46 fun m47 => lt' (q.1 + 1) fun v48 => some (.inl (v48, m47)))
noncomputable def f_X7_back  (mem : Mem) : Option (Int32 × Mem) :=
  if (mem 62 43) = 0 then (some ((-2), mem)) else (lt' (mset mem 62 43 ((mem 62 43) - 1)) fun m17 => ob (lp f_X7_back_b22 FU (0, m17)) fun q22 => lt' (mset q22.2 62 31 0) fun m56 => lt' (m56 62 43) fun v63 => some (v63, m56))
def P_X7_back_22 (E : Ex) (κ : Kx) (ad : Nat → Nat) (lay : List Ent) : (Int32 × Mem) ⊕ (Int32 × Mem) → Prop
  | .inl q => Gw E κ 2 0 0 22 [some (.ref (ad 62)), some (.int q.1)] [] ad lay q.2
  | .inr q => Gw E κ 2 0 0 54 [some (.ref (ad 62)), none] [] ad lay q.2
set_option maxRecDepth 100000 in
set_option maxHeartbeats 4000000 in
theorem b_X7_back_22 {E : Ex} {κ : Kx} {ad : Nat → Nat} {sh sp : Nat} {d : Nat} (C : Cx E κ cX7_back RX7 2 (some .int) d) (hd : 0 ≤ d)  {q : Int32 × Mem} {x : (Int32 × Mem) ⊕ (Int32 × Mem)} (h : f_X7_back_b22  q = some x) (hP : (P_X7_back_22 E κ ad (LC sh sp ++ LM) ) x) : Gw E κ 2 0 0 22 [some (.ref (ad 62)), some (.int q.1)] [] ad (LC sh sp ++ LM) q.2 := by
  unfold f_X7_back_b22 at h
  refine g_iload_n (pc := 22) (i := 1) (x := q.1) C dX7_back_22 rfl rfl ?_
  refine g_bipush (pc := 23) (v := 28) C dX7_back_23 rfl ?_
  rcases ite_some' h with ⟨hc25, h⟩ | ⟨hc25, h⟩
  · refine g_icmp_ge_t (pc := 25) C 54 dX7_back_25 (by decide) hc25 ?_
    refine g_mask (lv' := [some (.ref (ad 62)), none]) [true, false] rfl ?_
    cases h
    exact hP
  · refine g_icmp_ge_f (pc := 25) C 54 dX7_back_25 (by decide) hc25 ?_
    refine g_aload_n (pc := 28) (i := 0) (x := ad 62) C dX7_back_28 rfl rfl ?_
    refine g_get (pc := 29) (v := .ref (ad 77)) C ok_X7 26 (by decide) wf_X7_52 dX7_back_29 la_62 rfl ?_
    refine g_iload_n (pc := 32) (i := 1) (x := q.1) C dX7_back_32 rfl rfl ?_
    refine g_aload_n (pc := 33) (i := 0) (x := ad 62) C dX7_back_33 rfl rfl ?_
    refine g_get (pc := 34) (v := .ref (ad 89)) C ok_X7 44 (by decide) wf_X7_89 dX7_back_34 la_62 rfl ?_
    refine g_bipush (pc := 37) (v := 28) C dX7_back_37 rfl ?_
    refine g_aload_n (pc := 39) (i := 0) (x := ad 62) C dX7_back_39 rfl rfl ?_
    refine g_get (pc := 40) (v := .int (q.2 62 43)) C ok_X7 43 (by decide) wf_X7_192 dX7_back_40 la_62 rfl ?_
    refine g_imul (pc := 43) C dX7_back_43 ?_
    refine g_iload_n (pc := 44) (i := 1) (x := q.1) C dX7_back_44 rfl rfl ?_
    refine g_iadd (pc := 45) C dX7_back_45 ?_
    obtain ⟨v46, hv46, hi46, h⟩ := rd_some h
    refine g_iald (pc := 46) C dX7_back_46 la_89 hi46 ?_
    refine g_topi hv46 ?_
    obtain ⟨m47, hm47, hi47, h⟩ := wr_some h
    refine g_iast (pc := 47) C dX7_back_47 la_77 hi47 ?_
    refine g_mem hm47 ?_
    obtain ⟨v48, hv48, h⟩ := lt_some h
    refine g_iinc (pc := 48) (i := 1) (x := q.1) (v := v48) (lv' := [some (.ref (ad 62)), some (.int v48)]) C dX7_back_48 rfl hv48.symm (by decide) rfl rfl ?_
    refine g_goto (pc := 51) C 22 dX7_back_51 (by decide) ?_
    cases h
    exact hP
set_option maxRecDepth 100000 in
set_option maxHeartbeats 4000000 in
theorem m_X7_back {E : Ex} {ad : Nat → Nat} {sh sp : Nat} {d : Nat} (hd : 0 ≤ d)   {mem : Mem} {r : Int32 × Mem} (h : f_X7_back mem = some r) : Cl E yX7_back cX7_back 2 (some .int) d [.ref (ad 62)] (some (.int r.1)) ad (LC sh sp ++ LM) mem (LC sh sp ++ LM) r.2 := by
  refine Cl.of [some (.ref (ad 62)), none] (by decide +kernel) rfl (Nat.le_of_ble_eq_true rfl) (fun κ C hP => ?_)
  have C : Cx E κ cX7_back RX7 2 (some .int) d := C
  unfold f_X7_back at h
  refine g_aload_n (pc := 0) (i := 0) (x := ad 62) C dX7_back_0 rfl rfl ?_
  refine g_get (pc := 1) (v := .int (mem 62 43)) C ok_X7 43 (by decide) wf_X7_192 dX7_back_1 la_62 rfl ?_
  rcases ite_some' h with ⟨hc4, h⟩ | ⟨hc4, h⟩
  · refine g_if_ne_f (pc := 4) C 10 dX7_back_4 (by decide) hc4 ?_
    refine g_bipush (pc := 7) (v := (-2)) C dX7_back_7 rfl ?_
    cases h
    exact g_iret (pc := 9) C hP rfl rfl dX7_back_9
  · refine g_if_ne_t (pc := 4) C 10 dX7_back_4 (by decide) hc4 ?_
    refine g_aload_n (pc := 10) (i := 0) (x := ad 62) C dX7_back_10 rfl rfl ?_
    refine g_dup (pc := 11) C dX7_back_11 rfl ?_
    refine g_get (pc := 12) (v := .int (mem 62 43)) C ok_X7 43 (by decide) wf_X7_192 dX7_back_12 la_62 rfl ?_
    refine g_iconst (pc := 15) (v := 1) C dX7_back_15 rfl ?_
    refine g_isub (pc := 16) C dX7_back_16 ?_
    obtain ⟨m17, hm17, h⟩ := lt_some h
    refine g_put (pc := 17) C ok_X7 43 (by decide) wf_X7_192 dX7_back_17 rfl rfl la_62 ?_
    refine g_mem hm17 ?_
    refine g_iconst (pc := 20) (v := 0) C dX7_back_20 rfl ?_
    refine g_istore_n (pc := 21) (i := 1) (lv' := [some (.ref (ad 62)), some (.int 0)]) C dX7_back_21 rfl (by decide) rfl rfl ?_
    obtain ⟨q22, hq, h⟩ := ob_some h
    refine lp_gw (P_X7_back_22 E κ ad (LC sh sp ++ LM) ) (fun q x hb hp => b_X7_back_22 C hd hb hp) _ (0, m17) _ hq ?_
    show Gw E κ 2 0 0 54 [some (.ref (ad 62)), none] [] ad (LC sh sp ++ LM) q22.2
    refine g_aload_n (pc := 54) (i := 0) (x := ad 62) C dX7_back_54 rfl rfl ?_
    refine g_iconst (pc := 55) (v := 0) C dX7_back_55 rfl ?_
    obtain ⟨m56, hm56, h⟩ := lt_some h
    refine g_put (pc := 56) C ok_X7 31 (by decide) wf_X7_189 dX7_back_56 rfl rfl la_62 ?_
    refine g_mem hm56 ?_
    refine g_aload_n (pc := 59) (i := 0) (x := ad 62) C dX7_back_59 rfl rfl ?_
    refine g_get (pc := 60) (v := .int (m56 62 43)) C ok_X7 43 (by decide) wf_X7_192 dX7_back_60 la_62 rfl ?_
    obtain ⟨v63, hv63, h⟩ := lt_some h
    refine g_topi hv63 ?_
    cases h
    exact g_iret (pc := 63) C hP rfl rfl dX7_back_63

theorem dX7_standing_0 : decode cX7_standing 0 = .ok (.iconst 0, 1) := by decide +kernel
theorem dX7_standing_1 : decode cX7_standing 1 = .ok (.istore_n 1, 1) := by decide +kernel
theorem dX7_standing_2 : decode cX7_standing 2 = .ok (.iconst 0, 1) := by decide +kernel
theorem dX7_standing_3 : decode cX7_standing 3 = .ok (.istore_n 2, 1) := by decide +kernel
theorem dX7_standing_4 : decode cX7_standing 4 = .ok (.iload_n 2, 1) := by decide +kernel
theorem dX7_standing_5 : decode cX7_standing 5 = .ok (.aload_n 0, 1) := by decide +kernel
theorem dX7_standing_6 : decode cX7_standing 6 = .ok (.invokevirtual 198, 3) := by decide +kernel
theorem dX7_standing_9 : decode cX7_standing 9 = .ok (.if_icmp .ge 26, 3) := by decide +kernel
theorem dX7_standing_12 : decode cX7_standing 12 = .ok (.iload_n 1, 1) := by decide +kernel
theorem dX7_standing_13 : decode cX7_standing 13 = .ok (.aload_n 0, 1) := by decide +kernel
theorem dX7_standing_14 : decode cX7_standing 14 = .ok (.getfield 52, 3) := by decide +kernel
theorem dX7_standing_17 : decode cX7_standing 17 = .ok (.iload_n 2, 1) := by decide +kernel
theorem dX7_standing_18 : decode cX7_standing 18 = .ok (.iaload, 1) := by decide +kernel
theorem dX7_standing_19 : decode cX7_standing 19 = .ok (.ifCond .le 7, 3) := by decide +kernel
theorem dX7_standing_22 : decode cX7_standing 22 = .ok (.iconst 1, 1) := by decide +kernel
theorem dX7_standing_23 : decode cX7_standing 23 = .ok (.goto 4, 3) := by decide +kernel
theorem dX7_standing_26 : decode cX7_standing 26 = .ok (.iconst 0, 1) := by decide +kernel
theorem dX7_standing_27 : decode cX7_standing 27 = .ok (.iadd, 1) := by decide +kernel
theorem dX7_standing_28 : decode cX7_standing 28 = .ok (.istore_n 1, 1) := by decide +kernel
theorem dX7_standing_29 : decode cX7_standing 29 = .ok (.iinc 2 1, 3) := by decide +kernel
theorem dX7_standing_32 : decode cX7_standing 32 = .ok (.goto (-28), 3) := by decide +kernel
theorem dX7_standing_35 : decode cX7_standing 35 = .ok (.iload_n 1, 1) := by decide +kernel
theorem dX7_standing_36 : decode cX7_standing 36 = .ok (.ireturn, 1) := by decide +kernel
noncomputable def f_X7_standing_b4 (mem : Mem) (q : Int32 × Int32) : Option ((Int32 × Int32) ⊕ (Int32 × Int32)) :=
  ob (f_X7_squares mem) fun r6 => if r6 ≤ q.2 then (some (.inr (q.1, q.2))) else (rd (mem 77) 28 q.2 fun v18 => if v18 ≤ 0 then (lt' (q.1 + 0) fun v28 => lt' (q.2 + 1) fun v29 => some (.inl (v28, v29))) else (lt' (q.1 + 1) fun v28 => lt' (q.2 + 1) fun v29 => some (.inl (v28, v29))))
noncomputable def f_X7_standing  (mem : Mem) : Option (Int32) :=
  ob (lp (f_X7_standing_b4 mem) FU (0, 0)) fun q4 => some q4.1
def P_X7_standing_4 (E : Ex) (κ : Kx) (ad : Nat → Nat) (lay : List Ent) (mem : Mem) : (Int32 × Int32) ⊕ (Int32 × Int32) → Prop
  | .inl q => Gw E κ 3 0 0 4 [some (.ref (ad 62)), some (.int q.1), some (.int q.2)] [] ad lay mem
  | .inr q => Gw E κ 3 0 0 35 [none, some (.int q.1), none] [] ad lay mem
set_option maxRecDepth 100000 in
set_option maxHeartbeats 4000000 in
theorem b_X7_standing_4 {E : Ex} {κ : Kx} {ad : Nat → Nat} {sh sp : Nat} {d : Nat} (C : Cx E κ cX7_standing RX7 3 (some .int) d) (hd : 1 ≤ d)  {mem : Mem} {q : Int32 × Int32} {x : (Int32 × Int32) ⊕ (Int32 × Int32)} (h : f_X7_standing_b4 mem q = some x) (hP : (P_X7_standing_4 E κ ad (LC sh sp ++ LM) mem) x) : Gw E κ 3 0 0 4 [some (.ref (ad 62)), some (.int q.1), some (.int q.2)] [] ad (LC sh sp ++ LM) mem := by
  unfold f_X7_standing_b4 at h
  refine g_iload_n (pc := 4) (i := 2) (x := q.2) C dX7_standing_4 rfl rfl ?_
  refine g_aload_n (pc := 5) (i := 0) (x := ad 62) C dX7_standing_5 rfl rfl ?_
  obtain ⟨r6, hcall6, h⟩ := ob_some h
  refine g_callV (pc := 6) C ce0 mi_X7_squares mv_X7_squares wm_X7_198 dX7_standing_6 ok_X7 [] [.int q.2] la_62 (by omega) rfl rfl (Nat.le_of_ble_eq_true rfl) (m_X7_squares (d := d - 1) (by omega)  hcall6) ?_
  show Gw E κ 3 0 0 9 [some (.ref (ad 62)), some (.int q.1), some (.int q.2)] [.int r6, .int q.2] ad (LC sh sp ++ LM) mem
  rcases ite_some' h with ⟨hc9, h⟩ | ⟨hc9, h⟩
  · refine g_icmp_ge_t (pc := 9) C 35 dX7_standing_9 (by decide) hc9 ?_
    refine g_mask (lv' := [none, some (.int q.1), none]) [false, true, false] rfl ?_
    cases h
    exact hP
  · refine g_icmp_ge_f (pc := 9) C 35 dX7_standing_9 (by decide) hc9 ?_
    refine g_iload_n (pc := 12) (i := 1) (x := q.1) C dX7_standing_12 rfl rfl ?_
    refine g_aload_n (pc := 13) (i := 0) (x := ad 62) C dX7_standing_13 rfl rfl ?_
    refine g_get (pc := 14) (v := .ref (ad 77)) C ok_X7 26 (by decide) wf_X7_52 dX7_standing_14 la_62 rfl ?_
    refine g_iload_n (pc := 17) (i := 2) (x := q.2) C dX7_standing_17 rfl rfl ?_
    obtain ⟨v18, hv18, hi18, h⟩ := rd_some h
    refine g_iald (pc := 18) C dX7_standing_18 la_77 hi18 ?_
    refine g_topi hv18 ?_
    rcases ite_some' h with ⟨hc19, h⟩ | ⟨hc19, h⟩
    · refine g_if_le_t (pc := 19) C 26 dX7_standing_19 (by decide) hc19 ?_
      refine g_iconst (pc := 26) (v := 0) C dX7_standing_26 rfl ?_
      refine g_iadd (pc := 27) C dX7_standing_27 ?_
      obtain ⟨v28, hv28, h⟩ := lt_some h
      refine g_topi hv28 ?_
      refine g_istore_n (pc := 28) (i := 1) (lv' := [some (.ref (ad 62)), some (.int v28), some (.int q.2)]) C dX7_standing_28 rfl (by decide) rfl rfl ?_
      obtain ⟨v29, hv29, h⟩ := lt_some h
      refine g_iinc (pc := 29) (i := 2) (x := q.2) (v := v29) (lv' := [some (.ref (ad 62)), some (.int v28), some (.int v29)]) C dX7_standing_29 rfl hv29.symm (by decide) rfl rfl ?_
      refine g_goto (pc := 32) C 4 dX7_standing_32 (by decide) ?_
      cases h
      exact hP
    · refine g_if_le_f (pc := 19) C 26 dX7_standing_19 (by decide) hc19 ?_
      refine g_iconst (pc := 22) (v := 1) C dX7_standing_22 rfl ?_
      refine g_goto (pc := 23) C 27 dX7_standing_23 (by decide) ?_
      refine g_iadd (pc := 27) C dX7_standing_27 ?_
      obtain ⟨v28, hv28, h⟩ := lt_some h
      refine g_topi hv28 ?_
      refine g_istore_n (pc := 28) (i := 1) (lv' := [some (.ref (ad 62)), some (.int v28), some (.int q.2)]) C dX7_standing_28 rfl (by decide) rfl rfl ?_
      obtain ⟨v29, hv29, h⟩ := lt_some h
      refine g_iinc (pc := 29) (i := 2) (x := q.2) (v := v29) (lv' := [some (.ref (ad 62)), some (.int v28), some (.int v29)]) C dX7_standing_29 rfl hv29.symm (by decide) rfl rfl ?_
      refine g_goto (pc := 32) C 4 dX7_standing_32 (by decide) ?_
      cases h
      exact hP
set_option maxRecDepth 100000 in
set_option maxHeartbeats 4000000 in
theorem m_X7_standing {E : Ex} {ad : Nat → Nat} {sh sp : Nat} {d : Nat} (hd : 1 ≤ d)   {mem : Mem} {r : Int32} (h : f_X7_standing mem = some r) : Cl E yX7_standing cX7_standing 3 (some .int) d [.ref (ad 62)] (some (.int r)) ad (LC sh sp ++ LM) mem (LC sh sp ++ LM) mem := by
  refine Cl.of [some (.ref (ad 62)), none, none] (by decide +kernel) rfl (Nat.le_of_ble_eq_true rfl) (fun κ C hP => ?_)
  have C : Cx E κ cX7_standing RX7 3 (some .int) d := C
  unfold f_X7_standing at h
  refine g_iconst (pc := 0) (v := 0) C dX7_standing_0 rfl ?_
  refine g_istore_n (pc := 1) (i := 1) (lv' := [some (.ref (ad 62)), some (.int 0), none]) C dX7_standing_1 rfl (by decide) rfl rfl ?_
  refine g_iconst (pc := 2) (v := 0) C dX7_standing_2 rfl ?_
  refine g_istore_n (pc := 3) (i := 2) (lv' := [some (.ref (ad 62)), some (.int 0), some (.int 0)]) C dX7_standing_3 rfl (by decide) rfl rfl ?_
  obtain ⟨q4, hq, h⟩ := ob_some h
  refine lp_gw (P_X7_standing_4 E κ ad (LC sh sp ++ LM) mem) (fun q x hb hp => b_X7_standing_4 C hd hb hp) _ (0, 0) _ hq ?_
  show Gw E κ 3 0 0 35 [none, some (.int q4.1), none] [] ad (LC sh sp ++ LM) mem
  refine g_iload_n (pc := 35) (i := 1) (x := q4.1) C dX7_standing_35 rfl rfl ?_
  cases h
  exact g_iret (pc := 36) C hP rfl rfl dX7_standing_36

theorem dX7_count_0 : decode cX7_count 0 = .ok (.iload_n 1, 1) := by decide +kernel
theorem dX7_count_1 : decode cX7_count 1 = .ok (.tableswitch 105 0 9 #[55, 60, 65, 70, 75, 80, 85, 90, 95, 100], 55) := by decide +kernel
theorem dX7_count_56 : decode cX7_count 56 = .ok (.aload_n 0, 1) := by decide +kernel
theorem dX7_count_57 : decode cX7_count 57 = .ok (.invokevirtual 198, 3) := by decide +kernel
theorem dX7_count_60 : decode cX7_count 60 = .ok (.ireturn, 1) := by decide +kernel
theorem dX7_count_61 : decode cX7_count 61 = .ok (.aload_n 0, 1) := by decide +kernel
theorem dX7_count_62 : decode cX7_count 62 = .ok (.getfield 171, 3) := by decide +kernel
theorem dX7_count_65 : decode cX7_count 65 = .ok (.ireturn, 1) := by decide +kernel
theorem dX7_count_66 : decode cX7_count 66 = .ok (.aload_n 0, 1) := by decide +kernel
theorem dX7_count_67 : decode cX7_count 67 = .ok (.getfield 177, 3) := by decide +kernel
theorem dX7_count_70 : decode cX7_count 70 = .ok (.ireturn, 1) := by decide +kernel
theorem dX7_count_71 : decode cX7_count 71 = .ok (.aload_n 0, 1) := by decide +kernel
theorem dX7_count_72 : decode cX7_count 72 = .ok (.getfield 180, 3) := by decide +kernel
theorem dX7_count_75 : decode cX7_count 75 = .ok (.ireturn, 1) := by decide +kernel
theorem dX7_count_76 : decode cX7_count 76 = .ok (.aload_n 0, 1) := by decide +kernel
theorem dX7_count_77 : decode cX7_count 77 = .ok (.getfield 183, 3) := by decide +kernel
theorem dX7_count_80 : decode cX7_count 80 = .ok (.ireturn, 1) := by decide +kernel
theorem dX7_count_81 : decode cX7_count 81 = .ok (.aload_n 0, 1) := by decide +kernel
theorem dX7_count_82 : decode cX7_count 82 = .ok (.invokevirtual 305, 3) := by decide +kernel
theorem dX7_count_85 : decode cX7_count 85 = .ok (.ireturn, 1) := by decide +kernel
theorem dX7_count_86 : decode cX7_count 86 = .ok (.aload_n 0, 1) := by decide +kernel
theorem dX7_count_87 : decode cX7_count 87 = .ok (.getfield 195, 3) := by decide +kernel
theorem dX7_count_90 : decode cX7_count 90 = .ok (.ireturn, 1) := by decide +kernel
theorem dX7_count_91 : decode cX7_count 91 = .ok (.aload_n 0, 1) := by decide +kernel
theorem dX7_count_92 : decode cX7_count 92 = .ok (.getfield 189, 3) := by decide +kernel
theorem dX7_count_95 : decode cX7_count 95 = .ok (.ireturn, 1) := by decide +kernel
theorem dX7_count_96 : decode cX7_count 96 = .ok (.aload_n 0, 1) := by decide +kernel
theorem dX7_count_97 : decode cX7_count 97 = .ok (.getfield 192, 3) := by decide +kernel
theorem dX7_count_100 : decode cX7_count 100 = .ok (.ireturn, 1) := by decide +kernel
theorem dX7_count_101 : decode cX7_count 101 = .ok (.aload_n 0, 1) := by decide +kernel
theorem dX7_count_102 : decode cX7_count 102 = .ok (.getfield 127, 3) := by decide +kernel
theorem dX7_count_105 : decode cX7_count 105 = .ok (.ireturn, 1) := by decide +kernel
theorem dX7_count_106 : decode cX7_count 106 = .ok (.iconst (-1), 1) := by decide +kernel
theorem dX7_count_107 : decode cX7_count 107 = .ok (.ireturn, 1) := by decide +kernel
noncomputable def f_X7_count (l1 : Int32) (mem : Mem) : Option (Int32) :=
  if l1 = 0 then (ob (f_X7_squares mem) fun r57 => some r57) else (if l1 = 1 then (lt' (mem 62 14) fun v65 => some v65) else (if l1 = 2 then (lt' (mem 62 16) fun v70 => some v70) else (if l1 = 3 then (lt' (mem 62 17) fun v75 => some v75) else (if l1 = 4 then (lt' (mem 62 18) fun v80 => some v80) else (if l1 = 5 then (ob (f_X7_standing mem) fun r82 => some r82) else (if l1 = 6 then (lt' (mem 62 40) fun v90 => some v90) else (if l1 = 7 then (lt' (mem 62 31) fun v95 => some v95) else (if l1 = 8 then (lt' (mem 62 43) fun v100 => some v100) else (if l1 = 9 then (lt' (mem 62 0) fun v105 => some v105) else (some ((-1))))))))))))
set_option maxRecDepth 100000 in
set_option maxHeartbeats 4000000 in
theorem m_X7_count {E : Ex} {ad : Nat → Nat} {sh sp : Nat} {d : Nat} (hd : 2 ≤ d)  {l1 : Int32} {mem : Mem} {r : Int32} (h : f_X7_count l1 mem = some r) : Cl E yX7_count cX7_count 2 (some .int) d [.ref (ad 62), .int l1] (some (.int r)) ad (LC sh sp ++ LM) mem (LC sh sp ++ LM) mem := by
  refine Cl.of [some (.ref (ad 62)), some (.int l1)] (by decide +kernel) rfl (Nat.le_of_ble_eq_true rfl) (fun κ C hP => ?_)
  have C : Cx E κ cX7_count RX7 2 (some .int) d := C
  unfold f_X7_count at h
  refine g_iload_n (pc := 0) (i := 1) (x := l1) C dX7_count_0 rfl rfl ?_
  rcases ite_some' h with ⟨hc1_0, h⟩ | ⟨hc1_0, h⟩
  · refine g_tsw (pc := 1) (n := 0) C 0 56 hc1_0 rfl dX7_count_1 (by decide) (by decide) rfl (by decide) ?_
    refine g_aload_n (pc := 56) (i := 0) (x := ad 62) C dX7_count_56 rfl rfl ?_
    obtain ⟨r57, hcall57, h⟩ := ob_some h
    refine g_callV (pc := 57) C ce0 mi_X7_squares mv_X7_squares wm_X7_198 dX7_count_57 ok_X7 [] [] la_62 (by omega) rfl rfl (Nat.le_of_ble_eq_true rfl) (m_X7_squares (d := d - 1) (by omega)  hcall57) ?_
    show Gw E κ 2 0 0 60 [some (.ref (ad 62)), some (.int l1)] [.int r57] ad (LC sh sp ++ LM) mem
    cases h
    exact g_iret (pc := 60) C hP rfl rfl dX7_count_60
  · skip
    rcases ite_some' h with ⟨hc1_1, h⟩ | ⟨hc1_1, h⟩
    · refine g_tsw (pc := 1) (n := 1) C 1 61 hc1_1 rfl dX7_count_1 (by decide) (by decide) rfl (by decide) ?_
      refine g_aload_n (pc := 61) (i := 0) (x := ad 62) C dX7_count_61 rfl rfl ?_
      refine g_get (pc := 62) (v := .int (mem 62 14)) C ok_X7 14 (by decide) wf_X7_171 dX7_count_62 la_62 rfl ?_
      obtain ⟨v65, hv65, h⟩ := lt_some h
      refine g_topi hv65 ?_
      cases h
      exact g_iret (pc := 65) C hP rfl rfl dX7_count_65
    · skip
      rcases ite_some' h with ⟨hc1_2, h⟩ | ⟨hc1_2, h⟩
      · refine g_tsw (pc := 1) (n := 2) C 2 66 hc1_2 rfl dX7_count_1 (by decide) (by decide) rfl (by decide) ?_
        refine g_aload_n (pc := 66) (i := 0) (x := ad 62) C dX7_count_66 rfl rfl ?_
        refine g_get (pc := 67) (v := .int (mem 62 16)) C ok_X7 16 (by decide) wf_X7_177 dX7_count_67 la_62 rfl ?_
        obtain ⟨v70, hv70, h⟩ := lt_some h
        refine g_topi hv70 ?_
        cases h
        exact g_iret (pc := 70) C hP rfl rfl dX7_count_70
      · skip
        rcases ite_some' h with ⟨hc1_3, h⟩ | ⟨hc1_3, h⟩
        · refine g_tsw (pc := 1) (n := 3) C 3 71 hc1_3 rfl dX7_count_1 (by decide) (by decide) rfl (by decide) ?_
          refine g_aload_n (pc := 71) (i := 0) (x := ad 62) C dX7_count_71 rfl rfl ?_
          refine g_get (pc := 72) (v := .int (mem 62 17)) C ok_X7 17 (by decide) wf_X7_180 dX7_count_72 la_62 rfl ?_
          obtain ⟨v75, hv75, h⟩ := lt_some h
          refine g_topi hv75 ?_
          cases h
          exact g_iret (pc := 75) C hP rfl rfl dX7_count_75
        · skip
          rcases ite_some' h with ⟨hc1_4, h⟩ | ⟨hc1_4, h⟩
          · refine g_tsw (pc := 1) (n := 4) C 4 76 hc1_4 rfl dX7_count_1 (by decide) (by decide) rfl (by decide) ?_
            refine g_aload_n (pc := 76) (i := 0) (x := ad 62) C dX7_count_76 rfl rfl ?_
            refine g_get (pc := 77) (v := .int (mem 62 18)) C ok_X7 18 (by decide) wf_X7_183 dX7_count_77 la_62 rfl ?_
            obtain ⟨v80, hv80, h⟩ := lt_some h
            refine g_topi hv80 ?_
            cases h
            exact g_iret (pc := 80) C hP rfl rfl dX7_count_80
          · skip
            rcases ite_some' h with ⟨hc1_5, h⟩ | ⟨hc1_5, h⟩
            · refine g_tsw (pc := 1) (n := 5) C 5 81 hc1_5 rfl dX7_count_1 (by decide) (by decide) rfl (by decide) ?_
              refine g_aload_n (pc := 81) (i := 0) (x := ad 62) C dX7_count_81 rfl rfl ?_
              obtain ⟨r82, hcall82, h⟩ := ob_some h
              refine g_callV (pc := 82) C ce0 mi_X7_standing mv_X7_standing wm_X7_305 dX7_count_82 ok_X7 [] [] la_62 (by omega) rfl rfl (Nat.le_of_ble_eq_true rfl) (m_X7_standing (d := d - 1) (by omega)  hcall82) ?_
              show Gw E κ 2 0 0 85 [some (.ref (ad 62)), some (.int l1)] [.int r82] ad (LC sh sp ++ LM) mem
              cases h
              exact g_iret (pc := 85) C hP rfl rfl dX7_count_85
            · skip
              rcases ite_some' h with ⟨hc1_6, h⟩ | ⟨hc1_6, h⟩
              · refine g_tsw (pc := 1) (n := 6) C 6 86 hc1_6 rfl dX7_count_1 (by decide) (by decide) rfl (by decide) ?_
                refine g_aload_n (pc := 86) (i := 0) (x := ad 62) C dX7_count_86 rfl rfl ?_
                refine g_get (pc := 87) (v := .int (mem 62 40)) C ok_X7 40 (by decide) wf_X7_195 dX7_count_87 la_62 rfl ?_
                obtain ⟨v90, hv90, h⟩ := lt_some h
                refine g_topi hv90 ?_
                cases h
                exact g_iret (pc := 90) C hP rfl rfl dX7_count_90
              · skip
                rcases ite_some' h with ⟨hc1_7, h⟩ | ⟨hc1_7, h⟩
                · refine g_tsw (pc := 1) (n := 7) C 7 91 hc1_7 rfl dX7_count_1 (by decide) (by decide) rfl (by decide) ?_
                  refine g_aload_n (pc := 91) (i := 0) (x := ad 62) C dX7_count_91 rfl rfl ?_
                  refine g_get (pc := 92) (v := .int (mem 62 31)) C ok_X7 31 (by decide) wf_X7_189 dX7_count_92 la_62 rfl ?_
                  obtain ⟨v95, hv95, h⟩ := lt_some h
                  refine g_topi hv95 ?_
                  cases h
                  exact g_iret (pc := 95) C hP rfl rfl dX7_count_95
                · skip
                  rcases ite_some' h with ⟨hc1_8, h⟩ | ⟨hc1_8, h⟩
                  · refine g_tsw (pc := 1) (n := 8) C 8 96 hc1_8 rfl dX7_count_1 (by decide) (by decide) rfl (by decide) ?_
                    refine g_aload_n (pc := 96) (i := 0) (x := ad 62) C dX7_count_96 rfl rfl ?_
                    refine g_get (pc := 97) (v := .int (mem 62 43)) C ok_X7 43 (by decide) wf_X7_192 dX7_count_97 la_62 rfl ?_
                    obtain ⟨v100, hv100, h⟩ := lt_some h
                    refine g_topi hv100 ?_
                    cases h
                    exact g_iret (pc := 100) C hP rfl rfl dX7_count_100
                  · skip
                    rcases ite_some' h with ⟨hc1_9, h⟩ | ⟨hc1_9, h⟩
                    · refine g_tsw (pc := 1) (n := 9) C 9 101 hc1_9 rfl dX7_count_1 (by decide) (by decide) rfl (by decide) ?_
                      refine g_aload_n (pc := 101) (i := 0) (x := ad 62) C dX7_count_101 rfl rfl ?_
                      refine g_get (pc := 102) (v := .int (mem 62 0)) C ok_X7 0 (by decide) wf_X7_127 dX7_count_102 la_62 rfl ?_
                      obtain ⟨v105, hv105, h⟩ := lt_some h
                      refine g_topi hv105 ?_
                      cases h
                      exact g_iret (pc := 105) C hP rfl rfl dX7_count_105
                    · skip
                      refine g_tswD (pc := 1) C 106 dX7_count_1 (by have z0 := i32_ne 0 hc1_0 (n := 0) rfl; have z1 := i32_ne 1 hc1_1 (n := 1) rfl; have z2 := i32_ne 2 hc1_2 (n := 2) rfl; have z3 := i32_ne 3 hc1_3 (n := 3) rfl; have z4 := i32_ne 4 hc1_4 (n := 4) rfl; have z5 := i32_ne 5 hc1_5 (n := 5) rfl; have z6 := i32_ne 6 hc1_6 (n := 6) rfl; have z7 := i32_ne 7 hc1_7 (n := 7) rfl; have z8 := i32_ne 8 hc1_8 (n := 8) rfl; have z9 := i32_ne 9 hc1_9 (n := 9) rfl; omega) (by decide) ?_
                      refine g_iconst (pc := 106) (v := (-1)) C dX7_count_106 rfl ?_
                      cases h
                      exact g_iret (pc := 107) C hP rfl rfl dX7_count_107
