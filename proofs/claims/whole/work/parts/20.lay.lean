theorem dX6_layText_0 : decode cX6_layText 0 = .ok (.aload_n 0, 1) := by decide +kernel
theorem dX6_layText_1 : decode cX6_layText 1 = .ok (.getfield 12, 3) := by decide +kernel
theorem dX6_layText_4 : decode cX6_layText 4 = .ok (.aload_n 0, 1) := by decide +kernel
theorem dX6_layText_5 : decode cX6_layText 5 = .ok (.getfield 23, 3) := by decide +kernel
theorem dX6_layText_8 : decode cX6_layText 8 = .ok (.invokevirtual 93, 3) := by decide +kernel
theorem dX6_layText_11 : decode cX6_layText 11 = .ok (.bipush (-4), 2) := by decide +kernel
theorem dX6_layText_13 : decode cX6_layText 13 = .ok (.if_icmp .ne 13, 3) := by decide +kernel
theorem dX6_layText_16 : decode cX6_layText 16 = .ok (.aload_n 0, 1) := by decide +kernel
theorem dX6_layText_17 : decode cX6_layText 17 = .ok (.getfield 23, 3) := by decide +kernel
theorem dX6_layText_20 : decode cX6_layText 20 = .ok (.getfield 231, 3) := by decide +kernel
theorem dX6_layText_23 : decode cX6_layText 23 = .ok (.ifCond .ne 5, 3) := by decide +kernel
theorem dX6_layText_26 : decode cX6_layText 26 = .ok (.iconst 0, 1) := by decide +kernel
theorem dX6_layText_27 : decode cX6_layText 27 = .ok (.ireturn, 1) := by decide +kernel
theorem dX6_layText_28 : decode cX6_layText 28 = .ok (.aload_n 0, 1) := by decide +kernel
theorem dX6_layText_29 : decode cX6_layText 29 = .ok (.getfield 19, 3) := by decide +kernel
theorem dX6_layText_32 : decode cX6_layText 32 = .ok (.astore_n 1, 1) := by decide +kernel
theorem dX6_layText_33 : decode cX6_layText 33 = .ok (.aload_n 0, 1) := by decide +kernel
theorem dX6_layText_34 : decode cX6_layText 34 = .ok (.aload_n 0, 1) := by decide +kernel
theorem dX6_layText_35 : decode cX6_layText 35 = .ok (.getfield 23, 3) := by decide +kernel
theorem dX6_layText_38 : decode cX6_layText 38 = .ok (.putfield 19, 3) := by decide +kernel
theorem dX6_layText_41 : decode cX6_layText 41 = .ok (.aload_n 0, 1) := by decide +kernel
theorem dX6_layText_42 : decode cX6_layText 42 = .ok (.aload_n 1, 1) := by decide +kernel
theorem dX6_layText_43 : decode cX6_layText 43 = .ok (.putfield 23, 3) := by decide +kernel
theorem dX6_layText_46 : decode cX6_layText 46 = .ok (.aload_n 0, 1) := by decide +kernel
theorem dX6_layText_47 : decode cX6_layText 47 = .ok (.getfield 29, 3) := by decide +kernel
theorem dX6_layText_50 : decode cX6_layText 50 = .ok (.aload_n 0, 1) := by decide +kernel
theorem dX6_layText_51 : decode cX6_layText 51 = .ok (.getfield 19, 3) := by decide +kernel
theorem dX6_layText_54 : decode cX6_layText 54 = .ok (.getfield 277, 3) := by decide +kernel
theorem dX6_layText_57 : decode cX6_layText 57 = .ok (.invokevirtual 188, 3) := by decide +kernel
theorem dX6_layText_60 : decode cX6_layText 60 = .ok (.aload_n 0, 1) := by decide +kernel
theorem dX6_layText_61 : decode cX6_layText 61 = .ok (.getfield 55, 3) := by decide +kernel
theorem dX6_layText_64 : decode cX6_layText 64 = .ok (.iconst 0, 1) := by decide +kernel
theorem dX6_layText_65 : decode cX6_layText 65 = .ok (.putfield 185, 3) := by decide +kernel
theorem dX6_layText_68 : decode cX6_layText 68 = .ok (.aload_n 0, 1) := by decide +kernel
theorem dX6_layText_69 : decode cX6_layText 69 = .ok (.getfield 59, 3) := by decide +kernel
theorem dX6_layText_72 : decode cX6_layText 72 = .ok (.iconst 0, 1) := by decide +kernel
theorem dX6_layText_73 : decode cX6_layText 73 = .ok (.putfield 185, 3) := by decide +kernel
theorem dX6_layText_76 : decode cX6_layText 76 = .ok (.aload_n 0, 1) := by decide +kernel
theorem dX6_layText_77 : decode cX6_layText 77 = .ok (.iconst 0, 1) := by decide +kernel
theorem dX6_layText_78 : decode cX6_layText 78 = .ok (.putfield 228, 3) := by decide +kernel
theorem dX6_layText_81 : decode cX6_layText 81 = .ok (.iconst 1, 1) := by decide +kernel
theorem dX6_layText_82 : decode cX6_layText 82 = .ok (.ireturn, 1) := by decide +kernel
noncomputable def f_X6_layText (sh sp : Nat)  (mem : Mem) : Option (Int32 × Nat × Nat × Mem) :=
  ob2 (f_X2_readInto sp mem) fun r8 m8 => if r8 = (-4) then (if (m8 sp 7) = 0 then (some (0, sh, sp, m8)) else (ob (f_X0_copy 31 (sp + 10) m8) fun m57 => lt' (mset m57 52 4 0) fun m65 => lt' (mset m65 56 4 0) fun m73 => lt' (mset m73 0 11 0) fun m78 => some (1, sp, sh, m78))) else (some (0, sh, sp, m8))
set_option maxRecDepth 100000 in
set_option maxHeartbeats 4000000 in
theorem m_X6_layText {E : Ex} {ad : Nat → Nat} {sh sp : Nat} {tl : List Ent} {d : Nat} (hd : 5 ≤ d) (hsh : isS sh) (hsp : isS sp)  {mem : Mem} {r : Int32 × Nat × Nat × Mem} (h : f_X6_layText sh sp mem = some r) : Cl E yX6_layText cX6_layText 2 (some .boolean) d [.ref (ad 0)] (some (.int r.1)) ad (LC sh sp ++ tl) mem (LC r.2.1 r.2.2.1 ++ tl) r.2.2.2 := by
  refine Cl.of [some (.ref (ad 0)), none] (by decide +kernel) rfl (Nat.le_of_ble_eq_true rfl) (fun κ C hP => ?_)
  have C : Cx E κ cX6_layText RX6 2 (some .boolean) d := C
  unfold f_X6_layText at h
  refine g_aload_n (pc := 0) (i := 0) (x := ad 0) C dX6_layText_0 rfl rfl ?_
  refine g_get (pc := 1) (v := .ref (ad 1)) C ok_X6 0 (by decide) wf_X6_12 dX6_layText_1 la_0 rfl ?_
  refine g_aload_n (pc := 4) (i := 0) (x := ad 0) C dX6_layText_4 rfl rfl ?_
  refine g_get (pc := 5) (v := .ref (ad sp)) C ok_X6 2 (by decide) wf_X6_23 dX6_layText_5 la_0 rfl ?_
  obtain ⟨r8, m8, hcall8, h⟩ := ob2_some h
  refine g_callN (pc := 8) C ce0 mi_X2_readInto mv_X2_readInto nm_X6_93 dX6_layText_8 ok_X2 [.ref (ad sp)] [] la_1 (by omega) rfl rfl (Nat.le_of_ble_eq_true rfl) (m_X2_readInto (d := d - 1) (by omega) hsp hcall8) ?_
  show Gw E κ 2 0 0 11 [some (.ref (ad 0)), none] [.int r8] ad (LC sh sp ++ tl) m8
  refine g_bipush (pc := 11) (v := (-4)) C dX6_layText_11 rfl ?_
  rcases ite_some' h with ⟨hc13, h⟩ | ⟨hc13, h⟩
  · refine g_icmp_ne_f (pc := 13) C 26 dX6_layText_13 (by decide) hc13 ?_
    refine g_aload_n (pc := 16) (i := 0) (x := ad 0) C dX6_layText_16 rfl rfl ?_
    refine g_get (pc := 17) (v := .ref (ad sp)) C ok_X6 2 (by decide) wf_X6_23 dX6_layText_17 la_0 rfl ?_
    refine g_getN (pc := 20) (v := .int (m8 sp 7)) C ok_X5 7 (by decide) nf_X6_231 dX6_layText_20 (lz_0 hsp) rfl ?_
    rcases ite_some' h with ⟨hc23, h⟩ | ⟨hc23, h⟩
    · refine g_if_ne_f (pc := 23) C 28 dX6_layText_23 (by decide) hc23 ?_
      refine g_iconst (pc := 26) (v := 0) C dX6_layText_26 rfl ?_
      cases h
      exact g_iret (pc := 27) C hP rfl rfl dX6_layText_27
    · refine g_if_ne_t (pc := 23) C 28 dX6_layText_23 (by decide) hc23 ?_
      refine g_aload_n (pc := 28) (i := 0) (x := ad 0) C dX6_layText_28 rfl rfl ?_
      refine g_get (pc := 29) (v := .ref (ad sh)) C ok_X6 1 (by decide) wf_X6_19 dX6_layText_29 la_0 rfl ?_
      refine g_astore_n (pc := 32) (i := 1) (lv' := [some (.ref (ad 0)), some (.ref (ad sh))]) C dX6_layText_32 rfl (by decide) rfl rfl ?_
      refine g_aload_n (pc := 33) (i := 0) (x := ad 0) C dX6_layText_33 rfl rfl ?_
      refine g_aload_n (pc := 34) (i := 0) (x := ad 0) C dX6_layText_34 rfl rfl ?_
      refine g_get (pc := 35) (v := .ref (ad sp)) C ok_X6 2 (by decide) wf_X6_23 dX6_layText_35 la_0 rfl ?_
      refine g_putR (pc := 38) (r := sp) C ok_X6 1 (by decide) wf_X6_19 dX6_layText_38 rfl rfl rfl (Nat.le_of_ble_eq_true rfl) rfl la_0 ?_
      show Gw E κ 2 0 0 41 [some (.ref (ad 0)), some (.ref (ad sh))] [] ad (LC sp sp ++ tl) m8
      refine g_aload_n (pc := 41) (i := 0) (x := ad 0) C dX6_layText_41 rfl rfl ?_
      refine g_aload_n (pc := 42) (i := 1) (x := ad sh) C dX6_layText_42 rfl rfl ?_
      refine g_putR (pc := 43) (r := sh) C ok_X6 2 (by decide) wf_X6_23 dX6_layText_43 rfl rfl rfl (Nat.le_of_ble_eq_true rfl) rfl la_0 ?_
      show Gw E κ 2 0 0 46 [some (.ref (ad 0)), some (.ref (ad sh))] [] ad (LC sp sh ++ tl) m8
      refine g_aload_n (pc := 46) (i := 0) (x := ad 0) C dX6_layText_46 rfl rfl ?_
      refine g_get (pc := 47) (v := .ref (ad 31)) C ok_X6 3 (by decide) wf_X6_29 dX6_layText_47 la_0 rfl ?_
      refine g_aload_n (pc := 50) (i := 0) (x := ad 0) C dX6_layText_50 rfl rfl ?_
      refine g_get (pc := 51) (v := .ref (ad sp)) C ok_X6 1 (by decide) wf_X6_19 dX6_layText_51 la_0 rfl ?_
      refine g_getN (pc := 54) (v := .ref (ad (sp + 10))) C ok_X5 14 (by decide) nf_X6_277 dX6_layText_54 (lz_0 hsp) rfl ?_
      obtain ⟨m57, hcall57, h⟩ := ob_some h
      refine g_callN (pc := 57) C ce0 mi_X0_copy mv_X0_copy nm_X6_188 dX6_layText_57 ok_X0 [.ref (ad (sp + 10))] [] la_31 (by omega) rfl rfl (Nat.le_of_ble_eq_true rfl) (m_X0_copy (d := d - 1) (by omega) t_31 (tS hsp) hcall57) ?_
      show Gw E κ 2 0 0 60 [some (.ref (ad 0)), some (.ref (ad sh))] [] ad (LC sp sh ++ tl) m57
      refine g_aload_n (pc := 60) (i := 0) (x := ad 0) C dX6_layText_60 rfl rfl ?_
      refine g_get (pc := 61) (v := .ref (ad 52)) C ok_X6 7 (by decide) wf_X6_55 dX6_layText_61 la_0 rfl ?_
      refine g_iconst (pc := 64) (v := 0) C dX6_layText_64 rfl ?_
      obtain ⟨m65, hm65, h⟩ := lt_some h
      refine g_putN (pc := 65) C ok_X1 4 (by decide) nf_X6_185 dX6_layText_65 rfl rfl la_52 ?_
      refine g_mem hm65 ?_
      refine g_aload_n (pc := 68) (i := 0) (x := ad 0) C dX6_layText_68 rfl rfl ?_
      refine g_get (pc := 69) (v := .ref (ad 56)) C ok_X6 8 (by decide) wf_X6_59 dX6_layText_69 la_0 rfl ?_
      refine g_iconst (pc := 72) (v := 0) C dX6_layText_72 rfl ?_
      obtain ⟨m73, hm73, h⟩ := lt_some h
      refine g_putN (pc := 73) C ok_X1 4 (by decide) nf_X6_185 dX6_layText_73 rfl rfl la_56 ?_
      refine g_mem hm73 ?_
      refine g_aload_n (pc := 76) (i := 0) (x := ad 0) C dX6_layText_76 rfl rfl ?_
      refine g_iconst (pc := 77) (v := 0) C dX6_layText_77 rfl ?_
      obtain ⟨m78, hm78, h⟩ := lt_some h
      refine g_put (pc := 78) C ok_X6 11 (by decide) wf_X6_228 dX6_layText_78 rfl rfl la_0 ?_
      refine g_mem hm78 ?_
      refine g_iconst (pc := 81) (v := 1) C dX6_layText_81 rfl ?_
      cases h
      exact g_iret (pc := 82) C hP rfl rfl dX6_layText_82
  · refine g_icmp_ne_t (pc := 13) C 26 dX6_layText_13 (by decide) hc13 ?_
    refine g_iconst (pc := 26) (v := 0) C dX6_layText_26 rfl ?_
    cases h
    exact g_iret (pc := 27) C hP rfl rfl dX6_layText_27
/-- the two sheets stay the two sheets -/
theorem swS {sh sp : Nat} {mem : Mem} (hsh : isS sh) (hsp : isS sp) {r : Int32} {q : Nat × Nat × Mem} (h : f_X6_layText sh sp mem = some (r, q)) : isS q.1 ∧ isS q.2.1 := by
  unfold f_X6_layText at h
  obtain ⟨r8, m8, -, h⟩ := ob2_some h
  rcases ite_some' h with ⟨-, h⟩ | ⟨-, h⟩
  · rcases ite_some' h with ⟨-, h⟩ | ⟨-, h⟩
    · cases h; exact ⟨hsh, hsp⟩
    · obtain ⟨_, -, h⟩ := ob_some h
      obtain ⟨_, -, h⟩ := lt_some h
      obtain ⟨_, -, h⟩ := lt_some h
      obtain ⟨_, -, h⟩ := lt_some h
      cases h; exact ⟨hsp, hsh⟩
  · cases h; exact ⟨hsh, hsp⟩
theorem dX6_lay_0 : decode cX6_lay 0 = .ok (.aload_n 0, 1) := by decide +kernel
theorem dX6_lay_1 : decode cX6_lay 1 = .ok (.invokevirtual 86, 3) := by decide +kernel
theorem dX6_lay_4 : decode cX6_lay 4 = .ok (.ifCond .eq 13, 3) := by decide +kernel
theorem dX6_lay_7 : decode cX6_lay 7 = .ok (.aload_n 0, 1) := by decide +kernel
theorem dX6_lay_8 : decode cX6_lay 8 = .ok (.getfield 19, 3) := by decide +kernel
theorem dX6_lay_11 : decode cX6_lay 11 = .ok (.getfield 97, 3) := by decide +kernel
theorem dX6_lay_14 : decode cX6_lay 14 = .ok (.goto 5, 3) := by decide +kernel
theorem dX6_lay_17 : decode cX6_lay 17 = .ok (.bipush (-2), 2) := by decide +kernel
theorem dX6_lay_19 : decode cX6_lay 19 = .ok (.ireturn, 1) := by decide +kernel
noncomputable def f_X6_lay (sh sp : Nat)  (mem : Mem) : Option (Int32 × Nat × Nat × Mem) :=
  ob2 (f_X6_layText sh sp mem) fun r1 m1 => if r1 = 0 then (some ((-2), m1.1, m1.2.1, m1.2.2)) else (lt' (m1.2.2 m1.1 3) fun v19 => some (v19, m1.1, m1.2.1, m1.2.2))
set_option maxRecDepth 100000 in
set_option maxHeartbeats 4000000 in
theorem m_X6_lay {E : Ex} {ad : Nat → Nat} {sh sp : Nat} {tl : List Ent} {d : Nat} (hd : 6 ≤ d) (hsh : isS sh) (hsp : isS sp)  {mem : Mem} {r : Int32 × Nat × Nat × Mem} (h : f_X6_lay sh sp mem = some r) : Cl E yX6_lay cX6_lay 1 (some .int) d [.ref (ad 0)] (some (.int r.1)) ad (LC sh sp ++ tl) mem (LC r.2.1 r.2.2.1 ++ tl) r.2.2.2 := by
  refine Cl.of [some (.ref (ad 0))] (by decide +kernel) rfl (Nat.le_of_ble_eq_true rfl) (fun κ C hP => ?_)
  have C : Cx E κ cX6_lay RX6 1 (some .int) d := C
  unfold f_X6_lay at h
  refine g_aload_n (pc := 0) (i := 0) (x := ad 0) C dX6_lay_0 rfl rfl ?_
  obtain ⟨r1, m1, hcall1, h⟩ := ob2_some h
  refine g_callV (pc := 1) C ce0 mi_X6_layText mv_X6_layText wm_X6_86 dX6_lay_1 ok_X6 [] [] la_0 (by omega) rfl rfl (Nat.le_of_ble_eq_true rfl) (m_X6_layText (d := d - 1) (by omega) hsh hsp hcall1) ?_
  show Gw E κ 1 0 0 4 [some (.ref (ad 0))] [.int r1] ad (LC (m1.1) (m1.2.1) ++ tl) m1.2.2
  rcases ite_some' h with ⟨hc4, h⟩ | ⟨hc4, h⟩
  · refine g_if_eq_t (pc := 4) C 17 dX6_lay_4 (by decide) hc4 ?_
    refine g_bipush (pc := 17) (v := (-2)) C dX6_lay_17 rfl ?_
    cases h
    exact g_iret (pc := 19) C hP rfl rfl dX6_lay_19
  · refine g_if_eq_f (pc := 4) C 17 dX6_lay_4 (by decide) hc4 ?_
    refine g_aload_n (pc := 7) (i := 0) (x := ad 0) C dX6_lay_7 rfl rfl ?_
    refine g_get (pc := 8) (v := .ref (ad m1.1)) C ok_X6 1 (by decide) wf_X6_19 dX6_lay_8 la_0 rfl ?_
    refine g_getN (pc := 11) (v := .int (m1.2.2 m1.1 3)) C ok_X5 3 (by decide) nf_X6_97 dX6_lay_11 (lz_0 (swS hsh hsp hcall1).1) rfl ?_
    refine g_goto (pc := 14) C 19 dX6_lay_14 (by decide) ?_
    obtain ⟨v19, hv19, h⟩ := lt_some h
    refine g_topi hv19 ?_
    cases h
    exact g_iret (pc := 19) C hP rfl rfl dX6_lay_19
theorem swL {sh sp : Nat} {mem : Mem} (hsh : isS sh) (hsp : isS sp) {r : Int32} {q : Nat × Nat × Mem} (h : f_X6_lay sh sp mem = some (r, q)) : isS q.1 ∧ isS q.2.1 := by
  unfold f_X6_lay at h
  obtain ⟨r1, m1, h1, h⟩ := ob2_some h
  rcases ite_some' h with ⟨-, h⟩ | ⟨-, h⟩
  · cases h; exact swS hsh hsp h1
  · obtain ⟨_, -, h⟩ := lt_some h
    cases h; exact swS hsh hsp h1
