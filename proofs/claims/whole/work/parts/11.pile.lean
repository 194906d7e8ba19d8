theorem dX1_dropOldest_0 : decode cX1_dropOldest 0 = .ok (.aload_n 0, 1) := by decide +kernel
theorem dX1_dropOldest_1 : decode cX1_dropOldest 1 = .ok (.aload_n 0, 1) := by decide +kernel
theorem dX1_dropOldest_2 : decode cX1_dropOldest 2 = .ok (.getfield 9, 3) := by decide +kernel
theorem dX1_dropOldest_5 : decode cX1_dropOldest 5 = .ok (.iconst 1, 1) := by decide +kernel
theorem dX1_dropOldest_6 : decode cX1_dropOldest 6 = .ok (.isub, 1) := by decide +kernel
theorem dX1_dropOldest_7 : decode cX1_dropOldest 7 = .ok (.putfield 25, 3) := by decide +kernel
theorem dX1_dropOldest_10 : decode cX1_dropOldest 10 = .ok (.aload_n 0, 1) := by decide +kernel
theorem dX1_dropOldest_11 : decode cX1_dropOldest 11 = .ok (.getfield 15, 3) := by decide +kernel
theorem dX1_dropOldest_14 : decode cX1_dropOldest 14 = .ok (.bipush 16, 2) := by decide +kernel
theorem dX1_dropOldest_16 : decode cX1_dropOldest 16 = .ok (.aload_n 0, 1) := by decide +kernel
theorem dX1_dropOldest_17 : decode cX1_dropOldest 17 = .ok (.getfield 15, 3) := by decide +kernel
theorem dX1_dropOldest_20 : decode cX1_dropOldest 20 = .ok (.iconst 0, 1) := by decide +kernel
theorem dX1_dropOldest_21 : decode cX1_dropOldest 21 = .ok (.aload_n 0, 1) := by decide +kernel
theorem dX1_dropOldest_22 : decode cX1_dropOldest 22 = .ok (.getfield 25, 3) := by decide +kernel
theorem dX1_dropOldest_25 : decode cX1_dropOldest 25 = .ok (.bipush 16, 2) := by decide +kernel
theorem dX1_dropOldest_27 : decode cX1_dropOldest 27 = .ok (.imul, 1) := by decide +kernel
theorem dX1_dropOldest_28 : decode cX1_dropOldest 28 = .ok (.invokestatic 34, 3) := by decide +kernel
theorem dX1_dropOldest_31 : decode cX1_dropOldest 31 = .ok (.aload_n 0, 1) := by decide +kernel
theorem dX1_dropOldest_32 : decode cX1_dropOldest 32 = .ok (.getfield 19, 3) := by decide +kernel
theorem dX1_dropOldest_35 : decode cX1_dropOldest 35 = .ok (.bipush 6, 2) := by decide +kernel
theorem dX1_dropOldest_37 : decode cX1_dropOldest 37 = .ok (.aload_n 0, 1) := by decide +kernel
theorem dX1_dropOldest_38 : decode cX1_dropOldest 38 = .ok (.getfield 19, 3) := by decide +kernel
theorem dX1_dropOldest_41 : decode cX1_dropOldest 41 = .ok (.iconst 0, 1) := by decide +kernel
theorem dX1_dropOldest_42 : decode cX1_dropOldest 42 = .ok (.aload_n 0, 1) := by decide +kernel
theorem dX1_dropOldest_43 : decode cX1_dropOldest 43 = .ok (.getfield 25, 3) := by decide +kernel
theorem dX1_dropOldest_46 : decode cX1_dropOldest 46 = .ok (.bipush 6, 2) := by decide +kernel
theorem dX1_dropOldest_48 : decode cX1_dropOldest 48 = .ok (.imul, 1) := by decide +kernel
theorem dX1_dropOldest_49 : decode cX1_dropOldest 49 = .ok (.invokestatic 34, 3) := by decide +kernel
theorem dX1_dropOldest_52 : decode cX1_dropOldest 52 = .ok (.aload_n 0, 1) := by decide +kernel
theorem dX1_dropOldest_53 : decode cX1_dropOldest 53 = .ok (.getfield 22, 3) := by decide +kernel
theorem dX1_dropOldest_56 : decode cX1_dropOldest 56 = .ok (.bipush 6, 2) := by decide +kernel
theorem dX1_dropOldest_58 : decode cX1_dropOldest 58 = .ok (.aload_n 0, 1) := by decide +kernel
theorem dX1_dropOldest_59 : decode cX1_dropOldest 59 = .ok (.getfield 22, 3) := by decide +kernel
theorem dX1_dropOldest_62 : decode cX1_dropOldest 62 = .ok (.iconst 0, 1) := by decide +kernel
theorem dX1_dropOldest_63 : decode cX1_dropOldest 63 = .ok (.aload_n 0, 1) := by decide +kernel
theorem dX1_dropOldest_64 : decode cX1_dropOldest 64 = .ok (.getfield 25, 3) := by decide +kernel
theorem dX1_dropOldest_67 : decode cX1_dropOldest 67 = .ok (.bipush 6, 2) := by decide +kernel
theorem dX1_dropOldest_69 : decode cX1_dropOldest 69 = .ok (.imul, 1) := by decide +kernel
theorem dX1_dropOldest_70 : decode cX1_dropOldest 70 = .ok (.invokestatic 34, 3) := by decide +kernel
theorem dX1_dropOldest_73 : decode cX1_dropOldest 73 = .ok (.return_, 1) := by decide +kernel
noncomputable def f_X1_dropOldest_U  (mem : Mem) : Option (Mem) :=
  lt' (mset mem 52 4 ((mem 52 0) - 1)) fun m7 => acp m7 53 128 53 128 16 0 ((m7 52 4) * 16) fun m28 => acp m28 54 48 54 48 6 0 ((m28 52 4) * 6) fun m49 => acp m49 55 48 55 48 6 0 ((m49 52 4) * 6) fun m70 => some m70
set_option maxRecDepth 100000 in
set_option maxHeartbeats 4000000 in
theorem m_X1_dropOldest_U {E : Ex} {ad : Nat → Nat} {sh sp : Nat} {tl : List Ent} {d : Nat} (hd : 2 ≤ d)   {mem : Mem} {r : Mem} (h : f_X1_dropOldest_U mem = some r) : Cl E yX1_dropOldest cX1_dropOldest 1 none d [.ref (ad 52)] none ad (LC sh sp ++ tl) mem (LC sh sp ++ tl) r := by
  refine Cl.of [some (.ref (ad 52))] (by decide +kernel) rfl (Nat.le_of_ble_eq_true rfl) (fun κ C hP => ?_)
  have C : Cx E κ cX1_dropOldest RX1 1 none d := C
  unfold f_X1_dropOldest_U at h
  refine g_aload_n (pc := 0) (i := 0) (x := ad 52) C dX1_dropOldest_0 rfl rfl ?_
  refine g_aload_n (pc := 1) (i := 0) (x := ad 52) C dX1_dropOldest_1 rfl rfl ?_
  refine g_get (pc := 2) (v := .int (mem 52 0)) C ok_X1 0 (by decide) wf_X1_9 dX1_dropOldest_2 la_52 rfl ?_
  refine g_iconst (pc := 5) (v := 1) C dX1_dropOldest_5 rfl ?_
  refine g_isub (pc := 6) C dX1_dropOldest_6 ?_
  obtain ⟨m7, hm7, h⟩ := lt_some h
  refine g_put (pc := 7) C ok_X1 4 (by decide) wf_X1_25 dX1_dropOldest_7 rfl rfl la_52 ?_
  refine g_mem hm7 ?_
  refine g_aload_n (pc := 10) (i := 0) (x := ad 52) C dX1_dropOldest_10 rfl rfl ?_
  refine g_get (pc := 11) (v := .ref (ad 53)) C ok_X1 1 (by decide) wf_X1_15 dX1_dropOldest_11 la_52 rfl ?_
  refine g_bipush (pc := 14) (v := 16) C dX1_dropOldest_14 rfl ?_
  refine g_aload_n (pc := 16) (i := 0) (x := ad 52) C dX1_dropOldest_16 rfl rfl ?_
  refine g_get (pc := 17) (v := .ref (ad 53)) C ok_X1 1 (by decide) wf_X1_15 dX1_dropOldest_17 la_52 rfl ?_
  refine g_iconst (pc := 20) (v := 0) C dX1_dropOldest_20 rfl ?_
  refine g_aload_n (pc := 21) (i := 0) (x := ad 52) C dX1_dropOldest_21 rfl rfl ?_
  refine g_get (pc := 22) (v := .int (m7 52 4)) C ok_X1 4 (by decide) wf_X1_25 dX1_dropOldest_22 la_52 rfl ?_
  refine g_bipush (pc := 25) (v := 16) C dX1_dropOldest_25 rfl ?_
  refine g_imul (pc := 27) C dX1_dropOldest_27 ?_
  obtain ⟨m28, hm28, hcp28, h⟩ := acp_some h
  refine g_copy (pc := 28) C (by omega) wm_X1_34 wn_native wn_static wn_init dX1_dropOldest_28 la_53 la_53 (Nat.le_of_ble_eq_true rfl) hcp28 ?_
  refine g_mem hm28 ?_
  refine g_aload_n (pc := 31) (i := 0) (x := ad 52) C dX1_dropOldest_31 rfl rfl ?_
  refine g_get (pc := 32) (v := .ref (ad 54)) C ok_X1 2 (by decide) wf_X1_19 dX1_dropOldest_32 la_52 rfl ?_
  refine g_bipush (pc := 35) (v := 6) C dX1_dropOldest_35 rfl ?_
  refine g_aload_n (pc := 37) (i := 0) (x := ad 52) C dX1_dropOldest_37 rfl rfl ?_
  refine g_get (pc := 38) (v := .ref (ad 54)) C ok_X1 2 (by decide) wf_X1_19 dX1_dropOldest_38 la_52 rfl ?_
  refine g_iconst (pc := 41) (v := 0) C dX1_dropOldest_41 rfl ?_
  refine g_aload_n (pc := 42) (i := 0) (x := ad 52) C dX1_dropOldest_42 rfl rfl ?_
  refine g_get (pc := 43) (v := .int (m28 52 4)) C ok_X1 4 (by decide) wf_X1_25 dX1_dropOldest_43 la_52 rfl ?_
  refine g_bipush (pc := 46) (v := 6) C dX1_dropOldest_46 rfl ?_
  refine g_imul (pc := 48) C dX1_dropOldest_48 ?_
  obtain ⟨m49, hm49, hcp49, h⟩ := acp_some h
  refine g_copy (pc := 49) C (by omega) wm_X1_34 wn_native wn_static wn_init dX1_dropOldest_49 la_54 la_54 (Nat.le_of_ble_eq_true rfl) hcp49 ?_
  refine g_mem hm49 ?_
  refine g_aload_n (pc := 52) (i := 0) (x := ad 52) C dX1_dropOldest_52 rfl rfl ?_
  refine g_get (pc := 53) (v := .ref (ad 55)) C ok_X1 3 (by decide) wf_X1_22 dX1_dropOldest_53 la_52 rfl ?_
  refine g_bipush (pc := 56) (v := 6) C dX1_dropOldest_56 rfl ?_
  refine g_aload_n (pc := 58) (i := 0) (x := ad 52) C dX1_dropOldest_58 rfl rfl ?_
  refine g_get (pc := 59) (v := .ref (ad 55)) C ok_X1 3 (by decide) wf_X1_22 dX1_dropOldest_59 la_52 rfl ?_
  refine g_iconst (pc := 62) (v := 0) C dX1_dropOldest_62 rfl ?_
  refine g_aload_n (pc := 63) (i := 0) (x := ad 52) C dX1_dropOldest_63 rfl rfl ?_
  refine g_get (pc := 64) (v := .int (m49 52 4)) C ok_X1 4 (by decide) wf_X1_25 dX1_dropOldest_64 la_52 rfl ?_
  refine g_bipush (pc := 67) (v := 6) C dX1_dropOldest_67 rfl ?_
  refine g_imul (pc := 69) C dX1_dropOldest_69 ?_
  obtain ⟨m70, hm70, hcp70, h⟩ := acp_some h
  refine g_copy (pc := 70) C (by omega) wm_X1_34 wn_native wn_static wn_init dX1_dropOldest_70 la_55 la_55 (Nat.le_of_ble_eq_true rfl) hcp70 ?_
  refine g_mem hm70 ?_
  cases h
  exact g_vret (pc := 73) C hP rfl dX1_dropOldest_73

noncomputable def f_X1_dropOldest_K  (mem : Mem) : Option (Mem) :=
  lt' (mset mem 56 4 ((mem 56 0) - 1)) fun m7 => acp m7 57 32 57 32 16 0 ((m7 56 4) * 16) fun m28 => acp m28 58 12 58 12 6 0 ((m28 56 4) * 6) fun m49 => acp m49 59 12 59 12 6 0 ((m49 56 4) * 6) fun m70 => some m70
set_option maxRecDepth 100000 in
set_option maxHeartbeats 4000000 in
theorem m_X1_dropOldest_K {E : Ex} {ad : Nat → Nat} {sh sp : Nat} {tl : List Ent} {d : Nat} (hd : 2 ≤ d)   {mem : Mem} {r : Mem} (h : f_X1_dropOldest_K mem = some r) : Cl E yX1_dropOldest cX1_dropOldest 1 none d [.ref (ad 56)] none ad (LC sh sp ++ tl) mem (LC sh sp ++ tl) r := by
  refine Cl.of [some (.ref (ad 56))] (by decide +kernel) rfl (Nat.le_of_ble_eq_true rfl) (fun κ C hP => ?_)
  have C : Cx E κ cX1_dropOldest RX1 1 none d := C
  unfold f_X1_dropOldest_K at h
  refine g_aload_n (pc := 0) (i := 0) (x := ad 56) C dX1_dropOldest_0 rfl rfl ?_
  refine g_aload_n (pc := 1) (i := 0) (x := ad 56) C dX1_dropOldest_1 rfl rfl ?_
  refine g_get (pc := 2) (v := .int (mem 56 0)) C ok_X1 0 (by decide) wf_X1_9 dX1_dropOldest_2 la_56 rfl ?_
  refine g_iconst (pc := 5) (v := 1) C dX1_dropOldest_5 rfl ?_
  refine g_isub (pc := 6) C dX1_dropOldest_6 ?_
  obtain ⟨m7, hm7, h⟩ := lt_some h
  refine g_put (pc := 7) C ok_X1 4 (by decide) wf_X1_25 dX1_dropOldest_7 rfl rfl la_56 ?_
  refine g_mem hm7 ?_
  refine g_aload_n (pc := 10) (i := 0) (x := ad 56) C dX1_dropOldest_10 rfl rfl ?_
  refine g_get (pc := 11) (v := .ref (ad 57)) C ok_X1 1 (by decide) wf_X1_15 dX1_dropOldest_11 la_56 rfl ?_
  refine g_bipush (pc := 14) (v := 16) C dX1_dropOldest_14 rfl ?_
  refine g_aload_n (pc := 16) (i := 0) (x := ad 56) C dX1_dropOldest_16 rfl rfl ?_
  refine g_get (pc := 17) (v := .ref (ad 57)) C ok_X1 1 (by decide) wf_X1_15 dX1_dropOldest_17 la_56 rfl ?_
  refine g_iconst (pc := 20) (v := 0) C dX1_dropOldest_20 rfl ?_
  refine g_aload_n (pc := 21) (i := 0) (x := ad 56) C dX1_dropOldest_21 rfl rfl ?_
  refine g_get (pc := 22) (v := .int (m7 56 4)) C ok_X1 4 (by decide) wf_X1_25 dX1_dropOldest_22 la_56 rfl ?_
  refine g_bipush (pc := 25) (v := 16) C dX1_dropOldest_25 rfl ?_
  refine g_imul (pc := 27) C dX1_dropOldest_27 ?_
  obtain ⟨m28, hm28, hcp28, h⟩ := acp_some h
  refine g_copy (pc := 28) C (by omega) wm_X1_34 wn_native wn_static wn_init dX1_dropOldest_28 la_57 la_57 (Nat.le_of_ble_eq_true rfl) hcp28 ?_
  refine g_mem hm28 ?_
  refine g_aload_n (pc := 31) (i := 0) (x := ad 56) C dX1_dropOldest_31 rfl rfl ?_
  refine g_get (pc := 32) (v := .ref (ad 58)) C ok_X1 2 (by decide) wf_X1_19 dX1_dropOldest_32 la_56 rfl ?_
  refine g_bipush (pc := 35) (v := 6) C dX1_dropOldest_35 rfl ?_
  refine g_aload_n (pc := 37) (i := 0) (x := ad 56) C dX1_dropOldest_37 rfl rfl ?_
  refine g_get (pc := 38) (v := .ref (ad 58)) C ok_X1 2 (by decide) wf_X1_19 dX1_dropOldest_38 la_56 rfl ?_
  refine g_iconst (pc := 41) (v := 0) C dX1_dropOldest_41 rfl ?_
  refine g_aload_n (pc := 42) (i := 0) (x := ad 56) C dX1_dropOldest_42 rfl rfl ?_
  refine g_get (pc := 43) (v := .int (m28 56 4)) C ok_X1 4 (by decide) wf_X1_25 dX1_dropOldest_43 la_56 rfl ?_
  refine g_bipush (pc := 46) (v := 6) C dX1_dropOldest_46 rfl ?_
  refine g_imul (pc := 48) C dX1_dropOldest_48 ?_
  obtain ⟨m49, hm49, hcp49, h⟩ := acp_some h
  refine g_copy (pc := 49) C (by omega) wm_X1_34 wn_native wn_static wn_init dX1_dropOldest_49 la_58 la_58 (Nat.le_of_ble_eq_true rfl) hcp49 ?_
  refine g_mem hm49 ?_
  refine g_aload_n (pc := 52) (i := 0) (x := ad 56) C dX1_dropOldest_52 rfl rfl ?_
  refine g_get (pc := 53) (v := .ref (ad 59)) C ok_X1 3 (by decide) wf_X1_22 dX1_dropOldest_53 la_56 rfl ?_
  refine g_bipush (pc := 56) (v := 6) C dX1_dropOldest_56 rfl ?_
  refine g_aload_n (pc := 58) (i := 0) (x := ad 56) C dX1_dropOldest_58 rfl rfl ?_
  refine g_get (pc := 59) (v := .ref (ad 59)) C ok_X1 3 (by decide) wf_X1_22 dX1_dropOldest_59 la_56 rfl ?_
  refine g_iconst (pc := 62) (v := 0) C dX1_dropOldest_62 rfl ?_
  refine g_aload_n (pc := 63) (i := 0) (x := ad 56) C dX1_dropOldest_63 rfl rfl ?_
  refine g_get (pc := 64) (v := .int (m49 56 4)) C ok_X1 4 (by decide) wf_X1_25 dX1_dropOldest_64 la_56 rfl ?_
  refine g_bipush (pc := 67) (v := 6) C dX1_dropOldest_67 rfl ?_
  refine g_imul (pc := 69) C dX1_dropOldest_69 ?_
  obtain ⟨m70, hm70, hcp70, h⟩ := acp_some h
  refine g_copy (pc := 70) C (by omega) wm_X1_34 wn_native wn_static wn_init dX1_dropOldest_70 la_59 la_59 (Nat.le_of_ble_eq_true rfl) hcp70 ?_
  refine g_mem hm70 ?_
  cases h
  exact g_vret (pc := 73) C hP rfl dX1_dropOldest_73

theorem dX1_push_0 : decode cX1_push 0 = .ok (.aload_n 0, 1) := by decide +kernel
theorem dX1_push_1 : decode cX1_push 1 = .ok (.getfield 25, 3) := by decide +kernel
theorem dX1_push_4 : decode cX1_push 4 = .ok (.aload_n 0, 1) := by decide +kernel
theorem dX1_push_5 : decode cX1_push 5 = .ok (.getfield 9, 3) := by decide +kernel
theorem dX1_push_8 : decode cX1_push 8 = .ok (.if_icmp .lt 7, 3) := by decide +kernel
theorem dX1_push_11 : decode cX1_push 11 = .ok (.aload_n 0, 1) := by decide +kernel
theorem dX1_push_12 : decode cX1_push 12 = .ok (.invokevirtual 28, 3) := by decide +kernel
theorem dX1_push_15 : decode cX1_push 15 = .ok (.aload_n 1, 1) := by decide +kernel
theorem dX1_push_16 : decode cX1_push 16 = .ok (.getfield 31, 3) := by decide +kernel
theorem dX1_push_19 : decode cX1_push 19 = .ok (.iconst 0, 1) := by decide +kernel
theorem dX1_push_20 : decode cX1_push 20 = .ok (.aload_n 0, 1) := by decide +kernel
theorem dX1_push_21 : decode cX1_push 21 = .ok (.getfield 15, 3) := by decide +kernel
theorem dX1_push_24 : decode cX1_push 24 = .ok (.aload_n 0, 1) := by decide +kernel
theorem dX1_push_25 : decode cX1_push 25 = .ok (.getfield 25, 3) := by decide +kernel
theorem dX1_push_28 : decode cX1_push 28 = .ok (.bipush 16, 2) := by decide +kernel
theorem dX1_push_30 : decode cX1_push 30 = .ok (.imul, 1) := by decide +kernel
theorem dX1_push_31 : decode cX1_push 31 = .ok (.bipush 16, 2) := by decide +kernel
theorem dX1_push_33 : decode cX1_push 33 = .ok (.invokestatic 34, 3) := by decide +kernel
theorem dX1_push_36 : decode cX1_push 36 = .ok (.aload_n 1, 1) := by decide +kernel
theorem dX1_push_37 : decode cX1_push 37 = .ok (.getfield 40, 3) := by decide +kernel
theorem dX1_push_40 : decode cX1_push 40 = .ok (.iconst 0, 1) := by decide +kernel
theorem dX1_push_41 : decode cX1_push 41 = .ok (.aload_n 0, 1) := by decide +kernel
theorem dX1_push_42 : decode cX1_push 42 = .ok (.getfield 19, 3) := by decide +kernel
theorem dX1_push_45 : decode cX1_push 45 = .ok (.aload_n 0, 1) := by decide +kernel
theorem dX1_push_46 : decode cX1_push 46 = .ok (.getfield 25, 3) := by decide +kernel
theorem dX1_push_49 : decode cX1_push 49 = .ok (.bipush 6, 2) := by decide +kernel
theorem dX1_push_51 : decode cX1_push 51 = .ok (.imul, 1) := by decide +kernel
theorem dX1_push_52 : decode cX1_push 52 = .ok (.bipush 6, 2) := by decide +kernel
theorem dX1_push_54 : decode cX1_push 54 = .ok (.invokestatic 34, 3) := by decide +kernel
theorem dX1_push_57 : decode cX1_push 57 = .ok (.aload_n 1, 1) := by decide +kernel
theorem dX1_push_58 : decode cX1_push 58 = .ok (.getfield 41, 3) := by decide +kernel
theorem dX1_push_61 : decode cX1_push 61 = .ok (.iconst 0, 1) := by decide +kernel
theorem dX1_push_62 : decode cX1_push 62 = .ok (.aload_n 0, 1) := by decide +kernel
theorem dX1_push_63 : decode cX1_push 63 = .ok (.getfield 22, 3) := by decide +kernel
theorem dX1_push_66 : decode cX1_push 66 = .ok (.aload_n 0, 1) := by decide +kernel
theorem dX1_push_67 : decode cX1_push 67 = .ok (.getfield 25, 3) := by decide +kernel
theorem dX1_push_70 : decode cX1_push 70 = .ok (.bipush 6, 2) := by decide +kernel
theorem dX1_push_72 : decode cX1_push 72 = .ok (.imul, 1) := by decide +kernel
theorem dX1_push_73 : decode cX1_push 73 = .ok (.bipush 6, 2) := by decide +kernel
theorem dX1_push_75 : decode cX1_push 75 = .ok (.invokestatic 34, 3) := by decide +kernel
theorem dX1_push_78 : decode cX1_push 78 = .ok (.aload_n 0, 1) := by decide +kernel
theorem dX1_push_79 : decode cX1_push 79 = .ok (.dup, 1) := by decide +kernel
theorem dX1_push_80 : decode cX1_push 80 = .ok (.getfield 25, 3) := by decide +kernel
theorem dX1_push_83 : decode cX1_push 83 = .ok (.iconst 1, 1) := by decide +kernel
theorem dX1_push_84 : decode cX1_push 84 = .ok (.iadd, 1) := by decide +kernel
theorem dX1_push_85 : decode cX1_push 85 = .ok (.putfield 25, 3) := by decide +kernel
theorem dX1_push_88 : decode cX1_push 88 = .ok (.return_, 1) := by decide +kernel
noncomputable def f_X1_push_U_j15 (t : Nat) (mem : Mem) : Option (Mem) :=
  acp mem (t + 1) 16 53 128 0 ((mem 52 4) * 16) 16 fun m33 => acp m33 (t + 2) 6 54 48 0 ((m33 52 4) * 6) 6 fun m54 => acp m54 (t + 3) 6 55 48 0 ((m54 52 4) * 6) 6 fun m75 => lt' (mset m75 52 4 ((m75 52 4) + 1)) fun m85 => some m85
noncomputable def f_X1_push_U (t : Nat)  (mem : Mem) : Option (Mem) :=
  if (mem 52 4) < (mem 52 0) then (f_X1_push_U_j15 t mem) else (ob (f_X1_dropOldest_U mem) fun m12 => f_X1_push_U_j15 t m12)
set_option maxRecDepth 100000 in
set_option maxHeartbeats 4000000 in
theorem j_X1_push_U_15 {E : Ex} {κ : Kx} {ad : Nat → Nat} {sh sp : Nat} {tl : List Ent} {d : Nat} {t : Nat} (C : Cx E κ cX1_push RX1 2 none d) (hd : 3 ≤ d) (ht : isT t) {mem : Mem} {x : Mem} (h : f_X1_push_U_j15 t mem = some x) (hP : Qr E κ none ad (LC sh sp ++ tl) x) : Gw E κ 2 0 0 15 [some (.ref (ad 52)), some (.ref (ad t))] [] ad (LC sh sp ++ tl) mem := by
  unfold f_X1_push_U_j15 at h
  refine g_aload_n (pc := 15) (i := 1) (x := ad t) C dX1_push_15 rfl rfl ?_
  refine g_getN (pc := 16) (v := .ref (ad (t + 1))) C ok_X0 0 (by decide) nf_X1_31 dX1_push_16 (ly_0 ht) rfl ?_
  refine g_iconst (pc := 19) (v := 0) C dX1_push_19 rfl ?_
  refine g_aload_n (pc := 20) (i := 0) (x := ad 52) C dX1_push_20 rfl rfl ?_
  refine g_get (pc := 21) (v := .ref (ad 53)) C ok_X1 1 (by decide) wf_X1_15 dX1_push_21 la_52 rfl ?_
  refine g_aload_n (pc := 24) (i := 0) (x := ad 52) C dX1_push_24 rfl rfl ?_
  refine g_get (pc := 25) (v := .int (mem 52 4)) C ok_X1 4 (by decide) wf_X1_25 dX1_push_25 la_52 rfl ?_
  refine g_bipush (pc := 28) (v := 16) C dX1_push_28 rfl ?_
  refine g_imul (pc := 30) C dX1_push_30 ?_
  refine g_bipush (pc := 31) (v := 16) C dX1_push_31 rfl ?_
  obtain ⟨m33, hm33, hcp33, h⟩ := acp_some h
  refine g_copy (pc := 33) C (by omega) wm_X1_34 wn_native wn_static wn_init dX1_push_33 (ly_1 ht) la_53 (Nat.le_of_ble_eq_true rfl) hcp33 ?_
  refine g_mem hm33 ?_
  refine g_aload_n (pc := 36) (i := 1) (x := ad t) C dX1_push_36 rfl rfl ?_
  refine g_getN (pc := 37) (v := .ref (ad (t + 2))) C ok_X0 1 (by decide) nf_X1_40 dX1_push_37 (ly_0 ht) rfl ?_
  refine g_iconst (pc := 40) (v := 0) C dX1_push_40 rfl ?_
  refine g_aload_n (pc := 41) (i := 0) (x := ad 52) C dX1_push_41 rfl rfl ?_
  refine g_get (pc := 42) (v := .ref (ad 54)) C ok_X1 2 (by decide) wf_X1_19 dX1_push_42 la_52 rfl ?_
  refine g_aload_n (pc := 45) (i := 0) (x := ad 52) C dX1_push_45 rfl rfl ?_
  refine g_get (pc := 46) (v := .int (m33 52 4)) C ok_X1 4 (by decide) wf_X1_25 dX1_push_46 la_52 rfl ?_
  refine g_bipush (pc := 49) (v := 6) C dX1_push_49 rfl ?_
  refine g_imul (pc := 51) C dX1_push_51 ?_
  refine g_bipush (pc := 52) (v := 6) C dX1_push_52 rfl ?_
  obtain ⟨m54, hm54, hcp54, h⟩ := acp_some h
  refine g_copy (pc := 54) C (by omega) wm_X1_34 wn_native wn_static wn_init dX1_push_54 (ly_2 ht) la_54 (Nat.le_of_ble_eq_true rfl) hcp54 ?_
  refine g_mem hm54 ?_
  refine g_aload_n (pc := 57) (i := 1) (x := ad t) C dX1_push_57 rfl rfl ?_
  refine g_getN (pc := 58) (v := .ref (ad (t + 3))) C ok_X0 2 (by decide) nf_X1_41 dX1_push_58 (ly_0 ht) rfl ?_
  refine g_iconst (pc := 61) (v := 0) C dX1_push_61 rfl ?_
  refine g_aload_n (pc := 62) (i := 0) (x := ad 52) C dX1_push_62 rfl rfl ?_
  refine g_get (pc := 63) (v := .ref (ad 55)) C ok_X1 3 (by decide) wf_X1_22 dX1_push_63 la_52 rfl ?_
  refine g_aload_n (pc := 66) (i := 0) (x := ad 52) C dX1_push_66 rfl rfl ?_
  refine g_get (pc := 67) (v := .int (m54 52 4)) C ok_X1 4 (by decide) wf_X1_25 dX1_push_67 la_52 rfl ?_
  refine g_bipush (pc := 70) (v := 6) C dX1_push_70 rfl ?_
  refine g_imul (pc := 72) C dX1_push_72 ?_
  refine g_bipush (pc := 73) (v := 6) C dX1_push_73 rfl ?_
  obtain ⟨m75, hm75, hcp75, h⟩ := acp_some h
  refine g_copy (pc := 75) C (by omega) wm_X1_34 wn_native wn_static wn_init dX1_push_75 (ly_3 ht) la_55 (Nat.le_of_ble_eq_true rfl) hcp75 ?_
  refine g_mem hm75 ?_
  refine g_aload_n (pc := 78) (i := 0) (x := ad 52) C dX1_push_78 rfl rfl ?_
  refine g_dup (pc := 79) C dX1_push_79 rfl ?_
  refine g_get (pc := 80) (v := .int (m75 52 4)) C ok_X1 4 (by decide) wf_X1_25 dX1_push_80 la_52 rfl ?_
  refine g_iconst (pc := 83) (v := 1) C dX1_push_83 rfl ?_
  refine g_iadd (pc := 84) C dX1_push_84 ?_
  obtain ⟨m85, hm85, h⟩ := lt_some h
  refine g_put (pc := 85) C ok_X1 4 (by decide) wf_X1_25 dX1_push_85 rfl rfl la_52 ?_
  refine g_mem hm85 ?_
  cases h
  exact g_vret (pc := 88) C hP rfl dX1_push_88
set_option maxRecDepth 100000 in
set_option maxHeartbeats 4000000 in
theorem m_X1_push_U {E : Ex} {ad : Nat → Nat} {sh sp : Nat} {tl : List Ent} {d : Nat} (hd : 3 ≤ d) {t : Nat} (ht : isT t)  {mem : Mem} {r : Mem} (h : f_X1_push_U t mem = some r) : Cl E yX1_push cX1_push 2 none d [.ref (ad 52), .ref (ad t)] none ad (LC sh sp ++ tl) mem (LC sh sp ++ tl) r := by
  refine Cl.of [some (.ref (ad 52)), some (.ref (ad t))] (by decide +kernel) rfl (Nat.le_of_ble_eq_true rfl) (fun κ C hP => ?_)
  have C : Cx E κ cX1_push RX1 2 none d := C
  unfold f_X1_push_U at h
  refine g_aload_n (pc := 0) (i := 0) (x := ad 52) C dX1_push_0 rfl rfl ?_
  refine g_get (pc := 1) (v := .int (mem 52 4)) C ok_X1 4 (by decide) wf_X1_25 dX1_push_1 la_52 rfl ?_
  refine g_aload_n (pc := 4) (i := 0) (x := ad 52) C dX1_push_4 rfl rfl ?_
  refine g_get (pc := 5) (v := .int (mem 52 0)) C ok_X1 0 (by decide) wf_X1_9 dX1_push_5 la_52 rfl ?_
  rcases ite_some' h with ⟨hc8, h⟩ | ⟨hc8, h⟩
  · refine g_icmp_lt_t (pc := 8) C 15 dX1_push_8 (by decide) hc8 ?_
    exact j_X1_push_U_15 C hd ht h hP
  · refine g_icmp_lt_f (pc := 8) C 15 dX1_push_8 (by decide) hc8 ?_
    refine g_aload_n (pc := 11) (i := 0) (x := ad 52) C dX1_push_11 rfl rfl ?_
    obtain ⟨m12, hcall12, h⟩ := ob_some h
    refine g_callV (pc := 12) C ce0 mi_X1_dropOldest mv_X1_dropOldest wm_X1_28 dX1_push_12 ok_X1 [] [] la_52 (by omega) rfl rfl (Nat.le_of_ble_eq_true rfl) (m_X1_dropOldest_U (d := d - 1) (by omega)  hcall12) ?_
    show Gw E κ 2 0 0 15 [some (.ref (ad 52)), some (.ref (ad t))] [] ad (LC sh sp ++ tl) m12
    exact j_X1_push_U_15 C hd ht h hP

noncomputable def f_X1_push_K_j15 (t : Nat) (mem : Mem) : Option (Mem) :=
  acp mem (t + 1) 16 57 32 0 ((mem 56 4) * 16) 16 fun m33 => acp m33 (t + 2) 6 58 12 0 ((m33 56 4) * 6) 6 fun m54 => acp m54 (t + 3) 6 59 12 0 ((m54 56 4) * 6) 6 fun m75 => lt' (mset m75 56 4 ((m75 56 4) + 1)) fun m85 => some m85
noncomputable def f_X1_push_K (t : Nat)  (mem : Mem) : Option (Mem) :=
  if (mem 56 4) < (mem 56 0) then (f_X1_push_K_j15 t mem) else (ob (f_X1_dropOldest_K mem) fun m12 => f_X1_push_K_j15 t m12)
set_option maxRecDepth 100000 in
set_option maxHeartbeats 4000000 in
theorem j_X1_push_K_15 {E : Ex} {κ : Kx} {ad : Nat → Nat} {sh sp : Nat} {tl : List Ent} {d : Nat} {t : Nat} (C : Cx E κ cX1_push RX1 2 none d) (hd : 3 ≤ d) (ht : isT t) {mem : Mem} {x : Mem} (h : f_X1_push_K_j15 t mem = some x) (hP : Qr E κ none ad (LC sh sp ++ tl) x) : Gw E κ 2 0 0 15 [some (.ref (ad 56)), some (.ref (ad t))] [] ad (LC sh sp ++ tl) mem := by
  unfold f_X1_push_K_j15 at h
  refine g_aload_n (pc := 15) (i := 1) (x := ad t) C dX1_push_15 rfl rfl ?_
  refine g_getN (pc := 16) (v := .ref (ad (t + 1))) C ok_X0 0 (by decide) nf_X1_31 dX1_push_16 (ly_0 ht) rfl ?_
  refine g_iconst (pc := 19) (v := 0) C dX1_push_19 rfl ?_
  refine g_aload_n (pc := 20) (i := 0) (x := ad 56) C dX1_push_20 rfl rfl ?_
  refine g_get (pc := 21) (v := .ref (ad 57)) C ok_X1 1 (by decide) wf_X1_15 dX1_push_21 la_56 rfl ?_
  refine g_aload_n (pc := 24) (i := 0) (x := ad 56) C dX1_push_24 rfl rfl ?_
  refine g_get (pc := 25) (v := .int (mem 56 4)) C ok_X1 4 (by decide) wf_X1_25 dX1_push_25 la_56 rfl ?_
  refine g_bipush (pc := 28) (v := 16) C dX1_push_28 rfl ?_
  refine g_imul (pc := 30) C dX1_push_30 ?_
  refine g_bipush (pc := 31) (v := 16) C dX1_push_31 rfl ?_
  obtain ⟨m33, hm33, hcp33, h⟩ := acp_some h
  refine g_copy (pc := 33) C (by omega) wm_X1_34 wn_native wn_static wn_init dX1_push_33 (ly_1 ht) la_57 (Nat.le_of_ble_eq_true rfl) hcp33 ?_
  refine g_mem hm33 ?_
  refine g_aload_n (pc := 36) (i := 1) (x := ad t) C dX1_push_36 rfl rfl ?_
  refine g_getN (pc := 37) (v := .ref (ad (t + 2))) C ok_X0 1 (by decide) nf_X1_40 dX1_push_37 (ly_0 ht) rfl ?_
  refine g_iconst (pc := 40) (v := 0) C dX1_push_40 rfl ?_
  refine g_aload_n (pc := 41) (i := 0) (x := ad 56) C dX1_push_41 rfl rfl ?_
  refine g_get (pc := 42) (v := .ref (ad 58)) C ok_X1 2 (by decide) wf_X1_19 dX1_push_42 la_56 rfl ?_
  refine g_aload_n (pc := 45) (i := 0) (x := ad 56) C dX1_push_45 rfl rfl ?_
  refine g_get (pc := 46) (v := .int (m33 56 4)) C ok_X1 4 (by decide) wf_X1_25 dX1_push_46 la_56 rfl ?_
  refine g_bipush (pc := 49) (v := 6) C dX1_push_49 rfl ?_
  refine g_imul (pc := 51) C dX1_push_51 ?_
  refine g_bipush (pc := 52) (v := 6) C dX1_push_52 rfl ?_
  obtain ⟨m54, hm54, hcp54, h⟩ := acp_some h
  refine g_copy (pc := 54) C (by omega) wm_X1_34 wn_native wn_static wn_init dX1_push_54 (ly_2 ht) la_58 (Nat.le_of_ble_eq_true rfl) hcp54 ?_
  refine g_mem hm54 ?_
  refine g_aload_n (pc := 57) (i := 1) (x := ad t) C dX1_push_57 rfl rfl ?_
  refine g_getN (pc := 58) (v := .ref (ad (t + 3))) C ok_X0 2 (by decide) nf_X1_41 dX1_push_58 (ly_0 ht) rfl ?_
  refine g_iconst (pc := 61) (v := 0) C dX1_push_61 rfl ?_
  refine g_aload_n (pc := 62) (i := 0) (x := ad 56) C dX1_push_62 rfl rfl ?_
  refine g_get (pc := 63) (v := .ref (ad 59)) C ok_X1 3 (by decide) wf_X1_22 dX1_push_63 la_56 rfl ?_
  refine g_aload_n (pc := 66) (i := 0) (x := ad 56) C dX1_push_66 rfl rfl ?_
  refine g_get (pc := 67) (v := .int (m54 56 4)) C ok_X1 4 (by decide) wf_X1_25 dX1_push_67 la_56 rfl ?_
  refine g_bipush (pc := 70) (v := 6) C dX1_push_70 rfl ?_
  refine g_imul (pc := 72) C dX1_push_72 ?_
  refine g_bipush (pc := 73) (v := 6) C dX1_push_73 rfl ?_
  obtain ⟨m75, hm75, hcp75, h⟩ := acp_some h
  refine g_copy (pc := 75) C (by omega) wm_X1_34 wn_native wn_static wn_init dX1_push_75 (ly_3 ht) la_59 (Nat.le_of_ble_eq_true rfl) hcp75 ?_
  refine g_mem hm75 ?_
  refine g_aload_n (pc := 78) (i := 0) (x := ad 56) C dX1_push_78 rfl rfl ?_
  refine g_dup (pc := 79) C dX1_push_79 rfl ?_
  refine g_get (pc := 80) (v := .int (m75 56 4)) C ok_X1 4 (by decide) wf_X1_25 dX1_push_80 la_56 rfl ?_
  refine g_iconst (pc := 83) (v := 1) C dX1_push_83 rfl ?_
  refine g_iadd (pc := 84) C dX1_push_84 ?_
  obtain ⟨m85, hm85, h⟩ := lt_some h
  refine g_put (pc := 85) C ok_X1 4 (by decide) wf_X1_25 dX1_push_85 rfl rfl la_56 ?_
  refine g_mem hm85 ?_
  cases h
  exact g_vret (pc := 88) C hP rfl dX1_push_88
set_option maxRecDepth 100000 in
set_option maxHeartbeats 4000000 in
theorem m_X1_push_K {E : Ex} {ad : Nat → Nat} {sh sp : Nat} {tl : List Ent} {d : Nat} (hd : 3 ≤ d) {t : Nat} (ht : isT t)  {mem : Mem} {r : Mem} (h : f_X1_push_K t mem = some r) : Cl E yX1_push cX1_push 2 none d [.ref (ad 56), .ref (ad t)] none ad (LC sh sp ++ tl) mem (LC sh sp ++ tl) r := by
  refine Cl.of [some (.ref (ad 56)), some (.ref (ad t))] (by decide +kernel) rfl (Nat.le_of_ble_eq_true rfl) (fun κ C hP => ?_)
  have C : Cx E κ cX1_push RX1 2 none d := C
  unfold f_X1_push_K at h
  refine g_aload_n (pc := 0) (i := 0) (x := ad 56) C dX1_push_0 rfl rfl ?_
  refine g_get (pc := 1) (v := .int (mem 56 4)) C ok_X1 4 (by decide) wf_X1_25 dX1_push_1 la_56 rfl ?_
  refine g_aload_n (pc := 4) (i := 0) (x := ad 56) C dX1_push_4 rfl rfl ?_
  refine g_get (pc := 5) (v := .int (mem 56 0)) C ok_X1 0 (by decide) wf_X1_9 dX1_push_5 la_56 rfl ?_
  rcases ite_some' h with ⟨hc8, h⟩ | ⟨hc8, h⟩
  · refine g_icmp_lt_t (pc := 8) C 15 dX1_push_8 (by decide) hc8 ?_
    exact j_X1_push_K_15 C hd ht h hP
  · refine g_icmp_lt_f (pc := 8) C 15 dX1_push_8 (by decide) hc8 ?_
    refine g_aload_n (pc := 11) (i := 0) (x := ad 56) C dX1_push_11 rfl rfl ?_
    obtain ⟨m12, hcall12, h⟩ := ob_some h
    refine g_callV (pc := 12) C ce0 mi_X1_dropOldest mv_X1_dropOldest wm_X1_28 dX1_push_12 ok_X1 [] [] la_56 (by omega) rfl rfl (Nat.le_of_ble_eq_true rfl) (m_X1_dropOldest_K (d := d - 1) (by omega)  hcall12) ?_
    show Gw E κ 2 0 0 15 [some (.ref (ad 56)), some (.ref (ad t))] [] ad (LC sh sp ++ tl) m12
    exact j_X1_push_K_15 C hd ht h hP

theorem dX1_pop_0 : decode cX1_pop 0 = .ok (.aload_n 0, 1) := by decide +kernel
theorem dX1_pop_1 : decode cX1_pop 1 = .ok (.getfield 25, 3) := by decide +kernel
theorem dX1_pop_4 : decode cX1_pop 4 = .ok (.ifCond .gt 5, 3) := by decide +kernel
theorem dX1_pop_7 : decode cX1_pop 7 = .ok (.iconst 0, 1) := by decide +kernel
theorem dX1_pop_8 : decode cX1_pop 8 = .ok (.ireturn, 1) := by decide +kernel
theorem dX1_pop_9 : decode cX1_pop 9 = .ok (.aload_n 0, 1) := by decide +kernel
theorem dX1_pop_10 : decode cX1_pop 10 = .ok (.dup, 1) := by decide +kernel
theorem dX1_pop_11 : decode cX1_pop 11 = .ok (.getfield 25, 3) := by decide +kernel
theorem dX1_pop_14 : decode cX1_pop 14 = .ok (.iconst 1, 1) := by decide +kernel
theorem dX1_pop_15 : decode cX1_pop 15 = .ok (.isub, 1) := by decide +kernel
theorem dX1_pop_16 : decode cX1_pop 16 = .ok (.putfield 25, 3) := by decide +kernel
theorem dX1_pop_19 : decode cX1_pop 19 = .ok (.aload_n 0, 1) := by decide +kernel
theorem dX1_pop_20 : decode cX1_pop 20 = .ok (.getfield 15, 3) := by decide +kernel
theorem dX1_pop_23 : decode cX1_pop 23 = .ok (.aload_n 0, 1) := by decide +kernel
theorem dX1_pop_24 : decode cX1_pop 24 = .ok (.getfield 25, 3) := by decide +kernel
theorem dX1_pop_27 : decode cX1_pop 27 = .ok (.bipush 16, 2) := by decide +kernel
theorem dX1_pop_29 : decode cX1_pop 29 = .ok (.imul, 1) := by decide +kernel
theorem dX1_pop_30 : decode cX1_pop 30 = .ok (.aload_n 1, 1) := by decide +kernel
theorem dX1_pop_31 : decode cX1_pop 31 = .ok (.getfield 31, 3) := by decide +kernel
theorem dX1_pop_34 : decode cX1_pop 34 = .ok (.iconst 0, 1) := by decide +kernel
theorem dX1_pop_35 : decode cX1_pop 35 = .ok (.bipush 16, 2) := by decide +kernel
theorem dX1_pop_37 : decode cX1_pop 37 = .ok (.invokestatic 34, 3) := by decide +kernel
theorem dX1_pop_40 : decode cX1_pop 40 = .ok (.aload_n 0, 1) := by decide +kernel
theorem dX1_pop_41 : decode cX1_pop 41 = .ok (.getfield 19, 3) := by decide +kernel
theorem dX1_pop_44 : decode cX1_pop 44 = .ok (.aload_n 0, 1) := by decide +kernel
theorem dX1_pop_45 : decode cX1_pop 45 = .ok (.getfield 25, 3) := by decide +kernel
theorem dX1_pop_48 : decode cX1_pop 48 = .ok (.bipush 6, 2) := by decide +kernel
theorem dX1_pop_50 : decode cX1_pop 50 = .ok (.imul, 1) := by decide +kernel
theorem dX1_pop_51 : decode cX1_pop 51 = .ok (.aload_n 1, 1) := by decide +kernel
theorem dX1_pop_52 : decode cX1_pop 52 = .ok (.getfield 40, 3) := by decide +kernel
theorem dX1_pop_55 : decode cX1_pop 55 = .ok (.iconst 0, 1) := by decide +kernel
theorem dX1_pop_56 : decode cX1_pop 56 = .ok (.bipush 6, 2) := by decide +kernel
theorem dX1_pop_58 : decode cX1_pop 58 = .ok (.invokestatic 34, 3) := by decide +kernel
theorem dX1_pop_61 : decode cX1_pop 61 = .ok (.aload_n 0, 1) := by decide +kernel
theorem dX1_pop_62 : decode cX1_pop 62 = .ok (.getfield 22, 3) := by decide +kernel
theorem dX1_pop_65 : decode cX1_pop 65 = .ok (.aload_n 0, 1) := by decide +kernel
theorem dX1_pop_66 : decode cX1_pop 66 = .ok (.getfield 25, 3) := by decide +kernel
theorem dX1_pop_69 : decode cX1_pop 69 = .ok (.bipush 6, 2) := by decide +kernel
theorem dX1_pop_71 : decode cX1_pop 71 = .ok (.imul, 1) := by decide +kernel
theorem dX1_pop_72 : decode cX1_pop 72 = .ok (.aload_n 1, 1) := by decide +kernel
theorem dX1_pop_73 : decode cX1_pop 73 = .ok (.getfield 41, 3) := by decide +kernel
theorem dX1_pop_76 : decode cX1_pop 76 = .ok (.iconst 0, 1) := by decide +kernel
theorem dX1_pop_77 : decode cX1_pop 77 = .ok (.bipush 6, 2) := by decide +kernel
theorem dX1_pop_79 : decode cX1_pop 79 = .ok (.invokestatic 34, 3) := by decide +kernel
theorem dX1_pop_82 : decode cX1_pop 82 = .ok (.iconst 1, 1) := by decide +kernel
theorem dX1_pop_83 : decode cX1_pop 83 = .ok (.ireturn, 1) := by decide +kernel
noncomputable def f_X1_pop_U (t : Nat)  (mem : Mem) : Option (Int32 × Mem) :=
  if 0 < (mem 52 4) then (lt' (mset mem 52 4 ((mem 52 4) - 1)) fun m16 => acp m16 53 128 (t + 1) 16 ((m16 52 4) * 16) 0 16 fun m37 => acp m37 54 48 (t + 2) 6 ((m37 52 4) * 6) 0 6 fun m58 => acp m58 55 48 (t + 3) 6 ((m58 52 4) * 6) 0 6 fun m79 => some (1, m79)) else (some (0, mem))
set_option maxRecDepth 100000 in
set_option maxHeartbeats 4000000 in
theorem m_X1_pop_U {E : Ex} {ad : Nat → Nat} {sh sp : Nat} {tl : List Ent} {d : Nat} (hd : 2 ≤ d) {t : Nat} (ht : isT t)  {mem : Mem} {r : Int32 × Mem} (h : f_X1_pop_U t mem = some r) : Cl E yX1_pop cX1_pop 2 (some .boolean) d [.ref (ad 52), .ref (ad t)] (some (.int r.1)) ad (LC sh sp ++ tl) mem (LC sh sp ++ tl) r.2 := by
  refine Cl.of [some (.ref (ad 52)), some (.ref (ad t))] (by decide +kernel) rfl (Nat.le_of_ble_eq_true rfl) (fun κ C hP => ?_)
  have C : Cx E κ cX1_pop RX1 2 (some .boolean) d := C
  unfold f_X1_pop_U at h
  refine g_aload_n (pc := 0) (i := 0) (x := ad 52) C dX1_pop_0 rfl rfl ?_
  refine g_get (pc := 1) (v := .int (mem 52 4)) C ok_X1 4 (by decide) wf_X1_25 dX1_pop_1 la_52 rfl ?_
  rcases ite_some' h with ⟨hc4, h⟩ | ⟨hc4, h⟩
  · refine g_if_gt_t (pc := 4) C 9 dX1_pop_4 (by decide) hc4 ?_
    refine g_aload_n (pc := 9) (i := 0) (x := ad 52) C dX1_pop_9 rfl rfl ?_
    refine g_dup (pc := 10) C dX1_pop_10 rfl ?_
    refine g_get (pc := 11) (v := .int (mem 52 4)) C ok_X1 4 (by decide) wf_X1_25 dX1_pop_11 la_52 rfl ?_
    refine g_iconst (pc := 14) (v := 1) C dX1_pop_14 rfl ?_
    refine g_isub (pc := 15) C dX1_pop_15 ?_
    obtain ⟨m16, hm16, h⟩ := lt_some h
    refine g_put (pc := 16) C ok_X1 4 (by decide) wf_X1_25 dX1_pop_16 rfl rfl la_52 ?_
    refine g_mem hm16 ?_
    refine g_aload_n (pc := 19) (i := 0) (x := ad 52) C dX1_pop_19 rfl rfl ?_
    refine g_get (pc := 20) (v := .ref (ad 53)) C ok_X1 1 (by decide) wf_X1_15 dX1_pop_20 la_52 rfl ?_
    refine g_aload_n (pc := 23) (i := 0) (x := ad 52) C dX1_pop_23 rfl rfl ?_
    refine g_get (pc := 24) (v := .int (m16 52 4)) C ok_X1 4 (by decide) wf_X1_25 dX1_pop_24 la_52 rfl ?_
    refine g_bipush (pc := 27) (v := 16) C dX1_pop_27 rfl ?_
    refine g_imul (pc := 29) C dX1_pop_29 ?_
    refine g_aload_n (pc := 30) (i := 1) (x := ad t) C dX1_pop_30 rfl rfl ?_
    refine g_getN (pc := 31) (v := .ref (ad (t + 1))) C ok_X0 0 (by decide) nf_X1_31 dX1_pop_31 (ly_0 ht) rfl ?_
    refine g_iconst (pc := 34) (v := 0) C dX1_pop_34 rfl ?_
    refine g_bipush (pc := 35) (v := 16) C dX1_pop_35 rfl ?_
    obtain ⟨m37, hm37, hcp37, h⟩ := acp_some h
    refine g_copy (pc := 37) C (by omega) wm_X1_34 wn_native wn_static wn_init dX1_pop_37 la_53 (ly_1 ht) (Nat.le_of_ble_eq_true rfl) hcp37 ?_
    refine g_mem hm37 ?_
    refine g_aload_n (pc := 40) (i := 0) (x := ad 52) C dX1_pop_40 rfl rfl ?_
    refine g_get (pc := 41) (v := .ref (ad 54)) C ok_X1 2 (by decide) wf_X1_19 dX1_pop_41 la_52 rfl ?_
    refine g_aload_n (pc := 44) (i := 0) (x := ad 52) C dX1_pop_44 rfl rfl ?_
    refine g_get (pc := 45) (v := .int (m37 52 4)) C ok_X1 4 (by decide) wf_X1_25 dX1_pop_45 la_52 rfl ?_
    refine g_bipush (pc := 48) (v := 6) C dX1_pop_48 rfl ?_
    refine g_imul (pc := 50) C dX1_pop_50 ?_
    refine g_aload_n (pc := 51) (i := 1) (x := ad t) C dX1_pop_51 rfl rfl ?_
    refine g_getN (pc := 52) (v := .ref (ad (t + 2))) C ok_X0 1 (by decide) nf_X1_40 dX1_pop_52 (ly_0 ht) rfl ?_
    refine g_iconst (pc := 55) (v := 0) C dX1_pop_55 rfl ?_
    refine g_bipush (pc := 56) (v := 6) C dX1_pop_56 rfl ?_
    obtain ⟨m58, hm58, hcp58, h⟩ := acp_some h
    refine g_copy (pc := 58) C (by omega) wm_X1_34 wn_native wn_static wn_init dX1_pop_58 la_54 (ly_2 ht) (Nat.le_of_ble_eq_true rfl) hcp58 ?_
    refine g_mem hm58 ?_
    refine g_aload_n (pc := 61) (i := 0) (x := ad 52) C dX1_pop_61 rfl rfl ?_
    refine g_get (pc := 62) (v := .ref (ad 55)) C ok_X1 3 (by decide) wf_X1_22 dX1_pop_62 la_52 rfl ?_
    refine g_aload_n (pc := 65) (i := 0) (x := ad 52) C dX1_pop_65 rfl rfl ?_
    refine g_get (pc := 66) (v := .int (m58 52 4)) C ok_X1 4 (by decide) wf_X1_25 dX1_pop_66 la_52 rfl ?_
    refine g_bipush (pc := 69) (v := 6) C dX1_pop_69 rfl ?_
    refine g_imul (pc := 71) C dX1_pop_71 ?_
    refine g_aload_n (pc := 72) (i := 1) (x := ad t) C dX1_pop_72 rfl rfl ?_
    refine g_getN (pc := 73) (v := .ref (ad (t + 3))) C ok_X0 2 (by decide) nf_X1_41 dX1_pop_73 (ly_0 ht) rfl ?_
    refine g_iconst (pc := 76) (v := 0) C dX1_pop_76 rfl ?_
    refine g_bipush (pc := 77) (v := 6) C dX1_pop_77 rfl ?_
    obtain ⟨m79, hm79, hcp79, h⟩ := acp_some h
    refine g_copy (pc := 79) C (by omega) wm_X1_34 wn_native wn_static wn_init dX1_pop_79 la_55 (ly_3 ht) (Nat.le_of_ble_eq_true rfl) hcp79 ?_
    refine g_mem hm79 ?_
    refine g_iconst (pc := 82) (v := 1) C dX1_pop_82 rfl ?_
    cases h
    exact g_iret (pc := 83) C hP rfl rfl dX1_pop_83
  · refine g_if_gt_f (pc := 4) C 9 dX1_pop_4 (by decide) hc4 ?_
    refine g_iconst (pc := 7) (v := 0) C dX1_pop_7 rfl ?_
    cases h
    exact g_iret (pc := 8) C hP rfl rfl dX1_pop_8

noncomputable def f_X1_pop_K (t : Nat)  (mem : Mem) : Option (Int32 × Mem) :=
  if 0 < (mem 56 4) then (lt' (mset mem 56 4 ((mem 56 4) - 1)) fun m16 => acp m16 57 32 (t + 1) 16 ((m16 56 4) * 16) 0 16 fun m37 => acp m37 58 12 (t + 2) 6 ((m37 56 4) * 6) 0 6 fun m58 => acp m58 59 12 (t + 3) 6 ((m58 56 4) * 6) 0 6 fun m79 => some (1, m79)) else (some (0, mem))
set_option maxRecDepth 100000 in
set_option maxHeartbeats 4000000 in
theorem m_X1_pop_K {E : Ex} {ad : Nat → Nat} {sh sp : Nat} {tl : List Ent} {d : Nat} (hd : 2 ≤ d) {t : Nat} (ht : isT t)  {mem : Mem} {r : Int32 × Mem} (h : f_X1_pop_K t mem = some r) : Cl E yX1_pop cX1_pop 2 (some .boolean) d [.ref (ad 56), .ref (ad t)] (some (.int r.1)) ad (LC sh sp ++ tl) mem (LC sh sp ++ tl) r.2 := by
  refine Cl.of [some (.ref (ad 56)), some (.ref (ad t))] (by decide +kernel) rfl (Nat.le_of_ble_eq_true rfl) (fun κ C hP => ?_)
  have C : Cx E κ cX1_pop RX1 2 (some .boolean) d := C
  unfold f_X1_pop_K at h
  refine g_aload_n (pc := 0) (i := 0) (x := ad 56) C dX1_pop_0 rfl rfl ?_
  refine g_get (pc := 1) (v := .int (mem 56 4)) C ok_X1 4 (by decide) wf_X1_25 dX1_pop_1 la_56 rfl ?_
  rcases ite_some' h with ⟨hc4, h⟩ | ⟨hc4, h⟩
  · refine g_if_gt_t (pc := 4) C 9 dX1_pop_4 (by decide) hc4 ?_
    refine g_aload_n (pc := 9) (i := 0) (x := ad 56) C dX1_pop_9 rfl rfl ?_
    refine g_dup (pc := 10) C dX1_pop_10 rfl ?_
    refine g_get (pc := 11) (v := .int (mem 56 4)) C ok_X1 4 (by decide) wf_X1_25 dX1_pop_11 la_56 rfl ?_
    refine g_iconst (pc := 14) (v := 1) C dX1_pop_14 rfl ?_
    refine g_isub (pc := 15) C dX1_pop_15 ?_
    obtain ⟨m16, hm16, h⟩ := lt_some h
    refine g_put (pc := 16) C ok_X1 4 (by decide) wf_X1_25 dX1_pop_16 rfl rfl la_56 ?_
    refine g_mem hm16 ?_
    refine g_aload_n (pc := 19) (i := 0) (x := ad 56) C dX1_pop_19 rfl rfl ?_
    refine g_get (pc := 20) (v := .ref (ad 57)) C ok_X1 1 (by decide) wf_X1_15 dX1_pop_20 la_56 rfl ?_
    refine g_aload_n (pc := 23) (i := 0) (x := ad 56) C dX1_pop_23 rfl rfl ?_
    refine g_get (pc := 24) (v := .int (m16 56 4)) C ok_X1 4 (by decide) wf_X1_25 dX1_pop_24 la_56 rfl ?_
    refine g_bipush (pc := 27) (v := 16) C dX1_pop_27 rfl ?_
    refine g_imul (pc := 29) C dX1_pop_29 ?_
    refine g_aload_n (pc := 30) (i := 1) (x := ad t) C dX1_pop_30 rfl rfl ?_
    refine g_getN (pc := 31) (v := .ref (ad (t + 1))) C ok_X0 0 (by decide) nf_X1_31 dX1_pop_31 (ly_0 ht) rfl ?_
    refine g_iconst (pc := 34) (v := 0) C dX1_pop_34 rfl ?_
    refine g_bipush (pc := 35) (v := 16) C dX1_pop_35 rfl ?_
    obtain ⟨m37, hm37, hcp37, h⟩ := acp_some h
    refine g_copy (pc := 37) C (by omega) wm_X1_34 wn_native wn_static wn_init dX1_pop_37 la_57 (ly_1 ht) (Nat.le_of_ble_eq_true rfl) hcp37 ?_
    refine g_mem hm37 ?_
    refine g_aload_n (pc := 40) (i := 0) (x := ad 56) C dX1_pop_40 rfl rfl ?_
    refine g_get (pc := 41) (v := .ref (ad 58)) C ok_X1 2 (by decide) wf_X1_19 dX1_pop_41 la_56 rfl ?_
    refine g_aload_n (pc := 44) (i := 0) (x := ad 56) C dX1_pop_44 rfl rfl ?_
    refine g_get (pc := 45) (v := .int (m37 56 4)) C ok_X1 4 (by decide) wf_X1_25 dX1_pop_45 la_56 rfl ?_
    refine g_bipush (pc := 48) (v := 6) C dX1_pop_48 rfl ?_
    refine g_imul (pc := 50) C dX1_pop_50 ?_
    refine g_aload_n (pc := 51) (i := 1) (x := ad t) C dX1_pop_51 rfl rfl ?_
    refine g_getN (pc := 52) (v := .ref (ad (t + 2))) C ok_X0 1 (by decide) nf_X1_40 dX1_pop_52 (ly_0 ht) rfl ?_
    refine g_iconst (pc := 55) (v := 0) C dX1_pop_55 rfl ?_
    refine g_bipush (pc := 56) (v := 6) C dX1_pop_56 rfl ?_
    obtain ⟨m58, hm58, hcp58, h⟩ := acp_some h
    refine g_copy (pc := 58) C (by omega) wm_X1_34 wn_native wn_static wn_init dX1_pop_58 la_58 (ly_2 ht) (Nat.le_of_ble_eq_true rfl) hcp58 ?_
    refine g_mem hm58 ?_
    refine g_aload_n (pc := 61) (i := 0) (x := ad 56) C dX1_pop_61 rfl rfl ?_
    refine g_get (pc := 62) (v := .ref (ad 59)) C ok_X1 3 (by decide) wf_X1_22 dX1_pop_62 la_56 rfl ?_
    refine g_aload_n (pc := 65) (i := 0) (x := ad 56) C dX1_pop_65 rfl rfl ?_
    refine g_get (pc := 66) (v := .int (m58 56 4)) C ok_X1 4 (by decide) wf_X1_25 dX1_pop_66 la_56 rfl ?_
    refine g_bipush (pc := 69) (v := 6) C dX1_pop_69 rfl ?_
    refine g_imul (pc := 71) C dX1_pop_71 ?_
    refine g_aload_n (pc := 72) (i := 1) (x := ad t) C dX1_pop_72 rfl rfl ?_
    refine g_getN (pc := 73) (v := .ref (ad (t + 3))) C ok_X0 2 (by decide) nf_X1_41 dX1_pop_73 (ly_0 ht) rfl ?_
    refine g_iconst (pc := 76) (v := 0) C dX1_pop_76 rfl ?_
    refine g_bipush (pc := 77) (v := 6) C dX1_pop_77 rfl ?_
    obtain ⟨m79, hm79, hcp79, h⟩ := acp_some h
    refine g_copy (pc := 79) C (by omega) wm_X1_34 wn_native wn_static wn_init dX1_pop_79 la_59 (ly_3 ht) (Nat.le_of_ble_eq_true rfl) hcp79 ?_
    refine g_mem hm79 ?_
    refine g_iconst (pc := 82) (v := 1) C dX1_pop_82 rfl ?_
    cases h
    exact g_iret (pc := 83) C hP rfl rfl dX1_pop_83
  · refine g_if_gt_f (pc := 4) C 9 dX1_pop_4 (by decide) hc4 ?_
    refine g_iconst (pc := 7) (v := 0) C dX1_pop_7 rfl ?_
    cases h
    exact g_iret (pc := 8) C hP rfl rfl dX1_pop_8
