theorem dJ6_bitCount_0f7a4_0 : decode cJ6_bitCount_0f7a4 0 = .ok (.iload_n 0, 1) := by decide +kernel
theorem dJ6_bitCount_0f7a4_1 : decode cJ6_bitCount_0f7a4 1 = .ok (.iload_n 0, 1) := by decide +kernel
theorem dJ6_bitCount_0f7a4_2 : decode cJ6_bitCount_0f7a4 2 = .ok (.iconst 1, 1) := by decide +kernel
theorem dJ6_bitCount_0f7a4_3 : decode cJ6_bitCount_0f7a4 3 = .ok (.iushr, 1) := by decide +kernel
theorem dJ6_bitCount_0f7a4_4 : decode cJ6_bitCount_0f7a4 4 = .ok (.ldc_w 265, 3) := by decide +kernel
theorem dJ6_bitCount_0f7a4_7 : decode cJ6_bitCount_0f7a4 7 = .ok (.iand, 1) := by decide +kernel
theorem dJ6_bitCount_0f7a4_8 : decode cJ6_bitCount_0f7a4 8 = .ok (.isub, 1) := by decide +kernel
theorem dJ6_bitCount_0f7a4_9 : decode cJ6_bitCount_0f7a4 9 = .ok (.istore_n 0, 1) := by decide +kernel
theorem dJ6_bitCount_0f7a4_10 : decode cJ6_bitCount_0f7a4 10 = .ok (.iload_n 0, 1) := by decide +kernel
theorem dJ6_bitCount_0f7a4_11 : decode cJ6_bitCount_0f7a4 11 = .ok (.ldc_w 266, 3) := by decide +kernel
theorem dJ6_bitCount_0f7a4_14 : decode cJ6_bitCount_0f7a4 14 = .ok (.iand, 1) := by decide +kernel
theorem dJ6_bitCount_0f7a4_15 : decode cJ6_bitCount_0f7a4 15 = .ok (.iload_n 0, 1) := by decide +kernel
theorem dJ6_bitCount_0f7a4_16 : decode cJ6_bitCount_0f7a4 16 = .ok (.iconst 2, 1) := by decide +kernel
theorem dJ6_bitCount_0f7a4_17 : decode cJ6_bitCount_0f7a4 17 = .ok (.iushr, 1) := by decide +kernel
theorem dJ6_bitCount_0f7a4_18 : decode cJ6_bitCount_0f7a4 18 = .ok (.ldc_w 266, 3) := by decide +kernel
theorem dJ6_bitCount_0f7a4_21 : decode cJ6_bitCount_0f7a4 21 = .ok (.iand, 1) := by decide +kernel
theorem dJ6_bitCount_0f7a4_22 : decode cJ6_bitCount_0f7a4 22 = .ok (.iadd, 1) := by decide +kernel
theorem dJ6_bitCount_0f7a4_23 : decode cJ6_bitCount_0f7a4 23 = .ok (.istore_n 0, 1) := by decide +kernel
theorem dJ6_bitCount_0f7a4_24 : decode cJ6_bitCount_0f7a4 24 = .ok (.iload_n 0, 1) := by decide +kernel
theorem dJ6_bitCount_0f7a4_25 : decode cJ6_bitCount_0f7a4 25 = .ok (.iload_n 0, 1) := by decide +kernel
theorem dJ6_bitCount_0f7a4_26 : decode cJ6_bitCount_0f7a4 26 = .ok (.iconst 4, 1) := by decide +kernel
theorem dJ6_bitCount_0f7a4_27 : decode cJ6_bitCount_0f7a4 27 = .ok (.iushr, 1) := by decide +kernel
theorem dJ6_bitCount_0f7a4_28 : decode cJ6_bitCount_0f7a4 28 = .ok (.iadd, 1) := by decide +kernel
theorem dJ6_bitCount_0f7a4_29 : decode cJ6_bitCount_0f7a4 29 = .ok (.ldc_w 267, 3) := by decide +kernel
theorem dJ6_bitCount_0f7a4_32 : decode cJ6_bitCount_0f7a4 32 = .ok (.iand, 1) := by decide +kernel
theorem dJ6_bitCount_0f7a4_33 : decode cJ6_bitCount_0f7a4 33 = .ok (.istore_n 0, 1) := by decide +kernel
theorem dJ6_bitCount_0f7a4_34 : decode cJ6_bitCount_0f7a4 34 = .ok (.iload_n 0, 1) := by decide +kernel
theorem dJ6_bitCount_0f7a4_35 : decode cJ6_bitCount_0f7a4 35 = .ok (.iload_n 0, 1) := by decide +kernel
theorem dJ6_bitCount_0f7a4_36 : decode cJ6_bitCount_0f7a4 36 = .ok (.bipush 8, 2) := by decide +kernel
theorem dJ6_bitCount_0f7a4_38 : decode cJ6_bitCount_0f7a4 38 = .ok (.iushr, 1) := by decide +kernel
theorem dJ6_bitCount_0f7a4_39 : decode cJ6_bitCount_0f7a4 39 = .ok (.iadd, 1) := by decide +kernel
theorem dJ6_bitCount_0f7a4_40 : decode cJ6_bitCount_0f7a4 40 = .ok (.istore_n 0, 1) := by decide +kernel
theorem dJ6_bitCount_0f7a4_41 : decode cJ6_bitCount_0f7a4 41 = .ok (.iload_n 0, 1) := by decide +kernel
theorem dJ6_bitCount_0f7a4_42 : decode cJ6_bitCount_0f7a4 42 = .ok (.iload_n 0, 1) := by decide +kernel
theorem dJ6_bitCount_0f7a4_43 : decode cJ6_bitCount_0f7a4 43 = .ok (.bipush 16, 2) := by decide +kernel
theorem dJ6_bitCount_0f7a4_45 : decode cJ6_bitCount_0f7a4 45 = .ok (.iushr, 1) := by decide +kernel
theorem dJ6_bitCount_0f7a4_46 : decode cJ6_bitCount_0f7a4 46 = .ok (.iadd, 1) := by decide +kernel
theorem dJ6_bitCount_0f7a4_47 : decode cJ6_bitCount_0f7a4 47 = .ok (.istore_n 0, 1) := by decide +kernel
theorem dJ6_bitCount_0f7a4_48 : decode cJ6_bitCount_0f7a4 48 = .ok (.iload_n 0, 1) := by decide +kernel
theorem dJ6_bitCount_0f7a4_49 : decode cJ6_bitCount_0f7a4 49 = .ok (.bipush 63, 2) := by decide +kernel
theorem dJ6_bitCount_0f7a4_51 : decode cJ6_bitCount_0f7a4 51 = .ok (.iand, 1) := by decide +kernel
theorem dJ6_bitCount_0f7a4_52 : decode cJ6_bitCount_0f7a4 52 = .ok (.ireturn, 1) := by decide +kernel
noncomputable def f_J6_bitCount_0f7a4 (l0 : Int32) : Option (Int32) :=
  lt' (l0 - ((ushr l0 1) &&& 1431655765)) fun v9 => lt' ((v9 &&& 858993459) + ((ushr v9 2) &&& 858993459)) fun v23 => lt' ((v23 + (ushr v23 4)) &&& 252645135) fun v33 => lt' (v33 + (ushr v33 8)) fun v40 => lt' (v40 + (ushr v40 16)) fun v47 => lt' (v47 &&& 63) fun v52 => some v52
set_option maxRecDepth 100000 in
set_option maxHeartbeats 4000000 in
theorem m_J6_bitCount_0f7a4 {E : Ex} {ad : Nat → Nat} {lay : List Ent} {d : Nat} (hd : 0 ≤ d)  {l0 : Int32} {mem : Mem} {r : Int32} (h : f_J6_bitCount_0f7a4 l0 = some r) : Cl E yJ6_bitCount_0f7a4 cJ6_bitCount_0f7a4 1 (some .int) d [.int l0] (some (.int r)) ad lay mem lay mem := by
  refine Cl.of [some (.int l0)] (by decide +kernel) rfl (Nat.le_of_ble_eq_true rfl) (fun κ C hP => ?_)
  have C : Cx E κ cJ6_bitCount_0f7a4 RJ6 1 (some .int) d := C
  unfold f_J6_bitCount_0f7a4 at h
  refine g_iload_n (pc := 0) (i := 0) (x := l0) C dJ6_bitCount_0f7a4_0 rfl rfl ?_
  refine g_iload_n (pc := 1) (i := 0) (x := l0) C dJ6_bitCount_0f7a4_1 rfl rfl ?_
  refine g_iconst (pc := 2) (v := 1) C dJ6_bitCount_0f7a4_2 rfl ?_
  refine g_iushr' (pc := 3) C dJ6_bitCount_0f7a4_3 ?_
  refine g_ldcw (pc := 4) C wc_J6_265 dJ6_bitCount_0f7a4_4 ?_
  refine g_iand (pc := 7) C dJ6_bitCount_0f7a4_7 ?_
  refine g_isub (pc := 8) C dJ6_bitCount_0f7a4_8 ?_
  obtain ⟨v9, hv9, h⟩ := lt_some h
  refine g_topi hv9 ?_
  refine g_istore_n (pc := 9) (i := 0) (lv' := [some (.int v9)]) C dJ6_bitCount_0f7a4_9 rfl (by decide) rfl rfl ?_
  refine g_iload_n (pc := 10) (i := 0) (x := v9) C dJ6_bitCount_0f7a4_10 rfl rfl ?_
  refine g_ldcw (pc := 11) C wc_J6_266 dJ6_bitCount_0f7a4_11 ?_
  refine g_iand (pc := 14) C dJ6_bitCount_0f7a4_14 ?_
  refine g_iload_n (pc := 15) (i := 0) (x := v9) C dJ6_bitCount_0f7a4_15 rfl rfl ?_
  refine g_iconst (pc := 16) (v := 2) C dJ6_bitCount_0f7a4_16 rfl ?_
  refine g_iushr' (pc := 17) C dJ6_bitCount_0f7a4_17 ?_
  refine g_ldcw (pc := 18) C wc_J6_266 dJ6_bitCount_0f7a4_18 ?_
  refine g_iand (pc := 21) C dJ6_bitCount_0f7a4_21 ?_
  refine g_iadd (pc := 22) C dJ6_bitCount_0f7a4_22 ?_
  obtain ⟨v23, hv23, h⟩ := lt_some h
  refine g_topi hv23 ?_
  refine g_istore_n (pc := 23) (i := 0) (lv' := [some (.int v23)]) C dJ6_bitCount_0f7a4_23 rfl (by decide) rfl rfl ?_
  refine g_iload_n (pc := 24) (i := 0) (x := v23) C dJ6_bitCount_0f7a4_24 rfl rfl ?_
  refine g_iload_n (pc := 25) (i := 0) (x := v23) C dJ6_bitCount_0f7a4_25 rfl rfl ?_
  refine g_iconst (pc := 26) (v := 4) C dJ6_bitCount_0f7a4_26 rfl ?_
  refine g_iushr' (pc := 27) C dJ6_bitCount_0f7a4_27 ?_
  refine g_iadd (pc := 28) C dJ6_bitCount_0f7a4_28 ?_
  refine g_ldcw (pc := 29) C wc_J6_267 dJ6_bitCount_0f7a4_29 ?_
  refine g_iand (pc := 32) C dJ6_bitCount_0f7a4_32 ?_
  obtain ⟨v33, hv33, h⟩ := lt_some h
  refine g_topi hv33 ?_
  refine g_istore_n (pc := 33) (i := 0) (lv' := [some (.int v33)]) C dJ6_bitCount_0f7a4_33 rfl (by decide) rfl rfl ?_
  refine g_iload_n (pc := 34) (i := 0) (x := v33) C dJ6_bitCount_0f7a4_34 rfl rfl ?_
  refine g_iload_n (pc := 35) (i := 0) (x := v33) C dJ6_bitCount_0f7a4_35 rfl rfl ?_
  refine g_bipush (pc := 36) (v := 8) C dJ6_bitCount_0f7a4_36 rfl ?_
  refine g_iushr' (pc := 38) C dJ6_bitCount_0f7a4_38 ?_
  refine g_iadd (pc := 39) C dJ6_bitCount_0f7a4_39 ?_
  obtain ⟨v40, hv40, h⟩ := lt_some h
  refine g_topi hv40 ?_
  refine g_istore_n (pc := 40) (i := 0) (lv' := [some (.int v40)]) C dJ6_bitCount_0f7a4_40 rfl (by decide) rfl rfl ?_
  refine g_iload_n (pc := 41) (i := 0) (x := v40) C dJ6_bitCount_0f7a4_41 rfl rfl ?_
  refine g_iload_n (pc := 42) (i := 0) (x := v40) C dJ6_bitCount_0f7a4_42 rfl rfl ?_
  refine g_bipush (pc := 43) (v := 16) C dJ6_bitCount_0f7a4_43 rfl ?_
  refine g_iushr' (pc := 45) C dJ6_bitCount_0f7a4_45 ?_
  refine g_iadd (pc := 46) C dJ6_bitCount_0f7a4_46 ?_
  obtain ⟨v47, hv47, h⟩ := lt_some h
  refine g_topi hv47 ?_
  refine g_istore_n (pc := 47) (i := 0) (lv' := [some (.int v47)]) C dJ6_bitCount_0f7a4_47 rfl (by decide) rfl rfl ?_
  refine g_iload_n (pc := 48) (i := 0) (x := v47) C dJ6_bitCount_0f7a4_48 rfl rfl ?_
  refine g_bipush (pc := 49) (v := 63) C dJ6_bitCount_0f7a4_49 rfl ?_
  refine g_iand (pc := 51) C dJ6_bitCount_0f7a4_51 ?_
  obtain ⟨v52, hv52, h⟩ := lt_some h
  refine g_topi hv52 ?_
  cases h
  exact g_iret (pc := 52) C hP rfl rfl dJ6_bitCount_0f7a4_52
