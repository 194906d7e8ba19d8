def ClNS (E : Ex) (aK aV : Nat) (y : MethodName) (cc : ByteArray) (maxL d mc ms : Nat) (as : List Value) (n : Nat) (ad : Nat → Nat) (lay : List Ent) (mem : Mem) (lay' : List Ent) (mem' : Mem) : Prop :=
  Met E.1 y (Cond.code y cc maxL none :: TB) { frames := d, cells := mc, slots := ms, locals := 40 * d } (PxS E aK aV as ad lay mem) (Qn E n ad lay' mem') mc ms (fun q => E.2.2.2.2 ≤ q)
theorem ClNS.of {E : Ex} {aK aV : Nat} {y : MethodName} {cc : ByteArray} {nL d mc ms n : Nat} {as : List Value} {ad : Nat → Nat} {lay lay' : List Ent} {mem mem' : Mem} (lv : List (Option Value)) (hy : plainName y.cls = true) (hyn : y.name = "<init>") (hl : lvA lv = lv_args 0 as) (hn : (lg_sl as).length ≤ nL)
    (body : ∀ κ : Kx, Cx E κ cc y.cls nL none d → SxK E aK aV κ → isInit κ → Ce κ mc ms → QrN E κ n ad lay' mem' mc ms → Gw E κ nL 0 0 0 lv [] ad lay mem) : ClNS E aK aV y cc nL d mc ms as n ad lay mem lay' mem' := by
  refine Met.ofW (cc := cc) (maxL := nL) (ret := none) hy rfl ?_
  intro p e s m args below meth c s₁ B hml hv
  obtain ⟨⟨rfl, hR, hK, hN, hB⟩, hSx⟩ := hv
  have hts := atoms_spec (ws := Cond.code y cc nL none :: TB) B.pre
  have h := body (p, e, (headSpec (Cond.code y cc nL none :: TB) { frames := d, cells := mc, slots := ms, locals := 40 * d }).room, s, m, as.toArray, below, meth, c, MQ below (Qn E n ad lay' mem') as.toArray s mc ms (fun q => E.2.2.2.2 ≤ q))
    ⟨B.exec, B.bytes, hml, findClass_of_methodNamed B.named, fun w hw => hts w (List.mem_cons_of_mem _ hw), hK, hN, hB, B.returns, B.notSynchronized, Nat.le_refl _, Nat.le_refl _⟩ hSx ((name_of_methodNamed B.named B.method).1.trans hyn) ⟨Nat.le_refl _, Nat.le_refl _⟩ rfl
  rw [lg_entry_eq]
  exact h s.heap [] _ hR va_S.rf (Lv.of (by rw [hl]; exact lv_entry as hn))
noncomputable def f_init6_b (q : Int32 × Mem) : Option ((Int32 × Mem) ⊕ (Int32 × Mem)) :=
  if 90 ≤ q.1 then (some (.inr q)) else (rd chr 90 q.1 fun v => ob2 (f_X2_append v q.2) fun r m => lt' (q.1 + 1) fun v2 => some (.inl (v2, m)))
noncomputable def f_init6 (mem : Mem) : Option (Nat × Nat × Mem) :=
  ob (lp f_init6_b FU (0, mem)) fun q => ob2 (f_X6_layText 3 17 q.2) fun r m => lt' (mset m.2.2 1 1 0) fun m2 => some (m.1, m.2.1, m2)
def P_init6 (E : Ex) (κ : Kx) (ad : Nat → Nat) (ce sl : Nat) : (Int32 × Mem) ⊕ (Int32 × Mem) → Prop
  | .inl q => Gw E κ 2 ce sl 124 [some (.ref (ad 0)), some (.int q.1)] [] ad (LC 3 17 ++ []) q.2
  | .inr q => Gw E κ 2 ce sl 153 [some (.ref (ad 0)), none] [] ad (LC 3 17 ++ []) q.2
set_option maxRecDepth 100000 in
set_option maxHeartbeats 4000000 in
theorem b_init6 {E : Ex} {κ : Kx} {ad : Nat → Nat} {aK aV d ce sl : Nat} (C : Cx E κ cX6_init RX6 2 none d) (hd : 6 ≤ d) (hce : Ce κ ce sl) (hX : SxK E aK aV κ) {q : Int32 × Mem} {x : (Int32 × Mem) ⊕ (Int32 × Mem)} (h : f_init6_b q = some x) (hP : P_init6 E κ ad ce sl x) : Gw E κ 2 ce sl 124 [some (.ref (ad 0)), some (.int q.1)] [] ad (LC 3 17 ++ []) q.2 := by
  unfold f_init6_b at h
  refine g_iload_n (pc := 124) (i := 1) (x := q.1) C dX6_init_124 rfl rfl ?_
  refine g_ldcS (pc := 125) C hX dX6_init_125 ?_
  refine g_callVS (pc := 127) C hce hX mi_J0_length_8abf5 rfl mv_J0_length_8abf5 wm_X6_72 dX6_init_127 [] [.int q.1] (dc := d - 1) (by omega) rfl rfl (Nat.le_of_ble_eq_true rfl) (m_strlen (by omega)) ?_
  show Gw E κ 2 ce sl 130 [some (.ref (ad 0)), some (.int q.1)] [.int 90, .int q.1] ad (LC 3 17 ++ []) q.2
  rcases ite_some' h with ⟨hc, h⟩ | ⟨hc, h⟩
  · refine g_icmp_ge_t (pc := 130) C 153 dX6_init_130 (by decide) hc ?_
    refine g_mask (lv' := [some (.ref (ad 0)), none]) [true, false] rfl ?_
    cases h
    exact hP
  · refine g_icmp_ge_f (pc := 130) C 153 dX6_init_130 (by decide) hc ?_
    refine g_aload_n (pc := 133) (i := 0) (x := ad 0) C dX6_init_133 rfl rfl ?_
    refine g_get (pc := 134) (v := .ref (ad 1)) C ok_X6 0 (by decide) wf_X6_12 dX6_init_134 la_0 rfl ?_
    refine g_ldcS (pc := 137) C hX dX6_init_137 ?_
    refine g_iload_n (pc := 139) (i := 1) (x := q.1) C dX6_init_139 rfl rfl ?_
    obtain ⟨v, hv, hin, h⟩ := rd_some h
    refine g_callVS (pc := 140) C hce hX mi_J0_charAt_5068e rfl mv_J0_charAt_5068e wm_X6_78 dX6_init_140 [.int q.1] [.ref (ad 1)] (dc := d - 1) (by omega) rfl rfl (Nat.le_of_ble_eq_true rfl) (m_charAt (by omega) hin) ?_
    show Gw E κ 2 ce sl 143 [some (.ref (ad 0)), some (.int q.1)] [.int (chr q.1.toNatClampNeg), .ref (ad 1)] ad (LC 3 17 ++ []) q.2
    refine g_topi hv ?_
    obtain ⟨r, m, hcall, h⟩ := ob2_some h
    refine g_callN (pc := 143) C hce mi_X2_append mv_X2_append nm_X6_82 dX6_init_143 ok_X2 [.int v] [] la_1 (by omega) rfl rfl (Nat.le_of_ble_eq_true rfl) (m_X2_append (d := d - 1) (by omega) hcall) ?_
    show Gw E κ 2 ce sl 146 [some (.ref (ad 0)), some (.int q.1)] [.int r] ad (LC 3 17 ++ []) m
    refine g_pop (pc := 146) C dX6_init_146 rfl ?_
    obtain ⟨v2, hv2, h⟩ := lt_some h
    refine g_iinc (pc := 147) (i := 1) (x := q.1) (v := v2) (lv' := [some (.ref (ad 0)), some (.int v2)]) C dX6_init_147 rfl hv2.symm (by decide) rfl rfl ?_
    refine g_goto (pc := 150) C 124 dX6_init_150 (by decide) ?_
    cases h
    exact hP
set_option maxRecDepth 100000 in
set_option maxHeartbeats 4000000 in
theorem tail6 {E : Ex} {κ : Kx} {ad : Nat → Nat} {aK aV d ce sl : Nat} (C : Cx E κ cX6_init RX6 2 none d) (hd : 6 ≤ d) (hce : Ce κ ce sl) (hX : SxK E aK aV κ) {mem : Mem} {x : Nat × Nat × Mem} {n : Nat} {ad0 : Nat → Nat} (h : f_init6 mem = some x) (hP : QrN E κ n ad0 (LC x.1 x.2.1 ++ []) x.2.2 ce sl) (hA : Agr n ad0 ad) : Gw E κ 2 ce sl 122 [some (.ref (ad 0)), none] [] ad (LC 3 17 ++ []) mem := by
  unfold f_init6 at h
  refine g_iconst (pc := 122) (v := 0) C dX6_init_122 rfl ?_
  refine g_istore_n (pc := 123) (i := 1) (lv' := [some (.ref (ad 0)), some (.int 0)]) C dX6_init_123 rfl (by decide) rfl rfl ?_
  obtain ⟨q, hq, h⟩ := ob_some h
  refine lp_gw (P_init6 E κ ad ce sl) (fun q x hb hp => b_init6 C hd hce hX hb hp) _ (0, mem) _ hq ?_
  show Gw E κ 2 ce sl 153 [some (.ref (ad 0)), none] [] ad (LC 3 17 ++ []) q.2
  refine g_aload_n (pc := 153) (i := 0) (x := ad 0) C dX6_init_153 rfl rfl ?_
  obtain ⟨r, m, hcall, h⟩ := ob2_some h
  refine g_callV (pc := 154) C hce mi_X6_layText mv_X6_layText wm_X6_86 dX6_init_154 ok_X6 [] [] la_0 (by omega) rfl rfl (Nat.le_of_ble_eq_true rfl) (m_X6_layText (d := d - 1) (by omega) (Or.inl rfl) (Or.inr rfl) hcall) ?_
  show Gw E κ 2 ce sl 157 [some (.ref (ad 0)), none] [.int r] ad (LC m.1 m.2.1 ++ []) m.2.2
  refine g_pop (pc := 157) C dX6_init_157 rfl ?_
  refine g_aload_n (pc := 158) (i := 0) (x := ad 0) C dX6_init_158 rfl rfl ?_
  refine g_get (pc := 159) (v := .ref (ad 1)) C ok_X6 0 (by decide) wf_X6_12 dX6_init_159 la_0 rfl ?_
  refine g_iconst (pc := 162) (v := 0) C dX6_init_162 rfl ?_
  obtain ⟨m2, hm2, h⟩ := lt_some h
  refine g_putN (pc := 163) C ok_X2 1 (by decide) nf_X6_90 dX6_init_163 rfl rfl la_1 ?_
  refine g_mem hm2 ?_
  cases h
  exact g_vretN (pc := 166) C hP hA dX6_init_166
set_option maxRecDepth 100000 in
set_option maxHeartbeats 4000000 in
theorem i_X6_0 {E : Ex} {aK aV : Nat} {a0 : Nat → Nat} {d : Nat} (hd : 6 ≤ d) {x : Nat × Nat × Mem} (h : f_init6 (mset (mset MZ 52 0 8) 56 0 2) = some x) : ClNS E aK aV yX6_init cX6_init 2 d 61 998 [.ref (a0 0)] 1 a0 Y_0 MZ (LC x.1 x.2.1 ++ []) x.2.2 := by
  refine ClNS.of [some (.ref (a0 0)), none] (by decide +kernel) rfl rfl (Nat.le_of_ble_eq_true rfl) (fun κ C hX hI hce hP => ?_)
  have C : Cx E κ cX6_init RX6 2 none d := C
  have hA : Agr 1 a0 a0 := Agr.rf
  refine g_aload_n (pc := 0) (i := 0) (x := a0 0) C dX6_init_0 rfl rfl ?_
  refine g_objInit (pc := 1) C (by omega) wo_X6_3 wo_i wo_c dX6_init_1 (Nat.le_of_ble_eq_true rfl) ?_
  refine g_aload_n (pc := 4) (i := 0) (x := a0 0) C dX6_init_4 rfl rfl ?_
  refine g_new (pc := 5) (n := 1) C ok_X2 df_X2 wk_X6_9 wi_X2 wz_X2 dX6_init_5 (by decide +kernel) (by decide +kernel) rfl (hce.mono (by decide) (by decide)) (fun a1 h1 => ?_)
  rw [← h1 0 (by decide)]
  have hA := Agr.tr hA (by decide) h1
  refine g_dup (pc := 8) C dX6_init_8 rfl ?_
  refine g_lay (lay' := Y_1) (by decide +kernel) ?_
  refine g_callIN (pc := 9) (n := 2) (dc := d - 1) (mc := 1) (ms := 200) C (hce.mono (by decide) (by decide)) mi_X2_init mo_X2 nm_X6_11 dX6_init_9 [] [.ref (a1 1), .ref (a1 0)] (by omega) rfl rfl (Nat.le_of_ble_eq_true rfl) (i_X2_1 (by omega)) (fun a2 h2 => ?_)
  rw [← h2 0 (by decide), ← h2 1 (by decide)]
  have hA := Agr.tr hA (by decide) h2
  refine g_putFR (pc := 12) (a := 0) (r := 1) (rs := [none, none, none, none, none, none, none, none, none, none, none, none]) C hI ok_X6 0 (by decide) wf_X6_12 dX6_init_12 rfl rfl rfl rfl (by decide) rfl (by decide +kernel) ?_
  refine g_aload_n (pc := 15) (i := 0) (x := a2 0) C dX6_init_15 rfl rfl ?_
  refine g_new (pc := 16) (n := 3) C ok_X5 df_X5 wk_X6_16 wi_X5 wz_X5 dX6_init_16 (by decide +kernel) (by decide +kernel) rfl (hce.mono (by decide) (by decide)) (fun a3 h3 => ?_)
  rw [← h3 0 (by decide)]
  have hA := Agr.tr hA (by decide) h3
  refine g_dup (pc := 19) C dX6_init_19 rfl ?_
  refine g_lay (lay' := Y_3) (by decide +kernel) ?_
  refine g_callIN (pc := 20) (n := 4) (dc := d - 1) (mc := 13) (ms := 152) C (hce.mono (by decide) (by decide)) mi_X5_init mo_X5 nm_X6_18 dX6_init_20 [] [.ref (a3 3), .ref (a3 0)] (by omega) rfl rfl (Nat.le_of_ble_eq_true rfl) (i_X5_3 (by omega)) (fun a4 h4 => ?_)
  rw [← h4 0 (by decide), ← h4 3 (by decide)]
  have hA := Agr.tr hA (by decide) h4
  refine g_putR (pc := 23) (a := 0) (r := 3) (rs := [some 1, none, none, none, none, none, none, none, none, none, none, none]) C ok_X6 1 (by decide) wf_X6_19 dX6_init_23 rfl rfl rfl (by decide) rfl (by decide +kernel) ?_
  refine g_aload_n (pc := 26) (i := 0) (x := a4 0) C dX6_init_26 rfl rfl ?_
  refine g_new (pc := 27) (n := 17) C ok_X5 df_X5 wk_X6_16 wi_X5 wz_X5 dX6_init_27 (by decide +kernel) (by decide +kernel) rfl (hce.mono (by decide) (by decide)) (fun a5 h5 => ?_)
  rw [← h5 0 (by decide)]
  have hA := Agr.tr hA (by decide) h5
  refine g_dup (pc := 30) C dX6_init_30 rfl ?_
  refine g_lay (lay' := Y_7) (by decide +kernel) ?_
  refine g_callIN (pc := 31) (n := 18) (dc := d - 1) (mc := 13) (ms := 152) C (hce.mono (by decide) (by decide)) mi_X5_init mo_X5 nm_X6_18 dX6_init_31 [] [.ref (a5 17), .ref (a5 0)] (by omega) rfl rfl (Nat.le_of_ble_eq_true rfl) (i_X5_17 (by omega)) (fun a6 h6 => ?_)
  rw [← h6 0 (by decide), ← h6 17 (by decide)]
  have hA := Agr.tr hA (by decide) h6
  refine g_putR (pc := 34) (a := 0) (r := 17) (rs := [some 1, some 3, none, none, none, none, none, none, none, none, none, none]) C ok_X6 2 (by decide) wf_X6_23 dX6_init_34 rfl rfl rfl (by decide) rfl (by decide +kernel) ?_
  refine g_aload_n (pc := 37) (i := 0) (x := a6 0) C dX6_init_37 rfl rfl ?_
  refine g_new (pc := 38) (n := 31) C ok_X0 df_X0 wk_X6_26 wi_X0 wz_X0 dX6_init_38 (by decide +kernel) (by decide +kernel) rfl (hce.mono (by decide) (by decide)) (fun a7 h7 => ?_)
  rw [← h7 0 (by decide)]
  have hA := Agr.tr hA (by decide) h7
  refine g_dup (pc := 41) C dX6_init_41 rfl ?_
  refine g_lay (lay' := Y_11) (by decide +kernel) ?_
  refine g_callIN (pc := 42) (n := 32) (dc := d - 1) (mc := 3) (ms := 28) C (hce.mono (by decide) (by decide)) mi_X0_init mo_X0 nm_X6_28 dX6_init_42 [] [.ref (a7 31), .ref (a7 0)] (by omega) rfl rfl (Nat.le_of_ble_eq_true rfl) (i_X0_31 (by omega)) (fun a8 h8 => ?_)
  rw [← h8 0 (by decide), ← h8 31 (by decide)]
  have hA := Agr.tr hA (by decide) h8
  refine g_putFR (pc := 45) (a := 0) (r := 31) (rs := [some 1, some 3, some 17, none, none, none, none, none, none, none, none, none]) C hI ok_X6 3 (by decide) wf_X6_29 dX6_init_45 rfl rfl rfl rfl (by decide) rfl (by decide +kernel) ?_
  refine g_aload_n (pc := 48) (i := 0) (x := a8 0) C dX6_init_48 rfl rfl ?_
  refine g_new (pc := 49) (n := 35) C ok_X0 df_X0 wk_X6_26 wi_X0 wz_X0 dX6_init_49 (by decide +kernel) (by decide +kernel) rfl (hce.mono (by decide) (by decide)) (fun a9 h9 => ?_)
  rw [← h9 0 (by decide)]
  have hA := Agr.tr hA (by decide) h9
  refine g_dup (pc := 52) C dX6_init_52 rfl ?_
  refine g_lay (lay' := Y_13) (by decide +kernel) ?_
  refine g_callIN (pc := 53) (n := 36) (dc := d - 1) (mc := 3) (ms := 28) C (hce.mono (by decide) (by decide)) mi_X0_init mo_X0 nm_X6_28 dX6_init_53 [] [.ref (a9 35), .ref (a9 0)] (by omega) rfl rfl (Nat.le_of_ble_eq_true rfl) (i_X0_35 (by omega)) (fun a10 h10 => ?_)
  rw [← h10 0 (by decide), ← h10 35 (by decide)]
  have hA := Agr.tr hA (by decide) h10
  refine g_putFR (pc := 56) (a := 0) (r := 35) (rs := [some 1, some 3, some 17, some 31, none, none, none, none, none, none, none, none]) C hI ok_X6 4 (by decide) wf_X6_33 dX6_init_56 rfl rfl rfl rfl (by decide) rfl (by decide +kernel) ?_
  refine g_aload_n (pc := 59) (i := 0) (x := a10 0) C dX6_init_59 rfl rfl ?_
  refine g_new (pc := 60) (n := 39) C ok_X3 df_X3 wk_X6_36 wi_X3 wz_X3 dX6_init_60 (by decide +kernel) (by decide +kernel) rfl (hce.mono (by decide) (by decide)) (fun a11 h11 => ?_)
  rw [← h11 0 (by decide)]
  have hA := Agr.tr hA (by decide) h11
  refine g_dup (pc := 63) C dX6_init_63 rfl ?_
  refine g_lay (lay' := Y_15) (by decide +kernel) ?_
  refine g_callIN (pc := 64) (n := 40) (dc := d - 1) (mc := 4) (ms := 24) C (hce.mono (by decide) (by decide)) mi_X3_init mo_X3 nm_X6_38 dX6_init_64 [] [.ref (a11 39), .ref (a11 0)] (by omega) rfl rfl (Nat.le_of_ble_eq_true rfl) (i_X3_39 (by omega)) (fun a12 h12 => ?_)
  rw [← h12 0 (by decide), ← h12 39 (by decide)]
  have hA := Agr.tr hA (by decide) h12
  refine g_putFR (pc := 67) (a := 0) (r := 39) (rs := [some 1, some 3, some 17, some 31, some 35, none, none, none, none, none, none, none]) C hI ok_X6 5 (by decide) wf_X6_39 dX6_init_67 rfl rfl rfl rfl (by decide) rfl (by decide +kernel) ?_
  refine g_aload_n (pc := 70) (i := 0) (x := a12 0) C dX6_init_70 rfl rfl ?_
  refine g_new (pc := 71) (n := 44) C ok_X4 df_X4 wk_X6_43 wi_X4 wz_X4 dX6_init_71 (by decide +kernel) (by decide +kernel) rfl (hce.mono (by decide) (by decide)) (fun a13 h13 => ?_)
  rw [← h13 0 (by decide)]
  have hA := Agr.tr hA (by decide) h13
  refine g_dup (pc := 74) C dX6_init_74 rfl ?_
  refine g_lay (lay' := Y_17) (by decide +kernel) ?_
  refine g_callIN (pc := 75) (n := 45) (dc := d - 1) (mc := 7) (ms := 63) C (hce.mono (by decide) (by decide)) mi_X4_init mo_X4 nm_X6_45 dX6_init_75 [] [.ref (a13 44), .ref (a13 0)] (by omega) rfl rfl (Nat.le_of_ble_eq_true rfl) (i_X4_44 (by omega)) (fun a14 h14 => ?_)
  rw [← h14 0 (by decide), ← h14 44 (by decide)]
  have hA := Agr.tr hA (by decide) h14
  refine g_putFR (pc := 78) (a := 0) (r := 44) (rs := [some 1, some 3, some 17, some 31, some 35, some 39, none, none, none, none, none, none]) C hI ok_X6 6 (by decide) wf_X6_46 dX6_init_78 rfl rfl rfl rfl (by decide) rfl (by decide +kernel) ?_
  refine g_aload_n (pc := 81) (i := 0) (x := a14 0) C dX6_init_81 rfl rfl ?_
  refine g_new (pc := 82) (n := 52) C ok_X1 df_X1 wk_X6_50 wi_X1 wz_X1 dX6_init_82 (by decide +kernel) (by decide +kernel) rfl (hce.mono (by decide) (by decide)) (fun a15 h15 => ?_)
  rw [← h15 0 (by decide)]
  have hA := Agr.tr hA (by decide) h15
  refine g_dup (pc := 85) C dX6_init_85 rfl ?_
  refine g_bipush (pc := 86) (v := 8) C dX6_init_86 rfl ?_
  refine g_lay (lay' := Y_21) (by decide +kernel) ?_
  refine g_callIN (pc := 88) (n := 53) (dc := d - 1) (mc := 3) (ms := 224) C (hce.mono (by decide) (by decide)) mi_X1_init mo_X1 nm_X6_52 dX6_init_88 [.int 8] [.ref (a15 52), .ref (a15 0)] (by omega) rfl rfl (Nat.le_of_ble_eq_true rfl) (i_X1_52 (by omega)) (fun a16 h16 => ?_)
  rw [← h16 0 (by decide), ← h16 52 (by decide)]
  have hA := Agr.tr hA (by decide) h16
  refine g_putFR (pc := 91) (a := 0) (r := 52) (rs := [some 1, some 3, some 17, some 31, some 35, some 39, some 44, none, none, none, none, none]) C hI ok_X6 7 (by decide) wf_X6_55 dX6_init_91 rfl rfl rfl rfl (by decide) rfl (by decide +kernel) ?_
  refine g_aload_n (pc := 94) (i := 0) (x := a16 0) C dX6_init_94 rfl rfl ?_
  refine g_new (pc := 95) (n := 56) C ok_X1 df_X1 wk_X6_50 wi_X1 wz_X1 dX6_init_95 (by decide +kernel) (by decide +kernel) rfl (hce.mono (by decide) (by decide)) (fun a17 h17 => ?_)
  rw [← h17 0 (by decide)]
  have hA := Agr.tr hA (by decide) h17
  refine g_dup (pc := 98) C dX6_init_98 rfl ?_
  refine g_iconst (pc := 99) (v := 2) C dX6_init_99 rfl ?_
  refine g_lay (lay' := Y_23) (by decide +kernel) ?_
  refine g_callIN (pc := 100) (n := 57) (dc := d - 1) (mc := 3) (ms := 56) C (hce.mono (by decide) (by decide)) mi_X1_init mo_X1 nm_X6_52 dX6_init_100 [.int 2] [.ref (a17 56), .ref (a17 0)] (by omega) rfl rfl (Nat.le_of_ble_eq_true rfl) (i_X1_56 (by omega)) (fun a18 h18 => ?_)
  rw [← h18 0 (by decide), ← h18 56 (by decide)]
  have hA := Agr.tr hA (by decide) h18
  refine g_putFR (pc := 103) (a := 0) (r := 56) (rs := [some 1, some 3, some 17, some 31, some 35, some 39, some 44, some 52, none, none, none, none]) C hI ok_X6 8 (by decide) wf_X6_59 dX6_init_103 rfl rfl rfl rfl (by decide) rfl (by decide +kernel) ?_
  refine g_aload_n (pc := 106) (i := 0) (x := a18 0) C dX6_init_106 rfl rfl ?_
  refine g_bipush (pc := 107) (v := 6) C dX6_init_107 rfl ?_
  refine g_newA (pc := 109) (n := 60) (len := 6) C false rfl wa_I dX6_init_109 (by decide +kernel) (by decide +kernel) rfl (by decide) (by decide) (by decide) (hce.mono (by decide) (by decide)) (fun a19 h19 => ?_)
  rw [← h19 0 (by decide)]
  have hA := Agr.tr hA (by decide) h19
  refine g_putFR (pc := 111) (a := 0) (r := 60) (rs := [some 1, some 3, some 17, some 31, some 35, some 39, some 44, some 52, some 56, none, none, none]) C hI ok_X6 9 (by decide) wf_X6_62 dX6_init_111 rfl rfl rfl rfl (by decide) rfl (by decide +kernel) ?_
  refine g_aload_n (pc := 114) (i := 0) (x := a19 0) C dX6_init_114 rfl rfl ?_
  refine g_bipush (pc := 115) (v := 6) C dX6_init_115 rfl ?_
  refine g_newA (pc := 117) (n := 61) (len := 6) C true rfl wa_Z dX6_init_117 (by decide +kernel) (by decide +kernel) rfl (by decide) (by decide) (by decide) (hce.mono (by decide) (by decide)) (fun a20 h20 => ?_)
  rw [← h20 0 (by decide)]
  have hA := Agr.tr hA (by decide) h20
  refine g_putFR (pc := 119) (a := 0) (r := 61) (rs := [some 1, some 3, some 17, some 31, some 35, some 39, some 44, some 52, some 56, some 60, none, none]) C hI ok_X6 10 (by decide) wf_X6_66 dX6_init_119 rfl rfl rfl rfl (by decide) rfl (by decide +kernel) ?_
  refine g_lay (lay' := LC 3 17 ++ []) (by decide +kernel) ?_
  exact tail6 C (by omega) (hce.mono (by decide) (by decide)) hX h hP hA
