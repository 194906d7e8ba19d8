/-! the first text: a String constant, and the JDK's members over it -/
def TXT : String := "g3,4;b5;wace;wbad;wfade;wcafe;wde;wabe;wfed;l0f;s0,0,2;s1,0,3;s2,1,4;s3,2,6;s4,0,3;s0,3,1;"
def txL : List Int32 := [103, 51, 44, 52, 59, 98, 53, 59, 119, 97, 99, 101, 59, 119, 98, 97, 100, 59, 119, 102, 97, 100, 101, 59, 119, 99, 97, 102, 101, 59, 119, 100, 101, 59, 119, 97, 98, 101, 59, 119, 102, 101, 100, 59, 108, 48, 102, 59, 115, 48, 44, 48, 44, 50, 59, 115, 49, 44, 48, 44, 51, 59, 115, 50, 44, 49, 44, 52, 59, 115, 51, 44, 50, 44, 54, 59, 115, 52, 44, 48, 44, 51, 59, 115, 48, 44, 51, 44, 49, 59]
def txB (j : Nat) : Int32 := txL.getD j 0
def chr (j : Nat) : Int32 := ((txB j &&& 255).toUInt32 % 65536).toInt32
theorem wf_J0_9 : Cond.fieldLink RJ0 9 "java/lang/String" "value" "[B" ∈ TB := tb_of 1273 (by decide +kernel) rfl
theorem wf_J0_15 : Cond.fieldLink RJ0 15 "java/lang/String" "coder" "B" ∈ TB := tb_of 1274 (by decide +kernel) rfl
theorem wf_J0_38 : Cond.fieldLink RJ0 38 "java/lang/String" "COMPACT_STRINGS" "Z" ∈ TB := tb_of 332 (by decide +kernel) rfl
theorem wf_J0_1053 : Cond.fieldLink RJ0 1053 "jdk/internal/util/Preconditions" "SIOOBE_FORMATTER" "Ljava/util/function/BiFunction;" ∈ TB := tb_of 348 (by decide +kernel) rfl
theorem dJ0_length_8abf5_0 : decode cJ0_length_8abf5 0 = .ok (.aload_n 0, 1) := by decide +kernel
theorem dJ0_length_8abf5_1 : decode cJ0_length_8abf5 1 = .ok (.getfield 9, 3) := by decide +kernel
theorem dJ0_length_8abf5_4 : decode cJ0_length_8abf5 4 = .ok (.arraylength, 1) := by decide +kernel
theorem dJ0_length_8abf5_5 : decode cJ0_length_8abf5 5 = .ok (.aload_n 0, 1) := by decide +kernel
theorem dJ0_length_8abf5_6 : decode cJ0_length_8abf5 6 = .ok (.invokevirtual 335, 3) := by decide +kernel
theorem dJ0_length_8abf5_9 : decode cJ0_length_8abf5 9 = .ok (.ishr, 1) := by decide +kernel
theorem dJ0_length_8abf5_10 : decode cJ0_length_8abf5 10 = .ok (.ireturn, 1) := by decide +kernel
theorem dJ0_charAt_5068e_0 : decode cJ0_charAt_5068e 0 = .ok (.aload_n 0, 1) := by decide +kernel
theorem dJ0_charAt_5068e_1 : decode cJ0_charAt_5068e 1 = .ok (.invokevirtual 492, 3) := by decide +kernel
theorem dJ0_charAt_5068e_4 : decode cJ0_charAt_5068e 4 = .ok (.ifCond .eq 12, 3) := by decide +kernel
theorem dJ0_charAt_5068e_7 : decode cJ0_charAt_5068e 7 = .ok (.aload_n 0, 1) := by decide +kernel
theorem dJ0_charAt_5068e_8 : decode cJ0_charAt_5068e 8 = .ok (.getfield 9, 3) := by decide +kernel
theorem dJ0_charAt_5068e_11 : decode cJ0_charAt_5068e 11 = .ok (.iload_n 1, 1) := by decide +kernel
theorem dJ0_charAt_5068e_12 : decode cJ0_charAt_5068e 12 = .ok (.invokestatic 495, 3) := by decide +kernel
theorem dJ0_charAt_5068e_15 : decode cJ0_charAt_5068e 15 = .ok (.ireturn, 1) := by decide +kernel
theorem dJ0_charAt_5068e_16 : decode cJ0_charAt_5068e 16 = .ok (.aload_n 0, 1) := by decide +kernel
theorem dJ0_charAt_5068e_17 : decode cJ0_charAt_5068e 17 = .ok (.getfield 9, 3) := by decide +kernel
theorem dJ0_charAt_5068e_20 : decode cJ0_charAt_5068e 20 = .ok (.iload_n 1, 1) := by decide +kernel
theorem dJ0_charAt_5068e_21 : decode cJ0_charAt_5068e 21 = .ok (.invokestatic 498, 3) := by decide +kernel
theorem dJ0_charAt_5068e_24 : decode cJ0_charAt_5068e 24 = .ok (.ireturn, 1) := by decide +kernel
theorem dJ0_coder_7d493_0 : decode cJ0_coder_7d493 0 = .ok (.getstatic 38, 3) := by decide +kernel
theorem dJ0_coder_7d493_3 : decode cJ0_coder_7d493 3 = .ok (.ifCond .eq 10, 3) := by decide +kernel
theorem dJ0_coder_7d493_6 : decode cJ0_coder_7d493 6 = .ok (.aload_n 0, 1) := by decide +kernel
theorem dJ0_coder_7d493_7 : decode cJ0_coder_7d493 7 = .ok (.getfield 15, 3) := by decide +kernel
theorem dJ0_coder_7d493_10 : decode cJ0_coder_7d493 10 = .ok (.goto 4, 3) := by decide +kernel
theorem dJ0_coder_7d493_13 : decode cJ0_coder_7d493 13 = .ok (.iconst 1, 1) := by decide +kernel
theorem dJ0_coder_7d493_14 : decode cJ0_coder_7d493 14 = .ok (.ireturn, 1) := by decide +kernel
theorem dJ0_isLatin1_aae02_0 : decode cJ0_isLatin1_aae02 0 = .ok (.getstatic 38, 3) := by decide +kernel
theorem dJ0_isLatin1_aae02_3 : decode cJ0_isLatin1_aae02 3 = .ok (.ifCond .eq 14, 3) := by decide +kernel
theorem dJ0_isLatin1_aae02_6 : decode cJ0_isLatin1_aae02 6 = .ok (.aload_n 0, 1) := by decide +kernel
theorem dJ0_isLatin1_aae02_7 : decode cJ0_isLatin1_aae02 7 = .ok (.getfield 15, 3) := by decide +kernel
theorem dJ0_isLatin1_aae02_10 : decode cJ0_isLatin1_aae02 10 = .ok (.ifCond .ne 7, 3) := by decide +kernel
theorem dJ0_isLatin1_aae02_13 : decode cJ0_isLatin1_aae02 13 = .ok (.iconst 1, 1) := by decide +kernel
theorem dJ0_isLatin1_aae02_14 : decode cJ0_isLatin1_aae02 14 = .ok (.goto 4, 3) := by decide +kernel
theorem dJ0_isLatin1_aae02_17 : decode cJ0_isLatin1_aae02 17 = .ok (.iconst 0, 1) := by decide +kernel
theorem dJ0_isLatin1_aae02_18 : decode cJ0_isLatin1_aae02 18 = .ok (.ireturn, 1) := by decide +kernel
theorem dJ0_checkIndex_df160_0 : decode cJ0_checkIndex_df160 0 = .ok (.iload_n 0, 1) := by decide +kernel
theorem dJ0_checkIndex_df160_1 : decode cJ0_checkIndex_df160 1 = .ok (.iload_n 1, 1) := by decide +kernel
theorem dJ0_checkIndex_df160_2 : decode cJ0_checkIndex_df160 2 = .ok (.getstatic 1053, 3) := by decide +kernel
theorem dJ0_checkIndex_df160_5 : decode cJ0_checkIndex_df160 5 = .ok (.invokestatic 1059, 3) := by decide +kernel
theorem dJ0_checkIndex_df160_8 : decode cJ0_checkIndex_df160 8 = .ok (.pop, 1) := by decide +kernel
theorem dJ0_checkIndex_df160_9 : decode cJ0_checkIndex_df160 9 = .ok (.return_, 1) := by decide +kernel
theorem dJ1_charAt_3b067_0 : decode cJ1_charAt_3b067 0 = .ok (.iload_n 1, 1) := by decide +kernel
theorem dJ1_charAt_3b067_1 : decode cJ1_charAt_3b067 1 = .ok (.aload_n 0, 1) := by decide +kernel
theorem dJ1_charAt_3b067_2 : decode cJ1_charAt_3b067 2 = .ok (.arraylength, 1) := by decide +kernel
theorem dJ1_charAt_3b067_3 : decode cJ1_charAt_3b067 3 = .ok (.invokestatic 9, 3) := by decide +kernel
theorem dJ1_charAt_3b067_6 : decode cJ1_charAt_3b067 6 = .ok (.aload_n 0, 1) := by decide +kernel
theorem dJ1_charAt_3b067_7 : decode cJ1_charAt_3b067 7 = .ok (.iload_n 1, 1) := by decide +kernel
theorem dJ1_charAt_3b067_8 : decode cJ1_charAt_3b067 8 = .ok (.baload, 1) := by decide +kernel
theorem dJ1_charAt_3b067_9 : decode cJ1_charAt_3b067 9 = .ok (.sipush 255, 3) := by decide +kernel
theorem dJ1_charAt_3b067_12 : decode cJ1_charAt_3b067 12 = .ok (.iand, 1) := by decide +kernel
theorem dJ1_charAt_3b067_13 : decode cJ1_charAt_3b067 13 = .ok (.i2c, 1) := by decide +kernel
theorem dJ1_charAt_3b067_14 : decode cJ1_charAt_3b067 14 = .ok (.ireturn, 1) := by decide +kernel
theorem dJ3_checkIndex_8e157_0 : decode cJ3_checkIndex_8e157 0 = .ok (.iload_n 0, 1) := by decide +kernel
theorem dJ3_checkIndex_8e157_1 : decode cJ3_checkIndex_8e157 1 = .ok (.ifCond .lt 8, 3) := by decide +kernel
theorem dJ3_checkIndex_8e157_4 : decode cJ3_checkIndex_8e157 4 = .ok (.iload_n 0, 1) := by decide +kernel
theorem dJ3_checkIndex_8e157_5 : decode cJ3_checkIndex_8e157 5 = .ok (.iload_n 1, 1) := by decide +kernel
theorem dJ3_checkIndex_8e157_6 : decode cJ3_checkIndex_8e157 6 = .ok (.if_icmp .lt 10, 3) := by decide +kernel
theorem dJ3_checkIndex_8e157_9 : decode cJ3_checkIndex_8e157 9 = .ok (.aload_n 2, 1) := by decide +kernel
theorem dJ3_checkIndex_8e157_10 : decode cJ3_checkIndex_8e157 10 = .ok (.iload_n 0, 1) := by decide +kernel
theorem dJ3_checkIndex_8e157_11 : decode cJ3_checkIndex_8e157 11 = .ok (.iload_n 1, 1) := by decide +kernel
theorem dJ3_checkIndex_8e157_12 : decode cJ3_checkIndex_8e157 12 = .ok (.invokestatic 95, 3) := by decide +kernel
theorem dJ3_checkIndex_8e157_15 : decode cJ3_checkIndex_8e157 15 = .ok (.athrow, 1) := by decide +kernel
theorem dJ3_checkIndex_8e157_16 : decode cJ3_checkIndex_8e157 16 = .ok (.iload_n 0, 1) := by decide +kernel
theorem dJ3_checkIndex_8e157_17 : decode cJ3_checkIndex_8e157 17 = .ok (.ireturn, 1) := by decide +kernel
def Sx (E : Ex) (aK aV : Nat) (U : State) : Prop :=
  va_O "java/lang/String" aK (fun q => E.2.2.2.2 ≤ q) U U.heap ∧ va_OF "java/lang/String" "coder" "B" (.int 0) aK (fun q => E.2.2.2.2 ≤ q) U U.heap ∧ va_OF "java/lang/String" "value" "[B" (.ref aV) aK (fun q => E.2.2.2.2 ≤ q) U U.heap ∧ va_T .byte aV 90 (fun j => .int (txB j)) (fun q => E.2.2.2.2 ≤ q) U U.heap ∧ va_Z "java/lang/String" "COMPACT_STRINGS" "Z" (.int 1) (fun q => E.2.2.2.2 ≤ q) U U.heap ∧ va_Zq "jdk/internal/util/Preconditions" "SIOOBE_FORMATTER" "Ljava/util/function/BiFunction;" (fun q => E.2.2.2.2 ≤ q) U U.heap ∧ vk_R "EveningCrossword" 70 TXT aK U
theorem Sx.go {E : Ex} {aK aV : Nat} {s U : State} (hvm : s.vm.Alike U.vm) (hR : vk_R "EveningCrossword" 70 TXT aK s → vk_R "EveningCrossword" 70 TXT aK U) (hq : ∀ a : Nat, a < s.heap.size → ¬ E.2.2.2.2 ≤ a → U.heap[a]? = s.heap[a]?) (h : Sx E aK aV s) : Sx E aK aV U := by
  obtain ⟨h1, h2, h3, h4, h5, h6, h7⟩ := h
  refine ⟨(h1.moved hvm).kept hq, (h2.moved hvm).kept hq, (h3.moved hvm).kept hq, (h4.moved hvm).kept hq, (h5.moved hvm).kept hq, ?_, hR h7⟩
  rcases h6 with z | ⟨t, z⟩
  · exact Or.inl ((z.moved hvm).kept hq)
  · exact Or.inr ⟨t, (z.moved hvm).kept hq⟩
def PxS (E : Ex) (aK aV : Nat) (as : List Value) (ad : Nat → Nat) (lay : List Ent) (mem : Mem) : Array Value → State → Prop := fun v U => Px E as ad lay mem v U ∧ Sx E aK aV U
theorem PxS.blind {E : Ex} {aK aV : Nat} {as : List Value} {ad : Nat → Nat} {lay : List Ent} {mem : Mem} : FrameBlind (PxS E aK aV as ad lay mem) := fun a U g mk q =>
  ⟨Px.blind a U g mk q.1, Sx.go (s := U) (U := U.calling g mk a) (Vm.Alike.refl U.vm) (fun z => vk_R.same (u := U) (U := U.calling g mk a) rfl z) (fun _ _ _ => rfl) q.2⟩
/-- a contract of a method that reads the first text; nothing changes -/
def ClS (E : Ex) (aK aV : Nat) (y : MethodName) (cc : ByteArray) (maxL : Nat) (ret : Option FieldType) (d : Nat) (as : List Value) (rv : Option Value) (ad : Nat → Nat) (lay : List Ent) (mem : Mem) : Prop :=
  Met E.1 y (Cond.code y cc maxL ret :: TB) { frames := d, cells := 0, slots := 0, locals := 40 * d } (PxS E aK aV as ad lay mem) (Qx E rv ad lay mem) 0 0 (fun q => E.2.2.2.2 ≤ q)
def SxK (E : Ex) (aK aV : Nat) (κ : Kx) : Prop := match κ with
  | (_, _, _, s, _, _, _, _, _, _) => Sx E aK aV s
theorem ClS.of {E : Ex} {aK aV : Nat} {y : MethodName} {cc : ByteArray} {nL d : Nat} {ret : Option FieldType} {as : List Value} {rv : Option Value} {ad : Nat → Nat} {lay : List Ent} {mem : Mem} (lv : List (Option Value)) (hy : plainName y.cls = true) (hl : lvA lv = lv_args 0 as) (hn : (lg_sl as).length ≤ nL)
    (body : ∀ κ : Kx, Cx E κ cc y.cls nL ret d → SxK E aK aV κ → Qr E κ rv ad lay mem → Gw E κ nL 0 0 0 lv [] ad lay mem) : ClS E aK aV y cc nL ret d as rv ad lay mem := by
  refine Met.ofW (cc := cc) (maxL := nL) (ret := ret) hy rfl ?_
  intro p e s m args below meth c s₁ B hml hv
  obtain ⟨⟨rfl, hR, hK, hN, hB⟩, hSx⟩ := hv
  have hts := atoms_spec (ws := Cond.code y cc nL ret :: TB) B.pre
  have h := body (p, e, (headSpec (Cond.code y cc nL ret :: TB) { frames := d, cells := 0, slots := 0, locals := 40 * d }).room, s, m, as.toArray, below, meth, c, MQ below (Qx E rv ad lay mem) as.toArray s 0 0 (fun q => E.2.2.2.2 ≤ q))
    ⟨B.exec, B.bytes, hml, findClass_of_methodNamed B.named, fun w hw => hts w (List.mem_cons_of_mem _ hw), hK, hN, hB, B.returns, B.notSynchronized, Nat.le_refl _, Nat.le_refl _⟩ hSx rfl
  rw [lg_entry_eq]
  exact h s.heap [] _ hR va_S.rf (Lv.of (by rw [hl]; exact lv_entry as hn))
section STR
variable {E : Ex} {κ : Kx} {aK aV : Nat} {cc : ByteArray} {own : String} {nL ce sl pc d : Nat} {ret : Option FieldType} {lv : List (Option Value)} {st rest : List Value} {ad : Nat → Nat} {lay : List Ent} {mem : Mem}
theorem g_callVS (C : Cx E κ cc own nL ret d) (hce : Ce κ ce sl) (hX : SxK E aK aV κ) {y : MethodName} {bytes : ByteArray} {maxL n dc index : Nat} {ret' : Option FieldType} {rv : Option Value} (hM : Mi y bytes maxL ret' n) (hyc : y.cls = "java/lang/String") (hi : Cond.instanceMethod y ∈ TB ∧ Cond.selects y.cls y y ∈ TB) (hw : Cond.methodLink own index y ∈ TB) (hd : decode cc pc = .ok (.invokevirtual index, 3)) (As rest : List Value) (hdc : dc + 1 ≤ d) (hn : As.length = n) (hst : st = As.reverse ++ .ref aK :: rest) (hs8 : (rest.map fun v => v.category).sum ≤ 8)
    (hC : ClS E aK aV y bytes maxL ret' dc (.ref aK :: As) rv ad lay mem) (K : Gw E κ nL ce sl (pc + 3) lv (rv.toList ++ rest) ad lay mem) : Gw E κ nL ce sl pc lv st ad lay mem := by
  obtain ⟨p, e, R, s, m, args, below, meth, c, Q⟩ := κ
  obtain ⟨hx, hb, hml, ho, ht, hK, hN, hB, hrt, hlk, hf, hlo⟩ := C
  obtain ⟨m1, m2, m3, m4⟩ := hM
  intro H locs ls hR hS hL
  have hX : Sx E aK aV s := hX
  obtain ⟨cell, h1, h2, h3, -⟩ := hX.1.kept hS.2.1
  exact w_call (a := (Value.ref aK :: As).toArray) rfl (va_runV (C := y.cls) (As := As) (rest := rest) ⟨hx, hb, hml, ho, ht⟩ hC ⟨callB_of n ht (goodTB m1) rfl rfl rfl (ht _ m2) (ht _ hw) m3 ⟨by show dc + 1 ≤ R.frames; omega, by show 8 + (maxL + 11) + 40 * dc ≤ R.locals; omega⟩, ht _ hi.1, ht _ hi.2⟩ ⟨PxS.blind, ⟨cell, h1, h2, by rw [hyc]; exact h3⟩, fun U hU hW => ⟨⟨rfl, by rw [hU]; exact hR, va_K.moved hW.alike hK, Nst.warm hW hN, by rw [hU]; exact Nat.le_trans hB hS.1⟩, Sx.go hW.alike (fun z => vk_R.warm hW z) (fun a h9 h8 => by rw [hU]; exact hS.2.1 a h9 h8) hX⟩⟩ rfl hn hL.1 hst (lv_room hs8) hd ⟨hce.1, hce.2⟩) hS (fun H1 locs1 h1 h2 => K H1 locs1 ls h1 h2 hL)
theorem g_callSS (C : Cx E κ cc own nL ret d) (hce : Ce κ ce sl) (hX : SxK E aK aV κ) {y : MethodName} {bytes : ByteArray} {maxL n dc index : Nat} {ret' : Option FieldType} {rv : Option Value} (hM : Mi y bytes maxL ret' n) (hi : Cond.static y ∈ TB) (hw : Cond.methodLink own index y ∈ TB) (hd : decode cc pc = .ok (.invokestatic index, 3)) (As rest : List Value) (hdc : dc + 1 ≤ d) (hn : As.length = n) (hst : st = As.reverse ++ rest) (hs8 : (rest.map fun v => v.category).sum ≤ 8)
    (hC : ClS E aK aV y bytes maxL ret' dc As rv ad lay mem) (K : Gw E κ nL ce sl (pc + 3) lv (rv.toList ++ rest) ad lay mem) : Gw E κ nL ce sl pc lv st ad lay mem := by
  obtain ⟨p, e, R, s, m, args, below, meth, c, Q⟩ := κ
  obtain ⟨hx, hb, hml, ho, ht, hK, hN, hB, hrt, hlk, hf, hlo⟩ := C
  obtain ⟨m1, m2, m3, m4⟩ := hM
  intro H locs ls hR hS hL
  have hX : Sx E aK aV s := hX
  exact w_call (a := As.toArray) rfl (va_runS (As := As) (rest := rest) ⟨hx, hb, hml, ho, ht⟩ hC ⟨callB_of n ht (goodTB m1) rfl rfl rfl (ht _ m2) (ht _ hw) m3 ⟨by show dc + 1 ≤ R.frames; omega, by show 8 + (maxL + 11) + 40 * dc ≤ R.locals; omega⟩, ht _ hi⟩ ⟨PxS.blind, fun U hU hW => ⟨⟨rfl, by rw [hU]; exact hR, va_K.moved hW.alike hK, Nst.warm hW hN, by rw [hU]; exact Nat.le_trans hB hS.1⟩, Sx.go hW.alike (fun z => vk_R.warm hW z) (fun a h9 h8 => by rw [hU]; exact hS.2.1 a h9 h8) hX⟩⟩ rfl hn hL.1 hst (lv_room hs8) hd ⟨hce.1, hce.2⟩) hS (fun H1 locs1 h1 h2 => K H1 locs1 ls h1 h2 hL)
theorem g_strV (C : Cx E κ cc RJ0 nL ret d) (hX : SxK E aK aV κ) (hd : decode cc pc = .ok (.getfield 9, 3)) (K : Gw E κ nL ce sl (pc + 3) lv (.ref aV :: st) ad lay mem) : Gw E κ nL ce sl pc lv (.ref aK :: st) ad lay mem := by
  obtain ⟨p, e, R, s, m, args, below, meth, c, Q⟩ := κ
  obtain ⟨hx, hb, -, ho, ht, -⟩ := C
  intro H locs ls hR hS hL
  have hX : Sx E aK aV s := hX
  exact vk_getf hx hb hX.2.2.1 hS ho (ht _ wf_J0_9) (fun _ z => z) hd (K H locs ls hR hS hL)
theorem g_strC (C : Cx E κ cc RJ0 nL ret d) (hX : SxK E aK aV κ) (hd : decode cc pc = .ok (.getfield 15, 3)) (K : Gw E κ nL ce sl (pc + 3) lv (.int 0 :: st) ad lay mem) : Gw E κ nL ce sl pc lv (.ref aK :: st) ad lay mem := by
  obtain ⟨p, e, R, s, m, args, below, meth, c, Q⟩ := κ
  obtain ⟨hx, hb, -, ho, ht, -⟩ := C
  intro H locs ls hR hS hL
  have hX : Sx E aK aV s := hX
  exact vk_getf hx hb hX.2.1 hS ho (ht _ wf_J0_15) (fun _ z => z) hd (K H locs ls hR hS hL)
theorem g_strK (C : Cx E κ cc RJ0 nL ret d) (hX : SxK E aK aV κ) (hd : decode cc pc = .ok (.getstatic 38, 3)) (K : Gw E κ nL ce sl (pc + 3) lv (.int 1 :: st) ad lay mem) : Gw E κ nL ce sl pc lv st ad lay mem := by
  obtain ⟨p, e, R, s, m, args, below, meth, c, Q⟩ := κ
  obtain ⟨hx, hb, -, ho, ht, -⟩ := C
  intro H locs ls hR hS hL
  have hX : Sx E aK aV s := hX
  exact va_gets hx hb hX.2.2.2.2.1 hS ho (ht _ wf_J0_38) (fun _ z => z) hd (K H locs ls hR hS hL)
theorem g_strF (C : Cx E κ cc RJ0 nL ret d) (hX : SxK E aK aV κ) (hd : decode cc pc = .ok (.getstatic 1053, 3)) (K : ∀ o : Option Nat, Gw E κ nL ce sl (pc + 3) lv (va_rf o :: st) ad lay mem) : Gw E κ nL ce sl pc lv st ad lay mem := by
  obtain ⟨p, e, R, s, m, args, below, meth, c, Q⟩ := κ
  obtain ⟨hx, hb, -, ho, ht, -⟩ := C
  intro H locs ls hR hS hL
  have hX : Sx E aK aV s := hX
  rcases hX.2.2.2.2.2.1 with z | ⟨t, z⟩
  · exact va_gets hx hb z hS ho (ht _ wf_J0_1053) (fun _ z => z) hd (K none H locs ls hR hS hL)
  · exact va_gets hx hb z hS ho (ht _ wf_J0_1053) (fun _ z => z) hd (K (some t) H locs ls hR hS hL)
theorem g_strB (C : Cx E κ cc own nL ret d) (hX : SxK E aK aV κ) {i : Int32} (hin : vp_in i 90) (hd : decode cc pc = .ok (.baload, 1)) (K : Gw E κ nL ce sl (pc + 1) lv (.int (txB i.toNatClampNeg) :: st) ad lay mem) : Gw E κ nL ce sl pc lv (.int i :: .ref aV :: st) ad lay mem := by
  obtain ⟨p, e, R, s, m, args, below, meth, c, Q⟩ := κ
  obtain ⟨hx, hb, -⟩ := C
  intro H locs ls hR hS hL
  have hX : Sx E aK aV s := hX
  exact va_tb hx hb hX.2.2.2.1 hS hin rfl hd (K H locs ls hR hS hL)
theorem g_strN (C : Cx E κ cc own nL ret d) (hX : SxK E aK aV κ) (hd : decode cc pc = .ok (.arraylength, 1)) (K : Gw E κ nL ce sl (pc + 1) lv (.int (nI 90) :: st) ad lay mem) : Gw E κ nL ce sl pc lv (.ref aV :: st) ad lay mem := by
  obtain ⟨p, e, R, s, m, args, below, meth, c, Q⟩ := κ
  obtain ⟨hx, hb, -⟩ := C
  intro H locs ls hR hS hL
  have hX : Sx E aK aV s := hX
  exact va_tlen hx hb hX.2.2.2.1 hS rfl hd (K H locs ls hR hS hL)
theorem g_ldcS (C : Cx E κ cc "EveningCrossword" nL ret d) (hX : SxK E aK aV κ) (hd : decode cc pc = .ok (.ldc 70, 2)) (K : Gw E κ nL ce sl (pc + 2) lv (.ref aK :: st) ad lay mem) : Gw E κ nL ce sl pc lv st ad lay mem := by
  obtain ⟨p, e, R, s, m, args, below, meth, c, Q⟩ := κ
  obtain ⟨hx, hb, -, ho, -⟩ := C
  intro H locs ls hR hS hL
  have hX : Sx E aK aV s := hX
  exact va_ldcS hx hb ho hX.2.2.2.2.2.2 hd (K H locs ls hR hS hL)
end STR
section STRM
variable {E : Ex} {aK aV d : Nat} {ad : Nat → Nat} {lay : List Ent} {mem : Mem}
theorem m_coder : ClS E aK aV yJ0_coder_7d493 cJ0_coder_7d493 1 (some .byte) d [.ref aK] (some (.int 0)) ad lay mem := by
  refine ClS.of [some (.ref aK)] (by decide +kernel) rfl (Nat.le_of_ble_eq_true rfl) (fun κ C hX hP => ?_)
  have C : Cx E κ cJ0_coder_7d493 RJ0 1 (some .byte) d := C
  refine g_strK (pc := 0) C hX dJ0_coder_7d493_0 ?_
  refine g_if_eq_f (pc := 3) C 13 dJ0_coder_7d493_3 (by decide) (by decide) ?_
  refine g_aload_n (pc := 6) (i := 0) (x := aK) C dJ0_coder_7d493_6 rfl rfl ?_
  refine g_strC (pc := 7) C hX dJ0_coder_7d493_7 ?_
  refine g_goto (pc := 10) C 14 dJ0_coder_7d493_10 (by decide) ?_
  exact g_iret (pc := 14) C hP rfl rfl dJ0_coder_7d493_14
theorem m_isLatin1 : ClS E aK aV yJ0_isLatin1_aae02 cJ0_isLatin1_aae02 1 (some .boolean) d [.ref aK] (some (.int 1)) ad lay mem := by
  refine ClS.of [some (.ref aK)] (by decide +kernel) rfl (Nat.le_of_ble_eq_true rfl) (fun κ C hX hP => ?_)
  have C : Cx E κ cJ0_isLatin1_aae02 RJ0 1 (some .boolean) d := C
  refine g_strK (pc := 0) C hX dJ0_isLatin1_aae02_0 ?_
  refine g_if_eq_f (pc := 3) C 17 dJ0_isLatin1_aae02_3 (by decide) (by decide) ?_
  refine g_aload_n (pc := 6) (i := 0) (x := aK) C dJ0_isLatin1_aae02_6 rfl rfl ?_
  refine g_strC (pc := 7) C hX dJ0_isLatin1_aae02_7 ?_
  refine g_if_ne_f (pc := 10) C 17 dJ0_isLatin1_aae02_10 (by decide) rfl ?_
  refine g_iconst (pc := 13) (v := 1) C dJ0_isLatin1_aae02_13 rfl ?_
  refine g_goto (pc := 14) C 18 dJ0_isLatin1_aae02_14 (by decide) ?_
  exact g_iret (pc := 18) C hP rfl rfl dJ0_isLatin1_aae02_18
theorem m_strlen (hd : 1 ≤ d) : ClS E aK aV yJ0_length_8abf5 cJ0_length_8abf5 1 (some .int) d [.ref aK] (some (.int 90)) ad lay mem := by
  refine ClS.of [some (.ref aK)] (by decide +kernel) rfl (Nat.le_of_ble_eq_true rfl) (fun κ C hX hP => ?_)
  have C : Cx E κ cJ0_length_8abf5 RJ0 1 (some .int) d := C
  refine g_aload_n (pc := 0) (i := 0) (x := aK) C dJ0_length_8abf5_0 rfl rfl ?_
  refine g_strV (pc := 1) C hX dJ0_length_8abf5_1 ?_
  refine g_strN (pc := 4) C hX dJ0_length_8abf5_4 ?_
  refine g_aload_n (pc := 5) (i := 0) (x := aK) C dJ0_length_8abf5_5 rfl rfl ?_
  refine g_callVS (pc := 6) C ce0 hX mi_J0_coder_7d493 rfl mv_J0_coder_7d493 wm_J0_335 dJ0_length_8abf5_6 [] [.int (nI 90)] (dc := d - 1) (by omega) rfl rfl (Nat.le_of_ble_eq_true rfl) m_coder ?_
  show Gw E κ 1 0 0 9 [some (.ref aK)] [.int 0, .int (nI 90)] ad lay mem
  refine g_ishr (pc := 9) C dJ0_length_8abf5_9 ?_
  refine g_topi (v := 90) (by decide +kernel) ?_
  exact g_iret (pc := 10) C hP rfl rfl dJ0_length_8abf5_10
theorem m_ck3 {i n : Int32} {o : Option Nat} (h0 : ¬ i < 0) (h1 : i < n) : ClS E aK aV yJ3_checkIndex_8e157 cJ3_checkIndex_8e157 3 (some .int) d [.int i, .int n, va_rf o] (some (.int i)) ad lay mem := by
  have hl : lvA [some (.int i), some (.int n), some (va_rf o)] = lv_args 0 [.int i, .int n, va_rf o] := by cases o <;> rfl
  have hn : (lg_sl [.int i, .int n, va_rf o]).length ≤ 3 := by cases o <;> exact Nat.le_of_ble_eq_true rfl
  refine ClS.of [some (.int i), some (.int n), some (va_rf o)] (by decide +kernel) hl hn (fun κ C hX hP => ?_)
  have C : Cx E κ cJ3_checkIndex_8e157 RJ3 3 (some .int) d := C
  refine g_iload_n (pc := 0) (i := 0) (x := i) C dJ3_checkIndex_8e157_0 rfl rfl ?_
  refine g_if_lt_f (pc := 1) C 9 dJ3_checkIndex_8e157_1 (by decide) h0 ?_
  refine g_iload_n (pc := 4) (i := 0) (x := i) C dJ3_checkIndex_8e157_4 rfl rfl ?_
  refine g_iload_n (pc := 5) (i := 1) (x := n) C dJ3_checkIndex_8e157_5 rfl rfl ?_
  refine g_icmp_lt_t (pc := 6) C 16 dJ3_checkIndex_8e157_6 (by decide) h1 ?_
  refine g_iload_n (pc := 16) (i := 0) (x := i) C dJ3_checkIndex_8e157_16 rfl rfl ?_
  exact g_iret (pc := 17) C hP rfl rfl dJ3_checkIndex_8e157_17
theorem m_ck0 (hd : 1 ≤ d) {i n : Int32} (h0 : ¬ i < 0) (h1 : i < n) : ClS E aK aV yJ0_checkIndex_df160 cJ0_checkIndex_df160 2 none d [.int i, .int n] none ad lay mem := by
  refine ClS.of [some (.int i), some (.int n)] (by decide +kernel) rfl (Nat.le_of_ble_eq_true rfl) (fun κ C hX hP => ?_)
  have C : Cx E κ cJ0_checkIndex_df160 RJ0 2 none d := C
  refine g_iload_n (pc := 0) (i := 0) (x := i) C dJ0_checkIndex_df160_0 rfl rfl ?_
  refine g_iload_n (pc := 1) (i := 1) (x := n) C dJ0_checkIndex_df160_1 rfl rfl ?_
  refine g_strF (pc := 2) C hX dJ0_checkIndex_df160_2 (fun o => ?_)
  refine g_callSS (pc := 5) C ce0 hX mi_J3_checkIndex_8e157 ms_J3_checkIndex_8e157 wm_J0_1059 dJ0_checkIndex_df160_5 [.int i, .int n, va_rf o] [] (dc := d - 1) (by omega) rfl rfl (Nat.le_of_ble_eq_true rfl) (m_ck3 h0 h1) ?_
  show Gw E κ 2 0 0 8 [some (.int i), some (.int n)] [.int i] ad lay mem
  refine g_pop (pc := 8) C dJ0_checkIndex_df160_8 rfl ?_
  exact g_vret (pc := 9) C hP rfl dJ0_checkIndex_df160_9
theorem m_latAt (hd : 2 ≤ d) {i : Int32} (hin : vp_in i 90) : ClS E aK aV yJ1_charAt_3b067 cJ1_charAt_3b067 2 (some .char) d [.ref aV, .int i] (some (.int (chr i.toNatClampNeg))) ad lay mem := by
  refine ClS.of [some (.ref aV), some (.int i)] (by decide +kernel) rfl (Nat.le_of_ble_eq_true rfl) (fun κ C hX hP => ?_)
  have C : Cx E κ cJ1_charAt_3b067 RJ1 2 (some .char) d := C
  have h0 : ¬ i < 0 := fun z => hin (Or.inl z)
  have h1 : i < nI 90 := by
    have h9 := vp_in_iff.mp hin
    rw [Int32.lt_iff_toInt_lt, nI_toInt (by decide)]
    exact h9.2
  refine g_iload_n (pc := 0) (i := 1) (x := i) C dJ1_charAt_3b067_0 rfl rfl ?_
  refine g_aload_n (pc := 1) (i := 0) (x := aV) C dJ1_charAt_3b067_1 rfl rfl ?_
  refine g_strN (pc := 2) C hX dJ1_charAt_3b067_2 ?_
  refine g_callSS (pc := 3) C ce0 hX mi_J0_checkIndex_df160 ms_J0_checkIndex_df160 wm_J1_9 dJ1_charAt_3b067_3 [.int i, .int (nI 90)] [] (dc := d - 1) (by omega) rfl rfl (Nat.le_of_ble_eq_true rfl) (m_ck0 (by omega) h0 h1) ?_
  show Gw E κ 2 0 0 6 [some (.ref aV), some (.int i)] [] ad lay mem
  refine g_aload_n (pc := 6) (i := 0) (x := aV) C dJ1_charAt_3b067_6 rfl rfl ?_
  refine g_iload_n (pc := 7) (i := 1) (x := i) C dJ1_charAt_3b067_7 rfl rfl ?_
  refine g_strB (pc := 8) C hX hin dJ1_charAt_3b067_8 ?_
  refine g_sipush (pc := 9) (v := 255) C dJ1_charAt_3b067_9 rfl ?_
  refine g_iand (pc := 12) C dJ1_charAt_3b067_12 ?_
  refine g_i2c (pc := 13) C dJ1_charAt_3b067_13 ?_
  exact g_iret (pc := 14) C hP rfl (pk_nc _) dJ1_charAt_3b067_14
theorem m_charAt (hd : 3 ≤ d) {i : Int32} (hin : vp_in i 90) : ClS E aK aV yJ0_charAt_5068e cJ0_charAt_5068e 2 (some .char) d [.ref aK, .int i] (some (.int (chr i.toNatClampNeg))) ad lay mem := by
  refine ClS.of [some (.ref aK), some (.int i)] (by decide +kernel) rfl (Nat.le_of_ble_eq_true rfl) (fun κ C hX hP => ?_)
  have C : Cx E κ cJ0_charAt_5068e RJ0 2 (some .char) d := C
  refine g_aload_n (pc := 0) (i := 0) (x := aK) C dJ0_charAt_5068e_0 rfl rfl ?_
  refine g_callVS (pc := 1) C ce0 hX mi_J0_isLatin1_aae02 rfl mv_J0_isLatin1_aae02 wm_J0_492 dJ0_charAt_5068e_1 [] [] (dc := d - 1) (by omega) rfl rfl (Nat.le_of_ble_eq_true rfl) m_isLatin1 ?_
  show Gw E κ 2 0 0 4 [some (.ref aK), some (.int i)] [.int 1] ad lay mem
  refine g_if_eq_f (pc := 4) C 16 dJ0_charAt_5068e_4 (by decide) (by decide) ?_
  refine g_aload_n (pc := 7) (i := 0) (x := aK) C dJ0_charAt_5068e_7 rfl rfl ?_
  refine g_strV (pc := 8) C hX dJ0_charAt_5068e_8 ?_
  refine g_iload_n (pc := 11) (i := 1) (x := i) C dJ0_charAt_5068e_11 rfl rfl ?_
  refine g_callSS (pc := 12) C ce0 hX mi_J1_charAt_3b067 ms_J1_charAt_3b067 wm_J0_495 dJ0_charAt_5068e_12 [.ref aV, .int i] [] (dc := d - 1) (by omega) rfl rfl (Nat.le_of_ble_eq_true rfl) (m_latAt (by omega) hin) ?_
  show Gw E κ 2 0 0 15 [some (.ref aK), some (.int i)] [.int (chr i.toNatClampNeg)] ad lay mem
  exact g_iret (pc := 15) C hP rfl (pk_nc _) dJ0_charAt_5068e_15
end STRM
