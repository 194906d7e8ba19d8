/-! contracts and calls -/
def Px (E : Ex) (as : List Value) (ad : Nat → Nat) (lay : List Ent) (mem : Mem) : Array Value → State → Prop := va_Pc as (fun U => Rel E ad lay mem U.heap ∧ va_K E.2.1 vwCl (tysE E.2.2.1 E.2.2.2.1) U ∧ Nst U ∧ E.2.2.2.2 ≤ U.heap.size)
def Qx (E : Ex) (rv : Option Value) (ad : Nat → Nat) (lay : List Ent) (mem : Mem) : Array Value → State → Outcome → State → Prop := fun _ st oc t => (oc = .returned rv ∧ Rel E ad lay mem t.heap) ∧ va_F (fun q => E.2.2.2.2 ≤ q) st t
/-- the contract: method y, called with these values over this picture, answers rv over that picture; d levels of calls -/
def Cl (E : Ex) (y : MethodName) (cc : ByteArray) (maxL : Nat) (ret : Option FieldType) (d : Nat) (as : List Value) (rv : Option Value) (ad : Nat → Nat) (lay : List Ent) (mem : Mem) (lay' : List Ent) (mem' : Mem) : Prop :=
  Met E.1 y (Cond.code y cc maxL ret :: TB) { frames := d, cells := 0, slots := 0, locals := 40 * d } (Px E as ad lay mem) (Qx E rv ad lay' mem') 0 0 (fun q => E.2.2.2.2 ≤ q)
def Qr (E : Ex) (κ : Kx) (rv : Option Value) (ad : Nat → Nat) (lay : List Ent) (mem : Mem) : Prop := match κ with
  | (_, _, _, s, _, args, below, _, _, Q) => Q = MQ below (Qx E rv ad lay mem) args s 0 0 (fun q => E.2.2.2.2 ≤ q)
theorem Px.blind {E : Ex} {as : List Value} {ad : Nat → Nat} {lay : List Ent} {mem : Mem} : FrameBlind (Px E as ad lay mem) := fun a U g mk q => by
  obtain ⟨q0, q1, q2, q3, q4⟩ := q
  exact ⟨q0, q1, va_K.moved (u := U) (U := U.calling g mk a) (Vm.Alike.refl U.vm) q2, Nst.same (s := U) (U := U.calling g mk a) rfl q3, q4⟩
theorem Cl.of {E : Ex} {y : MethodName} {cc : ByteArray} {nL d : Nat} {ret : Option FieldType} {as : List Value} {rv : Option Value} {ad : Nat → Nat} {lay lay' : List Ent} {mem mem' : Mem} (lv : List (Option Value)) (hy : plainName y.cls = true) (hl : lvA lv = lv_args 0 as) (hn : (lg_sl as).length ≤ nL)
    (body : ∀ κ : Kx, Cx E κ cc y.cls nL ret d → Qr E κ rv ad lay' mem' → Gw E κ nL 0 0 0 lv [] ad lay mem) : Cl E y cc nL ret d as rv ad lay mem lay' mem' := by
  refine Met.ofW (cc := cc) (maxL := nL) (ret := ret) hy rfl ?_
  intro p e s m args below meth c s₁ B hml hv
  obtain ⟨rfl, hR, hK, hN, hB⟩ := hv
  have hts := atoms_spec (ws := Cond.code y cc nL ret :: TB) B.pre
  have h := body (p, e, (headSpec (Cond.code y cc nL ret :: TB) { frames := d, cells := 0, slots := 0, locals := 40 * d }).room, s, m, as.toArray, below, meth, c, MQ below (Qx E rv ad lay' mem') as.toArray s 0 0 (fun q => E.2.2.2.2 ≤ q))
    ⟨B.exec, B.bytes, hml, findClass_of_methodNamed B.named, fun w hw => hts w (List.mem_cons_of_mem _ hw), hK, hN, hB, B.returns, B.notSynchronized, Nat.le_refl _, Nat.le_refl _⟩ rfl
  rw [lg_entry_eq]
  exact h s.heap [] _ hR va_S.rf (Lv.of (by rw [hl]; exact lv_entry as hn))
/-- what is known of a method by the tables -/
def Mi (y : MethodName) (cc : ByteArray) (maxL : Nat) (ret : Option FieldType) (n : Nat) : Prop := Cond.code y cc maxL ret ∈ TB ∧ Cond.initialized y.cls ∈ TB ∧ (y.cls ≠ "java/lang/invoke/MethodHandle" ∧ y.cls ≠ "java/lang/invoke/VarHandle" ∧ (parseMethodDescriptor y.desc).map (fun d => d.parameters.length) = some n) ∧ maxL ≤ 21
def Ce (κ : Kx) (ce sl : Nat) : Prop := match κ with
  | (_, _, R, _, _, _, _, _, _, _) => ce ≤ R.cells ∧ sl ≤ R.slots
theorem ce0 {κ : Kx} : Ce κ 0 0 := ⟨Nat.zero_le _, Nat.zero_le _⟩
theorem goodTB {w : Cond} (h : w ∈ TB) : GoodIn TB (w :: TB) := fun v hv => by
  have h2 : v ∈ TB := by
    rcases List.mem_cons.mp hv with rfl | q
    · exact h
    · exact q
  exact ⟨h2, good_of_word (List.mem_filter.mp h2).2⟩
section CALLS
variable {E : Ex} {κ : Kx} {cc : ByteArray} {own : String} {nL ce sl pc d : Nat} {ret : Option FieldType} {lv : List (Option Value)} {st rest : List Value} {ad : Nat → Nat} {lay lay' : List Ent} {mem mem' : Mem}
theorem g_iret (C : Cx E κ cc own nL ret d) {ty : FieldType} {v : Int32} (hQ : Qr E κ (some (.int v)) ad lay mem) (hr : ret = some ty) (hn : narrow ty (.int v) = .int v) (hd : decode cc pc = .ok (.ireturn, 1)) : Gw E κ nL 0 0 pc lv [.int v] ad lay mem := by
  obtain ⟨p, e, R, s, m, args, below, meth, c, Q⟩ := κ
  obtain ⟨hx, hb, -, -, -, -, -, -, hrt, hlk, -⟩ := C
  intro H locs ls hR hS hL
  have hQ : Q = _ := hQ
  rw [hQ]
  exact W.zret hx hb (hrt.trans hr) hn (fun t ht hW => ⟨⟨rfl, by rw [ht]; exact hR⟩, hS.F ht⟩) hS.2.2 hd hlk
theorem g_vret (C : Cx E κ cc own nL ret d) (hQ : Qr E κ none ad lay mem) (hr : ret = none) (hd : decode cc pc = .ok (.return_, 1)) : Gw E κ nL 0 0 pc lv [] ad lay mem := by
  obtain ⟨p, e, R, s, m, args, below, meth, c, Q⟩ := κ
  obtain ⟨hx, hb, -, -, -, -, -, -, hrt, hlk, -⟩ := C
  intro H locs ls hR hS hL
  have hQ : Q = _ := hQ
  rw [hQ]
  exact W.vret hx hb (hrt.trans hr) (fun t ht hW => ⟨⟨rfl, by rw [ht]; exact hR⟩, hS.F ht⟩) hS.2.2 hd hlk
theorem g_lret (C : Cx E κ cc own nL ret d) {v : Int64} (hQ : Qr E κ (some (.long v)) ad lay mem) (hr : ret = some .long) (hd : decode cc pc = .ok (.lreturn, 1)) : Gw E κ nL 0 0 pc lv [.long v] ad lay mem := by
  obtain ⟨p, e, R, s, m, args, below, meth, c, Q⟩ := κ
  obtain ⟨hx, hb, -, -, -, -, -, -, hrt, hlk, -⟩ := C
  intro H locs ls hR hS hL
  have hQ : Q = _ := hQ
  rw [hQ]
  exact W.lret hx hb (hrt.trans hr) (fun t ht hW => ⟨⟨rfl, by rw [ht]; exact hR⟩, hS.F ht⟩) hS.2.2 hd hlk
/-- behind a call -/
theorem w_call {p : Program} {l : Launch} {e : Env} {R : Room} {s : State} {m : MethodId} {args : Array Value} {below : List Frame} {meth : Method} {c : Code} {H : Heap} {locs : List Loc} {Q : State → Prop} {ls : Array Slot} {st0 : List Value} {a : Array Value} {rv : Option Value} (hE : E.1 = l)
    (hr : va_Run p l e R s m args below meth c H locs ce sl 0 0 (F0 m pc ls st0) rest (Qx E rv ad lay mem a) (fun q => E.2.2.2.2 ≤ q)) (hS : va_S (fun q => E.2.2.2.2 ≤ q) s.heap H locs)
    (kk : ∀ (H1 : Heap) (locs1 : List Loc), Rel E ad lay mem H1 → va_S (fun q => E.2.2.2.2 ≤ q) s.heap H1 locs1 → W p l e R s m args below meth c H1 locs1 ce sl Q (F0 m (pc + 3) ls (rv.toList ++ rest))) : W p l e R s m args below meth c H locs ce sl Q (F0 m pc ls st0) := by
  intro T hT X
  obtain ⟨v, st₀, t, T', L, h0, X', hL, e1, e2, ⟨⟨hv, hRl⟩, hz, hk⟩, stp⟩ := hr T hT X
  cases hv
  rw [h0] at hz hk
  obtain ⟨t2, a1, b1⟩ := kk T'.heap (locs ++ L) (by rw [e1]; exact hRl)
    ⟨Nat.le_trans hS.1 (by rw [e1]; exact hz), fun q h1 h2 => by rw [e1, hk q (Nat.lt_of_lt_of_le h1 hS.1) h2]; exact hS.2.1 q h1 h2, fun q hq => by
      rcases List.mem_append.mp hq with h | h
      · exact hS.2.2 q h
      · exact hL q h⟩ T' rfl X'
  exact ⟨t2, stp t2 a1, b1⟩
/-- a method of the same class, or a public one of another class -/
theorem g_callV (C : Cx E κ cc own nL ret d) (hce : Ce κ ce sl) {y : MethodName} {bytes : ByteArray} {maxL n dc index : Nat} {ret' : Option FieldType} {rv : Option Value} (hM : Mi y bytes maxL ret' n) {b ci N : Nat} {T : u_T} {ty : Nat → FieldType} {rs : List (Option Nat)} (hi : Cond.instanceMethod y ∈ TB ∧ Cond.selects y.cls y y ∈ TB) (hw : Cond.methodLink own index y ∈ TB) (hd : decode cc pc = .ok (.invokevirtual index, 3)) (hO : Ok ci y.cls T N ty) (As rest : List Value) (hl : lay[b]? = some (.inr (ci, rs))) (hdc : dc + 1 ≤ d) (hn : As.length = n) (hst : st = As.reverse ++ .ref (ad b) :: rest) (hs8 : (rest.map fun v => v.category).sum ≤ 8)
    (hC : Cl E y bytes maxL ret' dc (.ref (ad b) :: As) rv ad lay mem lay' mem') (K : Gw E κ nL ce sl (pc + 3) lv (rv.toList ++ rest) ad lay' mem') : Gw E κ nL ce sl pc lv st ad lay mem := by
  obtain ⟨p, e, R, s, m, args, below, meth, c, Q⟩ := κ
  obtain ⟨hx, hb, hml, ho, ht, hK, hN, hB, hrt, hlk, hf, hlo⟩ := C
  obtain ⟨m1, m2, m3, m4⟩ := hM
  intro H locs ls hR hS hL
  exact w_call (a := (Value.ref (ad b) :: As).toArray) rfl (va_runV (C := y.cls) (As := As) (rest := rest) ⟨hx, hb, hml, ho, ht⟩ hC ⟨callB_of n ht (goodTB m1) rfl rfl rfl (ht _ m2) (ht _ hw) m3 ⟨by show dc + 1 ≤ R.frames; omega, by show 8 + (maxL + 11) + 40 * dc ≤ R.locals; omega⟩, ht _ hi.1, ht _ hi.2⟩ ⟨Px.blind, va_recv hK hR.P hO.1 (wsL_at hl), fun U hU hW => ⟨rfl, by rw [hU]; exact hR, va_K.moved hW.alike hK, Nst.warm hW hN, by rw [hU]; exact Nat.le_trans hB hS.1⟩⟩ rfl hn hL.1 hst (lv_room hs8) hd ⟨hce.1, hce.2⟩) hS (fun H1 locs1 h1 h2 => K H1 locs1 ls h1 h2 hL)
/-- a private method of a nest mate -/
theorem g_callN (C : Cx E κ cc own nL ret d) (hce : Ce κ ce sl) {y : MethodName} {bytes : ByteArray} {maxL n dc index : Nat} {ret' : Option FieldType} {rv : Option Value} (hM : Mi y bytes maxL ret' n) {b ci N : Nat} {T : u_T} {ty : Nat → FieldType} {rs : List (Option Nat)} {host : String} (hi : Cond.instanceMethod y ∈ TB ∧ Cond.selects y.cls y y ∈ TB) (hw : Cond.methodLinkNest own index y host ∈ NW) (hd : decode cc pc = .ok (.invokevirtual index, 3)) (hO : Ok ci y.cls T N ty) (As rest : List Value) (hl : lay[b]? = some (.inr (ci, rs))) (hdc : dc + 1 ≤ d) (hn : As.length = n) (hst : st = As.reverse ++ .ref (ad b) :: rest) (hs8 : (rest.map fun v => v.category).sum ≤ 8)
    (hC : Cl E y bytes maxL ret' dc (.ref (ad b) :: As) rv ad lay mem lay' mem') (K : Gw E κ nL ce sl (pc + 3) lv (rv.toList ++ rest) ad lay' mem') : Gw E κ nL ce sl pc lv st ad lay mem := by
  obtain ⟨p, e, R, s, m, args, below, meth, c, Q⟩ := κ
  obtain ⟨hx, hb, hml, ho, ht, hK, hN, hB, hrt, hlk, hf, hlo⟩ := C
  obtain ⟨m1, m2, m3, m4⟩ := hM
  intro H locs ls hR hS hL
  exact w_call (a := (Value.ref (ad b) :: As).toArray) rfl (va_runVN (C := y.cls) (As := As) (rest := rest) ⟨hx, hb, hml, ho, ht⟩ hC ⟨va_cnB n ht (goodTB m1) rfl rfl rfl (hN _ hw) (ht _ m2) m3 ⟨by show dc + 1 ≤ R.frames; omega, by show 8 + (maxL + 11) + 40 * dc ≤ R.locals; omega⟩, ht _ hi.1, ht _ hi.2⟩ ⟨Px.blind, va_recv hK hR.P hO.1 (wsL_at hl), fun U hU hW => ⟨rfl, by rw [hU]; exact hR, va_K.moved hW.alike hK, Nst.warm hW hN, by rw [hU]; exact Nat.le_trans hB hS.1⟩⟩ rfl hn hL.1 hst (lv_room hs8) hd ⟨hce.1, hce.2⟩) hS (fun H1 locs1 h1 h2 => K H1 locs1 ls h1 h2 hL)
/-- a static method -/
theorem g_callS (C : Cx E κ cc own nL ret d) (hce : Ce κ ce sl) {y : MethodName} {bytes : ByteArray} {maxL n dc index : Nat} {ret' : Option FieldType} {rv : Option Value} (hM : Mi y bytes maxL ret' n) (hi : Cond.static y ∈ TB) (hw : Cond.methodLink own index y ∈ TB) (hd : decode cc pc = .ok (.invokestatic index, 3)) (As rest : List Value) (hdc : dc + 1 ≤ d) (hn : As.length = n) (hst : st = As.reverse ++ rest) (hs8 : (rest.map fun v => v.category).sum ≤ 8)
    (hC : Cl E y bytes maxL ret' dc As rv ad lay mem lay' mem') (K : Gw E κ nL ce sl (pc + 3) lv (rv.toList ++ rest) ad lay' mem') : Gw E κ nL ce sl pc lv st ad lay mem := by
  obtain ⟨p, e, R, s, m, args, below, meth, c, Q⟩ := κ
  obtain ⟨hx, hb, hml, ho, ht, hK, hN, hB, hrt, hlk, hf, hlo⟩ := C
  obtain ⟨m1, m2, m3, m4⟩ := hM
  intro H locs ls hR hS hL
  exact w_call (a := As.toArray) rfl (va_runS (As := As) (rest := rest) ⟨hx, hb, hml, ho, ht⟩ hC ⟨callB_of n ht (goodTB m1) rfl rfl rfl (ht _ m2) (ht _ hw) m3 ⟨by show dc + 1 ≤ R.frames; omega, by show 8 + (maxL + 11) + 40 * dc ≤ R.locals; omega⟩, ht _ hi⟩ ⟨Px.blind, fun U hU hW => ⟨rfl, by rw [hU]; exact hR, va_K.moved hW.alike hK, Nst.warm hW hN, by rw [hU]; exact Nat.le_trans hB hS.1⟩⟩ rfl hn hL.1 hst (lv_room hs8) hd ⟨hce.1, hce.2⟩) hS (fun H1 locs1 h1 h2 => K H1 locs1 ls h1 h2 hL)
theorem g_callSN (C : Cx E κ cc own nL ret d) (hce : Ce κ ce sl) {y : MethodName} {bytes : ByteArray} {maxL n dc index : Nat} {ret' : Option FieldType} {rv : Option Value} (hM : Mi y bytes maxL ret' n) {host : String} (hi : Cond.static y ∈ TB) (hw : Cond.methodLinkNest own index y host ∈ NW) (hd : decode cc pc = .ok (.invokestatic index, 3)) (As rest : List Value) (hdc : dc + 1 ≤ d) (hn : As.length = n) (hst : st = As.reverse ++ rest) (hs8 : (rest.map fun v => v.category).sum ≤ 8)
    (hC : Cl E y bytes maxL ret' dc As rv ad lay mem lay' mem') (K : Gw E κ nL ce sl (pc + 3) lv (rv.toList ++ rest) ad lay' mem') : Gw E κ nL ce sl pc lv st ad lay mem := by
  obtain ⟨p, e, R, s, m, args, below, meth, c, Q⟩ := κ
  obtain ⟨hx, hb, hml, ho, ht, hK, hN, hB, hrt, hlk, hf, hlo⟩ := C
  obtain ⟨m1, m2, m3, m4⟩ := hM
  intro H locs ls hR hS hL
  exact w_call (a := As.toArray) rfl (va_runSN (As := As) (rest := rest) ⟨hx, hb, hml, ho, ht⟩ hC ⟨va_cnB n ht (goodTB m1) rfl rfl rfl (hN _ hw) (ht _ m2) m3 ⟨by show dc + 1 ≤ R.frames; omega, by show 8 + (maxL + 11) + 40 * dc ≤ R.locals; omega⟩, ht _ hi, trivial⟩ ⟨Px.blind, fun U hU hW => ⟨rfl, by rw [hU]; exact hR, va_K.moved hW.alike hK, Nst.warm hW hN, by rw [hU]; exact Nat.le_trans hB hS.1⟩⟩ rfl hn hL.1 hst (lv_room hs8) hd ⟨hce.1, hce.2⟩) hS (fun H1 locs1 h1 h2 => K H1 locs1 ls h1 h2 hL)
end CALLS
