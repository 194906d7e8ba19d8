/-! making objects: each new cell gets the next entry; the addresses of the earlier ones stay -/
def Agr (n : Nat) (ad ad' : Nat → Nat) : Prop := ∀ i, i < n → ad' i = ad i
theorem Agr.rf {n : Nat} {ad : Nat → Nat} : Agr n ad ad := fun _ _ => rfl
theorem Agr.tr {n m : Nat} {a b c : Nat → Nat} (h1 : Agr n a b) (hnm : n ≤ m) (h2 : Agr m b c) : Agr n a c := fun i hi => (h2 i (Nat.lt_of_lt_of_le hi hnm)).trans (h1 i hi)
def wfE (n : Nat) : Ent → Bool
  | .inl _ => true
  | .inr (_, rs) => rs.all fun r => match r with
    | none => true
    | some a => decide (a < n)
def wfL (lay : List Ent) : Bool := lay.all (wfE lay.length)
theorem encE_ag {cI cZ : ClassId} {ad ad' : Nat → Nat} {n : Nat} (hag : Agr n ad ad') {e : Ent} (he : wfE n e = true) (f : Nat → Int32) : encE cI cZ ad' e f = encE cI cZ ad e f := by
  rcases e with ⟨b, k⟩ | ⟨ci, rs⟩
  · cases b <;> rfl
  · rw [encO, encO]
    congr 2
    apply List.map_congr_left
    intro k _
    cases hr : rs.getD k none with
    | none => cases tyC ci k <;> rfl
    | some a =>
      have hm : some a ∈ rs := by
        rw [List.getD_eq_getElem?_getD] at hr
        cases hk : rs[k]? with
        | none => rw [hk] at hr; cases hr
        | some o => rw [hk] at hr; simp at hr; subst hr; exact List.mem_of_getElem? hk
      have hl : a < n := by
        have := List.all_eq_true.mp he _ hm
        simpa using this
      simp only [fldv, Option.map_some, hag a hl]
theorem wsL_app {cI cZ : ClassId} {ad ad' : Nat → Nat} {lay : List Ent} {mem : Mem} {n : Nat} (hn : lay.length = n) (hag : Agr n ad ad') (hw : wfL lay = true) (e : Ent) : wsL cI cZ ad' (lay ++ [e]) mem = wsL cI cZ ad lay mem ++ [(ad' n, encE cI cZ ad' e (mem n))] := by
  subst hn
  unfold wsL
  rw [List.mapIdx_append]
  congr 1
  · apply List.ext_getElem?
    intro k
    simp only [List.getElem?_mapIdx]
    cases hk : lay[k]? with
    | none => rfl
    | some x =>
      have hl : k < lay.length := (List.getElem?_eq_some_iff.mp hk).1
      have hx : wfE lay.length x = true := List.all_eq_true.mp hw x (List.mem_of_getElem? hk)
      simp only [Option.map_some, hag k hl, encE_ag hag hx]
  · simp
theorem AdOk.ofD {A : Nat → Prop} {ad : Nat → Nat} {cI cZ : ClassId} {lay : List Ent} {mem : Mem} (h : va_D A (wsL cI cZ ad lay mem)) : AdOk A ad lay.length := by
  have key : ∀ k, k < lay.length → ∃ e, (wsL cI cZ ad lay mem)[k]? = some (ad k, e) := fun k hk => ⟨_, wsL_at (List.getElem?_eq_getElem hk)⟩
  refine ⟨fun i j hi hj hij => ?_, fun i hi => ?_⟩
  · obtain ⟨e1, h1⟩ := key i hi
    obtain ⟨e2, h2⟩ := key j hj
    exact h.1 i j _ _ h1 h2 hij
  · obtain ⟨e1, h1⟩ := key i hi
    exact h.2 i _ h1
/-- the start: nothing is made, all ints are 0 -/
def MZ : Mem := fun _ _ => 0
def Qn (E : Ex) (n : Nat) (ad0 : Nat → Nat) (lay : List Ent) (mem : Mem) : Array Value → State → Outcome → State → Prop := fun _ st oc t => (oc = .returned none ∧ ∃ ad, Agr n ad0 ad ∧ Rel E ad lay mem t.heap) ∧ va_F (fun q => E.2.2.2.2 ≤ q) st t
def ClN (E : Ex) (y : MethodName) (cc : ByteArray) (maxL d mc ms : Nat) (as : List Value) (n : Nat) (ad : Nat → Nat) (lay : List Ent) (mem : Mem) (lay' : List Ent) (mem' : Mem) : Prop :=
  Met E.1 y (Cond.code y cc maxL none :: TB) { frames := d, cells := mc, slots := ms, locals := 40 * d } (Px E as ad lay mem) (Qn E n ad lay' mem') mc ms (fun q => E.2.2.2.2 ≤ q)
def QrN (E : Ex) (κ : Kx) (n : Nat) (ad0 : Nat → Nat) (lay : List Ent) (mem : Mem) (mc ms : Nat) : Prop := match κ with
  | (_, _, _, s, _, args, below, _, _, Q) => Q = MQ below (Qn E n ad0 lay mem) args s mc ms (fun q => E.2.2.2.2 ≤ q)
def isInit (κ : Kx) : Prop := match κ with
  | (_, _, _, _, _, _, _, meth, _, _) => meth.name = "<init>"
theorem ClN.of {E : Ex} {y : MethodName} {cc : ByteArray} {nL d mc ms n : Nat} {as : List Value} {ad : Nat → Nat} {lay lay' : List Ent} {mem mem' : Mem} (lv : List (Option Value)) (hy : plainName y.cls = true) (hyn : y.name = "<init>") (hl : lvA lv = lv_args 0 as) (hn : (lg_sl as).length ≤ nL)
    (body : ∀ κ : Kx, Cx E κ cc y.cls nL none d → isInit κ → Ce κ mc ms → QrN E κ n ad lay' mem' mc ms → Gw E κ nL 0 0 0 lv [] ad lay mem) : ClN E y cc nL d mc ms as n ad lay mem lay' mem' := by
  refine Met.ofW (cc := cc) (maxL := nL) (ret := none) hy rfl ?_
  intro p e s m args below meth c s₁ B hml hv
  obtain ⟨rfl, hR, hK, hN, hB⟩ := hv
  have hts := atoms_spec (ws := Cond.code y cc nL none :: TB) B.pre
  have h := body (p, e, (headSpec (Cond.code y cc nL none :: TB) { frames := d, cells := mc, slots := ms, locals := 40 * d }).room, s, m, as.toArray, below, meth, c, MQ below (Qn E n ad lay' mem') as.toArray s mc ms (fun q => E.2.2.2.2 ≤ q))
    ⟨B.exec, B.bytes, hml, findClass_of_methodNamed B.named, fun w hw => hts w (List.mem_cons_of_mem _ hw), hK, hN, hB, B.returns, B.notSynchronized, Nat.le_refl _, Nat.le_refl _⟩ ((name_of_methodNamed B.named B.method).1.trans hyn) ⟨Nat.le_refl _, Nat.le_refl _⟩ rfl
  rw [lg_entry_eq]
  exact h s.heap [] _ hR va_S.rf (Lv.of (by rw [hl]; exact lv_entry as hn))
section CTOR
variable {E : Ex} {κ : Kx} {cc : ByteArray} {own : String} {nL ce sl pc d : Nat} {ret : Option FieldType} {lv : List (Option Value)} {st rest : List Value} {ad : Nat → Nat} {lay lay' : List Ent} {mem mem' : Mem}
theorem g_vretN (C : Cx E κ cc own nL none d) {n : Nat} {ad0 : Nat → Nat} (hQ : QrN E κ n ad0 lay mem ce sl) (hag : Agr n ad0 ad) (hd : decode cc pc = .ok (.return_, 1)) : Gw E κ nL ce sl pc lv [] ad lay mem := by
  obtain ⟨p, e, R, s, m, args, below, meth, c, Q⟩ := κ
  obtain ⟨hx, hb, -, -, -, -, -, -, hrt, hlk, -⟩ := C
  intro H locs ls hR hS hL
  have hQ : Q = _ := hQ
  rw [hQ]
  exact W.vret hx hb hrt (fun t ht hW => ⟨⟨rfl, ad, hag, by rw [ht]; exact hR⟩, hS.F ht⟩) hS.2.2 hd hlk
theorem g_new (C : Cx E κ cc own nL ret d) {ci N index n : Nat} {Cn : String} {T : u_T} {ty : Nat → FieldType} (hO : Ok ci Cn T N ty) (hdef : ∀ k, k < N → defaultValue (ty k) = fldv (fun _ => 0) (ty k) none 0) (hw1 : Cond.classLink own index Cn ∈ TB) (hw2 : Cond.instantiable Cn N ∈ TB) (hw3 : Cond.initialized Cn ∈ TB) (hd : decode cc pc = .ok (.new index, 3)) (hn : lay.length = n) (hwf : wfL lay = true) (hz : mem n = fun _ => 0) (hce : Ce κ (ce + 1) (sl + N))
    (K : ∀ ad', Agr n ad ad' → Gw E κ nL (ce + 1) (sl + N) (pc + 3) lv (.ref (ad' n) :: st) ad' (lay ++ [.inr (ci, List.replicate N none)]) mem) : Gw E κ nL ce sl pc lv st ad lay mem := by
  obtain ⟨p, e, R, s, m, args, below, meth, c, Q⟩ := κ
  obtain ⟨h1, h2, h3, h4, h5, h6⟩ := hO
  obtain ⟨hx, hb, -, ho, ht, hK, -, hB, -⟩ := C
  intro H locs ls hR hS hL
  refine va_new (ci := ci) (fs := (List.range N).map fun k => fldv ad (ty k) none 0) hx hb ht h4 ty h5 ho (ht _ hw1) (ht _ hw2) (ht _ hw3) hK hR.P hR.A.D hS (fun q hq => Nat.le_trans hB hq) h1 (fun j hj => ?_) hce.1 hce.2 hd (fun q H1 hP1 hD1 hS1 => ?_)
  · rw [hdef j hj]
    show _ = List.getD _ _ _
    rw [List.getD_eq_getElem?_getD, fl_at _ hj]
    cases ty j <;> rfl
  · have hag : Agr n ad (va_up ad n q) := fun i hi => va_up_ne ad q (by omega)
    have hq : va_up ad n q n = q := by simp [va_up]
    have e := wsL_app (cI := E.2.2.1) (cZ := E.2.2.2.1) (mem := mem) hn hag hwf (.inr (ci, List.replicate N none))
    have e2 : encE E.2.2.1 E.2.2.2.1 (va_up ad n q) (.inr (ci, List.replicate N none)) (mem n) = .inr (ci, (List.range N).map fun k => fldv ad (ty k) none 0) := by
      rw [encO, hz, h2, h3]
      congr 2
      apply List.map_congr_left
      intro k hk
      have : (List.replicate N (none : Option Nat)).getD k none = none := by
        rw [List.getD_eq_getElem?_getD, List.getElem?_replicate]
        split <;> rfl
      rw [this]
      cases ty k <;> rfl
    rw [hq, e2] at e
    rw [← e] at hP1 hD1
    have k := K (va_up ad n q) hag H1 locs ls (Rel.mk hP1 (AdOk.ofD hD1)) hS1 hL
    rw [hq] at k
    exact k
theorem g_newA (C : Cx E κ cc own nL ret d) {n len : Nat} (z : Bool) {x : Int32} {atype : ArrayType} (hat : newarray.typeOf atype = if z then .boolean else .int) (hw : Cond.arrayClass (if z then .boolean else .int) ∈ TB) (hd : decode cc pc = .ok (.newarray atype, 2)) (hn : lay.length = n) (hwf : wfL lay = true) (hz : mem n = fun _ => 0) (hx0 : ¬ x < 0) (hxl : x.toNatClampNeg = len) (hlen : len ≤ 1000) (hce : Ce κ (ce + 1) (sl + len))
    (K : ∀ ad', Agr n ad ad' → Gw E κ nL (ce + 1) (sl + len) (pc + 2) lv (.ref (ad' n) :: st) ad' (lay ++ [.inl (z, len)]) mem) : Gw E κ nL ce sl pc lv (.int x :: st) ad lay mem := by
  obtain ⟨p, e, R, s, m, args, below, meth, c, Q⟩ := κ
  obtain ⟨hx, hb, -, ho, ht, hK, -, hB, -⟩ := C
  intro H locs ls hR hS hL
  refine va_newa (a0 := (len, .inl (fun _ => 0))) hx hb (by rw [hat]; exact ht _ hw) hat hK hR.P hR.A.D hS (fun q hq => Nat.le_trans hB hq) (fun cA => by cases z <;> rfl) hx0 hxl ?_ hce.1 hce.2 hd (fun q cA H1 hK1 hP1 hD1 hS1 => ?_)
  · have hc : componentBytes (if z then FieldType.boolean else FieldType.int) ≤ 8 := by cases z <;> decide
    have := Nat.mul_le_mul hlen hc
    omega
  · have hag : Agr n ad (va_up ad n q) := fun i hi => va_up_ne ad q (by omega)
    have hq : va_up ad n q n = q := by simp [va_up]
    have hcA : cA = if z then E.2.2.2.1 else E.2.2.1 := by
      have h9 := (hK1.2 2 (cA, if z then FieldType.boolean else FieldType.int) rfl).2
      cases z with
      | true =>
        have h8 := (hK.2 1 (E.2.2.2.1, FieldType.boolean) rfl).2
        exact Option.some.inj ((show s.vm.findClass _ = some cA from h9).symm.trans (show s.vm.findClass _ = some E.2.2.2.1 from h8))
      | false =>
        have h8 := (hK.2 0 (E.2.2.1, FieldType.int) rfl).2
        exact Option.some.inj ((show s.vm.findClass _ = some cA from h9).symm.trans (show s.vm.findClass _ = some E.2.2.1 from h8))
    have e := wsL_app (cI := E.2.2.1) (cZ := E.2.2.2.1) (mem := mem) hn hag hwf (.inl (z, len))
    have e2 : encE E.2.2.1 E.2.2.2.1 (va_up ad n q) (.inl (z, len)) (mem n) = .inl (cA, len, .inl (fun _ => 0)) := by
      rw [hz, hcA]
      cases z <;> rfl
    rw [hq, e2] at e
    rw [← e] at hP1 hD1
    have k := K (va_up ad n q) hag H1 locs ls (Rel.mk hP1 (AdOk.ofD hD1)) hS1 hL
    rw [hq] at k
    exact k
theorem g_objInit (C : Cx E κ cc own nL ret d) (hdd : 1 ≤ d) {index a : Nat} (hw1 : Cond.methodLink own index objectInit ∈ TB) (hw2 : Cond.instanceMethod objectInit ∈ TB) (hw3 : Cond.code objectInit ⟨#[0xb1]⟩ 1 none ∈ TB) (hd : decode cc pc = .ok (.invokespecial index, 3)) (hs8 : (st.map fun v => v.category).sum ≤ 8) (K : Gw E κ nL ce sl (pc + 3) lv st ad lay mem) : Gw E κ nL ce sl pc lv (.ref a :: st) ad lay mem := by
  obtain ⟨p, e, R, s, m, args, below, meth, c, Q⟩ := κ
  obtain ⟨hx, hb, hml, ho, ht, hK, -, hB, -, -, hf, hlo⟩ := C
  intro H locs ls hR hS hL
  refine W.objInit hx hb ho (ht _ hw1) (ht _ hw2) (ht _ hw3) rfl (by rw [hml]; exact hL.1) rfl hd (by omega) (by have := lv_room (m := m) (pc := pc) (ls := ls) (rest := .ref a :: st) hs8; omega) ?_
  exact K H locs ls hR hS hL
/-- a final reference, written in the constructor -/
theorem g_putFR (C : Cx E κ cc own nL ret d) (hI : isInit κ) {ci N index a r : Nat} {Cn : String} {T : u_T} {ty : Nat → FieldType} (hO : Ok ci Cn T N ty) (k : Nat) {rs : List (Option Nat)} (hk : k < N) (hw : Cond.fieldLink own index (T k).1 (T k).2.1 (T k).2.2.1 ∈ TB) (hd : decode cc pc = .ok (.putfield index, 3)) (hfin : (T k).2.2.2 = true) (hdecl : (T k).1 = own) (hn : narrow (ty k) (.ref (ad r)) = .ref (ad r)) (hf : fits (ty k) (.ref (ad r)) = true) (hr : k < rs.length) (hty : fldv ad (ty k) (some r) (mem a k) = .ref (ad r)) (hl : lay[a]? = some (.inr (ci, rs))) (K : Gw E κ nL ce sl (pc + 3) lv st ad (lay.set a (.inr (ci, rs.set k (some r)))) mem) : Gw E κ nL ce sl pc lv (.ref (ad r) :: .ref (ad a) :: st) ad lay mem := by
  obtain ⟨p, e, R, s, m, args, below, meth, c, Q⟩ := κ
  obtain ⟨h1, h2, h3, h4, h5, h6⟩ := id hO
  obtain ⟨hx, hb, -, ho, ht, hK, -⟩ := C
  intro H locs ls hR hS hL
  refine va_putF hx hb ht h4 ty h5 h6 ho hK hR.P hR.A.D hS a (wsL_at hl) h1 k hk (ht _ hw) (fun _ z => z) hfin hI hdecl (ty := ty k) (h5 k hk) hn hf (by simp [h2, hk]) hd (fun H1 locs1 hP1 _ hS1 => K H1 locs1 ls ?_ hS1 hL)
  rw [putr_eq hO hr hty hl] at hP1
  exact Rel.mk hP1 (by rw [List.length_set]; exact hR.A)
theorem g_putFI (C : Cx E κ cc own nL ret d) (hI : isInit κ) {ci N index a : Nat} {Cn : String} {T : u_T} {ty : Nat → FieldType} (hO : Ok ci Cn T N ty) (k : Nat) {rs : List (Option Nat)} {x : Int32} (hk : k < N) (hw : Cond.fieldLink own index (T k).1 (T k).2.1 (T k).2.2.1 ∈ TB) (hd : decode cc pc = .ok (.putfield index, 3)) (hfin : (T k).2.2.2 = true) (hdecl : (T k).1 = own) (hty : ty k = .int) (hl : lay[a]? = some (.inr (ci, rs))) (K : Gw E κ nL ce sl (pc + 3) lv st ad lay (mset mem a k x)) : Gw E κ nL ce sl pc lv (.int x :: .ref (ad a) :: st) ad lay mem := by
  obtain ⟨p, e, R, s, m, args, below, meth, c, Q⟩ := κ
  obtain ⟨h1, h2, h3, h4, h5, h6⟩ := id hO
  obtain ⟨hx, hb, -, ho, ht, hK, -⟩ := C
  intro H locs ls hR hS hL
  refine va_putF hx hb ht h4 ty h5 h6 ho hK hR.P hR.A.D hS a (wsL_at hl) h1 k hk (ht _ hw) (fun _ z => z) hfin hI hdecl (ty := ty k) (h5 k hk) (by rw [hty]; rfl) (by rw [hty]; rfl) (by simp [h2, hk]) hd (fun H1 locs1 hP1 _ hS1 => K H1 locs1 ls ?_ hS1 hL)
  rw [put_eq hO (Or.inl hty) hl] at hP1
  exact Rel.mk hP1 hR.A
theorem w_callN {p : Program} {l : Launch} {e : Env} {R : Room} {s : State} {m : MethodId} {args : Array Value} {below : List Frame} {meth : Method} {c : Code} {H : Heap} {locs : List Loc} {Q : State → Prop} {ls : Array Slot} {st0 : List Value} {a : Array Value} {n mc ms : Nat} (hE : E.1 = l)
    (hr : va_Run p l e R s m args below meth c H locs ce sl mc ms (F0 m pc ls st0) rest (Qn E n ad lay mem a) (fun q => E.2.2.2.2 ≤ q)) (hS : va_S (fun q => E.2.2.2.2 ≤ q) s.heap H locs)
    (kk : ∀ (ad' : Nat → Nat) (H1 : Heap) (locs1 : List Loc), Agr n ad ad' → Rel E ad' lay mem H1 → va_S (fun q => E.2.2.2.2 ≤ q) s.heap H1 locs1 → W p l e R s m args below meth c H1 locs1 (ce + mc) (sl + ms) Q (F0 m (pc + 3) ls rest)) : W p l e R s m args below meth c H locs ce sl Q (F0 m pc ls st0) := by
  intro T hT X
  obtain ⟨v, st₀, t, T', L, h0, X', hL, e1, e2, ⟨⟨hv, ad', hag, hRl⟩, hz, hk⟩, stp⟩ := hr T hT X
  cases hv
  rw [h0] at hz hk
  obtain ⟨t2, a1, b1⟩ := kk ad' T'.heap (locs ++ L) hag (by rw [e1]; exact hRl)
    ⟨Nat.le_trans hS.1 (by rw [e1]; exact hz), fun q h1 h2 => by rw [e1, hk q (Nat.lt_of_lt_of_le h1 hS.1) h2]; exact hS.2.1 q h1 h2, fun q hq => by
      rcases List.mem_append.mp hq with h | h
      · exact hS.2.2 q h
      · exact hL q h⟩ T' rfl X'
  exact ⟨t2, stp t2 a1, b1⟩
theorem g_callI (C : Cx E κ cc own nL ret d) {y : MethodName} {bytes : ByteArray} {maxL n na dc mc ms index b : Nat} (hce : Ce κ (ce + mc) (sl + ms)) (hM : Mi y bytes maxL none na) (hi : y.name = "<init>" ∧ Cond.instanceMethod y ∈ TB) (hw : Cond.methodLink own index y ∈ TB) (hd : decode cc pc = .ok (.invokespecial index, 3)) (As rest : List Value) (hdc : dc + 1 ≤ d) (hn : As.length = na) (hst : st = As.reverse ++ .ref (ad b) :: rest) (hs8 : (rest.map fun v => v.category).sum ≤ 8)
    (hC : ClN E y bytes maxL dc mc ms (.ref (ad b) :: As) n ad lay mem lay' mem') (K : ∀ ad', Agr n ad ad' → Gw E κ nL (ce + mc) (sl + ms) (pc + 3) lv rest ad' lay' mem') : Gw E κ nL ce sl pc lv st ad lay mem := by
  obtain ⟨p, e, R, s, m, args, below, meth, c, Q⟩ := κ
  obtain ⟨hx, hb, hml, ho, ht, hK, hN, hB, hrt, hlk, hf, hlo⟩ := C
  obtain ⟨m1, m2, m3, m4⟩ := hM
  intro H locs ls hR hS hL
  exact w_callN (a := (Value.ref (ad b) :: As).toArray) rfl (va_runI (As := As) (rest := rest) ⟨hx, hb, hml, ho, ht⟩ hC ⟨callB_of na ht (goodTB m1) rfl rfl rfl (ht _ m2) (ht _ hw) m3 ⟨by show dc + 1 ≤ R.frames; omega, by show 8 + (maxL + 11) + 40 * dc ≤ R.locals; omega⟩, hi.1, ht _ hi.2⟩ ⟨Px.blind, fun U hU hW => ⟨rfl, by rw [hU]; exact hR, va_K.moved hW.alike hK, Nst.warm hW hN, by rw [hU]; exact Nat.le_trans hB hS.1⟩⟩ rfl hn hL.1 hst (lv_room hs8) hd ⟨hce.1, hce.2⟩) hS (fun ad' H1 locs1 hag h1 h2 => K ad' hag H1 locs1 ls h1 h2 hL)
theorem g_callIN (C : Cx E κ cc own nL ret d) {y : MethodName} {bytes : ByteArray} {maxL n na dc mc ms index b : Nat} {host : String} (hce : Ce κ (ce + mc) (sl + ms)) (hM : Mi y bytes maxL none na) (hi : y.name = "<init>" ∧ Cond.instanceMethod y ∈ TB) (hw : Cond.methodLinkNest own index y host ∈ NW) (hd : decode cc pc = .ok (.invokespecial index, 3)) (As rest : List Value) (hdc : dc + 1 ≤ d) (hn : As.length = na) (hst : st = As.reverse ++ .ref (ad b) :: rest) (hs8 : (rest.map fun v => v.category).sum ≤ 8)
    (hC : ClN E y bytes maxL dc mc ms (.ref (ad b) :: As) n ad lay mem lay' mem') (K : ∀ ad', Agr n ad ad' → Gw E κ nL (ce + mc) (sl + ms) (pc + 3) lv rest ad' lay' mem') : Gw E κ nL ce sl pc lv st ad lay mem := by
  obtain ⟨p, e, R, s, m, args, below, meth, c, Q⟩ := κ
  obtain ⟨hx, hb, hml, ho, ht, hK, hN, hB, hrt, hlk, hf, hlo⟩ := C
  obtain ⟨m1, m2, m3, m4⟩ := hM
  intro H locs ls hR hS hL
  exact w_callN (a := (Value.ref (ad b) :: As).toArray) rfl (va_runIN (As := As) (rest := rest) ⟨hx, hb, hml, ho, ht⟩ hC ⟨va_cnB na ht (goodTB m1) rfl rfl rfl (hN _ hw) (ht _ m2) m3 ⟨by show dc + 1 ≤ R.frames; omega, by show 8 + (maxL + 11) + 40 * dc ≤ R.locals; omega⟩, hi.1, ht _ hi.2⟩ ⟨Px.blind, fun U hU hW => ⟨rfl, by rw [hU]; exact hR, va_K.moved hW.alike hK, Nst.warm hW hN, by rw [hU]; exact Nat.le_trans hB hS.1⟩⟩ rfl hn hL.1 hst (lv_room hs8) hd ⟨hce.1, hce.2⟩) hS (fun ad' H1 locs1 hag h1 h2 => K ad' hag H1 locs1 ls h1 h2 hL)
end CTOR
