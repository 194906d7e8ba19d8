/-! fields and arrays -/
/-- a class of the table: its words, its types, its names apart -/
def Ok (ci : Nat) (C : String) (T : u_T) (N : Nat) (ty : Nat → FieldType) : Prop := vwCl[ci]? = some (C, T, N) ∧ nC ci = N ∧ tyC ci = ty ∧ (∀ w ∈ u_ws C T N, w ∈ TB) ∧ (∀ k, k < N → parseFieldDescriptor (T k).2.2.1 = some (ty k)) ∧ (∀ a, a < N → ∀ b, b < N → a ≠ b → (T a).2.1 ≠ (T b).2.1)
theorem encO {cI cZ : ClassId} {ad : Nat → Nat} {ci : Nat} {rs : List (Option Nat)} {f : Nat → Int32} : encE cI cZ ad (.inr (ci, rs)) f = .inr (ci, (List.range (nC ci)).map fun k => fldv ad (tyC ci k) (rs.getD k none) (f k)) := rfl
theorem fl_at {n k : Nat} (g : Nat → Value) (h : k < n) : ((List.range n).map g)[k]? = some (g k) := by simp [h]
theorem fl_set {n k : Nat} (g g' : Nat → Value) (v : Value) (h1 : g' k = v) (h2 : ∀ j, j ≠ k → g' j = g j) : ((List.range n).map g).set k v = (List.range n).map g' := by
  apply List.ext_getElem?
  intro j
  by_cases hj : j = k
  · subst hj
    by_cases hn : j < n
    · rw [List.getElem?_set_self (by simpa using hn), fl_at g' hn, h1]
    · rw [List.getElem?_eq_none (by simpa using hn), List.getElem?_eq_none (by simpa using hn)]
  · rw [List.getElem?_set_ne (fun q => hj q.symm)]
    by_cases hn : j < n
    · rw [fl_at g hn, fl_at g' hn, h2 j hj]
    · rw [List.getElem?_eq_none (by simpa using hn), List.getElem?_eq_none (by simpa using hn)]
theorem Rel.P {E : Ex} {ad : Nat → Nat} {lay : List Ent} {mem : Mem} {H : Heap} (h : Rel E ad lay mem H) : va_P E.2.1 vwCl (wsL E.2.2.1 E.2.2.2.1 ad lay mem) H := h.1
theorem Rel.A {E : Ex} {ad : Nat → Nat} {lay : List Ent} {mem : Mem} {H : Heap} (h : Rel E ad lay mem H) : AdOk (fun q => E.2.2.2.2 ≤ q) ad lay.length := h.2
theorem Rel.mk {E : Ex} {ad : Nat → Nat} {lay : List Ent} {mem : Mem} {H : Heap} (h : va_P E.2.1 vwCl (wsL E.2.2.1 E.2.2.2.1 ad lay mem) H) (h2 : AdOk (fun q => E.2.2.2.2 ≤ q) ad lay.length) : Rel E ad lay mem H := ⟨h, h2⟩
section HEAP
variable {E : Ex} {κ : Kx} {cc : ByteArray} {own : String} {nL ce sl pc d : Nat} {ret : Option FieldType} {lv : List (Option Value)} {st : List Value} {ad : Nat → Nat} {lay : List Ent} {mem : Mem}
/-- a field's value -/
theorem g_get (C : Cx E κ cc own nL ret d) {ci N index a : Nat} {Cn : String} {T : u_T} {ty : Nat → FieldType} (hO : Ok ci Cn T N ty) (k : Nat) {rs : List (Option Nat)} {v : Value} (hk : k < N) (hw : Cond.fieldLink own index (T k).1 (T k).2.1 (T k).2.2.1 ∈ TB) (hd : decode cc pc = .ok (.getfield index, 3)) (hl : lay[a]? = some (.inr (ci, rs))) (hv : fldv ad (ty k) (rs.getD k none) (mem a k) = v) (K : Gw E κ nL ce sl (pc + 3) lv (v :: st) ad lay mem) : Gw E κ nL ce sl pc lv (.ref (ad a) :: st) ad lay mem := by
  obtain ⟨p, e, R, s, m, args, below, meth, c, Q⟩ := κ
  obtain ⟨h1, h2, h3, h4, -, -⟩ := hO
  obtain ⟨hx, hb, -, ho, ht, hK, -⟩ := C
  intro H locs ls hR hS hL
  exact va_get hx hb ht h4 ho hK hR.P a (wsL_at hl) h1 k hk (ht _ hw) (fun _ z => z) (by subst h2 h3; rw [fl_at _ hk, hv]) hd (K H locs ls hR hS hL)
theorem g_getN (C : Cx E κ cc own nL ret d) {ci N index a : Nat} {Cn host : String} {T : u_T} {ty : Nat → FieldType} (hO : Ok ci Cn T N ty) (k : Nat) {rs : List (Option Nat)} {v : Value} (hk : k < N) (hw : Cond.fieldLinkNest own index (T k).1 (T k).2.1 (T k).2.2.1 host ∈ NW) (hd : decode cc pc = .ok (.getfield index, 3)) (hl : lay[a]? = some (.inr (ci, rs))) (hv : fldv ad (ty k) (rs.getD k none) (mem a k) = v) (K : Gw E κ nL ce sl (pc + 3) lv (v :: st) ad lay mem) : Gw E κ nL ce sl pc lv (.ref (ad a) :: st) ad lay mem := by
  obtain ⟨p, e, R, s, m, args, below, meth, c, Q⟩ := κ
  obtain ⟨h1, h2, h3, h4, -, -⟩ := hO
  obtain ⟨hx, hb, -, ho, ht, hK, hN, -⟩ := C
  intro H locs ls hR hS hL
  exact va_getN hx hb ht h4 ho hK hR.P a (wsL_at hl) h1 k hk (va_Nw.use rfl (hN _ hw)) (fun _ z => z) (by subst h2 h3; rw [fl_at _ hk, hv]) hd (K H locs ls hR hS hL)
/-- an int field is written -/
theorem put_eq {ci N a k : Nat} {Cn : String} {T : u_T} {ty : Nat → FieldType} (hO : Ok ci Cn T N ty) {rs : List (Option Nat)} {x : Int32} (hty : ty k = .int ∨ ty k = .boolean) (hl : lay[a]? = some (.inr (ci, rs))) : (wsL E.2.2.1 E.2.2.2.1 ad lay mem).set a (ad a, .inr (ci, ((List.range (nC ci)).map fun k => fldv ad (tyC ci k) (rs.getD k none) (mem a k)).set k (.int x))) = wsL E.2.2.1 E.2.2.2.1 ad lay (mset mem a k x) := by
  obtain ⟨h1, h2, h3, h4, -, -⟩ := hO
  rw [fl_set (g' := fun j => fldv ad (tyC ci j) (rs.getD j none) (upd (mem a) k x j)), mset, ← wsL_set hl, encO]
  · rw [h3]; rcases hty with q | q <;> simp [fldv, q, upd]
  · intro j hj; simp [upd, hj]
theorem g_put (C : Cx E κ cc own nL ret d) {ci N index a : Nat} {Cn : String} {T : u_T} {ty : Nat → FieldType} (hO : Ok ci Cn T N ty) (k : Nat) {rs : List (Option Nat)} {x : Int32} (hk : k < N) (hw : Cond.fieldLink own index (T k).1 (T k).2.1 (T k).2.2.1 ∈ TB) (hd : decode cc pc = .ok (.putfield index, 3)) (hfin : (T k).2.2.2 = false) (hty : ty k = .int) (hl : lay[a]? = some (.inr (ci, rs))) (K : Gw E κ nL ce sl (pc + 3) lv st ad lay (mset mem a k x)) : Gw E κ nL ce sl pc lv (.int x :: .ref (ad a) :: st) ad lay mem := by
  obtain ⟨p, e, R, s, m, args, below, meth, c, Q⟩ := κ
  obtain ⟨h1, h2, h3, h4, h5, h6⟩ := id hO
  obtain ⟨hx, hb, -, ho, ht, hK, -⟩ := C
  intro H locs ls hR hS hL
  refine va_put hx hb ht h4 ty h5 h6 ho hK hR.P hR.A.D hS a (wsL_at hl) h1 k hk (ht _ hw) (fun _ z => z) hfin (ty := ty k) (h5 k hk) (by rw [hty]; rfl) (by rw [hty]; rfl) (by simp [h2, hk]) hd (fun H1 locs1 hP1 _ hS1 => K H1 locs1 ls ?_ hS1 hL)
  rw [put_eq hO (Or.inl hty) hl] at hP1
  exact Rel.mk hP1 hR.A
theorem g_putN (C : Cx E κ cc own nL ret d) {ci N index a : Nat} {Cn host : String} {T : u_T} {ty : Nat → FieldType} (hO : Ok ci Cn T N ty) (k : Nat) {rs : List (Option Nat)} {x : Int32} (hk : k < N) (hw : Cond.fieldLinkNest own index (T k).1 (T k).2.1 (T k).2.2.1 host ∈ NW) (hd : decode cc pc = .ok (.putfield index, 3)) (hfin : (T k).2.2.2 = false) (hty : ty k = .int) (hl : lay[a]? = some (.inr (ci, rs))) (K : Gw E κ nL ce sl (pc + 3) lv st ad lay (mset mem a k x)) : Gw E κ nL ce sl pc lv (.int x :: .ref (ad a) :: st) ad lay mem := by
  obtain ⟨p, e, R, s, m, args, below, meth, c, Q⟩ := κ
  obtain ⟨h1, h2, h3, h4, h5, h6⟩ := id hO
  obtain ⟨hx, hb, -, ho, ht, hK, hN, -⟩ := C
  intro H locs ls hR hS hL
  refine va_putN hx hb ht h4 ty h5 h6 ho hK hR.P hR.A.D hS a (wsL_at hl) h1 k hk (va_Nw.use rfl (hN _ hw)) (fun _ z => z) hfin (ty := ty k) (h5 k hk) (by rw [hty]; rfl) (by rw [hty]; rfl) (by simp [h2, hk]) hd (fun H1 locs1 hP1 _ hS1 => K H1 locs1 ls ?_ hS1 hL)
  rw [put_eq hO (Or.inl hty) hl] at hP1
  exact Rel.mk hP1 hR.A
/-- a boolean field: 0 or 1 -/
theorem nb01 {x : Int32} (h : x = 0 ∨ x = 1) : narrow .boolean (.int x) = .int x ∧ fits .boolean (.int x) = true := by
  rcases h with rfl | rfl <;> exact ⟨rfl, rfl⟩
theorem g_putZ (C : Cx E κ cc own nL ret d) {ci N index a : Nat} {Cn : String} {T : u_T} {ty : Nat → FieldType} (hO : Ok ci Cn T N ty) (k : Nat) {rs : List (Option Nat)} {x : Int32} (hk : k < N) (hw : Cond.fieldLink own index (T k).1 (T k).2.1 (T k).2.2.1 ∈ TB) (hd : decode cc pc = .ok (.putfield index, 3)) (hfin : (T k).2.2.2 = false) (hty : ty k = .boolean) (hx01 : x = 0 ∨ x = 1) (hl : lay[a]? = some (.inr (ci, rs))) (K : Gw E κ nL ce sl (pc + 3) lv st ad lay (mset mem a k x)) : Gw E κ nL ce sl pc lv (.int x :: .ref (ad a) :: st) ad lay mem := by
  obtain ⟨p, e, R, s, m, args, below, meth, c, Q⟩ := κ
  obtain ⟨h1, h2, h3, h4, h5, h6⟩ := id hO
  obtain ⟨hx, hb, -, ho, ht, hK, -⟩ := C
  intro H locs ls hR hS hL
  refine va_put hx hb ht h4 ty h5 h6 ho hK hR.P hR.A.D hS a (wsL_at hl) h1 k hk (ht _ hw) (fun _ z => z) hfin (ty := ty k) (h5 k hk) (by rw [hty]; exact (nb01 hx01).1) (by rw [hty]; exact (nb01 hx01).2) (by simp [h2, hk]) hd (fun H1 locs1 hP1 _ hS1 => K H1 locs1 ls ?_ hS1 hL)
  rw [put_eq hO (Or.inr hty) hl] at hP1
  exact Rel.mk hP1 hR.A
/-- a reference field is written: the layout changes -/
theorem putr_eq {ci N a k r : Nat} {Cn : String} {T : u_T} {ty : Nat → FieldType} (hO : Ok ci Cn T N ty) {rs : List (Option Nat)} (hr : k < rs.length) (hty : fldv ad (ty k) (some r) (mem a k) = .ref (ad r)) (hl : lay[a]? = some (.inr (ci, rs))) : (wsL E.2.2.1 E.2.2.2.1 ad lay mem).set a (ad a, .inr (ci, ((List.range (nC ci)).map fun k => fldv ad (tyC ci k) (rs.getD k none) (mem a k)).set k (.ref (ad r)))) = wsL E.2.2.1 E.2.2.2.1 ad (lay.set a (.inr (ci, rs.set k (some r)))) mem := by
  obtain ⟨h1, h2, h3, h4, -, -⟩ := hO
  rw [fl_set (g' := fun j => fldv ad (tyC ci j) ((rs.set k (some r)).getD j none) (mem a j)), ← wsL_setR hl, encO]
  · rw [h3]; simpa [List.getD, hr] using hty
  · intro j hj; simp [List.getD, List.getElem?_set_ne (fun q => hj q.symm)]
theorem g_putR (C : Cx E κ cc own nL ret d) {ci N index a r : Nat} {Cn : String} {T : u_T} {ty : Nat → FieldType} (hO : Ok ci Cn T N ty) (k : Nat) {rs : List (Option Nat)} (hk : k < N) (hw : Cond.fieldLink own index (T k).1 (T k).2.1 (T k).2.2.1 ∈ TB) (hd : decode cc pc = .ok (.putfield index, 3)) (hfin : (T k).2.2.2 = false) (hn : narrow (ty k) (.ref (ad r)) = .ref (ad r)) (hf : fits (ty k) (.ref (ad r)) = true) (hr : k < rs.length) (hty : fldv ad (ty k) (some r) (mem a k) = .ref (ad r)) (hl : lay[a]? = some (.inr (ci, rs))) (K : Gw E κ nL ce sl (pc + 3) lv st ad (lay.set a (.inr (ci, rs.set k (some r)))) mem) : Gw E κ nL ce sl pc lv (.ref (ad r) :: .ref (ad a) :: st) ad lay mem := by
  obtain ⟨p, e, R, s, m, args, below, meth, c, Q⟩ := κ
  obtain ⟨h1, h2, h3, h4, h5, h6⟩ := id hO
  obtain ⟨hx, hb, -, ho, ht, hK, -⟩ := C
  intro H locs ls hR hS hL
  refine va_put hx hb ht h4 ty h5 h6 ho hK hR.P hR.A.D hS a (wsL_at hl) h1 k hk (ht _ hw) (fun _ z => z) hfin (ty := ty k) (h5 k hk) hn hf (by simp [h2, hk]) hd (fun H1 locs1 hP1 _ hS1 => K H1 locs1 ls ?_ hS1 hL)
  rw [putr_eq hO hr hty hl] at hP1
  exact Rel.mk hP1 (by rw [List.length_set]; exact hR.A)
theorem g_iald (C : Cx E κ cc own nL ret d) {a n : Nat} {i : Int32} (hd : decode cc pc = .ok (.iaload, 1)) (hl : lay[a]? = some (.inl (false, n))) (hin : vp_in i n) (K : Gw E κ nL ce sl (pc + 1) lv (.int (mem a i.toNatClampNeg) :: st) ad lay mem) : Gw E κ nL ce sl pc lv (.int i :: .ref (ad a) :: st) ad lay mem := by
  obtain ⟨p, e, R, s, m, args, below, meth, c, Q⟩ := κ
  obtain ⟨hx, hb, -, ho, ht, hK, -⟩ := C
  intro H locs ls hR hS hL
  exact va_iald hx hb hK hR.P a 0 (wsL_at hl) rfl hin hd (K H locs ls hR hS hL)
theorem g_zald (C : Cx E κ cc own nL ret d) {a n : Nat} {i : Int32} (hd : decode cc pc = .ok (.baload, 1)) (hl : lay[a]? = some (.inl (true, n))) (hin : vp_in i n) (K : Gw E κ nL ce sl (pc + 1) lv (.int (mem a i.toNatClampNeg) :: st) ad lay mem) : Gw E κ nL ce sl pc lv (.int i :: .ref (ad a) :: st) ad lay mem := by
  obtain ⟨p, e, R, s, m, args, below, meth, c, Q⟩ := κ
  obtain ⟨hx, hb, -, ho, ht, hK, -⟩ := C
  intro H locs ls hR hS hL
  exact va_zald hx hb hK hR.P a 1 (wsL_at hl) rfl hin hd (K H locs ls hR hS hL)
theorem g_iast (C : Cx E κ cc own nL ret d) {a n : Nat} {i x : Int32} (hd : decode cc pc = .ok (.iastore, 1)) (hl : lay[a]? = some (.inl (false, n))) (hin : vp_in i n) (K : Gw E κ nL ce sl (pc + 1) lv st ad lay (mset mem a i.toNatClampNeg x)) : Gw E κ nL ce sl pc lv (.int x :: .int i :: .ref (ad a) :: st) ad lay mem := by
  obtain ⟨p, e, R, s, m, args, below, meth, c, Q⟩ := κ
  obtain ⟨hx, hb, -, ho, ht, hK, -⟩ := C
  intro H locs ls hR hS hL
  refine va_iast hx hb hK hR.P hR.A.D hS a 0 (wsL_at hl) rfl hin hd (fun H1 locs1 hP1 _ hS1 => K H1 locs1 ls ?_ hS1 hL)
  have e := wsL_set (cI := E.2.2.1) (cZ := E.2.2.2.1) (ad := ad) (mem := mem) hl (upd (mem a) i.toNatClampNeg x)
  exact Rel.mk (by rw [mset, ← e]; exact hP1) hR.A
theorem g_zast (C : Cx E κ cc own nL ret d) {a n : Nat} {i x : Int32} (hd : decode cc pc = .ok (.bastore, 1)) (hl : lay[a]? = some (.inl (true, n))) (hin : vp_in i n) (K : Gw E κ nL ce sl (pc + 1) lv st ad lay (mset mem a i.toNatClampNeg (vp_nar .boolean x))) : Gw E κ nL ce sl pc lv (.int x :: .int i :: .ref (ad a) :: st) ad lay mem := by
  obtain ⟨p, e, R, s, m, args, below, meth, c, Q⟩ := κ
  obtain ⟨hx, hb, -, ho, ht, hK, -⟩ := C
  intro H locs ls hR hS hL
  refine va_zast hx hb hK hR.P hR.A.D hS a 1 (wsL_at hl) rfl hin hd (fun H1 locs1 hP1 _ hS1 => K H1 locs1 ls ?_ hS1 hL)
  have e := wsL_set (cI := E.2.2.1) (cZ := E.2.2.2.1) (ad := ad) (mem := mem) hl (upd (mem a) i.toNatClampNeg (vp_nar .boolean x))
  exact Rel.mk (by rw [mset, ← e]; exact hP1) hR.A
theorem g_alen (C : Cx E κ cc own nL ret d) {a n : Nat} (hd : decode cc pc = .ok (.arraylength, 1)) (hl : lay[a]? = some (.inl (false, n))) (K : Gw E κ nL ce sl (pc + 1) lv (.int (nI n) :: st) ad lay mem) : Gw E κ nL ce sl pc lv (.ref (ad a) :: st) ad lay mem := by
  obtain ⟨p, e, R, s, m, args, below, meth, c, Q⟩ := κ
  obtain ⟨hx, hb, -, ho, ht, hK, -⟩ := C
  intro H locs ls hR hS hL
  exact va_alen hx hb hK hR.P a 0 (wsL_at hl) rfl rfl hd (K H locs ls hR hS hL)
/-- System.arraycopy over int arrays -/
theorem g_copy (C : Cx E κ cc own nL ret d) (hdd : 2 ≤ d) {index a0 n0 a n1 : Nat} {sp dp n : Int32} (hw : Cond.methodLink own index arraycopyName ∈ TB) (hn1 : Cond.native arraycopyName ∈ TB) (hn2 : Cond.static arraycopyName ∈ TB) (hn3 : Cond.initialized "java/lang/System" ∈ TB) (hd : decode cc pc = .ok (.invokestatic index, 3)) (hl0 : lay[a0]? = some (.inl (false, n0))) (hl : lay[a]? = some (.inl (false, n1))) (hst : (st.map fun v => v.category).sum ≤ 8)
    (h : ¬ sp < 0 ∧ ¬ dp < 0 ∧ ¬ n < 0 ∧ sp.toNatClampNeg + n.toNatClampNeg ≤ n0 ∧ dp.toNatClampNeg + n.toNatClampNeg ≤ n1) (K : Gw E κ nL ce sl (pc + 3) lv st ad lay (va_up mem a (va_cpy (mem a0) (mem a) sp.toNatClampNeg dp.toNatClampNeg n.toNatClampNeg))) : Gw E κ nL ce sl pc lv (.int n :: .int dp :: .ref (ad a) :: .int sp :: .ref (ad a0) :: st) ad lay mem := by
  obtain ⟨p, e, R, s, m, args, below, meth, c, Q⟩ := κ
  obtain ⟨hx, hb, hml, ho, ht, hK, -, -, -, -, hf, hlo⟩ := C
  intro H locs ls hR hS hL
  obtain ⟨h1, h2, h3, h4, h5⟩ := h
  have hnat : nativeFrameWords "java/lang/System" "arraycopy" 5 ≤ 60 := by decide +kernel
  refine va_copyi hx hb (by rw [hml, hL.1]) ho (ht _ hw) (ht _ hn1) (ht _ hn2) (ht _ hn3) hK hR.P hR.A.D hS a0 a 0 0 (wsL_at hl0) (wsL_at hl) rfl rfl rfl h1 h2 h3 h4 h5 (fun _ _ => rfl) (by omega) (by omega) hd (fun H1 locs1 hP1 _ hS1 => K H1 locs1 ls ?_ hS1 hL)
  have e := wsL_set (cI := E.2.2.1) (cZ := E.2.2.2.1) (ad := ad) (mem := mem) hl (va_cpy (mem a0) (mem a) sp.toNatClampNeg dp.toNatClampNeg n.toNatClampNeg)
  exact Rel.mk (by rw [← e]; exact hP1) hR.A
end HEAP
