/-! one rule an instruction, over the kit's rows -/
section RULES
variable {E : Ex} {κ : Kx} {cc : ByteArray} {own : String} {nL ce sl pc d : Nat} {ret : Option FieldType} {lv : List (Option Value)} {st : List Value} {ad : Nat → Nat} {lay : List Ent} {mem : Mem}
theorem g_iconst (C : Cx E κ cc own nL ret d) {n : Int} {v : Int32} (hd : decode cc pc = .ok (.iconst n, 1)) (hv : Int32.ofInt n = v) (k : Gw E κ nL ce sl (pc + 1) lv (.int v :: st) ad lay mem) : Gw E κ nL ce sl pc lv st ad lay mem := by
  obtain ⟨p, e, R, s, m, args, below, meth, c, Q⟩ := κ
  exact fun H locs ls hR hS hL => lv_iconst C.1 C.2.1 hd hv (k H locs ls hR hS hL)
theorem g_bipush (C : Cx E κ cc own nL ret d) {n : Int} {v : Int32} (hd : decode cc pc = .ok (.bipush n, 2)) (hv : (Int8.ofInt n).toInt32 = v) (k : Gw E κ nL ce sl (pc + 2) lv (.int v :: st) ad lay mem) : Gw E κ nL ce sl pc lv st ad lay mem := by
  obtain ⟨p, e, R, s, m, args, below, meth, c, Q⟩ := κ
  exact fun H locs ls hR hS hL => lv_bipush C.1 C.2.1 hd hv (k H locs ls hR hS hL)
theorem g_sipush (C : Cx E κ cc own nL ret d) {n : Int} {v : Int32} (hd : decode cc pc = .ok (.sipush n, 3)) (hv : (Int16.ofInt n).toInt32 = v) (k : Gw E κ nL ce sl (pc + 3) lv (.int v :: st) ad lay mem) : Gw E κ nL ce sl pc lv st ad lay mem := by
  obtain ⟨p, e, R, s, m, args, below, meth, c, Q⟩ := κ
  exact fun H locs ls hR hS hL => lv_sipush C.1 C.2.1 hd hv (k H locs ls hR hS hL)
theorem g_lconst (C : Cx E κ cc own nL ret d) {n : Fin 2} {v : Int64} (hd : decode cc pc = .ok (.lconst n, 1)) (hv : Int64.ofNat (n : Nat) = v) (k : Gw E κ nL ce sl (pc + 1) lv (.long v :: st) ad lay mem) : Gw E κ nL ce sl pc lv st ad lay mem := by
  obtain ⟨p, e, R, s, m, args, below, meth, c, Q⟩ := κ
  exact fun H locs ls hR hS hL => lv_lconst C.1 C.2.1 hd hv (k H locs ls hR hS hL)
theorem g_ldc (C : Cx E κ cc own nL ret d) {index : Nat} {v : Int32} (hw : Cond.constant own index v ∈ TB) (hd : decode cc pc = .ok (.ldc index, 2)) (k : Gw E κ nL ce sl (pc + 2) lv (.int v :: st) ad lay mem) : Gw E κ nL ce sl pc lv st ad lay mem := by
  obtain ⟨p, e, R, s, m, args, below, meth, c, Q⟩ := κ
  obtain ⟨hx, hb, -, ho, ht, -⟩ := C
  exact fun H locs ls hR hS hL => lv_ldc hx hb ho (ht _ hw) hd (k H locs ls hR hS hL)
theorem g_ldcw (C : Cx E κ cc own nL ret d) {index : Nat} {v : Int32} (hw : Cond.constant own index v ∈ TB) (hd : decode cc pc = .ok (.ldc_w index, 3)) (k : Gw E κ nL ce sl (pc + 3) lv (.int v :: st) ad lay mem) : Gw E κ nL ce sl pc lv st ad lay mem := by
  obtain ⟨p, e, R, s, m, args, below, meth, c, Q⟩ := κ
  obtain ⟨hx, hb, -, ho, ht, -⟩ := C
  exact fun H locs ls hR hS hL => lv_ldcw hx hb ho (ht _ hw) hd (k H locs ls hR hS hL)
theorem g_ldc2 (C : Cx E κ cc own nL ret d) {index : Nat} {v : Int64} (hw : Cond.constantLong own index v ∈ TB) (hd : decode cc pc = .ok (.ldc2_w index, 3)) (k : Gw E κ nL ce sl (pc + 3) lv (.long v :: st) ad lay mem) : Gw E κ nL ce sl pc lv st ad lay mem := by
  obtain ⟨p, e, R, s, m, args, below, meth, c, Q⟩ := κ
  obtain ⟨hx, hb, -, ho, ht, -⟩ := C
  exact fun H locs ls hR hS hL => lv_ldc2 hx hb ho (ht _ hw) hd (k H locs ls hR hS hL)
theorem g_iload_n (C : Cx E κ cc own nL ret d) {k : Fin 4} {i : Nat} {x : Int32} (hd : decode cc pc = .ok (.iload_n k, 1)) (hi : (k : Nat) = i) (hl : lv[i]? = some (some (.int x))) (k : Gw E κ nL ce sl (pc + 1) lv (.int x :: st) ad lay mem) : Gw E κ nL ce sl pc lv st ad lay mem := by
  obtain ⟨p, e, R, s, m, args, below, meth, c, Q⟩ := κ
  exact fun H locs ls hR hS hL => lv_iload_n C.1 C.2.1 hd hi (hL.2.2 _ _ hl) (k H locs ls hR hS hL)
theorem g_lload_n (C : Cx E κ cc own nL ret d) {k : Fin 4} {i : Nat} {x : Int64} (hd : decode cc pc = .ok (.lload_n k, 1)) (hi : (k : Nat) = i) (hl : lv[i]? = some (some (.long x))) (k : Gw E κ nL ce sl (pc + 1) lv (.long x :: st) ad lay mem) : Gw E κ nL ce sl pc lv st ad lay mem := by
  obtain ⟨p, e, R, s, m, args, below, meth, c, Q⟩ := κ
  exact fun H locs ls hR hS hL => lv_lload_n C.1 C.2.1 hd hi (hL.2.2 _ _ hl) (k H locs ls hR hS hL)
theorem g_aload_n (C : Cx E κ cc own nL ret d) {k : Fin 4} {i : Nat} {x : Nat} (hd : decode cc pc = .ok (.aload_n k, 1)) (hi : (k : Nat) = i) (hl : lv[i]? = some (some (.ref x))) (k : Gw E κ nL ce sl (pc + 1) lv (.ref x :: st) ad lay mem) : Gw E κ nL ce sl pc lv st ad lay mem := by
  obtain ⟨p, e, R, s, m, args, below, meth, c, Q⟩ := κ
  exact fun H locs ls hR hS hL => lv_aload_n C.1 C.2.1 hd hi (hL.2.2 _ _ hl) (k H locs ls hR hS hL)
theorem g_iload (C : Cx E κ cc own nL ret d) {i : Nat} {x : Int32} (hd : decode cc pc = .ok (.iload i, 2)) (hl : lv[i]? = some (some (.int x))) (k : Gw E κ nL ce sl (pc + 2) lv (.int x :: st) ad lay mem) : Gw E κ nL ce sl pc lv st ad lay mem := by
  obtain ⟨p, e, R, s, m, args, below, meth, c, Q⟩ := κ
  exact fun H locs ls hR hS hL => lv_iload C.1 C.2.1 hd (hL.2.2 _ _ hl) (k H locs ls hR hS hL)
theorem g_lload (C : Cx E κ cc own nL ret d) {i : Nat} {x : Int64} (hd : decode cc pc = .ok (.lload i, 2)) (hl : lv[i]? = some (some (.long x))) (k : Gw E κ nL ce sl (pc + 2) lv (.long x :: st) ad lay mem) : Gw E κ nL ce sl pc lv st ad lay mem := by
  obtain ⟨p, e, R, s, m, args, below, meth, c, Q⟩ := κ
  exact fun H locs ls hR hS hL => lv_lload C.1 C.2.1 hd (hL.2.2 _ _ hl) (k H locs ls hR hS hL)
theorem g_aload (C : Cx E κ cc own nL ret d) {i : Nat} {x : Nat} (hd : decode cc pc = .ok (.aload i, 2)) (hl : lv[i]? = some (some (.ref x))) (k : Gw E κ nL ce sl (pc + 2) lv (.ref x :: st) ad lay mem) : Gw E κ nL ce sl pc lv st ad lay mem := by
  obtain ⟨p, e, R, s, m, args, below, meth, c, Q⟩ := κ
  exact fun H locs ls hR hS hL => lv_aload C.1 C.2.1 hd (hL.2.2 _ _ hl) (k H locs ls hR hS hL)
theorem g_istore_n (C : Cx E κ cc own nL ret d) {k : Fin 4} {i : Nat} {x : Int32} {lv' : List (Option Value)} (hd : decode cc pc = .ok (.istore_n k, 1)) (hi : (k : Nat) = i) (hn : i < nL) (hok : okS lv i = true) (hl : (lv.set i (some (.int x))) = lv') (k : Gw E κ nL ce sl (pc + 1) lv' st ad lay mem) : Gw E κ nL ce sl pc lv (.int x :: st) ad lay mem := by
  subst hl
  obtain ⟨p, e, R, s, m, args, below, meth, c, Q⟩ := κ
  exact fun H locs ls hR hS hL => lv_istore_n C.1 C.2.1 hd hi hL.has hn rfl (fun ls' hl' => k H locs ls' hR hS (Lv.st1 hok hl'))
theorem g_istore (C : Cx E κ cc own nL ret d) {i : Nat} {x : Int32} {lv' : List (Option Value)} (hd : decode cc pc = .ok (.istore i, 2)) (hn : i < nL) (hok : okS lv i = true) (hl : (lv.set i (some (.int x))) = lv') (k : Gw E κ nL ce sl (pc + 2) lv' st ad lay mem) : Gw E κ nL ce sl pc lv (.int x :: st) ad lay mem := by
  subst hl
  obtain ⟨p, e, R, s, m, args, below, meth, c, Q⟩ := κ
  exact fun H locs ls hR hS hL => lv_istore C.1 C.2.1 hd hL.has hn rfl (fun ls' hl' => k H locs ls' hR hS (Lv.st1 hok hl'))
theorem g_astore_n (C : Cx E κ cc own nL ret d) {k : Fin 4} {i : Nat} {x : Nat} {lv' : List (Option Value)} (hd : decode cc pc = .ok (.astore_n k, 1)) (hi : (k : Nat) = i) (hn : i < nL) (hok : okS lv i = true) (hl : (lv.set i (some (.ref x))) = lv') (k : Gw E κ nL ce sl (pc + 1) lv' st ad lay mem) : Gw E κ nL ce sl pc lv (.ref x :: st) ad lay mem := by
  subst hl
  obtain ⟨p, e, R, s, m, args, below, meth, c, Q⟩ := κ
  exact fun H locs ls hR hS hL => lv_astore_n C.1 C.2.1 hd hi hL.has hn rfl (fun ls' hl' => k H locs ls' hR hS (Lv.st1 hok hl'))
theorem g_astore (C : Cx E κ cc own nL ret d) {i : Nat} {x : Nat} {lv' : List (Option Value)} (hd : decode cc pc = .ok (.astore i, 2)) (hn : i < nL) (hok : okS lv i = true) (hl : (lv.set i (some (.ref x))) = lv') (k : Gw E κ nL ce sl (pc + 2) lv' st ad lay mem) : Gw E κ nL ce sl pc lv (.ref x :: st) ad lay mem := by
  subst hl
  obtain ⟨p, e, R, s, m, args, below, meth, c, Q⟩ := κ
  exact fun H locs ls hR hS hL => lv_astore C.1 C.2.1 hd hL.has hn rfl (fun ls' hl' => k H locs ls' hR hS (Lv.st1 hok hl'))
theorem g_lstore_n (C : Cx E κ cc own nL ret d) {k : Fin 4} {i : Nat} {x : Int64} {lv' : List (Option Value)} (hd : decode cc pc = .ok (.lstore_n k, 1)) (hi : (k : Nat) = i) (hn : i + 1 < nL) (hok : okS lv i = true) (hl : ((lv.set i (some (.long x))).set (i + 1) none) = lv') (k : Gw E κ nL ce sl (pc + 1) lv' st ad lay mem) : Gw E κ nL ce sl pc lv (.long x :: st) ad lay mem := by
  subst hl
  obtain ⟨p, e, R, s, m, args, below, meth, c, Q⟩ := κ
  exact fun H locs ls hR hS hL => lv_lstore_n C.1 C.2.1 hd hi hL.has hn rfl (fun ls' hl' => k H locs ls' hR hS (Lv.st2 hok hl'))
theorem g_lstore (C : Cx E κ cc own nL ret d) {i : Nat} {x : Int64} {lv' : List (Option Value)} (hd : decode cc pc = .ok (.lstore i, 2)) (hn : i + 1 < nL) (hok : okS lv i = true) (hl : ((lv.set i (some (.long x))).set (i + 1) none) = lv') (k : Gw E κ nL ce sl (pc + 2) lv' st ad lay mem) : Gw E κ nL ce sl pc lv (.long x :: st) ad lay mem := by
  subst hl
  obtain ⟨p, e, R, s, m, args, below, meth, c, Q⟩ := κ
  exact fun H locs ls hR hS hL => lv_lstore C.1 C.2.1 hd hL.has hn rfl (fun ls' hl' => k H locs ls' hR hS (Lv.st2 hok hl'))
theorem g_iinc (C : Cx E κ cc own nL ret d) {i : Nat} {n : Int} {x v : Int32} {lv' : List (Option Value)} (hd : decode cc pc = .ok (.iinc i n, 3)) (hl : lv[i]? = some (some (.int x))) (hv : x + Int32.ofInt n = v) (hn : i < nL) (hok : okS lv i = true) (hs : lv.set i (some (.int v)) = lv') (k : Gw E κ nL ce sl (pc + 3) lv' st ad lay mem) : Gw E κ nL ce sl pc lv st ad lay mem := by
  subst hs
  obtain ⟨p, e, R, s, m, args, below, meth, c, Q⟩ := κ
  intro H locs ls hR hS hL
  obtain ⟨j, hj⟩ := List.getElem?_of_mem (lvA_mem.mpr hl)
  exact lv_iinc C.1 C.2.1 hd hL.has (k := j) hj hv hn rfl (fun ls' hl' => k H locs ls' hR hS (Lv.st1 hok hl'))
theorem g_iadd (C : Cx E κ cc own nL ret d) {x y : Int32} (hd : decode cc pc = .ok (.iadd, 1)) (k : Gw E κ nL ce sl (pc + 1) lv (.int (x + y) :: st) ad lay mem) : Gw E κ nL ce sl pc lv (.int y :: .int x :: st) ad lay mem := by
  obtain ⟨p, e, R, s, m, args, below, meth, c, Q⟩ := κ
  exact fun H locs ls hR hS hL => lv_iadd C.1 C.2.1 hd (k H locs ls hR hS hL)
theorem g_isub (C : Cx E κ cc own nL ret d) {x y : Int32} (hd : decode cc pc = .ok (.isub, 1)) (k : Gw E κ nL ce sl (pc + 1) lv (.int (x - y) :: st) ad lay mem) : Gw E κ nL ce sl pc lv (.int y :: .int x :: st) ad lay mem := by
  obtain ⟨p, e, R, s, m, args, below, meth, c, Q⟩ := κ
  exact fun H locs ls hR hS hL => lv_isub C.1 C.2.1 hd (k H locs ls hR hS hL)
theorem g_imul (C : Cx E κ cc own nL ret d) {x y : Int32} (hd : decode cc pc = .ok (.imul, 1)) (k : Gw E κ nL ce sl (pc + 1) lv (.int (x * y) :: st) ad lay mem) : Gw E κ nL ce sl pc lv (.int y :: .int x :: st) ad lay mem := by
  obtain ⟨p, e, R, s, m, args, below, meth, c, Q⟩ := κ
  exact fun H locs ls hR hS hL => lv_imul C.1 C.2.1 hd (k H locs ls hR hS hL)
theorem g_iand (C : Cx E κ cc own nL ret d) {x y : Int32} (hd : decode cc pc = .ok (.iand, 1)) (k : Gw E κ nL ce sl (pc + 1) lv (.int (x &&& y) :: st) ad lay mem) : Gw E κ nL ce sl pc lv (.int y :: .int x :: st) ad lay mem := by
  obtain ⟨p, e, R, s, m, args, below, meth, c, Q⟩ := κ
  exact fun H locs ls hR hS hL => lv_iand C.1 C.2.1 hd (k H locs ls hR hS hL)
theorem g_ior (C : Cx E κ cc own nL ret d) {x y : Int32} (hd : decode cc pc = .ok (.ior, 1)) (k : Gw E κ nL ce sl (pc + 1) lv (.int (x ||| y) :: st) ad lay mem) : Gw E κ nL ce sl pc lv (.int y :: .int x :: st) ad lay mem := by
  obtain ⟨p, e, R, s, m, args, below, meth, c, Q⟩ := κ
  exact fun H locs ls hR hS hL => lv_ior C.1 C.2.1 hd (k H locs ls hR hS hL)
theorem g_ixor (C : Cx E κ cc own nL ret d) {x y : Int32} (hd : decode cc pc = .ok (.ixor, 1)) (k : Gw E κ nL ce sl (pc + 1) lv (.int (x ^^^ y) :: st) ad lay mem) : Gw E κ nL ce sl pc lv (.int y :: .int x :: st) ad lay mem := by
  obtain ⟨p, e, R, s, m, args, below, meth, c, Q⟩ := κ
  exact fun H locs ls hR hS hL => lv_ixor C.1 C.2.1 hd (k H locs ls hR hS hL)
theorem g_ladd (C : Cx E κ cc own nL ret d) {x y : Int64} (hd : decode cc pc = .ok (.ladd, 1)) (k : Gw E κ nL ce sl (pc + 1) lv (.long (x + y) :: st) ad lay mem) : Gw E κ nL ce sl pc lv (.long y :: .long x :: st) ad lay mem := by
  obtain ⟨p, e, R, s, m, args, below, meth, c, Q⟩ := κ
  exact fun H locs ls hR hS hL => lv_ladd C.1 C.2.1 hd (k H locs ls hR hS hL)
theorem g_lmul (C : Cx E κ cc own nL ret d) {x y : Int64} (hd : decode cc pc = .ok (.lmul, 1)) (k : Gw E κ nL ce sl (pc + 1) lv (.long (x * y) :: st) ad lay mem) : Gw E κ nL ce sl pc lv (.long y :: .long x :: st) ad lay mem := by
  obtain ⟨p, e, R, s, m, args, below, meth, c, Q⟩ := κ
  exact fun H locs ls hR hS hL => lv_lmul C.1 C.2.1 hd (k H locs ls hR hS hL)
theorem g_lsub (C : Cx E κ cc own nL ret d) {x y : Int64} (hd : decode cc pc = .ok (.lsub, 1)) (k : Gw E κ nL ce sl (pc + 1) lv (.long (x - y) :: st) ad lay mem) : Gw E κ nL ce sl pc lv (.long y :: .long x :: st) ad lay mem := by
  obtain ⟨p, e, R, s, m, args, below, meth, c, Q⟩ := κ
  exact fun H locs ls hR hS hL => lv_lsub C.1 C.2.1 hd (k H locs ls hR hS hL)
theorem g_ishl (C : Cx E κ cc own nL ret d) {x y : Int32} (hd : decode cc pc = .ok (.ishl, 1)) (k : Gw E κ nL ce sl (pc + 1) lv (.int (x <<< (y &&& 31)) :: st) ad lay mem) : Gw E κ nL ce sl pc lv (.int y :: .int x :: st) ad lay mem := by
  obtain ⟨p, e, R, s, m, args, below, meth, c, Q⟩ := κ
  exact fun H locs ls hR hS hL => lv_ishl C.1 C.2.1 hd (k H locs ls hR hS hL)
theorem g_ishr (C : Cx E κ cc own nL ret d) {x y : Int32} (hd : decode cc pc = .ok (.ishr, 1)) (k : Gw E κ nL ce sl (pc + 1) lv (.int (x >>> (y &&& 31)) :: st) ad lay mem) : Gw E κ nL ce sl pc lv (.int y :: .int x :: st) ad lay mem := by
  obtain ⟨p, e, R, s, m, args, below, meth, c, Q⟩ := κ
  exact fun H locs ls hR hS hL => lv_ishr C.1 C.2.1 hd (k H locs ls hR hS hL)
theorem g_iushr (C : Cx E κ cc own nL ret d) {x y : Int32} (hd : decode cc pc = .ok (.iushr, 1)) (k : Gw E κ nL ce sl (pc + 1) lv (.int (x.toUInt32 >>> (y.toUInt32 &&& Int32.toUInt32 31)).toInt32 :: st) ad lay mem) : Gw E κ nL ce sl pc lv (.int y :: .int x :: st) ad lay mem := by
  obtain ⟨p, e, R, s, m, args, below, meth, c, Q⟩ := κ
  exact fun H locs ls hR hS hL => lv_iushr C.1 C.2.1 hd rfl (k H locs ls hR hS hL)
theorem g_idiv (C : Cx E κ cc own nL ret d) {x y : Int32} (hd : decode cc pc = .ok (.idiv, 1)) (hne : ¬ y = 0) (k : Gw E κ nL ce sl (pc + 1) lv (.int (x / y) :: st) ad lay mem) : Gw E κ nL ce sl pc lv (.int y :: .int x :: st) ad lay mem := by
  obtain ⟨p, e, R, s, m, args, below, meth, c, Q⟩ := κ
  exact fun H locs ls hR hS hL => lv_idiv C.1 C.2.1 hd hne (k H locs ls hR hS hL)
theorem g_irem (C : Cx E κ cc own nL ret d) {x y : Int32} (hd : decode cc pc = .ok (.irem, 1)) (hne : ¬ y = 0) (k : Gw E κ nL ce sl (pc + 1) lv (.int (x - x / y * y) :: st) ad lay mem) : Gw E κ nL ce sl pc lv (.int y :: .int x :: st) ad lay mem := by
  obtain ⟨p, e, R, s, m, args, below, meth, c, Q⟩ := κ
  exact fun H locs ls hR hS hL => lv_irem C.1 C.2.1 hd hne (k H locs ls hR hS hL)
theorem g_ldiv (C : Cx E κ cc own nL ret d) {x y : Int64} (hd : decode cc pc = .ok (.ldiv, 1)) (hne : ¬ y = 0) (k : Gw E κ nL ce sl (pc + 1) lv (.long (x / y) :: st) ad lay mem) : Gw E κ nL ce sl pc lv (.long y :: .long x :: st) ad lay mem := by
  obtain ⟨p, e, R, s, m, args, below, meth, c, Q⟩ := κ
  exact fun H locs ls hR hS hL => lv_ldiv C.1 C.2.1 hd hne (k H locs ls hR hS hL)
theorem g_lrem (C : Cx E κ cc own nL ret d) {x y : Int64} (hd : decode cc pc = .ok (.lrem, 1)) (hne : ¬ y = 0) (k : Gw E κ nL ce sl (pc + 1) lv (.long (x - x / y * y) :: st) ad lay mem) : Gw E κ nL ce sl pc lv (.long y :: .long x :: st) ad lay mem := by
  obtain ⟨p, e, R, s, m, args, below, meth, c, Q⟩ := κ
  exact fun H locs ls hR hS hL => lv_lrem C.1 C.2.1 hd hne (k H locs ls hR hS hL)
theorem g_i2l (C : Cx E κ cc own nL ret d) {x : Int32} (hd : decode cc pc = .ok (.i2l, 1)) (k : Gw E κ nL ce sl (pc + 1) lv (.long x.toInt64 :: st) ad lay mem) : Gw E κ nL ce sl pc lv (.int x :: st) ad lay mem := by
  obtain ⟨p, e, R, s, m, args, below, meth, c, Q⟩ := κ
  exact fun H locs ls hR hS hL => lv_i2l C.1 C.2.1 hd rfl (k H locs ls hR hS hL)
theorem g_l2i (C : Cx E κ cc own nL ret d) {x : Int64} (hd : decode cc pc = .ok (.l2i, 1)) (k : Gw E κ nL ce sl (pc + 1) lv (.int x.toInt32 :: st) ad lay mem) : Gw E κ nL ce sl pc lv (.long x :: st) ad lay mem := by
  obtain ⟨p, e, R, s, m, args, below, meth, c, Q⟩ := κ
  exact fun H locs ls hR hS hL => lv_l2i C.1 C.2.1 hd rfl (k H locs ls hR hS hL)
theorem g_i2c (C : Cx E κ cc own nL ret d) {x : Int32} (hd : decode cc pc = .ok (.i2c, 1)) (k : Gw E κ nL ce sl (pc + 1) lv (.int (x.toUInt32 % 65536).toInt32 :: st) ad lay mem) : Gw E κ nL ce sl pc lv (.int x :: st) ad lay mem := by
  obtain ⟨p, e, R, s, m, args, below, meth, c, Q⟩ := κ
  exact fun H locs ls hR hS hL => lv_i2c C.1 C.2.1 hd rfl (k H locs ls hR hS hL)
theorem g_lcmp (C : Cx E κ cc own nL ret d) {x y : Int64} (hd : decode cc pc = .ok (.lcmp, 1)) (k : Gw E κ nL ce sl (pc + 1) lv (.int (lg_cmp x y) :: st) ad lay mem) : Gw E κ nL ce sl pc lv (.long y :: .long x :: st) ad lay mem := by
  obtain ⟨p, e, R, s, m, args, below, meth, c, Q⟩ := κ
  exact fun H locs ls hR hS hL => W.lcmp C.1 C.2.1 hd (k H locs ls hR hS hL)
theorem g_dup (C : Cx E κ cc own nL ret d) {v : Value} (hd : decode cc pc = .ok (.dup, 1)) (hc : v.category = 1) (k : Gw E κ nL ce sl (pc + 1) lv (v :: v :: st) ad lay mem) : Gw E κ nL ce sl pc lv (v :: st) ad lay mem := by
  obtain ⟨p, e, R, s, m, args, below, meth, c, Q⟩ := κ
  exact fun H locs ls hR hS hL => lv_dup C.1 C.2.1 hd hc (k H locs ls hR hS hL)
theorem g_dup2 (C : Cx E κ cc own nL ret d) {v w : Value} (hd : decode cc pc = .ok (.dup2, 1)) (hc : v.category = 1) (hc2 : w.category = 1) (k : Gw E κ nL ce sl (pc + 1) lv (v :: w :: v :: w :: st) ad lay mem) : Gw E κ nL ce sl pc lv (v :: w :: st) ad lay mem := by
  obtain ⟨p, e, R, s, m, args, below, meth, c, Q⟩ := κ
  exact fun H locs ls hR hS hL => lv_dup2_11 C.1 C.2.1 hd hc hc2 (k H locs ls hR hS hL)
theorem g_pop (C : Cx E κ cc own nL ret d) {v : Value} (hd : decode cc pc = .ok (.pop, 1)) (hc : v.category = 1) (k : Gw E κ nL ce sl (pc + 1) lv st ad lay mem) : Gw E κ nL ce sl pc lv (v :: st) ad lay mem := by
  obtain ⟨p, e, R, s, m, args, below, meth, c, Q⟩ := κ
  exact fun H locs ls hR hS hL => lv_pop C.1 C.2.1 hd hc (k H locs ls hR hS hL)
theorem g_goto (C : Cx E κ cc own nL ret d) {off : Int} (tgt : Nat) (hd : decode cc pc = .ok (.goto off, 3)) (ht : (pc : Int) + off = (tgt : Int)) (k : Gw E κ nL ce sl tgt lv st ad lay mem) : Gw E κ nL ce sl pc lv st ad lay mem := by
  obtain ⟨p, e, R, s, m, args, below, meth, c, Q⟩ := κ
  exact fun H locs ls hR hS hL => lv_goto C.1 C.2.1 hd ht (k H locs ls hR hS hL)
theorem g_if_eq_t (C : Cx E κ cc own nL ret d) {x : Int32} {off : Int} (tgt : Nat) (hd : decode cc pc = .ok (.ifCond .eq off, 3)) (ht : (pc : Int) + off = (tgt : Int)) (hc : x = 0) (k : Gw E κ nL ce sl tgt lv st ad lay mem) : Gw E κ nL ce sl pc lv (.int x :: st) ad lay mem := by
  obtain ⟨p, e, R, s, m, args, below, meth, c, Q⟩ := κ
  exact fun H locs ls hR hS hL => lv_if_eq C.1 C.2.1 hd ht (fun _ => k H locs ls hR hS hL) (fun q => absurd hc q)
theorem g_if_eq_f (C : Cx E κ cc own nL ret d) {x : Int32} {off : Int} (tgt : Nat) (hd : decode cc pc = .ok (.ifCond .eq off, 3)) (ht : (pc : Int) + off = (tgt : Int)) (hc : ¬ (x = 0)) (k : Gw E κ nL ce sl (pc + 3) lv st ad lay mem) : Gw E κ nL ce sl pc lv (.int x :: st) ad lay mem := by
  obtain ⟨p, e, R, s, m, args, below, meth, c, Q⟩ := κ
  exact fun H locs ls hR hS hL => lv_if_eq C.1 C.2.1 hd ht (fun q => absurd q hc) (fun _ => k H locs ls hR hS hL)
theorem g_icmp_eq_t (C : Cx E κ cc own nL ret d) {x y : Int32} {off : Int} (tgt : Nat) (hd : decode cc pc = .ok (.if_icmp .eq off, 3)) (ht : (pc : Int) + off = (tgt : Int)) (hc : x = y) (k : Gw E κ nL ce sl tgt lv st ad lay mem) : Gw E κ nL ce sl pc lv (.int y :: .int x :: st) ad lay mem := by
  obtain ⟨p, e, R, s, m, args, below, meth, c, Q⟩ := κ
  exact fun H locs ls hR hS hL => lv_icmp_eq C.1 C.2.1 hd ht (fun _ => k H locs ls hR hS hL) (fun q => absurd hc q)
theorem g_icmp_eq_f (C : Cx E κ cc own nL ret d) {x y : Int32} {off : Int} (tgt : Nat) (hd : decode cc pc = .ok (.if_icmp .eq off, 3)) (ht : (pc : Int) + off = (tgt : Int)) (hc : ¬ (x = y)) (k : Gw E κ nL ce sl (pc + 3) lv st ad lay mem) : Gw E κ nL ce sl pc lv (.int y :: .int x :: st) ad lay mem := by
  obtain ⟨p, e, R, s, m, args, below, meth, c, Q⟩ := κ
  exact fun H locs ls hR hS hL => lv_icmp_eq C.1 C.2.1 hd ht (fun q => absurd q hc) (fun _ => k H locs ls hR hS hL)
theorem g_if_ne_t (C : Cx E κ cc own nL ret d) {x : Int32} {off : Int} (tgt : Nat) (hd : decode cc pc = .ok (.ifCond .ne off, 3)) (ht : (pc : Int) + off = (tgt : Int)) (hc : ¬ x = 0) (k : Gw E κ nL ce sl tgt lv st ad lay mem) : Gw E κ nL ce sl pc lv (.int x :: st) ad lay mem := by
  obtain ⟨p, e, R, s, m, args, below, meth, c, Q⟩ := κ
  exact fun H locs ls hR hS hL => lv_if_ne C.1 C.2.1 hd ht (fun _ => k H locs ls hR hS hL) (fun q => absurd q hc)
theorem g_if_ne_f (C : Cx E κ cc own nL ret d) {x : Int32} {off : Int} (tgt : Nat) (hd : decode cc pc = .ok (.ifCond .ne off, 3)) (ht : (pc : Int) + off = (tgt : Int)) (hc : x = 0) (k : Gw E κ nL ce sl (pc + 3) lv st ad lay mem) : Gw E κ nL ce sl pc lv (.int x :: st) ad lay mem := by
  obtain ⟨p, e, R, s, m, args, below, meth, c, Q⟩ := κ
  exact fun H locs ls hR hS hL => lv_if_ne C.1 C.2.1 hd ht (fun q => absurd hc q) (fun _ => k H locs ls hR hS hL)
theorem g_icmp_ne_t (C : Cx E κ cc own nL ret d) {x y : Int32} {off : Int} (tgt : Nat) (hd : decode cc pc = .ok (.if_icmp .ne off, 3)) (ht : (pc : Int) + off = (tgt : Int)) (hc : ¬ x = y) (k : Gw E κ nL ce sl tgt lv st ad lay mem) : Gw E κ nL ce sl pc lv (.int y :: .int x :: st) ad lay mem := by
  obtain ⟨p, e, R, s, m, args, below, meth, c, Q⟩ := κ
  exact fun H locs ls hR hS hL => lv_icmp_ne C.1 C.2.1 hd ht (fun _ => k H locs ls hR hS hL) (fun q => absurd q hc)
theorem g_icmp_ne_f (C : Cx E κ cc own nL ret d) {x y : Int32} {off : Int} (tgt : Nat) (hd : decode cc pc = .ok (.if_icmp .ne off, 3)) (ht : (pc : Int) + off = (tgt : Int)) (hc : x = y) (k : Gw E κ nL ce sl (pc + 3) lv st ad lay mem) : Gw E κ nL ce sl pc lv (.int y :: .int x :: st) ad lay mem := by
  obtain ⟨p, e, R, s, m, args, below, meth, c, Q⟩ := κ
  exact fun H locs ls hR hS hL => lv_icmp_ne C.1 C.2.1 hd ht (fun q => absurd hc q) (fun _ => k H locs ls hR hS hL)
theorem g_if_lt_t (C : Cx E κ cc own nL ret d) {x : Int32} {off : Int} (tgt : Nat) (hd : decode cc pc = .ok (.ifCond .lt off, 3)) (ht : (pc : Int) + off = (tgt : Int)) (hc : x < 0) (k : Gw E κ nL ce sl tgt lv st ad lay mem) : Gw E κ nL ce sl pc lv (.int x :: st) ad lay mem := by
  obtain ⟨p, e, R, s, m, args, below, meth, c, Q⟩ := κ
  exact fun H locs ls hR hS hL => lv_if_lt C.1 C.2.1 hd ht (fun _ => k H locs ls hR hS hL) (fun q => absurd hc q)
theorem g_if_lt_f (C : Cx E κ cc own nL ret d) {x : Int32} {off : Int} (tgt : Nat) (hd : decode cc pc = .ok (.ifCond .lt off, 3)) (ht : (pc : Int) + off = (tgt : Int)) (hc : ¬ (x < 0)) (k : Gw E κ nL ce sl (pc + 3) lv st ad lay mem) : Gw E κ nL ce sl pc lv (.int x :: st) ad lay mem := by
  obtain ⟨p, e, R, s, m, args, below, meth, c, Q⟩ := κ
  exact fun H locs ls hR hS hL => lv_if_lt C.1 C.2.1 hd ht (fun q => absurd q hc) (fun _ => k H locs ls hR hS hL)
theorem g_icmp_lt_t (C : Cx E κ cc own nL ret d) {x y : Int32} {off : Int} (tgt : Nat) (hd : decode cc pc = .ok (.if_icmp .lt off, 3)) (ht : (pc : Int) + off = (tgt : Int)) (hc : x < y) (k : Gw E κ nL ce sl tgt lv st ad lay mem) : Gw E κ nL ce sl pc lv (.int y :: .int x :: st) ad lay mem := by
  obtain ⟨p, e, R, s, m, args, below, meth, c, Q⟩ := κ
  exact fun H locs ls hR hS hL => lv_icmp_lt C.1 C.2.1 hd ht (fun _ => k H locs ls hR hS hL) (fun q => absurd hc q)
theorem g_icmp_lt_f (C : Cx E κ cc own nL ret d) {x y : Int32} {off : Int} (tgt : Nat) (hd : decode cc pc = .ok (.if_icmp .lt off, 3)) (ht : (pc : Int) + off = (tgt : Int)) (hc : ¬ (x < y)) (k : Gw E κ nL ce sl (pc + 3) lv st ad lay mem) : Gw E κ nL ce sl pc lv (.int y :: .int x :: st) ad lay mem := by
  obtain ⟨p, e, R, s, m, args, below, meth, c, Q⟩ := κ
  exact fun H locs ls hR hS hL => lv_icmp_lt C.1 C.2.1 hd ht (fun q => absurd q hc) (fun _ => k H locs ls hR hS hL)
theorem g_if_ge_t (C : Cx E κ cc own nL ret d) {x : Int32} {off : Int} (tgt : Nat) (hd : decode cc pc = .ok (.ifCond .ge off, 3)) (ht : (pc : Int) + off = (tgt : Int)) (hc : 0 ≤ x) (k : Gw E κ nL ce sl tgt lv st ad lay mem) : Gw E κ nL ce sl pc lv (.int x :: st) ad lay mem := by
  obtain ⟨p, e, R, s, m, args, below, meth, c, Q⟩ := κ
  exact fun H locs ls hR hS hL => lv_if_ge C.1 C.2.1 hd ht (fun _ => k H locs ls hR hS hL) (fun q => absurd hc q)
theorem g_if_ge_f (C : Cx E κ cc own nL ret d) {x : Int32} {off : Int} (tgt : Nat) (hd : decode cc pc = .ok (.ifCond .ge off, 3)) (ht : (pc : Int) + off = (tgt : Int)) (hc : ¬ (0 ≤ x)) (k : Gw E κ nL ce sl (pc + 3) lv st ad lay mem) : Gw E κ nL ce sl pc lv (.int x :: st) ad lay mem := by
  obtain ⟨p, e, R, s, m, args, below, meth, c, Q⟩ := κ
  exact fun H locs ls hR hS hL => lv_if_ge C.1 C.2.1 hd ht (fun q => absurd q hc) (fun _ => k H locs ls hR hS hL)
theorem g_icmp_ge_t (C : Cx E κ cc own nL ret d) {x y : Int32} {off : Int} (tgt : Nat) (hd : decode cc pc = .ok (.if_icmp .ge off, 3)) (ht : (pc : Int) + off = (tgt : Int)) (hc : y ≤ x) (k : Gw E κ nL ce sl tgt lv st ad lay mem) : Gw E κ nL ce sl pc lv (.int y :: .int x :: st) ad lay mem := by
  obtain ⟨p, e, R, s, m, args, below, meth, c, Q⟩ := κ
  exact fun H locs ls hR hS hL => lv_icmp_ge C.1 C.2.1 hd ht (fun _ => k H locs ls hR hS hL) (fun q => absurd hc q)
theorem g_icmp_ge_f (C : Cx E κ cc own nL ret d) {x y : Int32} {off : Int} (tgt : Nat) (hd : decode cc pc = .ok (.if_icmp .ge off, 3)) (ht : (pc : Int) + off = (tgt : Int)) (hc : ¬ (y ≤ x)) (k : Gw E κ nL ce sl (pc + 3) lv st ad lay mem) : Gw E κ nL ce sl pc lv (.int y :: .int x :: st) ad lay mem := by
  obtain ⟨p, e, R, s, m, args, below, meth, c, Q⟩ := κ
  exact fun H locs ls hR hS hL => lv_icmp_ge C.1 C.2.1 hd ht (fun q => absurd q hc) (fun _ => k H locs ls hR hS hL)
theorem g_if_gt_t (C : Cx E κ cc own nL ret d) {x : Int32} {off : Int} (tgt : Nat) (hd : decode cc pc = .ok (.ifCond .gt off, 3)) (ht : (pc : Int) + off = (tgt : Int)) (hc : 0 < x) (k : Gw E κ nL ce sl tgt lv st ad lay mem) : Gw E κ nL ce sl pc lv (.int x :: st) ad lay mem := by
  obtain ⟨p, e, R, s, m, args, below, meth, c, Q⟩ := κ
  exact fun H locs ls hR hS hL => lv_if_gt C.1 C.2.1 hd ht (fun _ => k H locs ls hR hS hL) (fun q => absurd hc q)
theorem g_if_gt_f (C : Cx E κ cc own nL ret d) {x : Int32} {off : Int} (tgt : Nat) (hd : decode cc pc = .ok (.ifCond .gt off, 3)) (ht : (pc : Int) + off = (tgt : Int)) (hc : ¬ (0 < x)) (k : Gw E κ nL ce sl (pc + 3) lv st ad lay mem) : Gw E κ nL ce sl pc lv (.int x :: st) ad lay mem := by
  obtain ⟨p, e, R, s, m, args, below, meth, c, Q⟩ := κ
  exact fun H locs ls hR hS hL => lv_if_gt C.1 C.2.1 hd ht (fun q => absurd q hc) (fun _ => k H locs ls hR hS hL)
theorem g_icmp_gt_t (C : Cx E κ cc own nL ret d) {x y : Int32} {off : Int} (tgt : Nat) (hd : decode cc pc = .ok (.if_icmp .gt off, 3)) (ht : (pc : Int) + off = (tgt : Int)) (hc : y < x) (k : Gw E κ nL ce sl tgt lv st ad lay mem) : Gw E κ nL ce sl pc lv (.int y :: .int x :: st) ad lay mem := by
  obtain ⟨p, e, R, s, m, args, below, meth, c, Q⟩ := κ
  exact fun H locs ls hR hS hL => lv_icmp_gt C.1 C.2.1 hd ht (fun _ => k H locs ls hR hS hL) (fun q => absurd hc q)
theorem g_icmp_gt_f (C : Cx E κ cc own nL ret d) {x y : Int32} {off : Int} (tgt : Nat) (hd : decode cc pc = .ok (.if_icmp .gt off, 3)) (ht : (pc : Int) + off = (tgt : Int)) (hc : ¬ (y < x)) (k : Gw E κ nL ce sl (pc + 3) lv st ad lay mem) : Gw E κ nL ce sl pc lv (.int y :: .int x :: st) ad lay mem := by
  obtain ⟨p, e, R, s, m, args, below, meth, c, Q⟩ := κ
  exact fun H locs ls hR hS hL => lv_icmp_gt C.1 C.2.1 hd ht (fun q => absurd q hc) (fun _ => k H locs ls hR hS hL)
theorem g_if_le_t (C : Cx E κ cc own nL ret d) {x : Int32} {off : Int} (tgt : Nat) (hd : decode cc pc = .ok (.ifCond .le off, 3)) (ht : (pc : Int) + off = (tgt : Int)) (hc : x ≤ 0) (k : Gw E κ nL ce sl tgt lv st ad lay mem) : Gw E κ nL ce sl pc lv (.int x :: st) ad lay mem := by
  obtain ⟨p, e, R, s, m, args, below, meth, c, Q⟩ := κ
  exact fun H locs ls hR hS hL => lv_if_le C.1 C.2.1 hd ht (fun _ => k H locs ls hR hS hL) (fun q => absurd hc q)
theorem g_if_le_f (C : Cx E κ cc own nL ret d) {x : Int32} {off : Int} (tgt : Nat) (hd : decode cc pc = .ok (.ifCond .le off, 3)) (ht : (pc : Int) + off = (tgt : Int)) (hc : ¬ (x ≤ 0)) (k : Gw E κ nL ce sl (pc + 3) lv st ad lay mem) : Gw E κ nL ce sl pc lv (.int x :: st) ad lay mem := by
  obtain ⟨p, e, R, s, m, args, below, meth, c, Q⟩ := κ
  exact fun H locs ls hR hS hL => lv_if_le C.1 C.2.1 hd ht (fun q => absurd q hc) (fun _ => k H locs ls hR hS hL)
theorem g_icmp_le_t (C : Cx E κ cc own nL ret d) {x y : Int32} {off : Int} (tgt : Nat) (hd : decode cc pc = .ok (.if_icmp .le off, 3)) (ht : (pc : Int) + off = (tgt : Int)) (hc : x ≤ y) (k : Gw E κ nL ce sl tgt lv st ad lay mem) : Gw E κ nL ce sl pc lv (.int y :: .int x :: st) ad lay mem := by
  obtain ⟨p, e, R, s, m, args, below, meth, c, Q⟩ := κ
  exact fun H locs ls hR hS hL => lv_icmp_le C.1 C.2.1 hd ht (fun _ => k H locs ls hR hS hL) (fun q => absurd hc q)
theorem g_icmp_le_f (C : Cx E κ cc own nL ret d) {x y : Int32} {off : Int} (tgt : Nat) (hd : decode cc pc = .ok (.if_icmp .le off, 3)) (ht : (pc : Int) + off = (tgt : Int)) (hc : ¬ (x ≤ y)) (k : Gw E κ nL ce sl (pc + 3) lv st ad lay mem) : Gw E κ nL ce sl pc lv (.int y :: .int x :: st) ad lay mem := by
  obtain ⟨p, e, R, s, m, args, below, meth, c, Q⟩ := κ
  exact fun H locs ls hR hS hL => lv_icmp_le C.1 C.2.1 hd ht (fun q => absurd q hc) (fun _ => k H locs ls hR hS hL)
theorem g_top {v x : Value} (hv : v = x) (k : Gw E κ nL ce sl pc lv (v :: st) ad lay mem) : Gw E κ nL ce sl pc lv (x :: st) ad lay mem := hv ▸ k
theorem g_topi {v x : Int32} (hv : v = x) (k : Gw E κ nL ce sl pc lv (.int v :: st) ad lay mem) : Gw E κ nL ce sl pc lv (.int x :: st) ad lay mem := hv ▸ k
theorem g_topl {v x : Int64} (hv : v = x) (k : Gw E κ nL ce sl pc lv (.long v :: st) ad lay mem) : Gw E κ nL ce sl pc lv (.long x :: st) ad lay mem := hv ▸ k
end RULES
