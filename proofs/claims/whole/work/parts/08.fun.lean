/-! the words of the plain functions (none: the machine would throw), and how a walk follows them -/
def rd {α : Type} (f : Nat → Int32) (n : Nat) (i : Int32) (k : Int32 → Option α) : Option α := if ¬ (i < 0 ∨ n ≤ i.toNatClampNeg) then k (f i.toNatClampNeg) else none
theorem rd_some {α : Type} {f : Nat → Int32} {n : Nat} {i : Int32} {k : Int32 → Option α} {x : α} (h : rd f n i k = some x) : ∃ v, v = f i.toNatClampNeg ∧ vp_in i n ∧ k v = some x := by
  unfold rd at h
  by_cases c : ¬ (i < 0 ∨ n ≤ i.toNatClampNeg)
  · rw [if_pos c] at h; exact ⟨_, rfl, c, h⟩
  · rw [if_neg c] at h; cases h
def wr {α : Type} (mem : Mem) (a n : Nat) (i v : Int32) (k : Mem → Option α) : Option α := if ¬ (i < 0 ∨ n ≤ i.toNatClampNeg) then k (mset mem a i.toNatClampNeg v) else none
theorem wr_some {α : Type} {mem : Mem} {a n : Nat} {i v : Int32} {k : Mem → Option α} {x : α} (h : wr mem a n i v k = some x) : ∃ m, m = mset mem a i.toNatClampNeg v ∧ vp_in i n ∧ k m = some x := by
  unfold wr at h
  by_cases c : ¬ (i < 0 ∨ n ≤ i.toNatClampNeg)
  · rw [if_pos c] at h; exact ⟨_, rfl, c, h⟩
  · rw [if_neg c] at h; cases h
def lt' {α β : Type} (v : β) (k : β → Option α) : Option α := k v
theorem lt_some {α β : Type} {v : β} {k : β → Option α} {x : α} (h : lt' v k = some x) : ∃ w, w = v ∧ k w = some x := ⟨v, rfl, h⟩
def ob {α β : Type} (o : Option β) (k : β → Option α) : Option α := match o with
  | none => none
  | some a => k a
theorem ob_some {α β : Type} {o : Option β} {k : β → Option α} {x : α} (h : ob o k = some x) : ∃ a, o = some a ∧ k a = some x := by
  cases o with
  | none => cases h
  | some a => exact ⟨a, rfl, h⟩
def ob2 {α β γ : Type} (o : Option (β × γ)) (k : β → γ → Option α) : Option α := match o with
  | none => none
  | some (a, b) => k a b
theorem ob2_some {α β γ : Type} {o : Option (β × γ)} {k : β → γ → Option α} {x : α} (h : ob2 o k = some x) : ∃ a b, o = some (a, b) ∧ k a b = some x := by
  cases o with
  | none => cases h
  | some a => exact ⟨a.1, a.2, rfl, h⟩
/-- behind a loop that may answer: its exit, or the answer -/
def obs {α β γ : Type} (o : Option (β ⊕ γ)) (k : β → Option α) (r : γ → Option α) : Option α := match o with
  | none => none
  | some (.inl b) => k b
  | some (.inr c) => r c
theorem obs_some {α β γ : Type} {o : Option (β ⊕ γ)} {k : β → Option α} {r : γ → Option α} {x : α} (h : obs o k r = some x) : (∃ b, o = some (.inl b) ∧ k b = some x) ∨ ∃ c, o = some (.inr c) ∧ r c = some x := by
  cases o with
  | none => cases h
  | some a =>
    cases a with
    | inl b => exact Or.inl ⟨b, rfl, h⟩
    | inr c => exact Or.inr ⟨c, rfl, h⟩
theorem ite_some' {α : Type} {c : Prop} [Decidable c] {a b : Option α} {x : α} (h : (if c then a else b) = some x) : (c ∧ a = some x) ∨ (¬ c ∧ b = some x) := by
  by_cases q : c
  · rw [if_pos q] at h; exact Or.inl ⟨q, h⟩
  · rw [if_neg q] at h; exact Or.inr ⟨q, h⟩
def bk {α : Type} (v : Int32) (k : Option α) : Option α := if v = 0 ∨ v = 1 then k else none
theorem bk_some {α : Type} {v : Int32} {k : Option α} {x : α} (h : bk v k = some x) : (v = 0 ∨ v = 1) ∧ k = some x := by
  unfold bk at h
  by_cases c : v = 0 ∨ v = 1
  · rw [if_pos c] at h; exact ⟨c, h⟩
  · rw [if_neg c] at h; cases h
def dk {α : Type} (v : Int32) (k : Option α) : Option α := if v = 0 then none else k
theorem dk_some {α : Type} {v : Int32} {k : Option α} {x : α} (h : dk v k = some x) : ¬ v = 0 ∧ k = some x := by
  unfold dk at h
  by_cases c : v = 0
  · rw [if_pos c] at h; cases h
  · rw [if_neg c] at h; exact ⟨c, h⟩
def dkL {α : Type} (v : Int64) (k : Option α) : Option α := if v = 0 then none else k
theorem dkL_some {α : Type} {v : Int64} {k : Option α} {x : α} (h : dkL v k = some x) : ¬ v = 0 ∧ k = some x := by
  unfold dkL at h
  by_cases c : v = 0
  · rw [if_pos c] at h; cases h
  · rw [if_neg c] at h; exact ⟨c, h⟩
/-- System.arraycopy -/
def acp {α : Type} (mem : Mem) (a0 n0 a n1 : Nat) (sp dp n : Int32) (k : Mem → Option α) : Option α := if ¬ sp < 0 ∧ ¬ dp < 0 ∧ ¬ n < 0 ∧ sp.toNatClampNeg + n.toNatClampNeg ≤ n0 ∧ dp.toNatClampNeg + n.toNatClampNeg ≤ n1 then k (va_up mem a (va_cpy (mem a0) (mem a) sp.toNatClampNeg dp.toNatClampNeg n.toNatClampNeg)) else none
theorem acp_some {α : Type} {mem : Mem} {a0 n0 a n1 : Nat} {sp dp n : Int32} {k : Mem → Option α} {x : α} (h : acp mem a0 n0 a n1 sp dp n k = some x) : ∃ m, m = va_up mem a (va_cpy (mem a0) (mem a) sp.toNatClampNeg dp.toNatClampNeg n.toNatClampNeg) ∧ (¬ sp < 0 ∧ ¬ dp < 0 ∧ ¬ n < 0 ∧ sp.toNatClampNeg + n.toNatClampNeg ≤ n0 ∧ dp.toNatClampNeg + n.toNatClampNeg ≤ n1) ∧ k m = some x := by
  unfold acp at h
  by_cases c : ¬ sp < 0 ∧ ¬ dp < 0 ∧ ¬ n < 0 ∧ sp.toNatClampNeg + n.toNatClampNeg ≤ n0 ∧ dp.toNatClampNeg + n.toNatClampNeg ≤ n1
  · rw [if_pos c] at h; exact ⟨_, rfl, c, h⟩
  · rw [if_neg c] at h; cases h
/-- a loop: at most n turns -/
def lp {S R : Type} (body : S → Option (S ⊕ R)) : Nat → S → Option R
  | 0, _ => none
  | n + 1, q => match body q with
    | none => none
    | some (.inl q') => lp body n q'
    | some (.inr r) => some r
theorem lp_gw {S R : Type} {body : S → Option (S ⊕ R)} (P : S ⊕ R → Prop) (hb : ∀ q x, body q = some x → P x → P (.inl q)) : ∀ n q r, lp body n q = some r → P (.inr r) → P (.inl q) := by
  intro n
  induction n with
  | zero => intro q r h; cases h
  | succ n ih =>
    intro q r h hr
    unfold lp at h
    cases hx : body q with
    | none => rw [hx] at h; cases h
    | some x =>
      rw [hx] at h
      cases x with
      | inl q' => exact hb q _ hx (ih q' r h hr)
      | inr r' => cases h; exact hb q _ hx hr
/-- more turns than any loop takes; no number that a reduction could run through -/
noncomputable def FU : Nat := Classical.choose (p := fun n : Nat => 10 ^ 12 ≤ n) ⟨10 ^ 12, Nat.le_refl _⟩
theorem FU_ge : 10 ^ 12 ≤ FU := Classical.choose_spec (p := fun n : Nat => 10 ^ 12 ≤ n) ⟨10 ^ 12, Nat.le_refl _⟩
def lvmask (m : List Bool) (lv : List (Option Value)) : List (Option Value) := List.zipWith (fun b o => if b then o else none) m lv
section MORE
variable {E : Ex} {κ : Kx} {cc : ByteArray} {own : String} {nL ce sl pc d : Nat} {ret : Option FieldType} {lv lv' : List (Option Value)} {st : List Value} {ad : Nat → Nat} {lay : List Ent} {mem : Mem}
theorem g_mask (m : List Bool) (hm : lvmask m lv = lv') (K : Gw E κ nL ce sl pc lv' st ad lay mem) : Gw E κ nL ce sl pc lv st ad lay mem := by
  obtain ⟨p, e, R, s, mm, args, below, meth, c, Q⟩ := κ
  intro H locs ls hR hS hL
  refine K H locs ls hR hS ⟨hL.1, hL.2.1, fun i v hv => hL.2.2 i v ?_⟩
  subst hm
  simp only [lvmask, List.getElem?_zipWith] at hv
  cases h1 : m[i]? with
  | none => rw [h1] at hv; simp at hv
  | some b =>
    cases h2 : lv[i]? with
    | none => rw [h1, h2] at hv; simp at hv
    | some o =>
      rw [h1, h2] at hv
      cases b with
      | true => simpa using hv
      | false => simp at hv
theorem g_mem {mem' : Mem} (hm : mem' = mem) (K : Gw E κ nL ce sl pc lv st ad lay mem') : Gw E κ nL ce sl pc lv st ad lay mem := hm ▸ K
theorem i32_ne {x : Int32} (k : Int32) {n : Int} (h : ¬ x = k) (hk : k.toInt = n) : x.toInt ≠ n := fun q => h (Int32.toInt_inj.mp (q.trans hk.symm))
theorem g_tswD (C : Cx E κ cc own nL ret d) {x : Int32} {dflt lo hi : Int} {offs : Array Int} {len : Nat} (tgt : Nat) (hd : decode cc pc = .ok (.tableswitch dflt lo hi offs, len)) (h : x.toInt < lo ∨ hi < x.toInt) (ht : (pc : Int) + dflt = (tgt : Int)) (K : Gw E κ nL ce sl tgt lv st ad lay mem) : Gw E κ nL ce sl pc lv (.int x :: st) ad lay mem := by
  obtain ⟨p, e, R, s, m, args, below, meth, c, Q⟩ := κ
  exact fun H locs ls hR hS hL => lv_tableOut C.1 C.2.1 hd h ht (K H locs ls hR hS hL)
theorem g_tsw (C : Cx E κ cc own nL ret d) {x : Int32} {dflt lo hi off n : Int} {offs : Array Int} {len : Nat} (k : Int32) (tgt : Nat) (hx : x = k) (hk : k.toInt = n) (hd : decode cc pc = .ok (.tableswitch dflt lo hi offs, len)) (h1 : ¬ n < lo) (h2 : ¬ hi < n) (ho : offs[(n - lo).toNat]? = some off) (ht : (pc : Int) + off = (tgt : Int)) (K : Gw E κ nL ce sl tgt lv st ad lay mem) : Gw E κ nL ce sl pc lv (.int x :: st) ad lay mem := by
  subst hx hk
  obtain ⟨p, e, R, s, m, args, below, meth, c, Q⟩ := κ
  exact fun H locs ls hR hS hL => lv_tableIn C.1 C.2.1 hd h1 h2 ho ht (K H locs ls hR hS hL)
theorem g_lsw (C : Cx E κ cc own nL ret d) {x : Int32} {dflt off n : Int} {ps : Array (Int × Int)} {len : Nat} (k : Int32) (tgt : Nat) (hx : x = k) (hk : k.toInt = n) (hd : decode cc pc = .ok (.lookupswitch dflt ps, len)) (hp : (ps.toList.zip (ps.toList.drop 1)).all (fun (a, next) => a.1 < next.1) = true) (ho : Op.lookupswitch.offset ps.toList dflt n = off) (ht : (pc : Int) + off = (tgt : Int)) (K : Gw E κ nL ce sl tgt lv st ad lay mem) : Gw E κ nL ce sl pc lv (.int x :: st) ad lay mem := by
  subst hx hk
  obtain ⟨p, e, R, s, m, args, below, meth, c, Q⟩ := κ
  exact fun H locs ls hR hS hL => lv_lookup C.1 C.2.1 hd hp ho ht (K H locs ls hR hS hL)
theorem lsw_no {dflt : Int} : ∀ (ps : List (Int × Int)) (x : Int), (∀ q ∈ ps, x ≠ q.1) → Op.lookupswitch.offset ps dflt x = dflt := by
  intro ps
  induction ps with
  | nil => intro x _; rfl
  | cons q r ih =>
    intro x h
    obtain ⟨a, o⟩ := q
    have h1 : x ≠ a := h _ List.mem_cons_self
    have h2 := ih x (fun q hq => h q (List.mem_cons_of_mem _ hq))
    unfold Op.lookupswitch.offset
    simp [h1.symm, h2]
theorem g_lswD (C : Cx E κ cc own nL ret d) {x : Int32} {dflt : Int} {ps : Array (Int × Int)} {len : Nat} (tgt : Nat) (hd : decode cc pc = .ok (.lookupswitch dflt ps, len)) (hp : (ps.toList.zip (ps.toList.drop 1)).all (fun (a, next) => a.1 < next.1) = true) (ho : ∀ q ∈ ps.toList, x.toInt ≠ q.1) (ht : (pc : Int) + dflt = (tgt : Int)) (K : Gw E κ nL ce sl tgt lv st ad lay mem) : Gw E κ nL ce sl pc lv (.int x :: st) ad lay mem := by
  obtain ⟨p, e, R, s, m, args, below, meth, c, Q⟩ := κ
  exact fun H locs ls hR hS hL => lv_lookup C.1 C.2.1 hd hp (lsw_no _ _ ho) ht (K H locs ls hR hS hL)
end MORE
def irm (x y : Int32) : Int32 := x - x / y * y
def lrm (x y : Int64) : Int64 := x - x / y * y
def ushr (x y : Int32) : Int32 := (x.toUInt32 >>> (y.toUInt32 &&& Int32.toUInt32 31)).toInt32
section MORE2
variable {E : Ex} {κ : Kx} {cc : ByteArray} {own : String} {nL ce sl pc d : Nat} {ret : Option FieldType} {lv : List (Option Value)} {st : List Value} {ad : Nat → Nat} {lay : List Ent} {mem : Mem}
theorem g_irem' (C : Cx E κ cc own nL ret d) {x y : Int32} (hd : decode cc pc = .ok (.irem, 1)) (hne : ¬ y = 0) (k : Gw E κ nL ce sl (pc + 1) lv (.int (irm x y) :: st) ad lay mem) : Gw E κ nL ce sl pc lv (.int y :: .int x :: st) ad lay mem := g_irem C hd hne k
theorem g_lrem' (C : Cx E κ cc own nL ret d) {x y : Int64} (hd : decode cc pc = .ok (.lrem, 1)) (hne : ¬ y = 0) (k : Gw E κ nL ce sl (pc + 1) lv (.long (lrm x y) :: st) ad lay mem) : Gw E κ nL ce sl pc lv (.long y :: .long x :: st) ad lay mem := g_lrem C hd hne k
theorem g_iushr' (C : Cx E κ cc own nL ret d) {x y : Int32} (hd : decode cc pc = .ok (.iushr, 1)) (k : Gw E κ nL ce sl (pc + 1) lv (.int (ushr x y) :: st) ad lay mem) : Gw E κ nL ce sl pc lv (.int y :: .int x :: st) ad lay mem := g_iushr C hd k
end MORE2
