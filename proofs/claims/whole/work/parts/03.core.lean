/-! the memory picture: a list of entries (an array: boolean or int, its length; an object: its class, its references by field), and one function for all ints -/
def TB : List Cond := lw_tbl.filter goodWord
def isNest : Cond → Bool
  | .fieldLinkNest .. => true
  | .methodLinkNest .. => true
  | _ => false
def NW : List Cond := tables_1.filter isNest
def Nst (U : State) : Prop := ∀ w ∈ NW, va_Nw w U
theorem Nst.warm {s U : State} (hW : s.WarmedH U.vm) (h : Nst s) : Nst U := by
  intro w hw
  have hn := (List.mem_filter.mp hw).2
  have hz := h w hw
  cases w <;> first | exact va_Nw.warmF hW hz | exact va_Nw.warmM hW hz | (simp [isNest] at hn)
theorem Nst.same {s U : State} (hv : s.vm = U.vm) (h : Nst s) : Nst U := by
  intro w hw
  have hn := (List.mem_filter.mp hw).2
  have hz := h w hw
  cases w <;> first | exact va_Nw.same rfl hv hz | (simp [isNest] at hn)
theorem tb_of {w : Cond} (i : Nat) (h : lw_tbl[i]? = some w) (hg : goodWord w = true) : w ∈ TB := List.mem_filter.mpr ⟨List.mem_of_getElem? h, hg⟩
theorem nw_of {w : Cond} (i : Nat) (h : tables_1[i]? = some w) (hg : isNest w = true) : w ∈ NW := List.mem_filter.mpr ⟨List.mem_of_getElem? h, hg⟩
abbrev Ent : Type := (Bool × Nat) ⊕ (Nat × List (Option Nat))
abbrev Mem : Type := Nat → Nat → Int32
def mset (m : Mem) (a k : Nat) (v : Int32) : Mem := va_up m a (upd (m a) k v)
def fldv (ad : Nat → Nat) (t : FieldType) (r : Option Nat) (x : Int32) : Value := match t with
  | .int => .int x
  | .boolean => .int x
  | _ => va_rf (r.map ad)
def tyC : Nat → Nat → FieldType := fun ci => match ci with
  | 0 => tyX0
  | 1 => tyX1
  | 2 => tyX2
  | 3 => tyX3
  | 4 => tyX4
  | 5 => tyX5
  | 6 => tyX6
  | _ => tyX7
def nC : Nat → Nat := fun ci => match ci with
  | 0 => 3
  | 1 => 5
  | 2 => 3
  | 3 => 4
  | 4 => 6
  | 5 => 15
  | 6 => 12
  | _ => 45
def encE (cI cZ : ClassId) (ad : Nat → Nat) (e : Ent) (f : Nat → Int32) : va_E := match e with
  | .inl (true, n) => .inl (cZ, n, .inl f)
  | .inl (false, n) => .inl (cI, n, .inl f)
  | .inr (ci, rs) => .inr (ci, (List.range (nC ci)).map fun k => fldv ad (tyC ci k) (rs.getD k none) (f k))
def wsL (cI cZ : ClassId) (ad : Nat → Nat) (lay : List Ent) (mem : Mem) : va_W := lay.mapIdx fun a e => (ad a, encE cI cZ ad e (mem a))
theorem wsL_at {cI cZ : ClassId} {ad : Nat → Nat} {lay : List Ent} {mem : Mem} {a : Nat} {e : Ent} (h : lay[a]? = some e) : (wsL cI cZ ad lay mem)[a]? = some (ad a, encE cI cZ ad e (mem a)) := by
  simp [wsL, List.getElem?_mapIdx, h]
theorem wsL_set {cI cZ : ClassId} {ad : Nat → Nat} {lay : List Ent} {mem : Mem} {a : Nat} {e : Ent} (h : lay[a]? = some e) (g : Nat → Int32) : (wsL cI cZ ad lay mem).set a (ad a, encE cI cZ ad e g) = wsL cI cZ ad lay (va_up mem a g) := by
  apply List.ext_getElem?
  intro k
  by_cases hk : k = a
  · subst hk
    have hl : k < lay.length := (List.getElem?_eq_some_iff.mp h).1
    rw [List.getElem?_set_self (by simp [wsL, hl]), wsL_at h]
    simp [va_up]
  · rw [List.getElem?_set_ne (fun q => hk q.symm)]
    simp [wsL, List.getElem?_mapIdx, va_up, hk]
theorem wsL_setR {cI cZ : ClassId} {ad : Nat → Nat} {lay : List Ent} {mem : Mem} {a : Nat} {e e' : Ent} (h : lay[a]? = some e) : (wsL cI cZ ad lay mem).set a (ad a, encE cI cZ ad e' (mem a)) = wsL cI cZ ad (lay.set a e') mem := by
  apply List.ext_getElem?
  intro k
  have hl : a < lay.length := (List.getElem?_eq_some_iff.mp h).1
  by_cases hk : k = a
  · subst hk
    rw [List.getElem?_set_self (by simp [wsL, hl])]
    simp only [wsL, List.getElem?_mapIdx, List.getElem?_set_self hl, Option.map_some]
  · rw [List.getElem?_set_ne (fun q => hk q.symm)]
    simp only [wsL, List.getElem?_mapIdx, List.getElem?_set_ne (fun q => hk q.symm)]
def AdOk (A : Nat → Prop) (ad : Nat → Nat) (n : Nat) : Prop := (∀ i j, i < n → j < n → ad i = ad j → i = j) ∧ ∀ i, i < n → A (ad i)
theorem AdOk.D {A : Nat → Prop} {ad : Nat → Nat} {cI cZ : ClassId} {lay : List Ent} {mem : Mem} (h : AdOk A ad lay.length) : va_D A (wsL cI cZ ad lay mem) := by
  have key : ∀ (k : Nat) (q : Nat × va_E), (wsL cI cZ ad lay mem)[k]? = some q → k < lay.length ∧ q.1 = ad k := by
    intro k q hk
    simp only [wsL, List.getElem?_mapIdx, Option.map_eq_some_iff] at hk
    obtain ⟨e, h1, h2⟩ := hk
    exact ⟨(List.getElem?_eq_some_iff.mp h1).1, by rw [← h2]⟩
  refine ⟨fun i j x y hi hj hxy => ?_, fun k q hk => ?_⟩
  · obtain ⟨a1, a2⟩ := key i x hi
    obtain ⟨b1, b2⟩ := key j y hj
    exact h.1 i j a1 b1 (by rw [← a2, ← b2]; exact hxy)
  · obtain ⟨a1, a2⟩ := key k q hk
    rw [a2]
    exact h.2 k a1
/-- the launch, the classes' numbers, the two array classes, the heap's size at the law's entry -/
abbrev Ex : Type := Launch × va_G × ClassId × ClassId × Nat
abbrev Kx : Type := Program × Env × Room × State × MethodId × Array Value × List Frame × Method × Code × (State → Prop)
abbrev tysE (cI cZ : ClassId) : List (ClassId × FieldType) := [(cI, .int), (cZ, .boolean)]
def Rel (E : Ex) (ad : Nat → Nat) (lay : List Ent) (mem : Mem) (H : Heap) : Prop := match E with
  | (_, D, cI, cZ, B) => va_P D vwCl (wsL cI cZ ad lay mem) H ∧ AdOk (fun q => B ≤ q) ad lay.length
def Lv (ls : Array Slot) (nL : Nat) (lv : List (Option Value)) : Prop := ls.size = nL ∧ lv_wf ls ∧ ∀ (i : Nat) (v : Value), lv[i]? = some (some v) → ls[i]? = some (.val v)
def lvA (lv : List (Option Value)) : List (Nat × Value) := lv.zipIdx.filterMap fun q => q.1.map fun v => (q.2, v)
theorem lvA_mem {lv : List (Option Value)} {i : Nat} {v : Value} : (i, v) ∈ lvA lv ↔ lv[i]? = some (some v) := by
  simp only [lvA, List.mem_filterMap, Option.map_eq_some_iff, Prod.mk.injEq]
  constructor
  · rintro ⟨⟨o, k⟩, h1, w, h2, h3, h4⟩
    have := List.mem_zipIdx_iff_getElem?.mp h1
    simp only at this h2 h3
    subst h3 h4
    rw [this, h2]
  · intro h
    exact ⟨(some v, i), List.mem_zipIdx_iff_getElem?.mpr h, v, rfl, rfl, rfl⟩
theorem Lv.has {ls : Array Slot} {nL : Nat} {lv : List (Option Value)} (h : Lv ls nL lv) : lv_has ls nL (lvA lv) := ⟨h.1, h.2.1, fun q hq => h.2.2 q.1 q.2 (lvA_mem.mp hq)⟩
theorem Lv.of {ls : Array Slot} {nL : Nat} {lv : List (Option Value)} (h : lv_has ls nL (lvA lv)) : Lv ls nL lv := ⟨h.1, h.2.1, fun i v hv => h.2.2 (i, v) (lvA_mem.mpr hv)⟩
/-- no long stands just ahead of place i -/
def okS (lv : List (Option Value)) (i : Nat) : Bool := match i with
  | 0 => true
  | j + 1 => match lv[j]? with
    | some (some v) => v.category == 1
    | _ => true
theorem okS_use {lv : List (Option Value)} {i j : Nat} {v : Value} (h : okS lv i = true) (hj : j + 1 = i) (hv : lv[j]? = some (some v)) : ¬ v.category = 2 := by
  subst hj
  simp only [okS, hv, beq_iff_eq] at h
  omega
theorem Lv.st1 {ls : Array Slot} {nL i : Nat} {lv : List (Option Value)} {x : Value} (hok : okS lv i = true) (h : lv_has ls nL ((i, x) :: (lvA lv).filter (fun q => !(q.1 == i) && !(q.1 + 1 == i && q.2.category == 2)))) : Lv ls nL (lv.set i (some x)) := by
  refine ⟨h.1, h.2.1, fun j v hj => ?_⟩
  by_cases e : j = i
  · subst e
    have : v = x := by
      by_cases hl : j < lv.length
      · rw [List.getElem?_set_self hl] at hj; exact (Option.some.inj (Option.some.inj hj)).symm
      · have hl2 : ¬ j < (lv.set j (some x)).length := by simpa using hl
        rw [List.getElem?_eq_none (by omega)] at hj; cases hj
    subst this
    exact h.2.2 _ List.mem_cons_self
  · rw [List.getElem?_set_ne (fun q => e q.symm)] at hj
    refine h.2.2 (j, v) (List.mem_cons_of_mem _ (List.mem_filter.mpr ⟨lvA_mem.mpr hj, ?_⟩))
    have h2 : ¬ (j + 1 = i ∧ v.category = 2) := fun q => okS_use hok q.1 hj q.2
    simp only [Bool.and_eq_true, Bool.not_eq_true', beq_eq_false_iff_ne, ne_eq, Bool.and_eq_false_iff]
    refine ⟨e, ?_⟩
    by_cases e1 : j + 1 = i
    · exact Or.inr (fun q => h2 ⟨e1, q⟩)
    · exact Or.inl e1
theorem Lv.st2 {ls : Array Slot} {nL i : Nat} {lv : List (Option Value)} {x : Value} (hok : okS lv i = true) (h : lv_has ls nL ((i, x) :: (lvA lv).filter (fun q => !(q.1 == i) && (!(q.1 == i + 1) && !(q.1 + 1 == i && q.2.category == 2))))) : Lv ls nL ((lv.set i (some x)).set (i + 1) none) := by
  refine ⟨h.1, h.2.1, fun j v hj => ?_⟩
  by_cases e0 : j = i + 1
  · subst e0
    by_cases hl : i + 1 < (lv.set i (some x)).length
    · rw [List.getElem?_set_self hl] at hj; cases hj
    · have hl2 : ¬ i + 1 < ((lv.set i (some x)).set (i + 1) none).length := by simpa using hl
      rw [List.getElem?_eq_none (by omega)] at hj; cases hj
  · rw [List.getElem?_set_ne (fun q => e0 q.symm)] at hj
    by_cases e : j = i
    · subst e
      have : v = x := by
        by_cases hl : j < lv.length
        · rw [List.getElem?_set_self hl] at hj; exact (Option.some.inj (Option.some.inj hj)).symm
        · have hl2 : ¬ j < (lv.set j (some x)).length := by simpa using hl
          rw [List.getElem?_eq_none (by omega)] at hj; cases hj
      subst this
      exact h.2.2 _ List.mem_cons_self
    · rw [List.getElem?_set_ne (fun q => e q.symm)] at hj
      refine h.2.2 (j, v) (List.mem_cons_of_mem _ (List.mem_filter.mpr ⟨lvA_mem.mpr hj, ?_⟩))
      have h2 : ¬ (j + 1 = i ∧ v.category = 2) := fun q => okS_use hok q.1 hj q.2
      simp only [Bool.and_eq_true, Bool.not_eq_true', beq_eq_false_iff_ne, ne_eq, Bool.and_eq_false_iff]
      refine ⟨e, e0, ?_⟩
      by_cases e1 : j + 1 = i
      · exact Or.inr (fun q => h2 ⟨e1, q⟩)
      · exact Or.inl e1
/-- the machine at a place of a method: locals, operands, addresses, layout, ints -/
def Gw (E : Ex) (κ : Kx) (nL ce sl pc : Nat) (lv : List (Option Value)) (st : List Value) (ad : Nat → Nat) (lay : List Ent) (mem : Mem) : Prop := match κ with
  | (p, e, R, s, m, args, below, meth, c, Q) => ∀ (H : Heap) (locs : List Loc) (ls : Array Slot), Rel E ad lay mem H → va_S (fun q => E.2.2.2.2 ≤ q) s.heap H locs → Lv ls nL lv → W p E.1 e R s m args below meth c H locs ce sl Q (F0 m pc ls st)
def Cx (E : Ex) (κ : Kx) (cc : ByteArray) (own : String) (nL : Nat) (ret : Option FieldType) (d : Nat) : Prop := match κ with
  | (p, _, R, s, m, args, _, meth, c, _) => p.tables.exec = Jvm.exec ∧ c.code = cc ∧ c.maxLocals = nL ∧ s.vm.findClass own = some m.cls ∧ (∀ w ∈ TB, w.before args s = true) ∧ va_K E.2.1 vwCl (tysE E.2.2.1 E.2.2.2.1) s ∧ Nst s ∧ E.2.2.2.2 ≤ s.heap.size ∧ meth.sig.returnType = ret ∧ meth.locks = false ∧ d ≤ R.frames ∧ 40 * d ≤ R.locals
