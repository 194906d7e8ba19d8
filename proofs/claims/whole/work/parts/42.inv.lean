/-! everything that stands between two calls -/
def CT (w : Nat × (Nat → Nat) × (Nat → Bool)) (mem : Mem) : Prop := mem 0 11 = nI w.1 ∧ ∀ j, j < w.1 → mem 60 j = nI (w.2.1 j) ∧ mem 61 j = b2i (w.2.2 j)
def MT (w : Nat × (Nat → Nat) × (Nat → Bool)) (mem : Mem) : Prop := mem 62 40 = nI w.1 ∧ ∀ j, j < w.1 → mem 87 j = nI (w.2.1 j) ∧ mem 88 j = b2i (w.2.2 j)
def CX (x : Nat × (Nat → Nat)) (mem : Mem) : Prop := mem 1 1 = nI x.1 ∧ ∀ j, j < x.1 → mem 2 j = nI (x.2 j)
def MX (x : Nat × (Nat → Nat)) (mem : Mem) : Prop := mem 62 0 = nI x.1 ∧ ∀ j, j < x.1 → mem 63 j = nI (x.2 j)
def AOK (S : Sh) (P : Pa) (u k : Nat × (Nat → Pa)) (w : Nat × (Nat → Nat) × (Nat → Bool)) (x : Nat × (Nat → Nat)) : Prop := SOK S ∧ POK S P ∧ (u.1 ≤ 8 ∧ ∀ j, j < u.1 → POK S (u.2 j)) ∧ (k.1 ≤ 2 ∧ ∀ j, j < k.1 → POK S (k.2 j)) ∧ (w.1 ≤ 6 ∧ ∀ j, j < w.1 → w.2.1 j < sN S) ∧ (x.1 ≤ 200 ∧ ∀ j, j < x.1 → 32 ≤ x.2 j ∧ x.2 j ≤ 126)
def CI (S : Sh) (P : Pa) (u k : Nat × (Nat → Pa)) (w : Nat × (Nat → Nat) × (Nat → Bool)) (x : Nat × (Nat → Nat)) (sh : Nat) (mem : Mem) : Prop := CS S sh mem ∧ CP P 31 mem ∧ CU u.1 u.2 mem ∧ CK k.1 k.2 mem ∧ CT w mem ∧ CX x mem
def MI (S : Sh) (P : Pa) (u k : Nat × (Nat → Pa)) (w : Nat × (Nat → Nat) × (Nat → Bool)) (x : Nat × (Nat → Nat)) (mem : Mem) : Prop := MS S mem ∧ MP P 77 mem ∧ MU u.1 u.2 mem ∧ MK k.1 k.2 mem ∧ MT w mem ∧ MX x mem
def Two (sh sp : Nat) : Prop := (sh = 3 ∧ sp = 17) ∨ (sh = 17 ∧ sp = 3)
def Inv (sh sp : Nat) (mem : Mem) : Prop := Two sh sp ∧ ∃ S P u k w x, AOK S P u k w x ∧ CI S P u k w x sh mem ∧ MI S P u k w x mem
section KEEP
variable {S : Sh} {P : Pa} {u k : Nat × (Nat → Pa)} {w : Nat × (Nat → Nat) × (Nat → Bool)} {x : Nat × (Nat → Nat)} {sh sp : Nat} {mem mem' : Mem}
theorem CT.keep (h : CT w mem) (h0 : mem' 0 11 = mem 0 11) (h1 : mem' 60 = mem 60) (h2 : mem' 61 = mem 61) : CT w mem' := by
  rw [CT, h0, h1, h2]
  exact h
theorem MT.keep (h : MT w mem) (h0 : mem' 62 40 = mem 62 40) (h1 : mem' 87 = mem 87) (h2 : mem' 88 = mem 88) : MT w mem' := by
  rw [MT, h0, h1, h2]
  exact h
theorem CX.keep (h : CX x mem) (h0 : mem' 1 1 = mem 1 1) (h1 : mem' 2 = mem 2) : CX x mem' := by
  rw [CX, h0, h1]
  exact h
theorem MX.keep (h : MX x mem) (h0 : mem' 62 0 = mem 62 0) (h1 : mem' 63 = mem 63) : MX x mem' := by
  rw [MX, h0, h1]
  exact h
/-- what the class may change in a question: its scratch, and the spare sheet -/
def QC (sp : Nat) (mem mem' : Mem) : Prop := (∀ a, a ≠ 1 → (a < 35 ∨ 51 < a) → (a < sp ∨ sp + 13 < a) → mem' a = mem a) ∧ mem' 1 1 = mem 1 1
def QM (mem mem' : Mem) : Prop := (∀ a, a ≠ 62 → (a < 64 ∨ 69 < a) → (a < 78 ∨ 81 < a) → (a < 83 ∨ 86 < a) → mem' a = mem a) ∧ ∀ k, (k = 0 ∨ 14 ≤ k) → k ≠ 38 → k ≠ 39 → mem' 62 k = mem 62 k
theorem QC.rfl : QC sp mem mem := ⟨fun _ _ _ _ => Eq.refl _, Eq.refl _⟩
theorem QM.rfl : QM mem mem := ⟨fun _ _ _ _ _ => Eq.refl _, fun _ _ _ _ => Eq.refl _⟩
theorem QC.tr {m2 : Mem} (h1 : QC sp mem mem') (h2 : QC sp mem' m2) : QC sp mem m2 := ⟨fun a z1 z2 z3 => by rw [h2.1 a z1 z2 z3, h1.1 a z1 z2 z3], by rw [h2.2, h1.2]⟩
theorem QM.tr {m2 : Mem} (h1 : QM mem mem') (h2 : QM mem' m2) : QM mem m2 := ⟨fun a z1 z2 z3 z4 => by rw [h2.1 a z1 z2 z3 z4, h1.1 a z1 z2 z3 z4], fun k z1 z2 z3 => by rw [h2.2 k z1 z2 z3, h1.2 k z1 z2 z3]⟩
/-- the easy case: only its papers of trial and its round -/
theorem QC.of (hs : Two sh sp) (h : ∀ a, a < 35 ∨ 51 < a → mem' a = mem a) : QC sp mem mem' := ⟨fun a _ z _ => h a z, by rw [h 1 (by decide)]⟩
theorem QM.of (h : ∀ a, a ≠ 78 → a ≠ 79 → a ≠ 80 → a ≠ 81 → mem' a = mem a) : QM mem mem' := ⟨fun a _ _ z _ => h a (by omega) (by omega) (by omega) (by omega), fun k _ _ _ => by rw [h 62 (by decide) (by decide) (by decide) (by decide)]⟩
theorem CI.q (h : CI S P u k w x sh mem) (hs : Two sh sp) (hq : QC sp mem mem') : CI S P u k w x sh mem' := by
  obtain ⟨h1, h2, h3, h4, h5, h6⟩ := h
  unfold Two at hs
  exact ⟨h1.keep (fun a _ _ => hq.1 a (by omega) (by omega) (by omega)), h2.keep (fun a _ _ => hq.1 a (by omega) (by omega) (by omega)), h3.keep (fun a _ _ => hq.1 a (by omega) (by omega) (by omega)), h4.keep (fun a _ _ => hq.1 a (by omega) (by omega) (by omega)), h5.keep (by rw [hq.1 0 (by decide) (by decide) (by omega)]) (hq.1 60 (by decide) (by decide) (by omega)) (hq.1 61 (by decide) (by decide) (by omega)), h6.keep hq.2 (hq.1 2 (by decide) (by decide) (by omega))⟩
theorem MI.q (h : MI S P u k w x mem) (hq : QM mem mem') : MI S P u k w x mem' := by
  obtain ⟨h1, h2, h3, h4, h5, h6⟩ := h
  exact ⟨h1.keep (fun a _ _ => hq.2 a (by omega) (by omega) (by omega)) (fun a _ _ => hq.1 a (by omega) (by omega) (by omega) (by omega)), h2.keep (hq.1 77 (by decide) (by decide) (by decide) (by decide)), h3.keep (hq.2 31 (by decide) (by decide) (by decide)) (hq.2 32 (by decide) (by decide) (by decide)) (hq.1 82 (by decide) (by decide) (by decide) (by decide)), h4.keep (hq.2 43 (by decide) (by decide) (by decide)) (hq.1 89 (by decide) (by decide) (by decide) (by decide)), h5.keep (hq.2 40 (by decide) (by decide) (by decide)) (hq.1 87 (by decide) (by decide) (by decide) (by decide)) (hq.1 88 (by decide) (by decide) (by decide) (by decide)), h6.keep (hq.2 0 (by decide) (by decide) (by decide)) (hq.1 63 (by decide) (by decide) (by decide) (by decide))⟩
theorem CI.up (h : CI S P u k w x sh mem) (hs : Two sh sp) (hq : ∀ a, a < 62 → mem' a = mem a) : CI S P u k w x sh mem' := by
  obtain ⟨h1, h2, h3, h4, h5, h6⟩ := h
  unfold Two at hs
  exact ⟨h1.keep (fun a _ _ => hq a (by omega)), h2.keep (fun a _ _ => hq a (by omega)), h3.keep (fun a _ _ => hq a (by omega)), h4.keep (fun a _ _ => hq a (by omega)), h5.keep (by rw [hq 0 (by decide)]) (hq 60 (by decide)) (hq 61 (by decide)), h6.keep (by rw [hq 1 (by decide)]) (hq 2 (by decide))⟩
theorem MI.up (h : MI S P u k w x mem) (hq : ∀ a, 62 ≤ a → mem' a = mem a) : MI S P u k w x mem' := by
  obtain ⟨h1, h2, h3, h4, h5, h6⟩ := h
  have h62 := hq 62 (by decide)
  exact ⟨h1.keep (fun a _ _ => by rw [h62]) (fun a _ _ => hq a (by omega)), h2.keep (hq 77 (by decide)), h3.keep (by rw [h62]) (by rw [h62]) (hq 82 (by decide)), h4.keep (by rw [h62]) (hq 89 (by decide)), h5.keep (by rw [h62]) (hq 87 (by decide)) (hq 88 (by decide)), h6.keep (by rw [h62]) (hq 63 (by decide))⟩
end KEEP
/-- a question: both answer alike, and all that stands stays -/
def Agree (sh sp : Nat) (fc fr : Mem → Option (Int32 × Mem)) (mem : Mem) : Prop := ∃ r m1 m2, fc mem = some (r, m1) ∧ fr m1 = some (r, m2) ∧ Inv sh sp m2
section AGR
variable {S : Sh} {P : Pa} {u k : Nat × (Nat → Pa)} {w : Nat × (Nat → Nat) × (Nat → Bool)} {x : Nat × (Nat → Nat)} {sh sp : Nat} {mem : Mem}
theorem agree_of {S' : Sh} {P' : Pa} {u' k' : Nat × (Nat → Pa)} {w' : Nat × (Nat → Nat) × (Nat → Bool)} {x' : Nat × (Nat → Nat)} {fc fr : Mem → Option (Int32 × Mem)} {r : Int32} {m1 m2 : Mem} (hs : Two sh sp) (h1 : fc mem = some (r, m1)) (h2 : fr m1 = some (r, m2)) (hA : AOK S' P' u' k' w' x') (hC : CI S' P' u' k' w' x' sh m1) (hf : ∀ a, a < 62 → m2 a = m1 a) (hM : MI S' P' u' k' w' x' m2) : Agree sh sp fc fr mem :=
  ⟨r, m1, m2, h1, h2, hs, S', P', u', k', w', x', hA, hC.up hs hf, hM⟩
theorem agree_q {fc fr : Mem → Option (Int32 × Mem)} {r : Int32} {m1 m2 : Mem} (hs : Two sh sp) (hA : AOK S P u k w x) (hC : CI S P u k w x sh mem) (hM : MI S P u k w x mem) (h1 : fc mem = some (r, m1)) (hq1 : QC sp mem m1) (h2 : fr m1 = some (r, m2)) (hq2 : QM m1 m2) (hf2 : ∀ a, a < 62 → m2 a = m1 a) : Agree sh sp fc fr mem := by
  refine agree_of hs h1 h2 hA (hC.q hs hq1) hf2 (MI.q (MI.up hM (fun a ha => hq1.1 a (by omega) (by omega) (by unfold Two at hs; omega))) hq2)
theorem agree_0 {fc fr : Mem → Option (Int32 × Mem)} {r : Int32} (hs : Two sh sp) (hA : AOK S P u k w x) (hC : CI S P u k w x sh mem) (hM : MI S P u k w x mem) (h1 : fc mem = some (r, mem)) (h2 : fr mem = some (r, mem)) : Agree sh sp fc fr mem := agree_q hs hA hC hM h1 QC.rfl h2 QM.rfl (fun _ _ => rfl)
end AGR
/-! a number that is given: one of n, or not -/
def Bad (l : Int32) (n : Nat) : Prop := l < 0 ∨ (¬ l < 0 ∧ nI n ≤ l)
theorem ixs (l : Int32) (n : Nat) : (∃ x, x < n ∧ l = nI x) ∨ Bad l n := by
  by_cases h0 : l < 0
  · exact Or.inr (Or.inl h0)
  · by_cases h1 : nI n ≤ l
    · exact Or.inr (Or.inr ⟨h0, h1⟩)
    · obtain ⟨j, hj, rfl⟩ := nI_of h0
      refine Or.inl ⟨j, ?_, rfl⟩
      rcases Nat.lt_or_ge j n with q | q
      · exact q
      · exact absurd (nI_le q hj) h1
theorem in7_1 {x n : Nat} (hx : x < n) (hn : n < 2 ^ 30) : f_X7_in (nI x) 0 (nI n - 1) = some 1 := by
  obtain ⟨m, rfl⟩ : ∃ m, n = m + 1 := ⟨n - 1, by omega⟩
  unfold f_X7_in
  rw [if_neg (nI_pos (by omega)), nI_pred, if_neg (nI_nlt (by omega) (by omega))]
theorem in7_0 {l : Int32} {n : Nat} (h : Bad l n) (hn : n < 2 ^ 30) : f_X7_in l 0 (nI n - 1) = some 0 := by
  unfold f_X7_in
  rcases h with h | ⟨h0, h⟩
  · rw [if_pos h]
  · rw [if_neg h0]
    obtain ⟨j, hj, rfl⟩ := nI_of h0
    have hnj : n ≤ j := (nI_leI (by omega) hj).mp h
    have : nI n - 1 < nI j := by
      rcases Nat.eq_zero_or_pos n with z | z
      · rw [z, Int32.lt_iff_toInt_lt]
        rw [nI_toInt (by omega)]
        have : (nI 0 - 1).toInt = -1 := by decide
        omega
      · obtain ⟨m, rfl⟩ : ∃ m, n = m + 1 := ⟨n - 1, by omega⟩
        rw [nI_pred]
        exact nI_lt (by omega) hj
    rw [if_pos this]
section ARG
variable {S : Sh} {sh : Nat} {mem : Mem} {l : Int32} {x : Nat}
theorem placec_1 (hO : SOK S) (hC : CS S sh mem) (hx : x < sP S) : f_X6_isPlace sh (nI x) mem = some 1 := by
  have hb := hO.p8
  unfold f_X6_isPlace
  rw [if_neg (nI_pos (by omega)), hC.1.2.2.1, if_neg (nI_ge hx (by omega))]
theorem placec_0 (hO : SOK S) (hC : CS S sh mem) (hx : Bad l (sP S)) : f_X6_isPlace sh l mem = some 0 := by
  unfold f_X6_isPlace
  rcases hx with h | ⟨h0, h⟩
  · rw [if_pos h]
  · rw [if_neg h0, hC.1.2.2.1, if_pos h]
theorem place7_1 (hO : SOK S) (hM : MS S mem) (hx : x < sP S) : f_X7_isPlace (nI x) mem = some 1 := by
  have hb := hO.p8
  unfold f_X7_isPlace
  rw [hM.1.2.2.1, in7_1 hx (by omega)]
  rfl
theorem place7_0 (hO : SOK S) (hM : MS S mem) (hx : Bad l (sP S)) : f_X7_isPlace l mem = some 0 := by
  have hb := hO.p8
  unfold f_X7_isPlace
  rw [hM.1.2.2.1, in7_0 hx (by omega)]
  rfl
theorem wordc_1 (hO : SOK S) (hC : CS S sh mem) (hx : x < sW S) : f_X6_isWord sh (nI x) mem = some 1 := by
  have hb := hO.w9
  unfold f_X6_isWord
  rw [if_neg (nI_pos (by omega)), hC.1.2.2.2.1, if_neg (nI_ge hx (by omega))]
theorem wordc_0 (hO : SOK S) (hC : CS S sh mem) (hx : Bad l (sW S)) : f_X6_isWord sh l mem = some 0 := by
  unfold f_X6_isWord
  rcases hx with h | ⟨h0, h⟩
  · rw [if_pos h]
  · rw [if_neg h0, hC.1.2.2.2.1, if_pos h]
theorem word7_1 (hO : SOK S) (hM : MS S mem) (hx : x < sW S) : f_X7_isWord (nI x) mem = some 1 := by
  have hb := hO.w9
  unfold f_X7_isWord
  rw [hM.1.2.2.2.1, in7_1 hx (by omega)]
  rfl
theorem word7_0 (hO : SOK S) (hM : MS S mem) (hx : Bad l (sW S)) : f_X7_isWord l mem = some 0 := by
  have hb := hO.w9
  unfold f_X7_isWord
  rw [hM.1.2.2.2.1, in7_0 hx (by omega)]
  rfl
theorem solverc_1 (hO : SOK S) (hC : CS S sh mem) (hx : x < sN S) : f_X6_isSolver sh (nI x) mem = some 1 := by
  have hb := hO.n6
  unfold f_X6_isSolver
  rw [if_neg (nI_pos (by omega)), hC.1.2.2.2.2, if_neg (nI_ge hx (by omega))]
theorem solverc_0 (hO : SOK S) (hC : CS S sh mem) (hx : Bad l (sN S)) : f_X6_isSolver sh l mem = some 0 := by
  unfold f_X6_isSolver
  rcases hx with h | ⟨h0, h⟩
  · rw [if_pos h]
  · rw [if_neg h0, hC.1.2.2.2.2, if_pos h]
theorem solver7_1 (hO : SOK S) (hM : MS S mem) (hx : x < sN S) : f_X7_isSolver (nI x) mem = some 1 := by
  have hb := hO.n6
  unfold f_X7_isSolver
  rw [hM.1.2.2.2.2, in7_1 hx (by omega)]
  rfl
theorem solver7_0 (hO : SOK S) (hM : MS S mem) (hx : Bad l (sN S)) : f_X7_isSolver l mem = some 0 := by
  have hb := hO.n6
  unfold f_X7_isSolver
  rw [hM.1.2.2.2.2, in7_0 hx (by omega)]
  rfl
theorem sqC (hC : CS S sh mem) : f_X5_squareCount sh mem = some (nI (sR S * sC S)) := by
  unfold f_X5_squareCount
  rw [hC.1.1, hC.1.2.1, pk_mul]
  rfl
theorem sqM (hM : MS S mem) : f_X7_squares mem = some (nI (sR S * sC S)) := by
  unfold f_X7_squares
  rw [hM.1.1, hM.1.2.1, pk_mul]
  rfl
theorem squarec_1 (hO : SOK S) (hC : CS S sh mem) (hx : x < sR S * sC S) : f_X6_isSquare sh (nI x) mem = some 1 := by
  have hb := hO.rc
  unfold f_X6_isSquare
  rw [if_neg (nI_pos (by omega)), sqC hC]
  simp only [ob]
  rw [if_neg (nI_ge hx (by omega))]
theorem squarec_0 (hO : SOK S) (hC : CS S sh mem) (hx : Bad l (sR S * sC S)) : f_X6_isSquare sh l mem = some 0 := by
  unfold f_X6_isSquare
  rcases hx with h | ⟨h0, h⟩
  · rw [if_pos h]
  · rw [if_neg h0, sqC hC]
    simp only [ob]
    rw [if_pos h]
theorem square7_1 (hO : SOK S) (hM : MS S mem) (hx : x < sR S * sC S) : f_X7_isSquare (nI x) mem = some 1 := by
  have hb := hO.rc
  unfold f_X7_isSquare
  rw [sqM hM]
  simp only [ob]
  rw [in7_1 hx (by omega)]
  rfl
theorem square7_0 (hO : SOK S) (hM : MS S mem) (hx : Bad l (sR S * sC S)) : f_X7_isSquare l mem = some 0 := by
  have hb := hO.rc
  unfold f_X7_isSquare
  rw [sqM hM]
  simp only [ob]
  rw [in7_0 hx (by omega)]
  rfl
end ARG
