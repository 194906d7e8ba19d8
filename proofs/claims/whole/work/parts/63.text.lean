/-! the text that is read: class and reference see the same signs, and read the same numbers -/
def tk (x : Nat × (Nat → Nat)) (i : Nat) : Nat := if i < x.1 then x.2 i else 0
def figB (c : Nat) : Bool := decide (48 ≤ c) && decide (c ≤ 57)
def ltrB (c : Nat) : Bool := decide (97 ≤ c) && decide (c ≤ 102)
def nuV (x : Nat × (Nat → Nat)) (i : Nat) : Nat := if figB (tk x (i + 1)) = true then 10 * (tk x i - 48) + (tk x (i + 1) - 48) else tk x i - 48
def nuP (x : Nat × (Nat → Nat)) (i : Nat) : Nat := if figB (tk x i) = true then (if figB (tk x (i + 1)) = true then i + 2 else i + 1) else i
def nu (x : Nat × (Nat → Nat)) (i : Nat) : Int32 := if figB (tk x i) = true then nI (nuV x i) else -1
def XOK (x : Nat × (Nat → Nat)) : Prop := x.1 ≤ 200 ∧ ∀ j, j < x.1 → 32 ≤ x.2 j ∧ x.2 j ≤ 126
def at1 (mem : Mem) (j : Nat) : Mem := mset mem 1 2 (nI j)
def at7 (mem : Mem) (j : Nat) : Mem := mset mem 62 2 (nI j)
def TX (x : Nat × (Nat → Nat)) (i : Nat) (mem : Mem) : Prop := CX x mem ∧ mem 1 2 = nI i
def TM (x : Nat × (Nat → Nat)) (i : Nat) (mem : Mem) : Prop := MX x mem ∧ mem 62 2 = nI i
theorem mset_two (m : Mem) (a k : Nat) (v w : Int32) : mset (mset m a k v) a k w = mset m a k w := by
  funext a' k'
  rw [mset_at, mset_at, mset_at]
  by_cases h : a' = a ∧ k' = k
  · rw [if_pos h, if_pos h]
  · rw [if_neg h, if_neg h, if_neg h]
theorem mset_same {m : Mem} {a k : Nat} {v : Int32} (h : m a k = v) : mset m a k v = m := by
  funext a' k'
  rw [mset_at]
  by_cases q : a' = a ∧ k' = k
  · rw [if_pos q, q.1, q.2, h]
  · rw [if_neg q]
section TXT
variable {x : Nat × (Nat → Nat)} {i j : Nat} {mem : Mem}
theorem at1_at1 : at1 (at1 mem i) j = at1 mem j := mset_two _ _ _ _ _
theorem at7_at7 : at7 (at7 mem i) j = at7 mem j := mset_two _ _ _ _ _
theorem TX.go (h : TX x i mem) (j : Nat) : TX x j (at1 mem j) := ⟨h.1.keep (mset_k (by decide)) (mset_ne (by decide)), mset_eq⟩
theorem TM.go (h : TM x i mem) (j : Nat) : TM x j (at7 mem j) := ⟨h.1.keep (mset_k (by decide)) (mset_ne (by decide)), mset_eq⟩
theorem TX.is (h : TX x i mem) : at1 mem i = mem := mset_same h.2
theorem TM.is (h : TM x i mem) : at7 mem i = mem := mset_same h.2
theorem tk_le (hX : XOK x) (i : Nat) : tk x i ≤ 126 := by
  unfold tk
  by_cases c : i < x.1
  · rw [if_pos c]; exact (hX.2 i c).2
  · rw [if_neg c]; decide
theorem fig_c : ∀ c, c < 127 → f_X2_isFigure (nI c) = some (b2i (figB c)) := by decide +kernel
theorem ltr_c : ∀ c, c < 127 → f_X2_isLetter (nI c) = some (b2i (ltrB c)) := by decide +kernel
theorem fig_7 : ∀ c, c < 127 → f_X7_in (nI c) 48 57 = some (b2i (figB c)) := by decide +kernel
theorem ltr_7 : ∀ c, c < 127 → f_X7_in (nI c) 97 102 = some (b2i (ltrB c)) := by decide +kernel
theorem figB_ge {c : Nat} (h : figB c = true) : 48 ≤ c ∧ c ≤ 57 := by simpa [figB] using h
theorem ltrB_ge {c : Nat} (h : ltrB c = true) : 97 ≤ c ∧ c ≤ 102 := by simpa [ltrB] using h
theorem next_e (hX : XOK x) (h : TX x i mem) (hi : i < 1000) : f_X2_next mem = some (nI (tk x i), at1 mem (i + 1)) := by
  have h1 := hX.1
  unfold f_X2_next
  rw [h.1.1, h.2]
  by_cases c : i < x.1
  · rw [if_neg (nI_ge c (by omega)), rd_e i rfl (by omega) (by decide) (h.1.2 i c)]
    simp only [lt', nI_1, tk, c, if_true]
    rfl
  · rw [if_pos (nI_le (by omega) (by omega))]
    simp only [lt', nI_1, tk, c, if_false, Bool.false_eq_true]
    rfl
theorem peek_e (hX : XOK x) (h : TX x i mem) (hi : i < 1000) : f_X2_peek mem = some (nI (tk x i)) := by
  have h1 := hX.1
  unfold f_X2_peek
  rw [h.1.1, h.2]
  by_cases c : i < x.1
  · rw [if_neg (nI_ge c (by omega)), rd_e i rfl (by omega) (by decide) (h.1.2 i c)]
    simp only [tk, c, if_true]
  · rw [if_pos (nI_le (by omega) (by omega))]
    simp only [tk, c, if_false, Bool.false_eq_true]
    rfl
theorem here_e (hX : XOK x) (h : TM x i mem) (hi : i < 1000) : f_X7_here mem = some (nI (tk x i)) := by
  have h1 := hX.1
  unfold f_X7_here
  rw [h.1.1, h.2]
  by_cases c : i < x.1
  · rw [if_neg (nI_ge c (by omega)), rd_e i rfl (by omega) (by decide) (h.1.2 i c)]
    simp only [tk, c, if_true]
  · rw [if_pos (nI_le (by omega) (by omega))]
    simp only [tk, c, if_false, Bool.false_eq_true]
    rfl
theorem nuP_le (x : Nat × (Nat → Nat)) (i : Nat) : i ≤ nuP x i ∧ nuP x i ≤ i + 2 := by
  unfold nuP
  split
  · split <;> omega
  · omega
theorem nuV_le (hX : XOK x) (i : Nat) (h : figB (tk x i) = true) : nuV x i ≤ 99 := by
  have h1 := figB_ge h
  unfold nuV
  split
  · rename_i h2
    have := figB_ge h2
    omega
  · omega
theorem readNumber_e (hX : XOK x) (h : TX x i mem) (hi : i < 900) : f_X2_readNumber mem = some (nu x i, at1 mem (nuP x i)) := by
  have k0 := tk_le hX i
  have k1 := tk_le hX (i + 1)
  unfold f_X2_readNumber
  rw [peek_e hX h (by omega)]
  simp only [ob]
  rw [fig_c _ (by omega)]
  by_cases c : figB (tk x i) = true
  · have c1 := figB_ge c
    simp only [c, b2i, if_true]
    rw [if_neg (by decide), next_e hX h (by omega)]
    simp only [ob2, lt']
    rw [peek_e hX (h.go (i + 1)) (by omega)]
    simp only
    rw [fig_c _ (by omega), i_lit 48, i_sub (by omega)]
    by_cases d : figB (tk x (i + 1)) = true
    · have d1 := figB_ge d
      simp only [d, b2i, if_true]
      rw [if_neg (by decide), next_e hX (h.go (i + 1)) (by omega)]
      simp only
      rw [i_lit 10, pk_mul, nI_add, i_sub (by omega), at1_at1]
      simp only [nu, nuV, nuP, c, d, if_true]
      rw [show (tk x i - 48) * 10 + tk x (i + 1) - 48 = 10 * (tk x i - 48) + (tk x (i + 1) - 48) by omega]
    · simp only [d, b2i, if_false, Bool.false_eq_true]
      rw [if_pos (by decide)]
      simp only [nu, nuV, nuP, c, d, if_true, if_false, Bool.false_eq_true]
  · simp only [c, b2i, if_false, Bool.false_eq_true]
    rw [if_pos (by decide)]
    simp only [nu, nuP, c, if_false, Bool.false_eq_true]
    rw [h.is]
theorem number_e (hX : XOK x) (h : TM x i mem) (hi : i < 900) (l : Int32) : f_X7_number l mem = some (if figB (tk x i) = true then (if l < nI (nuV x i) then -1 else nI (nuV x i)) else -1, at7 mem (nuP x i)) := by
  have k0 := tk_le hX i
  have k1 := tk_le hX (i + 1)
  unfold f_X7_number
  rw [here_e hX h (by omega)]
  simp only [ob]
  rw [fig_7 _ (by omega)]
  by_cases c : figB (tk x i) = true
  · have c1 := figB_ge c
    simp only [c, b2i, if_true]
    rw [if_neg (by decide), h.2, nI_1]
    simp only [lt']
    rw [show mset mem 62 2 (nI (i + 1)) = at7 mem (i + 1) from rfl, here_e hX (h.go (i + 1)) (by omega)]
    simp only
    rw [fig_7 _ (by omega), i_lit 48, i_sub (by omega)]
    by_cases d : figB (tk x (i + 1)) = true
    · have d1 := figB_ge d
      simp only [d, b2i, if_true]
      rw [if_neg (by decide), (h.go (i + 1)).2, nI_1, i_lit 10, pk_mul, nI_add, i_sub (by omega), show mset (at7 mem (i + 1)) 62 2 (nI (i + 1 + 1)) = at7 mem (i + 2) from at7_at7]
      unfold f_X7_number_j71
      simp only [nuV, nuP, c, d, if_true]
      rw [show 10 * (tk x i - 48) + tk x (i + 1) - 48 = 10 * (tk x i - 48) + (tk x (i + 1) - 48) by omega]
      split <;> rfl
    · simp only [d, b2i, if_false, Bool.false_eq_true]
      rw [if_pos (by decide)]
      unfold f_X7_number_j71
      simp only [nuV, nuP, c, d, if_true, if_false, Bool.false_eq_true]
      split <;> rfl
  · simp only [c, b2i, if_false, Bool.false_eq_true]
    rw [if_pos (by decide)]
    simp only [nuP, c, if_false, Bool.false_eq_true]
    rw [h.is]
theorem sign_e (hX : XOK x) (h : TM x i mem) (hi : i < 900) (c : Nat) (hc : c < 2 ^ 31) : f_X7_sign (nI c) mem = some (b2i (tk x i == c), at7 mem (if tk x i = c then i + 1 else i)) := by
  have k0 := tk_le hX i
  unfold f_X7_sign
  rw [here_e hX h (by omega)]
  simp only [ob]
  by_cases q : tk x i = c
  · rw [if_pos (by rw [q])]
    unfold f_X7_sign_j13
    rw [if_neg (by decide), h.2, nI_1]
    simp only [lt']
    rw [show mset mem 62 2 (nI (i + 1)) = at7 mem (i + 1) from rfl, bk, if_pos (Or.inr rfl), if_pos q, q]
    simp [b2i]
  · rw [if_neg (lit_ne q (by omega) hc)]
    unfold f_X7_sign_j13
    rw [if_pos rfl, h.2]
    simp only [lt']
    rw [show nI i + 0 = nI i from nI_add i 0, show mset mem 62 2 (nI i) = mem from mset_same h.2, bk, if_pos (Or.inl rfl), if_neg q, h.is]
    simp [b2i, q]
end TXT
