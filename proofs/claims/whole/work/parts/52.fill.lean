/-! all fillings: how many, the first one's words, the greatest value, for each square the letter that all have, and the set of its letters -/
abbrev FSt : Type := Nat × (Nat → Nat) × Nat × (Nat → Nat) × (Nat → Nat)
def rcd (q : FSt) (L c : Nat → Nat) : FSt := (q.1 + 1, (if q.1 = 0 then c else q.2.1), Nat.max q.2.2.1 (sumN L 16), (fun x => if q.1 = 0 then L x else if q.2.2.2.1 x = L x then q.2.2.2.1 x else 0), fun x => q.2.2.2.2 x ||| 2 ^ L x)
def foldW (f : Nat → FSt → FSt) : Nat → FSt → FSt
  | 0, q => q
  | k + 1, q => f k (foldW f k q)
def chs (c : Nat → Nat) (p w : Nat) : Nat → Nat := fun j => if j = p then w else c j
def putW (S : Sh) (L : Nat → Nat) (p w : Nat) : Nat → Nat := wrN L (ssq S p) (swd S w) (spl S p)
def dfs (S : Sh) : Nat → Nat → (Nat → Nat) → (Nat → Nat) → FSt → FSt
  | 0, _, L, c, q => rcd q L c
  | n + 1, p, L, c, q => foldW (fun w q => if likeB S L p w then dfs S n (p + 1) (putW S L p w) (chs c p w) q else q) (sW S) q
section FIL
variable {S : Sh} {L L' c : Nat → Nat} {p w j n : Nat} {q : FSt}
theorem foldW_id {f : Nat → FSt → FSt} : ∀ k, (∀ w q, w < k → f w q = q) → foldW f k q = q := by
  intro k
  induction k with
  | zero => intro _; rfl
  | succ k ih => intro h; rw [foldW, ih (fun w q hw => h w q (by omega)), h k q (by omega)]
theorem put_mono (hO : SOK S) (hp : p < sP S) (hl : likeB S L p w = true) (x : Nat) : L x = 0 ∨ putW S L p w x = L x := by
  unfold putW
  by_cases h : ∃ k, k < spl S p ∧ ssq S p k = x
  · obtain ⟨k, hk, rfl⟩ := h
    rw [wrN_in _ (fun a b _ _ e => hO.inj hp e) hk]
    unfold likeB at hl
    rw [Bool.and_eq_true] at hl
    have := allB_iff.mp hl.2 k hk
    simp only [Bool.or_eq_true, beq_iff_eq] at this
    rcases this with h | h
    · exact Or.inl h
    · exact Or.inr h.symm
  · exact Or.inr (wrN_out _ (fun k hk e => h ⟨k, hk, e⟩))
theorem like_mono (h : ∀ x, L x = 0 ∨ L' x = L x) (hl : likeB S L' j w = true) : likeB S L j w = true := by
  unfold likeB at hl ⊢
  rw [Bool.and_eq_true] at hl ⊢
  refine ⟨hl.1, ?_⟩
  rw [allB_iff] at hl ⊢
  intro k hk
  have h2 := hl.2 k hk
  simp only [Bool.or_eq_true, beq_iff_eq] at h2 ⊢
  rcases h (ssq S j k) with h3 | h3
  · exact Or.inl h3
  · rw [h3] at h2
    exact h2
/-- nothing is found where a place can take no word -/
theorem dfs_dead (hO : SOK S) : ∀ n p L c q, p + n = sP S → (∃ j, p ≤ j ∧ j < sP S ∧ ∀ w, w < sW S → likeB S L j w = false) → dfs S n p L c q = q := by
  intro n
  induction n with
  | zero =>
    rintro p L c q hn ⟨j, h1, h2, -⟩
    omega
  | succ n ih =>
    rintro p L c q hn ⟨j, h1, h2, h3⟩
    rw [dfs]
    refine foldW_id _ (fun w q hw => ?_)
    cases hl : likeB S L p w with
    | false => rfl
    | true =>
      rw [if_pos rfl]
      by_cases he : j = p
      · subst he
        rw [h3 w hw] at hl
        cases hl
      · refine ih (p + 1) _ _ q (by omega) ⟨j, by omega, h2, fun v hv => ?_⟩
        cases hm : likeB S (putW S L p w) j v with
        | false => rfl
        | true =>
          have := like_mono (put_mono hO (by omega) hl) hm
          rw [h3 v hv] at this
          cases this
theorem foldW_cnt {f : Nat → FSt → FSt} {b : Nat} : ∀ k q, (∀ w q, w < k → (f w q).1 ≤ q.1 + b) → (foldW f k q).1 ≤ q.1 + k * b := by
  intro k
  induction k with
  | zero => intro q _; rw [Nat.zero_mul]; exact Nat.le_refl _
  | succ k ih =>
    intro q h
    have h1 := ih q (fun w q hw => h w q (by omega))
    have h2 := h k (foldW f k q) (by omega)
    rw [foldW, Nat.succ_mul]
    omega
theorem dfs_cnt (hO : SOK S) : ∀ n p L c q, (dfs S n p L c q).1 ≤ q.1 + 9 ^ n := by
  intro n
  induction n with
  | zero => intro p L c q; exact Nat.le_refl _
  | succ n ih =>
    intro p L c q
    have hw9 := hO.w9
    rw [dfs]
    have h := foldW_cnt (f := fun w q => if likeB S L p w then dfs S n (p + 1) (putW S L p w) (chs c p w) q else q) (b := 9 ^ n) (sW S) q (fun w q _ => by
      split
      · exact ih _ _ _ _
      · exact Nat.le_add_right _ _)
    have h2 : sW S * 9 ^ n ≤ 9 * 9 ^ n := Nat.mul_le_mul_right _ hw9
    rw [Nat.pow_succ]
    omega
/-- letters that agree below 16 are as good -/
theorem like_congr (hO : SOK S) (hj : j < sP S) (h : ∀ x, x < 16 → L x = L' x) : likeB S L j w = likeB S L' j w := by
  unfold likeB
  congr 1
  refine allB_congr (fun k hk => ?_)
  rw [h _ (hO.sq hj hk)]
/-- what the letters and the sets have to do with each other -/
def comOK (q : FSt) : Prop := ∀ x, (q.1 = 0 → q.2.2.2.2 x = 0) ∧ (0 < q.1 → q.2.2.2.2 x ≠ 0 ∧ (q.2.2.2.1 x ≠ 0 → q.2.2.2.2 x = 2 ^ q.2.2.2.1 x) ∧ (q.2.2.2.1 x = 0 → ∀ d, 1 ≤ d → q.2.2.2.2 x ≠ 2 ^ d))
theorem or_pow {m d e : Nat} (h : m ||| 2 ^ d = 2 ^ e) : (m = 0 ∨ m = 2 ^ e) ∧ d = e := by
  have h1 : ∀ i, (m ||| 2 ^ d).testBit i = (2 ^ e).testBit i := fun i => by rw [h]
  have hd : d = e := by
    have := h1 d
    rw [Nat.testBit_or, Nat.testBit_two_pow_self, Bool.or_true, Nat.testBit_two_pow] at this
    have := of_decide_eq_true this.symm
    exact this.symm
  subst hd
  refine ⟨?_, rfl⟩
  cases hb : m.testBit d with
  | true =>
    refine Or.inr (Nat.eq_of_testBit_eq (fun i => ?_))
    by_cases hi : i = d
    · rw [hi, hb, Nat.testBit_two_pow_self]
    · have := h1 i
      rw [Nat.testBit_or, Nat.testBit_two_pow, decide_eq_false (fun z => hi z.symm), Bool.or_false] at this
      rw [this, Nat.testBit_two_pow, decide_eq_false (fun z => hi z.symm)]
  | false =>
    refine Or.inl (Nat.eq_of_testBit_eq (fun i => ?_))
    rw [Nat.zero_testBit]
    by_cases hi : i = d
    · rw [hi, hb]
    · have := h1 i
      rw [Nat.testBit_or, Nat.testBit_two_pow, decide_eq_false (fun z => hi z.symm), Bool.or_false] at this
      exact this
theorem comOK_rcd (h : comOK q) : comOK (rcd q L c) := by
  intro x
  obtain ⟨h1, h2⟩ := h x
  refine ⟨fun z => absurd z (Nat.succ_ne_zero _), fun _ => ?_⟩
  unfold rcd
  simp only
  have pp : 2 ^ L x ≠ 0 := Nat.ne_of_gt (Nat.two_pow_pos _)
  refine ⟨fun z => pp (Nat.or_eq_zero_iff.mp z).2, ?_, ?_⟩
  · intro hne
    by_cases h0 : q.1 = 0
    · rw [if_pos h0, h1 h0, Nat.zero_or]
    · rw [if_neg h0] at hne ⊢
      by_cases he : q.2.2.2.1 x = L x
      · rw [if_pos he] at hne ⊢
        rw [(h2 (by omega)).2.1 hne, he, Nat.or_self]
      · rw [if_neg he] at hne
        exact absurd rfl hne
  · intro hz d hd e
    obtain ⟨g1, g2⟩ := or_pow e
    by_cases h0 : q.1 = 0
    · rw [if_pos h0] at hz
      omega
    · rw [if_neg h0] at hz
      obtain ⟨k1, k2, k3⟩ := h2 (by omega)
      rcases g1 with g1 | g1
      · exact k1 g1
      · by_cases hc : q.2.2.2.1 x = 0
        · exact k3 hc d hd g1
        · by_cases he : q.2.2.2.1 x = L x
          · rw [if_pos he] at hz
            exact hc hz
          · have := k2 hc
            rw [g1] at this
            have h9 : 0 ||| 2 ^ d = 2 ^ q.2.2.2.1 x := by rw [Nat.zero_or]; exact this
            exact he (by rw [g2]; exact (or_pow h9).2.symm)
theorem comOK_fold {f : Nat → FSt → FSt} : ∀ k q, (∀ w q, comOK q → comOK (f w q)) → comOK q → comOK (foldW f k q) := by
  intro k
  induction k with
  | zero => intro q _ h; exact h
  | succ k ih => intro q hf h; exact hf k _ (ih q hf h)
theorem comOK_dfs : ∀ n p L c q, comOK q → comOK (dfs S n p L c q) := by
  intro n
  induction n with
  | zero => intro p L c q h; exact comOK_rcd h
  | succ n ih =>
    intro p L c q h
    rw [dfs]
    refine comOK_fold _ _ (fun w q hq => ?_) h
    split
    · exact ih _ _ _ _ hq
    · exact hq
end FIL
