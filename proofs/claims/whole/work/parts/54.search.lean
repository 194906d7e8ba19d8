/-! the class's search: the letters of a place, and looking ahead -/
def codN (S : Sh) (L : Nat → Nat) (p : Nat) : Nat → Nat
  | 0 => 0
  | k + 1 => codN S L p k + L (ssq S p k) * 2 ^ (3 * k)
section SEA
variable {S : Sh} {s t : Nat} {L : Nat → Nat} {p : Nat} {m : Mem}
theorem cod_lt (hO : SOK S) (hp : p < sP S) (hL6 : ∀ x, x < 16 → L x ≤ 6) : ∀ k, k ≤ spl S p → codN S L p k < 2 ^ (3 * k) := by
  intro k
  induction k with
  | zero => intro _; exact Nat.one_pos
  | succ k ih =>
    intro hk
    have h1 := ih (by omega)
    have h2 := hL6 _ (hO.sq hp (show k < spl S p by omega))
    have h3 : L (ssq S p k) * 2 ^ (3 * k) ≤ 6 * 2 ^ (3 * k) := Nat.mul_le_mul_right _ h2
    rw [codN, show 3 * (k + 1) = 3 * k + 3 from rfl, Nat.pow_add]
    omega
theorem codeOf_e (hO : SOK S) (hC : CS S s m) (hL : ∀ x, x < 16 → m (t + 1) x = nI (L x)) (hL6 : ∀ x, x < 16 → L x ≤ 6) (hp : p < sP S) : f_X5_codeOf s t (nI p) m = some (nI (codN S L p (spl S p))) := by
  have hp8 := hO.p8
  have hpl := hO.pl hp
  obtain ⟨c1, c2, c3⟩ := hC.2.2.1 p hp
  unfold f_X5_codeOf
  rw [show ((0 : Int32), (0 : Int32)) = (fun i => (nI (codN S L p i), nI i)) 0 from rfl, lp_FU (fun i => (nI (codN S L p i), nI i)) (spl S p) (r := (nI (codN S L p (spl S p)), nI (spl S p))) (by omega)]
  · rfl
  · intro k hk
    have hsq := hO.sq hp hk
    have h6 := hL6 _ hsq
    have hlt := cod_lt hO hp hL6 k (by omega)
    unfold f_X5_codeOf_b5
    simp only
    rw [rd_e p rfl (by omega) (by decide) c1, if_neg (nI_ge (by omega) (by omega)), rd_e (p * 4 + k) (by rw [i_lit 4, pk_mul, nI_add]) (by omega) (by decide) (c3 k hk), rd_e (ssq S p k) rfl hsq (by decide) (hL _ hsq)]
    simp only [lt', nI_1]
    have hb : L (ssq S p k) * 2 ^ (3 * k) < 2 ^ 32 := by
      have h1 : 2 ^ (3 * k) ≤ 2 ^ 9 := Nat.pow_le_pow_right (by decide) (by omega)
      have h2 : L (ssq S p k) * 2 ^ (3 * k) ≤ 6 * 2 ^ 9 := Nat.mul_le_mul h6 h1
      exact Nat.lt_of_le_of_lt h2 (by decide)
    rw [i_lit 3, pk_mul, i_shl (by omega) hb, i_or]
    have h := Nat.two_pow_add_eq_or_of_lt hlt (L (ssq S p k))
    rw [Nat.or_comm, Nat.mul_comm (L (ssq S p k)), ← h, codN, Nat.mul_comm (L (ssq S p k)), Nat.add_comm]
  · unfold f_X5_codeOf_b5
    simp only
    rw [rd_e p rfl (by omega) (by decide) c1, if_pos (nI_le (Nat.le_refl _) (by omega))]
theorem cod_dig (hO : SOK S) (hL6 : ∀ x, x < 16 → L x ≤ 6) (hp : p < sP S) {k : Nat} (hk : k < 4) : codN S L p (spl S p) / 2 ^ (3 * k) % 8 = if k < spl S p then L (ssq S p k) else 0 := by
  have hpl := hO.pl hp
  have h6 : ∀ j, (if j < spl S p then L (ssq S p j) else 0) < 8 := by
    intro j
    split
    · have := hL6 _ (hO.sq hp (by assumption)); omega
    · decide
  have e : codN S L p (spl S p) = (if 0 < spl S p then L (ssq S p 0) else 0) + 8 * (if 1 < spl S p then L (ssq S p 1) else 0) + 64 * (if 2 < spl S p then L (ssq S p 2) else 0) + 512 * (if 3 < spl S p then L (ssq S p 3) else 0) := by
    rcases (show spl S p = 2 ∨ spl S p = 3 ∨ spl S p = 4 by omega) with h | h | h
    · rw [h]; simp [codN]; omega
    · rw [h]; simp [codN]; omega
    · rw [h]; simp [codN]; omega
  rw [e]
  exact cd_dig (h6 0) (h6 1) (h6 2) (h6 3) hk (fun j => if j < spl S p then L (ssq S p j) else 0) rfl rfl rfl rfl
/-- from p on every place can take a word -/
theorem canGoOn_e (hO : SOK S) (hC : CS S s m) (hL : ∀ x, x < 16 → m 46 x = nI (L x)) (hL6 : ∀ x, x < 16 → L x ≤ 6) (hp : p ≤ sP S) : (f_X4_canGoOn s (nI p) m = some 1) ∨ (f_X4_canGoOn s (nI p) m = some 0 ∧ ∃ j, p ≤ j ∧ j < sP S ∧ ∀ w, w < sW S → likeB S L j w = false) := by
  have hp8 := hO.p8
  obtain ⟨r, er, hr⟩ := lp_invF (body := f_X4_canGoOn_b2 s m) (fun i q => q = nI (p + i)) (sP S - p) (fun r => r = .inl (nI (sP S)) ∨ (r = .inr 0 ∧ ∃ j, p ≤ j ∧ j < sP S ∧ ∀ w, w < sW S → likeB S L j w = false)) (by omega) (q := nI p) rfl
    (fun i q hi hI => by
      subst hI
      have ha := agreeing_e (t := 45) (p := p + i) hO hC hL hL6 (by omega)
      unfold f_X4_canGoOn_b2
      rw [hC.1.2.2.1, if_neg (nI_ge (by omega) (by omega)), ha]
      simp only [ob, lt', nI_1]
      by_cases h0 : bm (fun w => likeB S L (p + i) w) (sW S) = 0
      · rw [h0, if_pos nI_0]
        exact Or.inr ⟨_, rfl, Or.inr ⟨rfl, p + i, by omega, by omega, bm_zero.mp h0⟩⟩
      · rw [if_neg (nI_ne0 (by omega) (bmW hO _))]
        exact Or.inl ⟨_, rfl, rfl⟩)
    (fun q hI => by
      subst hI
      unfold f_X4_canGoOn_b2
      rw [show p + (sP S - p) = sP S by omega, hC.1.2.2.1, if_pos (nI_le (Nat.le_refl _) (by omega))]
      exact ⟨_, rfl, Or.inl rfl⟩)
  unfold f_X4_canGoOn
  rw [er]
  rcases hr with rfl | ⟨rfl, h⟩
  · exact Or.inl rfl
  · exact Or.inr ⟨rfl, h⟩
end SEA
