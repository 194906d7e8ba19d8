/-! powers, common divisors, sets within a set -/
theorem power_e (a n : Nat) (hn : n < 1000) : f_X6_power (nI a) (nI n) = some (nI (a ^ n)) := by
  unfold f_X6_power
  rw [show ((1 : Int32), (0 : Int32)) = (fun i => (nI (a ^ i), nI i)) 0 from rfl, lp_FU (fun i => (nI (a ^ i), nI i)) n (r := (nI (a ^ n), nI n)) (by omega)]
  · rfl
  · intro i hi
    unfold f_X6_power_b4
    simp only
    rw [if_neg (nI_ge hi (by omega))]
    simp only [lt', nI_1]
    rw [pk_mul, Nat.pow_succ]
  · unfold f_X6_power_b4
    simp only
    rw [if_pos (nI_le (Nat.le_refl _) (by omega))]
theorem half_mod {x y k : Nat} (hy : 0 < y) (hk : y < 2 ^ (k + 1)) (hr : 0 < x % y) : y % (x % y) < 2 ^ k := by
  have h1 : x % y < y := Nat.mod_lt _ hy
  have h2 : y % (x % y) < x % y := Nat.mod_lt _ hr
  have h3 := Nat.div_add_mod y (x % y)
  have h4 : 1 ≤ y / (x % y) := (Nat.le_div_iff_mul_le hr).mpr (by omega)
  have h5 : x % y * 1 ≤ x % y * (y / (x % y)) := Nat.mul_le_mul_left _ h4
  rw [Nat.pow_succ] at hk
  omega
theorem gcdC_lp : ∀ k x y j f, y < 2 ^ k → k ≤ 25 → x < 2 ^ 31 → j + 2 * k + 1 ≤ 64 → 2 * k + 2 < f → ∃ z, lp f_X6_commonDivisor_b2 f (nI x, nI y, nI j) = some (nI (Nat.gcd x y), z) := by
  have fin : ∀ x j f, j < 64 → 0 < f → ∃ z, lp f_X6_commonDivisor_b2 f (nI x, nI 0, nI j) = some (nI (Nat.gcd x 0), z) := by
    intro x j f hj hf
    obtain ⟨g, rfl⟩ : ∃ g, f = g + 1 := ⟨f - 1, by omega⟩
    refine ⟨(nI 0, nI j), lp_done ?_⟩
    unfold f_X6_commonDivisor_b2
    simp only
    rw [if_neg (show ¬ (64 : Int32) ≤ nI j from nI_ge (b := 64) hj (by decide)), if_pos nI_0, Nat.gcd_zero_right]
  have one : ∀ x y j f, 0 < y → y < 2 ^ 31 → x < 2 ^ 31 → j < 64 → lp f_X6_commonDivisor_b2 (f + 1) (nI x, nI y, nI j) = lp f_X6_commonDivisor_b2 f (nI y, nI (x % y), nI (j + 1)) := by
    intro x y j f hy hy2 hx hj
    refine lp_more ?_
    unfold f_X6_commonDivisor_b2 dk
    simp only
    rw [if_neg (show ¬ (64 : Int32) ≤ nI j from nI_ge (b := 64) hj (by decide)), if_neg (nI_ne0 hy hy2), if_neg (nI_ne0 hy hy2)]
    simp only [lt', nI_1]
    rw [i_rm hx hy hy2]
  intro k
  induction k with
  | zero =>
    intro x y j f hy _ _ hj hf
    have : y = 0 := by omega
    subst this
    exact fin x j f (by omega) (by omega)
  | succ k ih =>
    intro x y j f hy hk hx hj hf
    have hp : 2 ^ (k + 1) ≤ 2 ^ 25 := Nat.pow_le_pow_right (by decide) hk
    by_cases h0 : y = 0
    · subst h0
      exact fin x j f (by omega) (by omega)
    · obtain ⟨g, rfl⟩ : ∃ g, f = g + 2 := ⟨f - 2, by omega⟩
      have hm : x % y < y := Nat.mod_lt _ (by omega)
      rw [one x y j (g + 1) (by omega) (by omega) hx (by omega)]
      have e1 : Nat.gcd x y = Nat.gcd y (x % y) := by rw [Nat.gcd_comm x y, Nat.gcd_rec y x, Nat.gcd_comm]
      by_cases h1 : x % y = 0
      · rw [h1] at e1 ⊢
        rw [e1]
        exact fin y (j + 1) (g + 1) (by omega) (by omega)
      · rw [one y (x % y) (j + 1) g (by omega) (by omega) (by omega) (by omega)]
        have e2 : Nat.gcd y (x % y) = Nat.gcd (x % y) (y % (x % y)) := by rw [Nat.gcd_comm y (x % y), Nat.gcd_rec (x % y) y, Nat.gcd_comm]
        rw [e1, e2]
        exact ih (x % y) (y % (x % y)) (j + 1 + 1) g (half_mod (by omega) hy (by omega)) (by omega) (by omega) (by omega) (by omega)
theorem gcdC_e {x y : Nat} (hx : x < 2 ^ 31) (hy : y < 2 ^ 25) : f_X6_commonDivisor (nI x) (nI y) = some (nI (Nat.gcd x y)) := by
  obtain ⟨z, e⟩ := gcdC_lp 25 x y 0 FU hy (Nat.le_refl _) hx (by decide) (Nat.lt_of_lt_of_le (by decide) FU_ge)
  unfold f_X6_commonDivisor
  rw [show (nI x, nI y, (0 : Int32)) = (nI x, nI y, nI 0) from rfl, e]
  rfl
theorem gcdM_lp : ∀ y x f, y < 2 ^ 31 → x < 2 ^ 31 → y + 1 < f → ∃ z, lp f_X7_common_b6 f (lN x, lN y) = some (lN (Nat.gcd x y), z) := by
  intro y
  induction y using Nat.strongRecOn with
  | ind y ih =>
    intro x f hy hx hf
    obtain ⟨g, rfl⟩ : ∃ g, f = g + 1 := ⟨f - 1, by omega⟩
    by_cases h0 : y = 0
    · subst h0
      refine ⟨lN 0, lp_done ?_⟩
      unfold f_X7_common_b6
      simp only
      rw [if_pos (show lg_cmp (lN 0) 0 = 0 from (lg_cmp_eq _ _).mpr rfl), Nat.gcd_zero_right]
    · have hm : x % y < y := Nat.mod_lt _ (by omega)
      have hne : ¬ lN y = 0 := fun z => h0 ((lN_eq (a := y) (b := 0) hy (by decide)).mp z)
      rw [lp_more (q' := (lN y, lN (x % y)))]
      · have e1 : Nat.gcd x y = Nat.gcd y (x % y) := by rw [Nat.gcd_comm x y, Nat.gcd_rec y x, Nat.gcd_comm]
        rw [e1]
        exact ih (x % y) hm y g (by omega) hy (by omega)
      · unfold f_X7_common_b6 dkL
        simp only
        rw [if_neg (fun z => hne ((lg_cmp_eq _ _).mp z)), if_neg hne]
        simp only [lt']
        rw [show lrm (lN x) (lN y) = lN (x % y) from pk_lRem (by omega) (by omega) (by omega)]
theorem gcdM_e {x y : Nat} (hx : x < 2 ^ 31) (hy : y < 2 ^ 31) : f_X7_common (lN x) (lN y) = some (lN (Nat.gcd x y)) := by
  obtain ⟨z, e⟩ := gcdM_lp y x FU hy hx (Nat.lt_of_lt_of_le (by omega) FU_ge)
  unfold f_X7_common
  rw [e]
  rfl
/-- a set within a set -/
def inB (M s : Nat) : Bool := decide (nI s &&& (nI M ^^^ (-1)) = 0)
theorem in_pop : ∀ M, M < 64 → ∀ s, s < 64 → inB M s = true → f_J6_bitCount_0f7a4 (nI s) = some (nI (cnt (fun i => bitB M i && bitB s i) 6)) ∧ f_J6_bitCount_0f7a4 (nI M &&& (nI s ^^^ (-1))) = some (nI (cnt (fun i => bitB M i && !bitB s i) 6)) := by decide +kernel
/-- what a set weighs -/
def prdN (M s a b : Nat) : Nat → Nat
  | 0 => 1
  | n + 1 => prdN M s a b n * (if bitB M n then (if bitB s n then a else b) else 1)
theorem prd_e (M s a b n : Nat) : prdN M s a b n = a ^ cnt (fun i => bitB M i && bitB s i) n * b ^ cnt (fun i => bitB M i && !bitB s i) n := by
  induction n with
  | zero => rfl
  | succ n ih =>
    rw [prdN, cnt, cnt, ih]
    cases bitB M n <;> cases bitB s n <;> simp [Nat.pow_succ, Nat.mul_assoc, Nat.mul_comm, Nat.mul_left_comm]
theorem prd_le (M s a b n : Nat) (ha : a ≤ 10) (hb : b ≤ 10) : prdN M s a b n ≤ 10 ^ n := by
  induction n with
  | zero => exact Nat.le_refl _
  | succ n ih =>
    rw [prdN, Nat.pow_succ]
    refine Nat.mul_le_mul ih ?_
    split
    · split <;> assumption
    · decide
