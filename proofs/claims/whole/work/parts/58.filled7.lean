/-! the reference's search: what it notes of a filling -/
def FM (S : Sh) (q : FSt) (m : Mem) : Prop := m 62 38 = nI q.1 ∧ m 62 39 = (if q.1 = 0 then -1 else nI q.2.2.1) ∧ (0 < q.1 → ∀ j, j < sP S → m 85 j = nI (q.2.1 j)) ∧ ∀ x, x < sR S * sC S → m 86 x = nI (q.2.2.2.2 x)
theorem FM.keep {S : Sh} {q : FSt} {m m' : Mem} (h : FM S q m) (h62 : m' 62 = m 62) (h85 : m' 85 = m 85) (h86 : m' 86 = m 86) : FM S q m' := by
  unfold FM
  rw [h62, h85, h86]
  exact h
theorem sumN_ext {f : Nat → Nat} {n : Nat} : ∀ k, (∀ i, n ≤ i → i < n + k → f i = 0) → sumN f (n + k) = sumN f n := by
  intro k
  induction k with
  | zero => intro _; rfl
  | succ k ih =>
    intro h
    rw [show n + (k + 1) = (n + k) + 1 from rfl, sumN, h (n + k) (by omega) (by omega), ih (fun i h1 h2 => h i h1 (by omega))]
    rfl
section FI7
variable {S : Sh} {L c : Nat → Nat} {q : FSt} {m : Mem}
theorem filled_e (hO : SOK S) (hM : MS S m) (hL : ∀ x, x < 16 → m 83 (16 * sP S + x) = nI (L x)) (hL6 : ∀ x, x < 16 → L x ≤ 6) (hL0 : ∀ x, x < 16 → sR S * sC S ≤ x → L x = 0) (hc : ∀ j, j < sP S → m 84 j = nI (c j)) (hF : FM S q m) (hq : q.1 < 2 ^ 30) (hB : QB q) (hz : q.1 = 0 → q.2.2.1 = 0) : ∃ m', f_X7_filled m = some m' ∧ FM S (rcd q L c) m' ∧ (∀ a, a ≠ 62 → a ≠ 85 → a ≠ 86 → m' a = m a) ∧ ∀ k, k ≠ 38 → k ≠ 39 → m' 62 k = m 62 k := by
  have hp8 := hO.p8
  have hrc := hO.rc
  have hs := sum_le hL6
  have hmb := hB.1
  obtain ⟨f1, f2, f3, f4⟩ := hF
  have esum : sumN L 16 = sumN L (sR S * sC S) := by
    have h := sumN_ext (f := L) (n := sR S * sC S) (16 - sR S * sC S) (fun i h1 h2 => hL0 i (by omega) h1)
    rw [show sR S * sC S + (16 - sR S * sC S) = 16 by omega] at h
    exact h
  obtain ⟨r, er, m1, rfl, g1, g2⟩ := lp_invF (body := f_X7_filled_b4) (fun i s => ∃ m1, s = (nI (sumN L i), nI i, m1) ∧ (∀ y, y < sR S * sC S → m1 86 y = if y < i then nI ((rcd q L c).2.2.2.2 y) else m 86 y) ∧ ∀ a, a ≠ 86 → m1 a = m a) (sR S * sC S) (fun r => ∃ m1, r = (nI (sumN L (sR S * sC S)), nI (sR S * sC S), m1) ∧ (∀ y, y < sR S * sC S → m1 86 y = nI ((rcd q L c).2.2.2.2 y)) ∧ ∀ a, a ≠ 86 → m1 a = m a) (by omega) (q := (0, 0, m)) ⟨m, rfl, fun y _ => by rw [if_neg (Nat.not_lt_zero _)], fun _ _ => rfl⟩
    (fun i s hi hI => by
      obtain ⟨m1, rfl, g1, g2⟩ := hI
      have h6 := hL6 i (by omega)
      have hM1 := hM.keep (mem' := m1) (fun a _ _ => by rw [g2 62 (by decide)]) (fun a _ _ => g2 a (by omega))
      refine Or.inl ?_
      unfold f_X7_filled_b4
      simp only
      rw [sqM hM1]
      simp only [ob]
      rw [if_neg (nI_ge hi (by omega)), hM1.1.2.2.1, letterAt_e (v := L i) (by omega) (by omega) (by rw [g2 83 (by decide)]; exact hL i (by omega))]
      simp only [lt']
      rw [rd_e i rfl (by omega) (by decide) (show m1 86 i = nI (q.2.2.2.2 i) by rw [g1 i hi, if_neg (Nat.lt_irrefl _)]; exact f4 i hi), wr_nI (show i < 16 by omega) (by decide), i_shl1 _ (by omega), i_or, nI_add, nI_1]
      refine ⟨_, rfl, _, rfl, fun y hy => ?_, fun a ha => by rw [mset_ne ha, g2 a ha]⟩
      rw [mset_at]
      by_cases he : y = i
      · rw [if_pos ⟨rfl, he⟩, if_pos (by omega), he]
        rfl
      · rw [if_neg (fun z => he z.2), g1 y hy]
        by_cases hlt : y < i
        · rw [if_pos hlt, if_pos (by omega)]
        · rw [if_neg hlt, if_neg (by omega)])
    (fun s hI => by
      obtain ⟨m1, rfl, g1, g2⟩ := hI
      have hM1 := hM.keep (mem' := m1) (fun a _ _ => by rw [g2 62 (by decide)]) (fun a _ _ => g2 a (by omega))
      unfold f_X7_filled_b4
      simp only
      rw [sqM hM1]
      simp only [ob]
      rw [if_pos (nI_le (Nat.le_refl _) (by omega))]
      exact ⟨_, rfl, m1, rfl, fun y hy => by rw [g1 y hy, if_pos hy], g2⟩)
  have h62 : m1 62 = m 62 := g2 62 (by decide)
  obtain ⟨r2, er2, z2, m2, rfl, k1, k2⟩ := lp_invF (body := f_X7_filled_b46 (nI (sumN L (sR S * sC S)))) (fun i s => ∃ m2, s = (nI i, m2) ∧ (∀ j, j < i → m2 85 j = nI (c j)) ∧ (i = 0 → m2 = m1) ∧ (0 < i → q.1 = 0) ∧ ∀ a, a ≠ 85 → m2 a = m1 a) (sP S) (fun r => ∃ z m2, r = (z, m2) ∧ (∀ j, j < sP S → m2 85 j = nI ((rcd q L c).2.1 j)) ∧ ∀ a, a ≠ 85 → m2 a = m1 a) (by omega) (q := (0, m1)) ⟨m1, rfl, fun j hj => absurd hj (Nat.not_lt_zero _), fun _ => rfl, fun h => absurd h (Nat.lt_irrefl _), fun _ _ => rfl⟩
    (fun i s hi hI => by
      obtain ⟨m2, rfl, k1, k2, k3, k4⟩ := hI
      unfold f_X7_filled_b46
      simp only
      rw [k4 62 (by decide), h62, hM.1.2.2.1, f1, if_neg (nI_ge hi (by omega))]
      by_cases h0 : q.1 = 0
      · rw [if_pos (show nI q.1 = 0 by rw [h0]; rfl), rd_e i rfl (by omega) (by decide) (show m2 84 i = nI (c i) by rw [k4 84 (by decide), g2 84 (by decide)]; exact hc i hi), wr_nI (by omega) (by decide)]
        simp only [lt', nI_1]
        refine Or.inl ⟨_, rfl, _, rfl, fun j hj => ?_, fun h => absurd h (Nat.succ_ne_zero _), fun _ => h0, fun a ha => by rw [mset_ne ha, k4 a ha]⟩
        rw [mset_at]
        by_cases he : j = i
        · rw [if_pos ⟨rfl, he⟩, he]
        · rw [if_neg (fun z => he z.2)]
          exact k1 j (by omega)
      · rw [if_neg (nI_ne0 (by omega) (by omega))]
        have hi0 : i = 0 := by
          rcases Nat.eq_zero_or_pos i with z | z
          · exact z
          · exact absurd (k3 z) h0
        refine Or.inr ⟨_, rfl, _, m2, rfl, fun j hj => ?_, k4⟩
        rw [k2 hi0, g2 85 (by decide), show (rcd q L c).2.1 = if q.1 = 0 then c else q.2.1 from rfl, if_neg h0]
        exact f3 (by omega) j hj)
    (fun s hI => by
      obtain ⟨m2, rfl, k1, k2, k3, k4⟩ := hI
      unfold f_X7_filled_b46
      simp only
      rw [k4 62 (by decide), h62, hM.1.2.2.1, if_pos (nI_le (Nat.le_refl _) (by omega))]
      refine ⟨_, rfl, _, m2, rfl, fun j hj => ?_, k4⟩
      rw [k1 j hj, show (rcd q L c).2.1 = if q.1 = 0 then c else q.2.1 from rfl, if_pos (k3 (by omega))])
  have h62b : m2 62 = m 62 := by rw [k2 62 (by decide), h62]
  have out : ∀ m3 : Mem, m3 62 38 = nI (q.1 + 1) → m3 62 39 = nI (Nat.max q.2.2.1 (sumN L 16)) → (∀ k, k ≠ 38 → k ≠ 39 → m3 62 k = m2 62 k) → (∀ a, a ≠ 62 → m3 a = m2 a) → FM S (rcd q L c) m3 ∧ (∀ a, a ≠ 62 → a ≠ 85 → a ≠ 86 → m3 a = m a) ∧ ∀ k, k ≠ 38 → k ≠ 39 → m3 62 k = m 62 k := by
    intro m3 z1 z2 z3 z4
    refine ⟨⟨z1, by rw [z2]; rfl, fun _ j hj => by rw [z4 85 (by decide)]; exact k1 j hj, fun x hx => by rw [z4 86 (by decide), k2 86 (by decide)]; exact g1 x hx⟩, fun a y1 y2 y3 => by rw [z4 a y1, k2 a y2, g2 a y3], fun k y1 y2 => by rw [z3 k y1 y2, h62b]⟩
  unfold f_X7_filled
  rw [er]
  simp only [ob]
  rw [er2]
  simp only
  unfold f_X7_filled_j79
  simp only [lt']
  have e38 : ∀ v, mset m2 62 39 v 62 38 = nI q.1 := fun v => by rw [mset_k (by decide), h62b, f1]
  rw [h62b, e38, e38, nI_1, f2, ← esum]
  by_cases h0 : q.1 = 0
  · have hno : ¬ nI (sumN L 16) ≤ (-1 : Int32) := by
      intro z
      rw [Int32.le_iff_toInt_le, nI_toInt (by omega)] at z
      have : (-1 : Int32).toInt = -1 := by decide
      omega
    rw [if_pos h0, if_neg hno]
    refine ⟨_, rfl, out _ mset_eq ?_ (fun k z1 z2 => by rw [mset_k z1, mset_k z2]) (fun a ha => by rw [mset_ne ha, mset_ne ha])⟩
    rw [mset_k (by decide), mset_eq, hz h0, show Nat.max 0 (sumN L 16) = sumN L 16 from Nat.max_eq_right (Nat.zero_le _)]
  · rw [if_neg h0]
    by_cases hle : sumN L 16 ≤ q.2.2.1
    · rw [if_pos (nI_le hle (by omega))]
      refine ⟨_, rfl, out _ mset_eq ?_ (fun k z1 z2 => by rw [mset_k z1, mset_k z2]) (fun a ha => by rw [mset_ne ha, mset_ne ha])⟩
      rw [mset_k (by decide), mset_eq]
      congr 1
      exact (Nat.max_eq_left hle).symm
    · rw [if_neg (nI_ge (by omega) (by omega))]
      refine ⟨_, rfl, out _ mset_eq ?_ (fun k z1 z2 => by rw [mset_k z1, mset_k z2]) (fun a ha => by rw [mset_ne ha, mset_ne ha])⟩
      rw [mset_k (by decide), mset_eq]
      congr 1
      exact (Nat.max_eq_right (by omega)).symm
end FI7
