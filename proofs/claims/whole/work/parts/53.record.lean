/-! the class's search: what it notes of a filling -/
def FC (S : Sh) (q : FSt) (m : Mem) : Prop := m 44 4 = nI q.1 ∧ m 44 5 = nI q.2.2.1 ∧ (0 < q.1 → (∀ j, j < sP S → m 50 j = nI (q.2.1 j)) ∧ ∀ x, x < 16 → m 51 x = nI (q.2.2.2.1 x))
def QB (q : FSt) : Prop := q.2.2.1 ≤ 96 ∧ ∀ x, x < 16 → q.2.2.2.1 x ≤ 6
section REC
variable {S : Sh} {L c : Nat → Nat} {q : FSt} {m : Mem}
theorem sum_le (hL6 : ∀ x, x < 16 → L x ≤ 6) : sumN L 16 ≤ 96 := by
  have := sumN_le (f := L) (b := 6) (n := 16) (fun i hi => hL6 i hi)
  omega
theorem QB_rcd (h : QB q) (hL6 : ∀ x, x < 16 → L x ≤ 6) : QB (rcd q L c) := by
  refine ⟨Nat.max_le.mpr ⟨h.1, sum_le hL6⟩, fun x hx => ?_⟩
  unfold rcd
  simp only
  by_cases h0 : q.1 = 0
  · rw [if_pos h0]; exact hL6 x hx
  · rw [if_neg h0]
    by_cases he : q.2.2.2.1 x = L x
    · rw [if_pos he]; exact h.2 x hx
    · rw [if_neg he]; exact Nat.zero_le _
theorem FC.keep {m' : Mem} (h : FC S q m) (h44 : m' 44 = m 44) (h50 : m' 50 = m 50) (h51 : m' 51 = m 51) : FC S q m' := by
  unfold FC
  rw [h44, h50, h51]
  exact h
theorem record_e (hO : SOK S) (hL : ∀ x, x < 16 → m 46 x = nI (L x)) (hL6 : ∀ x, x < 16 → L x ≤ 6) (hc : ∀ j, j < sP S → m 49 j = nI (c j)) (hF : FC S q m) (hq : q.1 < 2 ^ 30) (hB : QB q) : ∃ m', f_X4_record m = some m' ∧ FC S (rcd q L c) m' ∧ ∀ a, a ≠ 44 → a ≠ 50 → a ≠ 51 → m' a = m a := by
  have hp8 := hO.p8
  obtain ⟨f1, f2, f3⟩ := hF
  obtain ⟨r, er, m1, rfl, g1, g2⟩ := lp_invF (body := f_X4_record_b4) (fun i s => ∃ m1, s = (nI (sumN L i), nI i, m1) ∧ (∀ y, y < 16 → m1 51 y = if y < i then nI ((rcd q L c).2.2.2.1 y) else m 51 y) ∧ ∀ a, a ≠ 51 → m1 a = m a) 16 (fun r => ∃ m1, r = (nI (sumN L 16), nI 16, m1) ∧ (∀ y, y < 16 → m1 51 y = nI ((rcd q L c).2.2.2.1 y)) ∧ ∀ a, a ≠ 51 → m1 a = m a) (by decide) (q := (0, 0, m)) ⟨m, rfl, fun y _ => by rw [if_neg (Nat.not_lt_zero _)], fun _ _ => rfl⟩
    (fun i s hi hI => by
      obtain ⟨m1, rfl, g1, g2⟩ := hI
      have h6 := hL6 i hi
      have hc6 := hB.2 i hi
      refine Or.inl ?_
      unfold f_X4_record_b4
      simp only
      rw [if_neg (show ¬ (16 : Int32) ≤ nI i from nI_ge hi (by decide)), rd_e i rfl hi (by decide) (show m1 46 i = nI (L i) by rw [g2 46 (by decide)]; exact hL i hi), g2 44 (by decide), f1]
      simp only [lt', nI_1, nI_add]
      have fin : ∀ v, v = (rcd q L c).2.2.2.1 i → (∀ y, y < 16 → mset m1 51 i (nI v) 51 y = if y < i + 1 then nI ((rcd q L c).2.2.2.1 y) else m 51 y) ∧ ∀ a, a ≠ 51 → mset m1 51 i (nI v) a = m a := by
        intro v hv
        refine ⟨fun y hy => ?_, fun a ha => by rw [mset_ne ha, g2 a ha]⟩
        rw [mset_at]
        by_cases he : y = i
        · rw [if_pos ⟨rfl, he⟩, if_pos (by omega), he, hv]
        · rw [if_neg (fun z => he z.2), g1 y hy]
          by_cases hlt : y < i
          · rw [if_pos hlt, if_pos (by omega)]
          · rw [if_neg hlt, if_neg (by omega)]
      have ec : (rcd q L c).2.2.2.1 i = if q.1 = 0 then L i else if q.2.2.2.1 i = L i then q.2.2.2.1 i else 0 := rfl
      by_cases h0 : q.1 = 0
      · rw [if_pos (show nI q.1 = 0 by rw [h0]; rfl), wr_nI hi (by decide)]
        rw [if_pos h0] at ec
        exact ⟨_, rfl, _, rfl, fin (L i) ec.symm⟩
      · rw [if_neg (nI_ne0 (by omega) (by omega))]
        rw [if_neg h0] at ec
        have hv : m1 51 i = nI (q.2.2.2.1 i) := by
          rw [g1 i hi, if_neg (Nat.lt_irrefl _)]
          exact (f3 (by omega)).2 i hi
        rw [rd_e i rfl hi (by decide) hv]
        by_cases he : q.2.2.2.1 i = L i
        · rw [if_pos (by rw [he])]
          rw [if_pos he] at ec
          have := fin (q.2.2.2.1 i) ec.symm
          rw [← hv, mset_self] at this
          exact ⟨_, rfl, m1, rfl, this⟩
        · rw [if_neg (lit_ne he (by omega) (by omega)), wr_nI hi (by decide)]
          rw [if_neg he] at ec
          exact ⟨_, rfl, _, rfl, fin 0 ec.symm⟩)
    (fun s hI => by
      obtain ⟨m1, rfl, g1, g2⟩ := hI
      unfold f_X4_record_b4
      simp only
      rw [if_pos (show (16 : Int32) ≤ nI 16 from nI_le (Nat.le_refl 16) (by decide))]
      exact ⟨_, rfl, m1, rfl, fun y hy => by rw [g1 y hy, if_pos hy], g2⟩)
  have hs := sum_le hL6
  have hm := hB.1
  -- the end: the greatest value, and one more
  have fin : ∀ m2 : Mem, (∀ a, a ≠ 50 → m2 a = m1 a) → (∀ j, j < sP S → m2 50 j = nI ((rcd q L c).2.1 j)) → ∃ m', f_X4_record_j86 (nI (sumN L 16)) m2 = some m' ∧ FC S (rcd q L c) m' ∧ ∀ a, a ≠ 44 → a ≠ 50 → a ≠ 51 → m' a = m a := by
    intro m2 k1 k2
    have h44 : m2 44 = m 44 := by rw [k1 44 (by decide), g2 44 (by decide)]
    unfold f_X4_record_j86
    rw [h44, f1, f2]
    simp only [lt']
    have out : ∀ m3 : Mem, m3 44 4 = nI (q.1 + 1) → m3 44 5 = nI (Nat.max q.2.2.1 (sumN L 16)) → (∀ a, a ≠ 44 → m3 a = m2 a) → FC S (rcd q L c) m3 ∧ ∀ a, a ≠ 44 → a ≠ 50 → a ≠ 51 → m3 a = m a := by
      intro m3 z1 z2 z3
      refine ⟨⟨z1, z2, fun _ => ⟨fun j hj => by rw [z3 50 (by decide)]; exact k2 j hj, fun x hx => by rw [z3 51 (by decide), k1 51 (by decide)]; exact g1 x hx⟩⟩, fun a y1 y2 y3 => by rw [z3 a y1, k1 a y2, g2 a y3]⟩
    by_cases hle : sumN L 16 ≤ q.2.2.1
    · rw [if_pos (nI_le hle (by omega)), nI_1]
      refine ⟨_, rfl, out _ mset_eq ?_ (fun a ha => mset_ne ha)⟩
      rw [mset_k (by decide), h44, f2, show Nat.max q.2.2.1 (sumN L 16) = q.2.2.1 from Nat.max_eq_left hle]
    · rw [if_neg (nI_ge (by omega) (by omega)), mset_k (by decide), h44, f1, nI_1]
      refine ⟨_, rfl, out _ mset_eq ?_ (fun a ha => by rw [mset_ne ha, mset_ne ha])⟩
      rw [mset_k (by decide), mset_eq, show Nat.max q.2.2.1 (sumN L 16) = sumN L 16 from Nat.max_eq_right (by omega)]
  unfold f_X4_record
  rw [er]
  simp only [ob]
  rw [g2 44 (by decide), f1]
  have ef : (rcd q L c).2.1 = if q.1 = 0 then c else q.2.1 := rfl
  by_cases h0 : q.1 = 0
  · rw [if_pos (show nI q.1 = 0 by rw [h0]; rfl), acp_e 0 0 8 (i_lit 0) (i_lit 0) (i_lit 8) (by decide) (by decide) (by decide)]
    refine fin _ (fun a ha => upa_ne ha) (fun j hj => ?_)
    rw [upa_eq, cpy_in (by omega) (by omega), Nat.zero_add, Nat.sub_zero, g2 49 (by decide), ef, if_pos h0]
    exact hc j hj
  · rw [if_neg (nI_ne0 (by omega) (by omega))]
    refine fin m1 (fun _ _ => rfl) (fun j hj => ?_)
    rw [g2 50 (by decide), ef, if_neg h0]
    exact (f3 (by omega)).1 j hj
end REC
