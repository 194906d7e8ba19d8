/-! all fillings, as the reference finds them -/
theorem lay7_e {S : Sh} {P : Pa} {mem : Mem} (hO : SOK S) (hM : MS S mem) (hP : POK S P) (hT : MP P 77 mem) : ∃ m', f_X7_layFillings mem = some m' ∧ FM S (allF S P) m' ∧ MS S m' ∧ QM mem m' ∧ ∀ a, a < 62 → m' a = mem a := by
  have hp8 := hO.p8
  have hrc := hO.rc
  generalize hm1 : mset (mset mem 62 38 0) 62 39 (-1) = m1
  have f1 : ∀ a, a ≠ 62 → m1 a = mem a := fun a h => by rw [← hm1, mset_ne h, mset_ne h]
  have h1 : m1 62 38 = 0 ∧ m1 62 39 = -1 ∧ ∀ k, k ≠ 38 → k ≠ 39 → m1 62 k = mem 62 k := by
    rw [← hm1]
    exact ⟨by rw [mset_k (by decide), mset_eq], mset_eq, fun k z1 z2 => by rw [mset_k z2, mset_k z1]⟩
  obtain ⟨r, er, m2, rfl, g1, g2, f2⟩ := lp_invF (body := f_X7_layFillings_b12) (fun i s => ∃ m2, s = (nI i, m2) ∧ (∀ x, x < i → m2 86 x = 0) ∧ (∀ x, x < i → m2 83 x = nI (P.1 x)) ∧ ∀ a, a ≠ 83 → a ≠ 86 → m2 a = m1 a) 16 (fun r => ∃ m2, r = (nI 16, m2) ∧ (∀ x, x < 16 → m2 86 x = 0) ∧ (∀ x, x < 16 → m2 83 x = nI (P.1 x)) ∧ ∀ a, a ≠ 83 → a ≠ 86 → m2 a = m1 a) (by decide) (q := (0, m1)) ⟨m1, rfl, fun x h => absurd h (Nat.not_lt_zero _), fun x h => absurd h (Nat.not_lt_zero _), fun _ _ _ => rfl⟩
    (fun i s hi hI => by
      obtain ⟨m2, rfl, g1, g2, f2⟩ := hI
      refine Or.inl ?_
      unfold f_X7_layFillings_b12
      simp only
      rw [if_neg (show ¬ (16 : Int32) ≤ nI i from nI_ge hi (by decide)), wr_nI hi (by decide), rd_e i rfl (by omega) (by decide) (show mset m2 86 i 0 77 i = nI (P.1 i) by rw [mset_ne (by decide), f2 77 (by decide) (by decide), f1 77 (by decide)]; exact hT.1 i hi), wr_nI (by omega) (by decide)]
      simp only [lt', nI_1]
      refine ⟨_, rfl, _, rfl, fun x hx => ?_, fun x hx => ?_, fun a z1 z2 => by rw [mset_ne z1, mset_ne z2, f2 a z1 z2]⟩
      · rw [mset_ne (by decide), mset_at]
        by_cases he : x = i
        · rw [if_pos ⟨rfl, he⟩]
        · rw [if_neg (fun z => he z.2)]
          exact g1 x (by omega)
      · rw [mset_at]
        by_cases he : x = i
        · rw [if_pos ⟨rfl, he⟩, he]
        · rw [if_neg (fun z => he z.2), mset_ne (by decide)]
          exact g2 x (by omega))
    (fun s hI => by
      obtain ⟨m2, rfl, g⟩ := hI
      unfold f_X7_layFillings_b12
      simp only
      rw [if_pos (show (16 : Int32) ≤ nI 16 from nI_le (Nat.le_refl 16) (by decide))]
      exact ⟨_, rfl, m2, rfl, g⟩)
  have h62 : m2 62 = m1 62 := f2 62 (by decide) (by decide)
  have hM2 := hM.keep (mem' := m2) (fun a _ _ => by rw [h62]; exact h1.2.2 a (by omega) (by omega)) (fun a _ _ => by rw [f2 a (by omega) (by omega), f1 a (by omega)])
  have hF2 : FM S q00 m2 := ⟨by rw [h62, h1.1]; rfl, by rw [h62, h1.2.1]; rfl, fun h => absurd h (Nat.lt_irrefl _), fun x hx => g1 x (by omega)⟩
  have hB : QB q00 := ⟨Nat.zero_le _, fun _ _ => Nat.zero_le _⟩
  have hZ : ZM q00 := fun _ => rfl
  have hL0 : ∀ x, x < 16 → sR S * sC S ≤ x → P.1 x = 0 := fun x hx h => hP.2.1 x hx (Or.inl h)
  have out : ∀ m3 : Mem, (∀ a, a ≠ 62 → (a < 83 ∨ 86 < a) → m3 a = m2 a) → (∀ k, k ≠ 38 → k ≠ 39 → m3 62 k = m2 62 k) → MS S m3 ∧ QM mem m3 ∧ ∀ a, a < 62 → m3 a = mem a := by
    intro m3 z1 z2
    refine ⟨hM2.keep (fun a _ _ => z2 a (by omega) (by omega)) (fun a _ _ => z1 a (by omega) (by omega)), ⟨fun a y1 y2 y3 y4 => by rw [z1 a y1 y4, f2 a (by omega) (by omega), f1 a y1], fun k _ y1 y2 => by rw [z2 k y1 y2, h62]; exact h1.2.2 k y1 y2⟩, fun a ha => by rw [z1 a (by omega) (by omega), f2 a (by omega) (by omega), f1 a (by omega)]⟩
  unfold f_X7_layFillings
  simp only [lt']
  rw [hm1, er]
  simp only [ob]
  have h16 := hM2.1.2.2.1
  by_cases h0 : sP S = 0
  · rw [if_pos (show m2 62 16 = 0 by rw [h16, h0]; rfl)]
    obtain ⟨m3, e3, k1, k2, k3⟩ := filled_e (L := P.1) (c := fun _ => 0) hO hM2 (fun x hx => by rw [h0, Nat.mul_zero, Nat.zero_add]; exact g2 x hx) hP.1 hL0 (fun j hj => by omega) hF2 (by decide) hB hZ
    rw [e3]
    have := out m3 (fun a z1 z2 => k2 a z1 (by omega) (by omega)) k3
    refine ⟨m3, rfl, ?_, this⟩
    unfold allF
    rw [h0]
    exact k1
  · obtain ⟨n, hn⟩ : ∃ n, sP S = n + 1 := ⟨sP S - 1, by omega⟩
    rw [if_neg (show ¬ m2 62 16 = 0 by rw [h16]; exact nI_ne0 (by omega) (by omega)), wr_e 0 (i_lit 0) (by decide) (by decide)]
    generalize hm3 : mset m2 84 0 (-1) = m3
    have f3 : ∀ a, a ≠ 84 → m3 a = m2 a := fun a h => by rw [← hm3, mset_ne h]
    have hpow : 9 ^ (n + 1) ≤ 9 ^ 8 := Nat.pow_le_pow_right (by decide) (by omega)
    have h98 : 9 ^ 8 < 2 ^ 30 := by decide
    obtain ⟨N, m4, hN, hR, hX, hY⟩ := back_e hO n 0 P.1 (fun _ => 0) q00 m3 (by omega) (hM2.keep (fun a _ _ => by rw [f3 62 (by decide)]) (fun a _ _ => f3 a (by omega))) (fun x hx => by rw [f3 83 (by decide), Nat.mul_zero, Nat.zero_add]; exact g2 x hx) hP.1 hL0 (fun j hj => absurd hj (Nat.not_lt_zero _)) (by rw [← hm3, mset_eq]) (hF2.keep (f3 62 (by decide)) (f3 85 (by decide)) (f3 86 (by decide))) (by show 0 + 9 ^ (n + 1) < 2 ^ 30; omega) hB hZ
    have hT1 := Tn_le (n + 1)
    have hT2 : 10 ^ (n + 1) ≤ 10 ^ 8 := Nat.pow_le_pow_right (by decide) (by omega)
    have hFU : ∃ k, FU = N + (k + 1) := ⟨FU - N - 1, by have := FU_ge; omega⟩
    obtain ⟨k, hk⟩ := hFU
    have el : lp f_X7_layFillings_b64 FU (0, m3) = some (-1, m4) := by
      rw [hk, show ((0 : Int32), m3) = (nI 0, m3) from rfl, hR (k + 1)]
      refine lp_done ?_
      unfold f_X7_layFillings_b64
      simp only
      rw [if_pos (by decide)]
      rfl
    rw [el]
    have := out m4 (fun a z1 z2 => by rw [hY.2.2.1 a z1 z2, f3 a (by omega)]) (fun k z1 z2 => by rw [hY.2.2.2 k z1 z2, f3 62 (by decide)])
    refine ⟨m4, rfl, ?_, this⟩
    unfold allF
    rw [hn]
    exact hX
