/-! the reference's search: one word tried for one place -/
section FL7
variable {S : Sh} {L : Nat → Nat} {p w : Nat} {m : Mem}
theorem letterAt_e (hp : p < 9) {x : Nat} (hx : x < 16) {v : Nat} (h : m 83 (16 * p + x) = nI v) : f_X7_letterAt (nI p) (nI x) m = some (nI v) := by
  unfold f_X7_letterAt
  rw [rd_e (16 * p + x) (by rw [i_lit 16, pk_mul, nI_add]) (by omega) (by decide) h]
theorem fills_b24_e (hO : SOK S) (hM : MS S m) (hL : ∀ x, x < 16 → m 83 (16 * p + x) = nI (L x)) (hL6 : ∀ x, x < 16 → L x ≤ 6) (hp : p < sP S) (hw : w < sW S) (he : swl S w = spl S p) : ∃ z, lp (f_X7_fills_b24 (nI p) (nI w) m) FU (1, 0) = some (b2i (likeB S L p w), z) := by
  have hp8 := hO.p8
  have hw9 := hO.w9
  have hpl := hO.pl hp
  obtain ⟨c1, c2, c3⟩ := hM.2.2.1 p hp
  obtain ⟨d1, d2⟩ := hM.2.2.2.1 w hw
  have hb : (swl S w == spl S p) = true := by simpa using he
  unfold likeB
  rw [hb, Bool.true_and]
  obtain ⟨r, hr, hP⟩ := lp_invF (body := f_X7_fills_b24 (nI p) (nI w) m) (fun i q => q = (b2i (allB (fun k => L (ssq S p k) == 0 || L (ssq S p k) == swd S w k) i), nI i)) (spl S p) (fun r => r.1 = b2i (allB (fun k => L (ssq S p k) == 0 || L (ssq S p k) == swd S w k) (spl S p))) (by omega) (q := (1, 0)) rfl
    (fun k q hk hI => by
      subst hI
      have hsq := hO.sq hp hk
      have h6 := hL6 _ hsq
      have hd := hO.wd6 hw k
      unfold f_X7_fills_b24
      simp only
      rw [rd_e p rfl (by omega) (by decide) c2, if_neg (nI_ge hk (by omega))]
      cases ha : allB (fun k => L (ssq S p k) == 0 || L (ssq S p k) == swd S w k) k with
      | false =>
        refine Or.inr ⟨_, if_pos rfl, ?_⟩
        rw [allB_mono ha (by omega)]
      | true =>
        refine Or.inl ⟨(b2i (allB (fun k => L (ssq S p k) == 0 || L (ssq S p k) == swd S w k) (k + 1)), nI (k + 1)), ?_, rfl⟩
        rw [if_neg (show ¬ b2i true = 0 by decide), squareOf_e hO hM hp]
        simp only [ob]
        rw [letterAt_e (by omega) hsq (hL _ hsq)]
        simp only
        by_cases h0 : L (ssq S p k) = 0
        · rw [h0, if_pos nI_0]
          simp only [lt', nI_1, allB, ha, h0]
          rfl
        · rw [if_neg (nI_ne0 (by omega) (by omega)), rd_e (4 * w + k) (by rw [i_lit 4, pk_mul, nI_add]) (by omega) (by decide) (d2 k (by omega))]
          by_cases h1 : L (ssq S p k) = swd S w k
          · rw [h1, if_pos rfl]
            simp only [lt', nI_1, allB, ha, h1]
            simp [b2i]
          · rw [if_neg (lit_ne h1 (by omega) (by omega))]
            simp only [lt', nI_1, allB, ha]
            have e1 : (L (ssq S p k) == 0) = false := by simpa using h0
            have e2 : (L (ssq S p k) == swd S w k) = false := by simpa using h1
            rw [e1, e2]
            rfl)
    (fun q hI => by
      subst hI
      unfold f_X7_fills_b24
      simp only
      rw [rd_e p rfl (by omega) (by decide) c2]
      exact ⟨_, if_pos (nI_le (Nat.le_refl _) (by omega)), rfl⟩)
  refine ⟨r.2, ?_⟩
  rw [hr, ← hP]
theorem fills_e (hO : SOK S) (hM : MS S m) (hL : ∀ x, x < 16 → m 83 (16 * p + x) = nI (L x)) (hL6 : ∀ x, x < 16 → L x ≤ 6) (hp : p < sP S) (hw : w < sW S) : ∃ m', f_X7_fills (nI p) (nI w) m = some (b2i (likeB S L p w), m') ∧ (likeB S L p w = true → ∀ x, x < 16 → m' 83 (16 * (p + 1) + x) = nI (putW S L p w x)) ∧ (∀ y, y < 16 * (p + 1) → m' 83 y = m 83 y) ∧ ∀ a, a ≠ 83 → m' a = m a := by
  have hp8 := hO.p8
  have hw9 := hO.w9
  have hpl := hO.pl hp
  have hwl := hO.wl hw
  obtain ⟨c1, c2, c3⟩ := hM.2.2.1 p hp
  obtain ⟨d1, d2⟩ := hM.2.2.2.1 w hw
  unfold f_X7_fills
  rw [rd_e w rfl (by omega) (by decide) d1, rd_e p rfl (by omega) (by decide) c2]
  by_cases he : swl S w = spl S p
  · obtain ⟨z, ez⟩ := fills_b24_e hO hM hL hL6 hp hw he
    rw [if_pos (by rw [he])]
    unfold f_X7_fills_j20
    rw [ez]
    simp only [ob]
    unfold f_X7_fills_j86
    cases hl : likeB S L p w with
    | false =>
      rw [if_pos (by rfl), bk_b]
      exact ⟨m, rfl, (fun h => absurd h (by decide)), fun _ _ => rfl, fun _ _ => rfl⟩
    | true =>
      rw [if_neg (by decide)]
      have e1 : lp (f_X7_fills_b93 (nI p) (nI w) (b2i true)) FU (0, m) = some (nI 16, cpK m 83 (fun x => 16 * (p + 1) + x) (fun x => nI (L x)) 16) := by
        refine lp_FU (fun i => (nI i, cpK m 83 (fun x => 16 * (p + 1) + x) (fun x => nI (L x)) i)) 16 (by decide) ?_ ?_
        · intro i hi
          unfold f_X7_fills_b93
          simp only
          rw [if_neg (show ¬ (16 : Int32) ≤ nI i from nI_ge hi (by decide)), letterAt_e (v := L i) (by omega) hi (by rw [cpK_out _ (fun k hk => by omega)]; exact hL i hi)]
          simp only [ob]
          rw [wr_e (16 * (p + 1) + i) (by rw [nI_1, i_lit 16, pk_mul, nI_add]) (by omega) (by decide)]
          simp only [lt', nI_1]
          rfl
        · unfold f_X7_fills_b93
          simp only
          rw [if_pos (show (16 : Int32) ≤ nI 16 from nI_le (Nat.le_refl 16) (by decide))]
      rw [e1]
      simp only [ob]
      generalize hm1 : cpK m 83 (fun x => 16 * (p + 1) + x) (fun x => nI (L x)) 16 = m1
      have f1 : ∀ a, a ≠ 83 → m1 a = m a := fun a h => by rw [← hm1, cpK_ne h]
      have g1 : ∀ x, x < 16 → m1 83 (16 * (p + 1) + x) = nI (L x) := fun x hx => by
        rw [← hm1]
        exact cpK_in (f := fun x => 16 * (p + 1) + x) 16 (fun x y _ _ e => by omega) hx
      have k1 : ∀ y, y < 16 * (p + 1) → m1 83 y = m 83 y := fun y hy => by
        rw [← hm1, cpK_out _ (fun k hk => by omega)]
      have hM1 := hM.keep (mem' := m1) (fun a _ _ => by rw [f1 62 (by decide)]) (fun a _ _ => f1 a (by omega))
      have e2 : lp (f_X7_fills_b130 (nI p) (nI w) (b2i true)) FU (0, m1) = some (nI (spl S p), cpK m1 83 (fun k => 16 * (p + 1) + ssq S p k) (fun k => nI (swd S w k)) (spl S p)) := by
        refine lp_FU (fun i => (nI i, cpK m1 83 (fun k => 16 * (p + 1) + ssq S p k) (fun k => nI (swd S w k)) i)) (spl S p) (by omega) ?_ ?_
        · intro k hk
          have hsq := hO.sq hp hk
          have hM2 := hM1.keep (mem' := cpK m1 83 (fun k => 16 * (p + 1) + ssq S p k) (fun k => nI (swd S w k)) k) (fun a _ _ => by rw [cpK_ne (by decide)]) (fun a _ _ => cpK_ne (by omega) _)
          unfold f_X7_fills_b130
          simp only
          rw [rd_e p rfl (by omega) (by decide) (hM2.2.2.1 p hp).2.1, if_neg (nI_ge hk (by omega)), squareOf_e hO hM2 hp]
          simp only [ob]
          rw [rd_e (4 * w + k) (by rw [i_lit 4, pk_mul, nI_add]) (by omega) (by decide) ((hM2.2.2.2.1 w hw).2 k (by omega)), wr_e (16 * (p + 1) + ssq S p k) (by rw [nI_1, i_lit 16, pk_mul, nI_add]) (by omega) (by decide)]
          simp only [lt', nI_1]
          rfl
        · have hM2 := hM1.keep (mem' := cpK m1 83 (fun k => 16 * (p + 1) + ssq S p k) (fun k => nI (swd S w k)) (spl S p)) (fun a _ _ => by rw [cpK_ne (by decide)]) (fun a _ _ => cpK_ne (by omega) _)
          unfold f_X7_fills_b130
          simp only
          rw [rd_e p rfl (by omega) (by decide) (hM2.2.2.1 p hp).2.1, if_pos (nI_le (Nat.le_refl _) (by omega))]
      rw [e2]
      simp only
      rw [bk_b]
      refine ⟨_, rfl, fun _ x hx => ?_, fun y hy => ?_, fun a ha => by rw [cpK_ne ha, f1 a ha]⟩
      · unfold putW
        by_cases hk : ∃ k, k < spl S p ∧ ssq S p k = x
        · obtain ⟨k, hk, rfl⟩ := hk
          rw [wrN_in _ (fun a b _ _ e => hO.inj hp e) hk]
          exact cpK_in (f := fun k => 16 * (p + 1) + ssq S p k) (spl S p) (fun a b _ _ e => hO.inj hp (by omega)) hk
        · have hn : ∀ k, k < spl S p → ssq S p k ≠ x := fun k h1 e => hk ⟨k, h1, e⟩
          rw [wrN_out _ hn, cpK_out _ (fun k h1 => by have := hn k h1; omega)]
          exact g1 x hx
      · rw [cpK_out _ (fun k h1 => by omega)]
        exact k1 y hy
  · have hl : likeB S L p w = false := by
      unfold likeB
      have hb : (swl S w == spl S p) = false := by simpa using he
      rw [hb, Bool.false_and]
    have e : lp (f_X7_fills_b24 (nI p) (nI w) m) FU (0, 0) = some (0, 0) := by
      refine lp_FU (fun _ => (0, 0)) 0 (by decide) (fun i hi => absurd hi (Nat.not_lt_zero _)) ?_
      unfold f_X7_fills_b24
      simp only
      rw [rd_e p rfl (by omega) (by decide) c2, if_neg (show ¬ nI (spl S p) ≤ 0 from nI_ge (a := 0) (by omega) (by omega))]
      rfl
    rw [if_neg (lit_ne he (by omega) (by omega))]
    unfold f_X7_fills_j20
    rw [e]
    simp only [ob]
    unfold f_X7_fills_j86
    rw [if_pos rfl, hl]
    exact ⟨m, rfl, (fun h => absurd h (by decide)), fun _ _ => rfl, fun _ _ => rfl⟩
end FL7
