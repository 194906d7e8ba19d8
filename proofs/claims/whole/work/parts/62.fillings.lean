/-! what is asked of the fillings -/
section FAS
variable {S : Sh}
/-- a thing that every filling keeps -/
theorem keep_fold {I : FSt → Prop} {f : Nat → FSt → FSt} : ∀ k q, (∀ w q, w < k → I q → I (f w q)) → I q → I (foldW f k q) := by
  intro k
  induction k with
  | zero => intro q _ h; exact h
  | succ k ih => intro q hf h; exact hf k _ (by omega) (ih q (fun w q hw => hf w q (by omega)) h)
theorem keep_dfs {I : FSt → Prop} {J : (Nat → Nat) → Prop} (hr : ∀ q L c, J L → I q → I (rcd q L c)) (hJ : ∀ L p w, p < sP S → w < sW S → J L → J (putW S L p w)) : ∀ n p L c q, p + n = sP S → J L → I q → I (dfs S n p L c q) := by
  intro n
  induction n with
  | zero => intro p L c q _ hL h; exact hr q L c hL h
  | succ n ih =>
    intro p L c q hp hL h
    rw [dfs]
    refine keep_fold _ _ (fun w q hw hq => ?_) h
    split
    · exact ih _ _ _ _ (by omega) (hJ L p w (by omega) hw hL) hq
    · exact hq
theorem all_mask (hO : SOK S) {P : Pa} (hP : POK S P) : ∀ x, x < 16 → (allF S P).2.2.2.2 x < 128 := by
  refine keep_dfs (I := fun q => ∀ x, x < 16 → q.2.2.2.2 x < 128) (J := fun L => ∀ x, x < 16 → L x ≤ 6) (fun q L c hL hq x hx => ?_) (fun L p w hp hw hL => put6 hO hL hp hw) (sP S) 0 P.1 _ q00 (by omega) hP.1 (fun _ _ => (show (0 : Nat) < 128 by decide))
  have h2 : 2 ^ L x < 2 ^ 7 := Nat.pow_lt_pow_right (by decide) (by have := hL x hx; omega)
  exact Nat.or_lt_two_pow (n := 7) (hq x hx) h2
theorem all_black (hO : SOK S) {P : Pa} (hP : POK S P) {x : Nat} (hx : x < 16) (hb : sbl S x = 1) : 0 < (allF S P).1 → (allF S P).2.2.2.1 x = 0 := by
  refine keep_dfs (I := fun q => 0 < q.1 → q.2.2.2.1 x = 0) (J := fun L => L x = 0) (fun q L c hL hq _ => ?_) (fun L p w hp hw hL => ?_) (sP S) 0 P.1 _ q00 (by omega) (hP.2.1 x hx (Or.inr hb)) (fun h => absurd h (Nat.lt_irrefl _))
  · unfold rcd
    simp only
    by_cases h0 : q.1 = 0
    · rw [if_pos h0]; exact hL
    · rw [if_neg h0]
      split
      · exact hq (by omega)
      · rfl
  · show wrN L (ssq S p) (swd S w) (spl S p) x = 0
    rw [wrN_out _ (fun k hk e => by have := ((hO.2.2.2.2.2.2.1 p hp).2.2 k hk).2; rw [e] at this; omega)]
    exact hL
theorem all_cnt (hO : SOK S) (P : Pa) : (allF S P).1 < 2 ^ 30 := by
  have h1 := dfs_cnt hO (sP S) 0 P.1 (fun _ => 0) q00
  have h2 : 9 ^ sP S ≤ 9 ^ 8 := Nat.pow_le_pow_right (by decide) hO.p8
  have h3 : 9 ^ 8 < 2 ^ 30 := by decide
  have h4 : q00.1 = 0 := rfl
  unfold allF
  omega
end FAS
section FAS2
variable {S : Sh} {P : Pa} {u k : Nat × (Nat → Pa)} {w : Nat × (Nat → Nat) × (Nat → Bool)} {x : Nat × (Nat → Nat)} {sh sp : Nat} {mem : Mem} {l : Int32}
theorem fillings_a (hs : Two sh sp) (hA : AOK S P u k w x) (hC : CI S P u k w x sh mem) (hM : MI S P u k w x mem) : Agree sh sp (f_X6_fillings sh l) (f_X7_fillings l) mem := by
  have hs' := hs
  unfold Two at hs'
  have hO := hA.1
  have hp8 := hO.p8
  have hcn := all_cnt hO P
  obtain ⟨m1, e1, g1, f1⟩ := run_e hO (by omega) hC.1 hA.2.1 hC.2.1
  have hM1 := hM.up (mem' := m1) (fun a ha => f1 a (by omega))
  obtain ⟨m2, e2, g2, c2, q2, f2⟩ := lay7_e hO hM1.1 hA.2.1 hM1.2.1
  have q1 : QC sp mem m1 := QC.of hs (fun a ha => f1 a (by omega))
  have hj : ∀ r, (if l = (-1) then (lt' (m1 44 4) fun v42 => some (v42, m1)) else (if (m1 44 4) ≤ 0 then (some ((-4), m1)) else (rd (m1 50) 8 l fun v61 => some (v61, m1)))) = some (r, m1) → (if l = (-1) then (lt' (m2 62 38) fun v49 => some (v49, m2)) else (if (m2 62 38) = 0 then (some ((-4), m2)) else (rd (m2 85) 8 l fun v48 => some (v48, m2)))) = some (r, m2) → f_X6_fillings_j15 sh l mem = some (r, m1) ∧ f_X7_fillings_j15 l m1 = some (r, m2) := by
    intro r h1 h2
    unfold f_X6_fillings_j15 f_X7_fillings_j15
    rw [e1, e2]
    exact ⟨h1, h2⟩
  by_cases hl : l = -1
  · obtain ⟨z1, z2⟩ := hj (nI (allF S P).1) (by rw [if_pos hl, g1.1]; rfl) (by rw [if_pos hl, g2.1]; rfl)
    refine agree_q hs hA hC hM (r := nI (allF S P).1) ?_ q1 (m2 := m2) ?_ q2 f2
    · unfold f_X6_fillings
      rw [if_pos hl, z1]
    · unfold f_X7_fillings
      rw [if_pos hl, z2]
  · rcases ixs l (sP S) with ⟨p, hp, rfl⟩ | hb
    · by_cases h0 : (allF S P).1 = 0
      · obtain ⟨z1, z2⟩ := hj (-4) (by rw [if_neg hl, g1.1, h0, if_pos (by decide)]) (by rw [if_neg hl, g2.1, h0, if_pos (by decide)])
        refine agree_q hs hA hC hM (r := -4) ?_ q1 (m2 := m2) ?_ q2 f2
        · unfold f_X6_fillings
          rw [if_neg hl, placec_1 hO hC.1 hp]
          exact z1
        · unfold f_X7_fillings
          rw [if_neg hl, place7_1 hO hM1.1 hp]
          exact z2
      · obtain ⟨z1, z2⟩ := hj (nI ((allF S P).2.1 p)) (by rw [if_neg hl, g1.1, if_neg (nI_nle (by omega) (by omega)), rd_e p rfl (by omega) (by decide) ((g1.2.2 (by omega)).1 p hp)]) (by rw [if_neg hl, g2.1, if_neg (nI_ne0 (by omega) (by omega)), rd_e p rfl (by omega) (by decide) (g2.2.2.1 (by omega) p hp)])
        refine agree_q hs hA hC hM (r := nI ((allF S P).2.1 p)) ?_ q1 (m2 := m2) ?_ q2 f2
        · unfold f_X6_fillings
          rw [if_neg hl, placec_1 hO hC.1 hp]
          exact z1
        · unfold f_X7_fillings
          rw [if_neg hl, place7_1 hO hM1.1 hp]
          exact z2
    · refine agree_0 hs hA hC hM (r := -1) ?_ ?_
      · unfold f_X6_fillings
        rw [if_neg hl, placec_0 hO hC.1 hb]
        rfl
      · unfold f_X7_fillings
        rw [if_neg hl, place7_0 hO hM.1 hb]
        rfl
theorem best_a (hs : Two sh sp) (hA : AOK S P u k w x) (hC : CI S P u k w x sh mem) (hM : MI S P u k w x mem) : Agree sh sp (f_X6_best sh) f_X7_best mem := by
  have hs' := hs
  unfold Two at hs'
  have hO := hA.1
  have hcn := all_cnt hO P
  obtain ⟨m1, e1, g1, f1⟩ := run_e hO (by omega) hC.1 hA.2.1 hC.2.1
  have hM1 := hM.up (mem' := m1) (fun a ha => f1 a (by omega))
  obtain ⟨m2, e2, g2, c2, q2, f2⟩ := lay7_e hO hM1.1 hA.2.1 hM1.2.1
  have q1 : QC sp mem m1 := QC.of hs (fun a ha => f1 a (by omega))
  refine agree_q hs hA hC hM (r := if (allF S P).1 = 0 then -4 else nI (allF S P).2.2.1) (m1 := m1) (m2 := m2) ?_ q1 ?_ q2 f2
  · unfold f_X6_best
    rw [e1]
    simp only [ob, lt']
    rw [g1.1, g1.2.1]
    by_cases h0 : (allF S P).1 = 0
    · rw [h0, if_pos (by decide), if_pos rfl]
    · rw [if_neg (nI_nle (by omega) (by omega)), if_neg h0]
  · unfold f_X7_best
    rw [e2]
    simp only [ob, lt']
    rw [g2.1, g2.2.1]
    by_cases h0 : (allF S P).1 = 0
    · rw [h0, if_pos (by decide), if_pos rfl]
    · rw [if_neg (nI_ne0 (by omega) (by omega)), if_neg h0, if_neg h0]
theorem must_a (hs : Two sh sp) (hA : AOK S P u k w x) (hC : CI S P u k w x sh mem) (hM : MI S P u k w x mem) : Agree sh sp (f_X6_must sh l) (f_X7_must l) mem := by
  have hs' := hs
  unfold Two at hs'
  have hO := hA.1
  have hrc := hO.rc
  have hcn := all_cnt hO P
  rcases ixs l (sR S * sC S) with ⟨z, hz, rfl⟩ | hl
  · obtain ⟨m1, e1, g1, f1⟩ := run_e hO (by omega) hC.1 hA.2.1 hC.2.1
    have hM1 := hM.up (mem' := m1) (fun a ha => f1 a (by omega))
    obtain ⟨m2, e2, g2, c2, q2, f2⟩ := lay7_e hO hM1.1 hA.2.1 hM1.2.1
    have q1 : QC sp mem m1 := QC.of hs (fun a ha => f1 a (by omega))
    have hmk := all_mask hO hA.2.1 z (by omega)
    have hqb : QB (allF S P) := QB_dfs hO _ _ _ _ _ (by omega) hA.2.1.1 ⟨Nat.zero_le _, fun _ _ => Nat.zero_le _⟩
    have hc6 := hqb.2 z (by omega)
    have hcom := comOK_dfs (S := S) (sP S) 0 P.1 (fun _ => 0) q00 (fun x => ⟨fun _ => rfl, fun h => absurd h (Nat.lt_irrefl _)⟩) z
    have hbk := all_black hO hA.2.1 (x := z) (by omega)
    have hbl := hO.2.2.2.2.2.1 z
    change ((allF S P).1 = 0 → (allF S P).2.2.2.2 z = 0) ∧ (0 < (allF S P).1 → (allF S P).2.2.2.2 z ≠ 0 ∧ ((allF S P).2.2.2.1 z ≠ 0 → (allF S P).2.2.2.2 z = 2 ^ (allF S P).2.2.2.1 z) ∧ ((allF S P).2.2.2.1 z = 0 → ∀ d, 1 ≤ d → (allF S P).2.2.2.2 z ≠ 2 ^ d)) at hcom
    generalize hv : (if (allF S P).1 = 0 then 0 else (allF S P).2.2.2.1 z) = v
    -- the reference's look
    have look : f_X7_must (nI z) m1 = some (if v = 0 then -4 else nI v, m2) := by
      have hyes : v ≠ 0 → sbl S z = 0 ∧ v ≤ 6 ∧ (allF S P).2.2.2.2 z = 2 ^ v := by
        intro h
        by_cases h0 : (allF S P).1 = 0
        · rw [if_pos h0] at hv; omega
        · rw [if_neg h0] at hv
          rw [hv] at hcom hc6
          refine ⟨?_, hc6, (hcom.2 (by omega)).2.1 h⟩
          rcases (show sbl S z = 0 ∨ sbl S z = 1 by omega) with hb | hb
          · exact hb
          · have := hbk hb (by omega)
            omega
      have hno : v = 0 → ∀ d, 1 ≤ d → (allF S P).2.2.2.2 z ≠ 2 ^ d := by
        intro h d hd
        by_cases h0 : (allF S P).1 = 0
        · rw [hcom.1 h0]
          exact Nat.ne_of_lt (Nat.two_pow_pos d)
        · rw [if_neg h0] at hv
          exact (hcom.2 (by omega)).2.2 (by omega) d hd
      have hinj : ∀ a b : Nat, 2 ^ a = 2 ^ b → a = b := fun a b h => (or_pow (m := 0) (d := a) (e := b) (by rw [Nat.zero_or]; exact h)).2
      obtain ⟨r, er, hr⟩ := lp_invF (body := f_X7_must_b16 (nI z) m2) (fun i q => q = nI (i + 1) ∧ (v ≠ 0 → i < v)) 6 (fun r => (v = 0 ∧ ∃ y, r = .inl y) ∨ (v ≠ 0 ∧ r = .inr (nI v, m2))) (by decide) (q := 1) ⟨rfl, fun h => by omega⟩
        (fun i q hi hI => by
          obtain ⟨rfl, hI⟩ := hI
          unfold f_X7_must_b16
          rw [if_neg (show ¬ (6 : Int32) < nI (i + 1) from nI_nlt (a := 6) (by omega) (by decide)), rd_e z rfl (by omega) (by decide) (c2.2.1 z (by omega)), rd_e z rfl (by omega) (by decide) (g2.2.2.2 z hz), i_shl1 _ (by omega)]
          simp only [lt', nI_1]
          have h2p : 2 ^ (i + 1) < 2 ^ 31 := Nat.pow_lt_pow_right (by decide) (by omega)
          by_cases hv0 : v = 0
          · rw [if_neg (lit_ne (hno hv0 (i + 1) (by omega)) (by omega) h2p)]
            refine Or.inl ⟨nI (i + 1 + 1), ?_, rfl, fun h => absurd hv0 h⟩
            split <;> rfl
          · obtain ⟨y1, y2, y3⟩ := hyes hv0
            rw [y1, if_pos nI_0, y3]
            by_cases he : v = i + 1
            · rw [if_pos (by rw [he])]
              exact Or.inr ⟨_, rfl, Or.inr ⟨hv0, by rw [he]⟩⟩
            · rw [if_neg (lit_ne (fun h => he (hinj _ _ h)) (Nat.pow_lt_pow_right (by decide) (by omega)) h2p)]
              exact Or.inl ⟨_, rfl, rfl, fun _ => by have := hI hv0; omega⟩)
        (fun q hI => by
          obtain ⟨rfl, hI⟩ := hI
          unfold f_X7_must_b16
          rw [if_pos (show (6 : Int32) < nI (6 + 1) by decide)]
          refine ⟨_, rfl, Or.inl ⟨?_, _, rfl⟩⟩
          apply Classical.byContradiction
          intro h
          have := hI h
          have := (hyes h).2.1
          omega)
      unfold f_X7_must
      rw [square7_1 hO hM1.1 hz]
      simp only [ob]
      rw [if_neg (by decide), e2]
      simp only
      rw [er]
      rcases hr with ⟨h0, y, rfl⟩ | ⟨h0, rfl⟩
      · rw [if_pos h0]
        rfl
      · rw [if_neg h0]
        rfl
    refine agree_q hs hA hC hM (r := if v = 0 then -4 else nI v) (m1 := m1) (m2 := m2) ?_ q1 look q2 f2
    unfold f_X6_must
    rw [squarec_1 hO hC.1 hz]
    simp only [ob]
    rw [if_neg (by decide), e1]
    simp only
    rw [g1.1]
    by_cases h0 : (allF S P).1 = 0
    · rw [if_pos h0] at hv
      rw [h0, if_pos (by decide), if_pos hv.symm]
    · rw [if_neg h0] at hv
      rw [if_neg (nI_nle (by omega) (by omega)), rd_e z rfl (by omega) (by decide) ((g1.2.2 (by omega)).2 z (by omega)), hv]
      rw [hv] at hc6
      by_cases hv0 : v = 0
      · rw [hv0]
        rfl
      · rw [if_neg (nI_ne0 (by omega) (by omega)), if_neg hv0, rd_e z rfl (by omega) (by decide) ((g1.2.2 (by omega)).2 z (by omega)), hv]
  · refine agree_0 hs hA hC hM (r := -1) ?_ ?_
    · unfold f_X6_must
      rw [squarec_0 hO hC.1 hl]
      rfl
    · unfold f_X7_must
      rw [square7_0 hO hM.1 hl]
      rfl
end FAS2
