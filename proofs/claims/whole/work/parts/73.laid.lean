/-! the reference lays what it read -/
section LA7
variable {S : Sh} {P : Pa} {mem : Mem} {g : Bool} {a st n i le fi : Nat}
theorem MS.ap (hM : MS S mem) (hp : sP S < 8) (hl : 2 ≤ le ∧ le ≤ 4) (l2 : Int32) {l i : Nat} (hle : le ≤ i) (hfi : fi = l + (i - le) * st) : ∃ m', f_X7_layLine_j38 (nI l) l2 (nI st) (nI le) (nI i) mem = some (.inl (0, nI (i + 1), m')) ∧ MS (AP S fi le st) m' ∧ (∀ b, b ≠ 62 → b ≠ 74 → b ≠ 75 → b ≠ 76 → m' b = mem b) ∧ ∀ k, k ≠ 16 → m' 62 k = mem 62 k := by
  unfold f_X7_layLine_j38
  rw [if_neg (show ¬ nI le ≤ 1 from nI_ge (a := 1) (by omega) (by omega)), hM.1.2.2.1, i_sub hle, pk_mul, nI_add, ← hfi, wr_nI hp (by decide)]
  generalize hm1 : mset mem 74 (sP S) (nI fi) = m1
  have g1 : ∀ b, b ≠ 74 → m1 b = mem b := fun b z => by rw [← hm1, mset_ne z]
  rw [show m1 62 16 = nI (sP S) by rw [g1 _ (by decide)]; exact hM.1.2.2.1, wr_nI hp (by decide)]
  generalize hm2 : mset m1 75 (sP S) (nI le) = m2
  have g2 : ∀ b, b ≠ 75 → m2 b = m1 b := fun b z => by rw [← hm2, mset_ne z]
  rw [show m2 62 16 = nI (sP S) by rw [g2 _ (by decide), g1 _ (by decide)]; exact hM.1.2.2.1, wr_nI hp (by decide)]
  generalize hm3 : mset m2 76 (sP S) (nI st) = m3
  have g3 : ∀ b, b ≠ 76 → m3 b = m2 b := fun b z => by rw [← hm3, mset_ne z]
  have e62 : m3 62 = mem 62 := by rw [g3 _ (by decide), g2 _ (by decide), g1 _ (by decide)]
  rw [show m3 62 16 = nI (sP S) by rw [e62]; exact hM.1.2.2.1]
  simp only [lt', nI_1]
  have g4 : ∀ b, b ≠ 62 → mset m3 62 16 (nI (sP S + 1)) b = m3 b := fun b z => mset_ne z
  have g5 : ∀ b, b ≠ 62 → b ≠ 74 → b ≠ 75 → b ≠ 76 → mset m3 62 16 (nI (sP S + 1)) b = mem b := fun b z1 z2 z3 z4 => by rw [g4 b z1, g3 b z4, g2 b z3, g1 b z2]
  have h62 : ∀ k, k ≠ 16 → mset m3 62 16 (nI (sP S + 1)) 62 k = mem 62 k := fun k z => by rw [mset_k z, e62]
  refine ⟨_, rfl, ⟨⟨?_, ?_, mset_eq, ?_, ?_⟩, ?_, fun p hp2 => ?_, ?_, ?_⟩, g5, h62⟩
  · rw [h62 _ (by decide)]; exact hM.1.1
  · rw [h62 _ (by decide)]; exact hM.1.2.1
  · rw [h62 _ (by decide)]; exact hM.1.2.2.2.1
  · rw [h62 _ (by decide)]; exact hM.1.2.2.2.2
  · rw [g5 _ (by decide) (by decide) (by decide) (by decide)]; exact hM.2.1
  · have hp' : p < sP S + 1 := hp2
    show mset m3 62 16 (nI (sP S + 1)) 74 p = nI (if p = sP S then fi else sfi S p) ∧ mset m3 62 16 (nI (sP S + 1)) 75 p = nI (if p = sP S then le else spl S p) ∧ mset m3 62 16 (nI (sP S + 1)) 76 p = nI (if p = sP S then st else sst S p)
    rw [g4 _ (by decide), g4 _ (by decide), g4 _ (by decide), g3 74 (by decide), g2 74 (by decide), g3 75 (by decide)]
    by_cases e : p = sP S
    · rw [if_pos e, if_pos e, if_pos e, e]
      exact ⟨by rw [← hm1, mset_eq], by rw [← hm2, mset_eq], by rw [← hm3, mset_eq]⟩
    · rw [if_neg e, if_neg e, if_neg e]
      have c := hM.2.2.1 p (by omega)
      exact ⟨by rw [← hm1, mset_k e]; exact c.1, by rw [← hm2, mset_k e, g1 _ (by decide)]; exact c.2.1, by rw [← hm3, mset_k e, g2 _ (by decide), g1 _ (by decide)]; exact c.2.2⟩
  · rw [g5 _ (by decide) (by decide) (by decide) (by decide), g5 _ (by decide) (by decide) (by decide) (by decide)]; exact hM.2.2.2.1
  · rw [g5 _ (by decide) (by decide) (by decide) (by decide)]; exact hM.2.2.2.2
theorem line_7 (hF : FOK S) (hM : MS S mem) (hn : n ≤ 4) (hst : 1 ≤ st) (hsq : ∀ j, j < n → a + j * st < sR S * sC S) (hp : sP S < 8) : ∃ m', f_X7_layLine (nI a) (nI n) (nI st) mem = some m' ∧ MS (lnN S a st n (n + 1)).2 m' ∧ (∀ b, b ≠ 62 → b ≠ 74 → b ≠ 75 → b ≠ 76 → m' b = mem b) ∧ ∀ k, k ≠ 16 → m' 62 k = mem 62 k := by
  have hrc := hF.rc
  have hL := line_i hF hn hst hsq
  have j38 : ∀ i, i ≤ n → ¬ (i < n ∧ sbl S (a + i * st) = 0) → ∀ q3 : Mem, MS (lnN S a st n i).2 q3 → ∃ m', f_X7_layLine_j38 (nI a) (nI n) (nI st) (nI (lnN S a st n i).1) (nI i) q3 = some (.inl (0, nI (i + 1), m')) ∧ MS (lnN S a st n (i + 1)).2 m' ∧ (∀ b, b ≠ 62 → b ≠ 74 → b ≠ 75 → b ≠ 76 → m' b = q3 b) ∧ ∀ k, k ≠ 16 → m' 62 k = q3 62 k := by
    intro i hi hc q3 hq
    obtain ⟨h1, h2, h3, h4, h5, h6, h7⟩ := hL i (by omega)
    rw [lnN_out hc]
    generalize lnN S a st n i = q at h1 h2 h3 h4 h5 h6 h7 hq
    by_cases c : 2 ≤ q.1
    · rw [if_pos c]
      exact MS.ap hq (show sP q.2 < 8 by omega) ⟨c, by omega⟩ (nI n) h1 rfl
    · rw [if_neg c]
      unfold f_X7_layLine_j38
      rw [if_pos (show nI q.1 ≤ 1 from nI_le (b := 1) (by omega) (by decide))]
      simp only [lt', nI_1]
      exact ⟨_, rfl, hq, fun _ _ _ _ _ => rfl, fun _ _ => rfl⟩
  unfold f_X7_layLine
  obtain ⟨r, hr, r1, r2, r3⟩ := lp_invF (body := f_X7_layLine_b6 (nI a) (nI n) (nI st)) (fun i q => q.1 = nI (lnN S a st n i).1 ∧ q.2.1 = nI i ∧ MS (lnN S a st n i).2 q.2.2 ∧ (∀ b, b ≠ 62 → b ≠ 74 → b ≠ 75 → b ≠ 76 → q.2.2 b = mem b) ∧ ∀ k, k ≠ 16 → q.2.2 62 k = mem 62 k) (n + 1) (fun r => MS (lnN S a st n (n + 1)).2 r.2.2 ∧ (∀ b, b ≠ 62 → b ≠ 74 → b ≠ 75 → b ≠ 76 → r.2.2 b = mem b) ∧ ∀ k, k ≠ 16 → r.2.2 62 k = mem 62 k) (by omega) (q := (0, 0, mem)) ⟨rfl, rfl, hM, fun _ _ _ _ _ => rfl, fun _ _ => rfl⟩ (fun i q hi hq => by
    left
    obtain ⟨q1, q2, q3, q4, q5⟩ := hq
    unfold f_X7_layLine_b6
    rw [q1, q2, if_neg (nI_nlt (by omega) (by omega))]
    by_cases e : i < n
    · have hb := hsq i e
      have h5 := (hL i (by omega)).2.2.2.2.1
      have hbl : sbl (lnN S a st n i).2 (a + i * st) = sbl S (a + i * st) := by rw [h5.2.2.1]
      have hle := hF.2.2.2.2.1 (a + i * st)
      rw [if_neg (nI_ge e (by omega)), rd_e (a + i * st) (by rw [pk_mul, nI_add]) (by omega) (by decide) (q3.2.1 (a + i * st) (by omega)), hbl]
      by_cases c : sbl S (a + i * st) = 0
      · rw [if_pos (by rw [c]; rfl)]
        simp only [lt', nI_1]
        refine ⟨_, rfl, ?_, rfl, ?_, q4, q5⟩
        · rw [lnN_in ⟨e, c⟩]
        · rw [lnN_in ⟨e, c⟩]; exact q3
      · rw [if_neg (nI_ne0 (by omega) (by omega))]
        obtain ⟨m1, t1, t2, t3, t4⟩ := j38 i (by omega) (fun z => c z.2) q.2.2 q3
        rw [t1]
        refine ⟨_, rfl, ?_, rfl, t2, fun b z1 z2 z3 z4 => ?_, fun k z => ?_⟩
        · rw [lnN_out (fun z => c z.2)]; rfl
        · show m1 b = _
          rw [t3 b z1 z2 z3 z4, q4 b z1 z2 z3 z4]
        · show m1 62 k = _
          rw [t4 k z, q5 k z]
    · rw [if_pos (nI_le (by omega) (by omega))]
      obtain ⟨m1, t1, t2, t3, t4⟩ := j38 i (by omega) (fun z => e z.1) q.2.2 q3
      rw [t1]
      refine ⟨_, rfl, ?_, rfl, t2, fun b z1 z2 z3 z4 => ?_, fun k z => ?_⟩
      · rw [lnN_out (fun z => e z.1)]; rfl
      · show m1 b = _
        rw [t3 b z1 z2 z3 z4, q4 b z1 z2 z3 z4]
      · show m1 62 k = _
        rw [t4 k z, q5 k z]) (fun q hq => by
    obtain ⟨q1, q2, q3, q4, q5⟩ := hq
    unfold f_X7_layLine_b6
    rw [q2, if_pos (nI_lt (by omega) (by omega))]
    exact ⟨_, rfl, q3, q4, q5⟩)
  rw [hr]
  exact ⟨_, rfl, r1, r2, r3⟩
theorem laid34 (hF : FOK S) (hR : ∀ y, y < 16 → mem 64 y = nI (sbl S y) ∧ mem 65 y = nI (P.1 y)) : ∃ r, lp f_X7_laid_b34 FU (0, mem) = some r ∧ (∀ b, b ≠ 70 → b ≠ 77 → r.2 b = mem b) ∧ ∀ y, y < 16 → r.2 70 y = nI (sbl S y) ∧ r.2 77 y = nI ((FP S P).1 y) := by
  refine lp_invF (body := f_X7_laid_b34) (fun i q => q.1 = nI i ∧ (∀ b, b ≠ 70 → b ≠ 77 → q.2 b = mem b) ∧ ∀ y, y < i → q.2 70 y = nI (sbl S y) ∧ q.2 77 y = nI ((FP S P).1 y)) 16 (fun r => (∀ b, b ≠ 70 → b ≠ 77 → r.2 b = mem b) ∧ ∀ y, y < 16 → r.2 70 y = nI (sbl S y) ∧ r.2 77 y = nI ((FP S P).1 y)) (by decide) ⟨rfl, fun _ _ _ => rfl, fun y hy => absurd hy (Nat.not_lt_zero _)⟩ (fun i q hi hq => ?_) (fun q hq => ?_)
  · left
    obtain ⟨q1, q2, q3⟩ := hq
    have hle := hF.2.2.2.2.1 i
    have h64 : q.2 64 i = nI (sbl S i) := by rw [q2 _ (by decide) (by decide)]; exact (hR i hi).1
    unfold f_X7_laid_b34
    rw [q1, if_neg (show ¬ (16 : Int32) ≤ nI i from nI_ge (b := 16) hi (by decide)), rd_e i rfl hi (by decide) h64, wr_nI hi (by decide)]
    generalize hm1 : mset q.2 70 i (nI (sbl S i)) = m1
    have g1 : ∀ b, b ≠ 70 → m1 b = q.2 b := fun b z => by rw [← hm1, mset_ne z]
    rw [rd_e i rfl hi (by decide) (show m1 64 i = nI (sbl S i) by rw [g1 _ (by decide), h64])]
    have h65 : m1 65 i = nI (P.1 i) := by rw [g1 _ (by decide), q2 _ (by decide) (by decide)]; exact (hR i hi).2
    have key : (if nI (sbl S i) = 1 then (wr m1 77 28 (nI i) 0 fun m77 => lt' (nI i + 1) fun v78 => some (.inl (v78, m77))) else (rd (m1 65) 16 (nI i) fun v76 => wr m1 77 28 (nI i) v76 fun m77 => lt' (nI i + 1) fun v78 => some (.inl (v78, m77)))) = (some (.inl (nI (i + 1), mset m1 77 i (nI ((FP S P).1 i)))) : Option ((Int32 × Mem) ⊕ (Int32 × Mem))) := by
      rw [rd_e i rfl hi (by decide) h65, wr_nI (by omega) (by decide), wr_nI (by omega) (by decide)]
      simp only [lt', nI_1]
      show _ = some (Sum.inl (nI (i + 1), mset m1 77 i (nI (if sbl S i = 1 then 0 else P.1 i))))
      by_cases c : sbl S i = 1
      · rw [if_pos (by rw [c]; rfl), if_pos c]
        rfl
      · rw [if_neg (show ¬ nI (sbl S i) = 1 from lit_ne (n := 1) c (by omega) (by decide)), if_neg c]
    rw [key]
    refine ⟨_, rfl, rfl, fun b z1 z2 => ?_, fun y hy => ?_⟩
    · show mset m1 77 i (nI ((FP S P).1 i)) b = _
      rw [mset_ne z2, g1 b z1, q2 b z1 z2]
    · show mset m1 77 i (nI ((FP S P).1 i)) 70 y = _ ∧ mset m1 77 i (nI ((FP S P).1 i)) 77 y = _
      rw [mset_ne (by decide)]
      by_cases e : y = i
      · rw [e, mset_eq, ← hm1, mset_eq]
        exact ⟨rfl, rfl⟩
      · rw [mset_k e, ← hm1, mset_k e, mset_ne (by decide)]
        exact q3 y (by omega)
  · obtain ⟨q1, q2, q3⟩ := hq
    unfold f_X7_laid_b34
    rw [q1, if_pos (show (16 : Int32) ≤ nI 16 from nI_le (Nat.le_refl 16) (by decide))]
    exact ⟨_, rfl, q2, q3⟩
theorem laid86 (mem : Mem) : ∃ r, lp f_X7_laid_b86 FU (0, mem) = some r ∧ (∀ b, b ≠ 71 → r.2 b = mem b) ∧ ∀ y, y < 9 → r.2 71 y = mem 66 y := by
  refine lp_invF (body := f_X7_laid_b86) (fun i q => q.1 = nI i ∧ (∀ b, b ≠ 71 → q.2 b = mem b) ∧ ∀ y, y < i → q.2 71 y = mem 66 y) 9 (fun r => (∀ b, b ≠ 71 → r.2 b = mem b) ∧ ∀ y, y < 9 → r.2 71 y = mem 66 y) (by decide) ⟨rfl, fun _ _ => rfl, fun y hy => absurd hy (Nat.not_lt_zero _)⟩ (fun i q hi hq => ?_) (fun q hq => ?_)
  · left
    obtain ⟨q1, q2, q3⟩ := hq
    unfold f_X7_laid_b86
    rw [q1, if_neg (show ¬ (9 : Int32) ≤ nI i from nI_ge (b := 9) hi (by decide)), rd_nI hi (by decide), wr_nI hi (by decide), q2 66 (by decide)]
    simp only [lt', nI_1]
    refine ⟨_, rfl, rfl, fun b z => ?_, fun y hy => ?_⟩
    · show mset q.2 71 i (mem 66 i) b = _
      rw [mset_ne z, q2 b z]
    · show mset q.2 71 i (mem 66 i) 71 y = _
      by_cases e : y = i
      · rw [e, mset_eq]
      · rw [mset_k e, q3 y (by omega)]
  · obtain ⟨q1, q2, q3⟩ := hq
    unfold f_X7_laid_b86
    rw [q1, if_pos (show (9 : Int32) ≤ nI 9 from nI_le (Nat.le_refl 9) (by decide))]
    exact ⟨_, rfl, q2, q3⟩
theorem laid112 (mem : Mem) : ∃ r, lp f_X7_laid_b112 FU (0, mem) = some r ∧ (∀ b, b ≠ 72 → r.2 b = mem b) ∧ ∀ y, y < 36 → r.2 72 y = mem 67 y := by
  refine lp_invF (body := f_X7_laid_b112) (fun i q => q.1 = nI i ∧ (∀ b, b ≠ 72 → q.2 b = mem b) ∧ ∀ y, y < i → q.2 72 y = mem 67 y) 36 (fun r => (∀ b, b ≠ 72 → r.2 b = mem b) ∧ ∀ y, y < 36 → r.2 72 y = mem 67 y) (by decide) ⟨rfl, fun _ _ => rfl, fun y hy => absurd hy (Nat.not_lt_zero _)⟩ (fun i q hi hq => ?_) (fun q hq => ?_)
  · left
    obtain ⟨q1, q2, q3⟩ := hq
    unfold f_X7_laid_b112
    rw [q1, if_neg (show ¬ (36 : Int32) ≤ nI i from nI_ge (b := 36) hi (by decide)), rd_nI hi (by decide), wr_nI hi (by decide), q2 67 (by decide)]
    simp only [lt', nI_1]
    refine ⟨_, rfl, rfl, fun b z => ?_, fun y hy => ?_⟩
    · show mset q.2 72 i (mem 67 i) b = _
      rw [mset_ne z, q2 b z]
    · show mset q.2 72 i (mem 67 i) 72 y = _
      by_cases e : y = i
      · rw [e, mset_eq]
      · rw [mset_k e, q3 y (by omega)]
  · obtain ⟨q1, q2, q3⟩ := hq
    unfold f_X7_laid_b112
    rw [q1, if_pos (show (36 : Int32) ≤ nI 36 from nI_le (Nat.le_refl 36) (by decide))]
    exact ⟨_, rfl, q2, q3⟩
theorem laid138 (hO : DOK S P g) (h18 : mem 62 18 = nI (sN S)) (hR : ∀ i, i < sN S → mem 68 (3 * i) = nI (skd S i) ∧ mem 68 (3 * i + 1) = nI (P.2.1 i) ∧ mem 68 (3 * i + 2) = nI (P.2.2 i)) : ∃ r, lp f_X7_laid_b138 FU (0, mem) = some r ∧ (∀ b, b ≠ 73 → b ≠ 77 → r.2 b = mem b) ∧ (∀ y, y < 16 → r.2 77 y = mem 77 y) ∧ ∀ y, y < 6 → r.2 73 y = mem 68 (3 * y) ∧ r.2 77 (16 + 2 * y) = nI (P.2.1 y) ∧ r.2 77 (16 + 2 * y + 1) = nI (P.2.2 y) := by
  have h6 := hO.2.2.2.2.1
  refine lp_invF (body := f_X7_laid_b138) (fun i q => q.1 = nI i ∧ (∀ b, b ≠ 73 → b ≠ 77 → q.2 b = mem b) ∧ (∀ y, y < 16 → q.2 77 y = mem 77 y) ∧ ∀ y, y < i → q.2 73 y = mem 68 (3 * y) ∧ q.2 77 (16 + 2 * y) = nI (P.2.1 y) ∧ q.2 77 (16 + 2 * y + 1) = nI (P.2.2 y)) 6 (fun r => (∀ b, b ≠ 73 → b ≠ 77 → r.2 b = mem b) ∧ (∀ y, y < 16 → r.2 77 y = mem 77 y) ∧ ∀ y, y < 6 → r.2 73 y = mem 68 (3 * y) ∧ r.2 77 (16 + 2 * y) = nI (P.2.1 y) ∧ r.2 77 (16 + 2 * y + 1) = nI (P.2.2 y)) (by decide) ⟨rfl, fun _ _ _ => rfl, fun _ _ => rfl, fun y hy => absurd hy (Nat.not_lt_zero _)⟩ (fun i q hi hq => ?_) (fun q hq => ?_)
  · left
    obtain ⟨q1, q2, q3, q4⟩ := hq
    unfold f_X7_laid_b138
    rw [q1, if_neg (show ¬ (6 : Int32) ≤ nI i from nI_ge (b := 6) hi (by decide)), rd_e (3 * i) (by rw [i_lit 3, pk_mul]) (by omega) (by decide) (show q.2 68 (3 * i) = mem 68 (3 * i) by rw [q2 _ (by decide) (by decide)]), wr_nI hi (by decide)]
    generalize hm1 : mset q.2 73 i (mem 68 (3 * i)) = m1
    have g1 : ∀ b, b ≠ 73 → m1 b = q.2 b := fun b z => by rw [← hm1, mset_ne z]
    have e18 : m1 62 18 = nI (sN S) := by rw [g1 _ (by decide), q2 _ (by decide) (by decide)]; exact h18
    have e68 : m1 68 = mem 68 := by rw [g1 _ (by decide), q2 _ (by decide) (by decide)]
    have o := hO.2.2.2.2.2.2.2.2.2.2.2 i hi
    have hw1 : (16 : Int32) + 2 * nI i = nI (16 + 2 * i) := by rw [i_lit 16, i_lit 2, pk_mul, nI_add]
    have key : (if m1 62 18 ≤ nI i then f_X7_laid_j190 (nI i) (16 + 2 * nI i) 0 m1 else rd (m1 68) 18 (3 * nI i + 1) fun v185 => f_X7_laid_j190 (nI i) (16 + 2 * nI i) v185 m1) = some (.inl (nI (i + 1), mset (mset m1 77 (16 + 2 * i) (nI (P.2.1 i))) 77 (16 + 2 * i + 1) (nI (P.2.2 i)))) := by
      rw [e18]
      by_cases c : sN S ≤ i
      · obtain ⟨o1, o2⟩ := o.2.2 c
        rw [if_pos (nI_le c (by omega))]
        unfold f_X7_laid_j190
        rw [hw1, wr_nI (by omega) (by decide), show mset m1 77 (16 + 2 * i) 0 62 18 = nI (sN S) by rw [mset_ne (by decide), e18], if_pos (nI_le c (by omega)), nI_1 (16 + 2 * i), wr_nI (by omega) (by decide), o1, o2]
        simp only [lt', nI_1]
        rfl
      · obtain ⟨r1, r2, r3⟩ := hR i (by omega)
        rw [if_neg (nI_ge (by omega) (by omega)), rd_e (3 * i + 1) (by rw [i_lit 3, pk_mul, nI_1]) (by omega) (by decide) (show m1 68 (3 * i + 1) = nI (P.2.1 i) by rw [e68, r2])]
        unfold f_X7_laid_j190
        rw [hw1, wr_nI (by omega) (by decide), show mset m1 77 (16 + 2 * i) (nI (P.2.1 i)) 62 18 = nI (sN S) by rw [mset_ne (by decide), e18], if_neg (nI_ge (by omega) (by omega)), rd_e (3 * i + 2) (by rw [i_lit 3, pk_mul, i_lit 2, nI_add]) (by omega) (by decide) (show mset m1 77 (16 + 2 * i) (nI (P.2.1 i)) 68 (3 * i + 2) = nI (P.2.2 i) by rw [mset_ne (by decide), e68, r3]), nI_1 (16 + 2 * i), wr_nI (by omega) (by decide)]
        simp only [lt', nI_1]
    rw [key]
    refine ⟨_, rfl, rfl, fun b z1 z2 => ?_, fun y hy => ?_, fun y hy => ?_⟩
    · show mset (mset m1 77 (16 + 2 * i) (nI (P.2.1 i))) 77 (16 + 2 * i + 1) (nI (P.2.2 i)) b = _
      rw [mset_ne z2, mset_ne z2, g1 b z1, q2 b z1 z2]
    · show mset (mset m1 77 (16 + 2 * i) (nI (P.2.1 i))) 77 (16 + 2 * i + 1) (nI (P.2.2 i)) 77 y = _
      rw [mset_k (by omega), mset_k (by omega), g1 _ (by decide), q3 y hy]
    · show mset (mset m1 77 (16 + 2 * i) (nI (P.2.1 i))) 77 (16 + 2 * i + 1) (nI (P.2.2 i)) 73 y = _ ∧ mset (mset m1 77 (16 + 2 * i) (nI (P.2.1 i))) 77 (16 + 2 * i + 1) (nI (P.2.2 i)) 77 (16 + 2 * y) = _ ∧ mset (mset m1 77 (16 + 2 * i) (nI (P.2.1 i))) 77 (16 + 2 * i + 1) (nI (P.2.2 i)) 77 (16 + 2 * y + 1) = _
      rw [mset_ne (by decide), mset_ne (by decide)]
      by_cases e : y = i
      · rw [e, mset_eq, mset_k (by omega), mset_eq, ← hm1, mset_eq]
        exact ⟨rfl, rfl, rfl⟩
      · rw [mset_k (by omega), mset_k (by omega), mset_k (by omega), mset_k (by omega), ← hm1, mset_k e, mset_ne (by decide)]
        exact q4 y (by omega)
  · obtain ⟨q1, q2, q3, q4⟩ := hq
    unfold f_X7_laid_b138
    rw [q1, if_pos (show (6 : Int32) ≤ nI 6 from nI_le (Nat.le_refl 6) (by decide))]
    exact ⟨_, rfl, q2, q3, q4⟩
theorem laid_7 (hO : DOK S P g) (hR : RR S P mem) : ∃ m', f_X7_laid mem = some m' ∧ MS (fsN S) m' ∧ MP (FP S P) 77 m' ∧ (m' 62 31 = 0 ∧ m' 62 40 = 0 ∧ m' 62 43 = 0) ∧ (∀ b, b ≠ 62 → (b < 70 ∨ 77 < b) → m' b = mem b) ∧ ∀ k, (k < 14 ∨ 18 < k) → k ≠ 31 → k ≠ 40 → k ≠ 43 → m' 62 k = mem 62 k := by
  have hF := hO.fok
  have h0 := hO.2.2.1
  have hR4 := hF.1
  have hC4 := hF.2.1
  have h9 := hF.2.2.1
  have h6 := hF.2.2.2.1
  unfold f_X7_laid
  simp only [lt']
  generalize hm0 : mset (mset (mset (mset mem 62 14 (mem 62 3)) 62 15 (mset mem 62 14 (mem 62 3) 62 4)) 62 17 (mset (mset mem 62 14 (mem 62 3)) 62 15 (mset mem 62 14 (mem 62 3) 62 4) 62 5)) 62 18 (mset (mset (mset mem 62 14 (mem 62 3)) 62 15 (mset mem 62 14 (mem 62 3) 62 4)) 62 17 (mset (mset mem 62 14 (mem 62 3)) 62 15 (mset mem 62 14 (mem 62 3) 62 4) 62 5) 62 6) = m0
  have g0 : ∀ b, b ≠ 62 → m0 b = mem b := fun b z => by rw [← hm0, mset_ne z, mset_ne z, mset_ne z, mset_ne z]
  have k0 : ∀ k, (k < 14 ∨ 18 < k) → m0 62 k = mem 62 k := fun k z => by rw [← hm0, mset_k (by omega), mset_k (by omega), mset_k (by omega), mset_k (by omega)]
  have v0 : m0 62 14 = nI (sR S) ∧ m0 62 15 = nI (sC S) ∧ m0 62 17 = nI (sW S) ∧ m0 62 18 = nI (sN S) := by
    rw [← hm0]
    simp only [mset_at]
    simp only [true_and]
    exact ⟨hR.1.1, hR.1.2.1, hR.1.2.2.1, hR.1.2.2.2⟩
  obtain ⟨r, hr, r1, r2⟩ := laid34 (mem := m0) (P := P) hF (fun y hy => by rw [g0 _ (by decide), g0 _ (by decide)]; exact hR.2.1 y hy)
  rw [hr]
  simp only [ob]
  obtain ⟨t, ht, t1, t2⟩ := laid86 r.2
  rw [ht]
  simp only
  obtain ⟨u, hu, u1, u2⟩ := laid112 t.2
  rw [hu]
  simp only
  have e62 : u.2 62 = m0 62 := by rw [u1 _ (by decide), t1 _ (by decide), r1 _ (by decide) (by decide)]
  have e68 : u.2 68 = mem 68 := by rw [u1 _ (by decide), t1 _ (by decide), r1 _ (by decide) (by decide), g0 _ (by decide)]
  obtain ⟨v, hv, v1, v2, v3⟩ := laid138 (mem := u.2) hO (by rw [e62]; exact v0.2.2.2) (by rw [e68]; exact hR.2.2.2)
  rw [hv]
  simp only
  generalize hm4 : mset v.2 62 16 0 = m4
  have g4 : ∀ b, b ≠ 62 → m4 b = v.2 b := fun b z => by rw [← hm4, mset_ne z]
  have k4 : ∀ k, k ≠ 16 → m4 62 k = m0 62 k := fun k z => by rw [← hm4, mset_k z, v1 _ (by decide) (by decide), e62]
  have f4 : ∀ b, b ≠ 62 → (b < 70 ∨ 77 < b) → m4 b = mem b := fun b z1 z2 => by rw [g4 b z1, v1 b (by omega) (by omega), u1 b (by omega), t1 b (by omega), r1 b (by omega) (by omega), g0 b z1]
  have M4 : MS S m4 := by
    refine ⟨⟨?_, ?_, ?_, ?_, ?_⟩, fun y hy => ?_, fun p hp => absurd hp (by rw [h0]; exact Nat.not_lt_zero _), fun w hw => ?_, fun i hi => ?_⟩
    · rw [k4 _ (by decide)]; exact v0.1
    · rw [k4 _ (by decide)]; exact v0.2.1
    · rw [h0, ← hm4, mset_eq]; rfl
    · rw [k4 _ (by decide)]; exact v0.2.2.1
    · rw [k4 _ (by decide)]; exact v0.2.2.2
    · rw [g4 _ (by decide), v1 _ (by decide) (by decide), u1 _ (by decide), t1 _ (by decide)]; exact (r2 y hy).1
    · have c := hR.2.2.1 w hw
      constructor
      · rw [g4 _ (by decide), v1 _ (by decide) (by decide), u1 _ (by decide), t2 w (by omega), r1 _ (by decide) (by decide), g0 _ (by decide)]; exact c.1
      · intro k hk
        rw [g4 _ (by decide), v1 _ (by decide) (by decide), u2 _ (by omega), t1 _ (by decide), r1 _ (by decide) (by decide), g0 _ (by decide)]; exact c.2 k hk
    · rw [g4 _ (by decide), (v3 i (by omega)).1, e68]; exact (hR.2.2.2 i hi).1
  have P4 : MP (FP S P) 77 m4 := by
    refine ⟨fun y hy => ?_, fun i hi => ?_⟩
    · rw [g4 _ (by decide), v2 y hy, u1 _ (by decide), t1 _ (by decide)]; exact (r2 y hy).2
    · rw [g4 _ (by decide)]; exact (v3 i hi).2
  obtain ⟨x, hx, x1, x2, x3⟩ := lp_invF (body := f_X7_laid_b239) (fun i q => q.1 = nI i ∧ MS (rwN S i) q.2 ∧ (∀ b, b ≠ 62 → b ≠ 74 → b ≠ 75 → b ≠ 76 → q.2 b = m4 b) ∧ ∀ k, k ≠ 16 → q.2 62 k = m4 62 k) (sR S) (fun x => MS (rwN S (sR S)) x.2 ∧ (∀ b, b ≠ 62 → b ≠ 74 → b ≠ 75 → b ≠ 76 → x.2 b = m4 b) ∧ ∀ k, k ≠ 16 → x.2 62 k = m4 62 k) (by omega) (q := (0, m4)) ⟨rfl, M4, fun _ _ _ _ _ => rfl, fun _ _ => rfl⟩ (fun i q hi hq => by
    left
    obtain ⟨q1, q2, q3, q4⟩ := hq
    obtain ⟨w1, w2, w3⟩ := rw_ok hF h0 i (by omega)
    unfold f_X7_laid_b239
    rw [q1, q2.1.1, w2.1, if_neg (nI_ge hi (by omega)), q2.1.2.1, w2.2.1, pk_mul]
    obtain ⟨m1, y1, y2, y3, y4⟩ := line_7 (a := i * sC S) (st := 1) (n := sC S) w1 q2 hC4.2 (Nat.le_refl _) (fun j hj => by rw [w2.1, w2.2.1]; exact row_sq hi hj) (by omega)
    rw [show (1 : Int32) = nI 1 from rfl, y1]
    simp only [ob, lt']
    exact ⟨_, rfl, nI_1 i, y2, fun b z1 z2 z3 z4 => by rw [← q3 b z1 z2 z3 z4]; exact y3 b z1 z2 z3 z4, fun k z => by rw [← q4 k z]; exact y4 k z⟩) (fun q hq => by
    obtain ⟨q1, q2, q3, q4⟩ := hq
    obtain ⟨w1, w2, w3⟩ := rw_ok hF h0 (sR S) (Nat.le_refl _)
    unfold f_X7_laid_b239
    rw [q1, q2.1.1, w2.1, if_pos (nI_le (Nat.le_refl _) (by omega))]
    exact ⟨_, rfl, q2, q3, q4⟩)
  rw [hx]
  simp only
  obtain ⟨c, hc, c1, c2, c3⟩ := lp_invF (body := f_X7_laid_b270) (fun i q => q.1 = nI i ∧ MS (clN S i) q.2 ∧ (∀ b, b ≠ 62 → b ≠ 74 → b ≠ 75 → b ≠ 76 → q.2 b = m4 b) ∧ ∀ k, k ≠ 16 → q.2 62 k = m4 62 k) (sC S) (fun x => MS (clN S (sC S)) x.2 ∧ (∀ b, b ≠ 62 → b ≠ 74 → b ≠ 75 → b ≠ 76 → x.2 b = m4 b) ∧ ∀ k, k ≠ 16 → x.2 62 k = m4 62 k) (by omega) (q := (0, x.2)) ⟨rfl, x1, x2, x3⟩ (fun i q hi hq => by
    left
    obtain ⟨q1, q2, q3, q4⟩ := hq
    obtain ⟨w1, w2, w3⟩ := cl_ok hF h0 i (by omega)
    unfold f_X7_laid_b270
    rw [q1, q2.1.2.1, w2.2.1, if_neg (nI_ge hi (by omega)), q2.1.1, w2.1]
    obtain ⟨m1, y1, y2, y3, y4⟩ := line_7 (a := i) (st := sC S) (n := sR S) w1 q2 hR4.2 (by omega) (fun j hj => by rw [w2.1, w2.2.1]; exact col_sq hi hj) (by omega)
    rw [y1]
    simp only [ob, lt']
    exact ⟨_, rfl, nI_1 i, y2, fun b z1 z2 z3 z4 => by rw [← q3 b z1 z2 z3 z4]; exact y3 b z1 z2 z3 z4, fun k z => by rw [← q4 k z]; exact y4 k z⟩) (fun q hq => by
    obtain ⟨q1, q2, q3, q4⟩ := hq
    obtain ⟨w1, w2, w3⟩ := cl_ok hF h0 (sC S) (Nat.le_refl _)
    unfold f_X7_laid_b270
    rw [q1, q2.1.2.1, w2.2.1, if_pos (nI_le (Nat.le_refl _) (by omega))]
    exact ⟨_, rfl, q2, q3, q4⟩)
  rw [hc]
  simp only
  have f5 : ∀ b, b ≠ 62 → mset (mset (mset c.2 62 31 0) 62 43 0) 62 40 0 b = c.2 b := fun b z => by rw [mset_ne z, mset_ne z, mset_ne z]
  have k5 : ∀ k, k ≠ 31 → k ≠ 40 → k ≠ 43 → mset (mset (mset c.2 62 31 0) 62 43 0) 62 40 0 62 k = c.2 62 k := fun k z1 z2 z3 => by rw [mset_k z2, mset_k z3, mset_k z1]
  refine ⟨_, rfl, MS.keep c1 (fun k _ _ => k5 k (by omega) (by omega) (by omega)) (fun b _ _ => f5 b (by omega)), P4.keep (by rw [f5 _ (by decide), c2 _ (by decide) (by decide) (by decide) (by decide)]), ⟨?_, ?_, ?_⟩, fun b z1 z2 => by rw [f5 b z1, c2 b z1 (by omega) (by omega) (by omega), f4 b z1 z2], fun k z1 z2 z3 z4 => by rw [k5 k z2 z3 z4, c3 k (by omega), k4 k (by omega), k0 k z1]⟩
  · rw [mset_k (by decide), mset_k (by decide), mset_eq]
  · rw [mset_eq]
  · rw [mset_k (by decide), mset_eq]
end LA7
