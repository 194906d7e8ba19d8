/-! the reference's reads -/
theorem mset2 (m : Mem) (a k : Nat) (x y : Int32) : mset (mset m a k x) a k y = mset m a k y := by
  funext a' k'
  rw [mset_at, mset_at, mset_at]
  by_cases h : a' = a ∧ k' = k
  · rw [if_pos h, if_pos h]
  · rw [if_neg h, if_neg h, if_neg h]
theorem lit_ne {a n : Nat} (h : a ≠ n) (ha : a < 2 ^ 31) (hn : n < 2 ^ 31) : ¬ nI a = nI n := fun z => h ((nI_eq ha hn).mp z)
section MRD
variable {S : Sh} {o : Nat} {mem : Mem} {L : Nat → Nat} {p w : Nat}
theorem squareOf_e (hO : SOK S) (hM : MS S mem) (hp : p < sP S) {k : Nat} : f_X7_squareOf (nI p) (nI k) mem = some (nI (ssq S p k)) := by
  have hp8 := hO.p8
  obtain ⟨c1, c2, c3⟩ := hM.2.2.1 p hp
  unfold f_X7_squareOf
  rw [rd_e p rfl (by omega) (by decide) c1, rd_e p rfl (by omega) (by decide) c3]
  simp only [lt']
  rw [pk_mul, nI_add]
  rfl
theorem empties_e (hO : SOK S) (hM : MS S mem) (hL : ∀ x, x < 16 → mem o x = nI (L x)) (hL6 : ∀ x, x < 16 → L x ≤ 6) (hp : p < sP S) : f_X7_empties o (nI p) mem = some (nI (empN S L p)) := by
  have hp8 := hO.p8
  have hpl := hO.pl hp
  obtain ⟨c1, c2, c3⟩ := hM.2.2.1 p hp
  unfold f_X7_empties empN
  rw [show ((0 : Int32), (0 : Int32)) = (fun i => (nI (cnt (fun k => L (ssq S p k) == 0) i), nI i)) 0 from rfl, lp_FU (fun i => (nI (cnt (fun k => L (ssq S p k) == 0) i), nI i)) (spl S p) (r := (nI (cnt (fun k => L (ssq S p k) == 0) (spl S p)), nI (spl S p))) (by omega)]
  · rfl
  · intro k hk
    have hsq := hO.sq hp hk
    have h6 := hL6 _ hsq
    unfold f_X7_empties_b5
    rw [rd_e p rfl (by omega) (by decide) c2, if_neg (nI_ge hk (by omega)), squareOf_e hO hM hp]
    simp only [ob]
    rw [rd_e (ssq S p k) rfl (by omega) (by decide) (hL _ hsq)]
    by_cases h0 : L (ssq S p k) = 0
    · rw [h0, if_pos nI_0]
      simp only [lt', nI_1, cnt]
      rw [if_pos (by simp [h0])]
    · rw [if_neg (nI_ne0 (by omega) (by omega))]
      simp only [lt', nI_1, cnt]
      rw [if_neg (by simp [h0]), i_lit 0, nI_add]
  · unfold f_X7_empties_b5
    rw [rd_e p rfl (by omega) (by decide) c2, if_pos (nI_le (Nat.le_refl _) (by omega))]
theorem allB_mono {c : Nat → Bool} {i n : Nat} (h : allB c i = false) (hi : i ≤ n) : allB c n = false := by
  cases hn : allB c n with
  | false => rfl
  | true =>
    have := allB_iff.mp hn
    rw [allB_iff.mpr (fun j hj => this j (by omega))] at h
    cases h
theorem isLike_e (hO : SOK S) (hM : MS S mem) (hL : ∀ x, x < 16 → mem o x = nI (L x)) (hL6 : ∀ x, x < 16 → L x ≤ 6) (hp : p < sP S) (hw : w < sW S) : f_X7_isLike o (nI p) (nI w) mem = some (b2i (likeB S L p w)) := by
  have hp8 := hO.p8
  have hw9 := hO.w9
  have hpl := hO.pl hp
  have hwl := hO.wl hw
  obtain ⟨c1, c2, c3⟩ := hM.2.2.1 p hp
  obtain ⟨d1, d2⟩ := hM.2.2.2.1 w hw
  unfold f_X7_isLike
  rw [rd_e w rfl (by omega) (by decide) d1, rd_e p rfl (by omega) (by decide) c2]
  by_cases he : swl S w = spl S p
  · rw [if_pos (by rw [he])]
    unfold f_X7_isLike_j20 likeB
    have hb : (swl S w == spl S p) = true := by simpa using he
    rw [hb, Bool.true_and]
    obtain ⟨r, hr, hP⟩ := lp_invF (body := f_X7_isLike_b25 o (nI p) (nI w) mem) (fun i q => q = (b2i (allB (fun k => L (ssq S p k) == 0 || L (ssq S p k) == swd S w k) i), nI i)) (spl S p) (fun r => r.1 = b2i (allB (fun k => L (ssq S p k) == 0 || L (ssq S p k) == swd S w k) (spl S p))) (by omega) (q := (1, 0)) rfl
      (fun k q hk hI => by
        subst hI
        have hsq := hO.sq hp hk
        have h6 := hL6 _ hsq
        have hd := hO.wd6 hw k
        unfold f_X7_isLike_b25
        rw [rd_e p rfl (by omega) (by decide) c2, if_neg (nI_ge hk (by omega))]
        cases ha : allB (fun k => L (ssq S p k) == 0 || L (ssq S p k) == swd S w k) k with
        | false =>
          refine Or.inr ⟨_, if_pos rfl, ?_⟩
          rw [allB_mono ha (by omega)]
        | true =>
          refine Or.inl ⟨(b2i (allB (fun k => L (ssq S p k) == 0 || L (ssq S p k) == swd S w k) (k + 1)), nI (k + 1)), ?_, rfl⟩
          rw [if_neg (show ¬ b2i true = 0 by decide), squareOf_e hO hM hp]
          simp only [ob]
          rw [rd_e (ssq S p k) rfl (by omega) (by decide) (hL _ hsq)]
          by_cases h0 : L (ssq S p k) = 0
          · rw [h0, if_pos nI_0]
            simp only [lt', nI_1, allB, ha, h0]
            rfl
          · rw [if_neg (nI_ne0 (by omega) (by omega)), rd_e (4 * w + k) (by rw [i_lit 4, pk_mul, nI_add]) (by omega) (by decide) (d2 k (by omega))]
            by_cases h1 : L (ssq S p k) = swd S w k
            · rw [h1, if_pos rfl]
              simp only [lt', nI_1, allB, ha, h1]
              simp [b2i]
            · rw [if_neg (lit_ne h1 (by omega) (by omega))]
              simp only [lt', nI_1, allB, ha]
              have e1 : (L (ssq S p k) == 0) = false := by simpa using h0
              have e2 : (L (ssq S p k) == swd S w k) = false := by simpa using h1
              rw [e1, e2]
              rfl)
      (fun q hI => by
        subst hI
        unfold f_X7_isLike_b25
        rw [rd_e p rfl (by omega) (by decide) c2]
        exact ⟨_, if_pos (nI_le (Nat.le_refl _) (by omega)), rfl⟩)
    rw [hr]
    simp only [ob, hP]
    unfold bk
    rw [if_pos (by cases allB (fun k => L (ssq S p k) == 0 || L (ssq S p k) == swd S w k) (spl S p) <;> simp [b2i])]
  · rw [if_neg (lit_ne he (by omega) (by omega))]
    unfold f_X7_isLike_j20 likeB
    have hb : (swl S w == spl S p) = false := by simpa using he
    rw [hb, Bool.false_and]
    have e : lp (f_X7_isLike_b25 o (nI p) (nI w) mem) FU (0, 0) = some (0, 0) := by
      refine lp_FU (fun _ => (0, 0)) 0 (by decide) (fun i hi => absurd hi (Nat.not_lt_zero _)) ?_
      unfold f_X7_isLike_b25
      rw [rd_e p rfl (by omega) (by decide) c2, if_neg (show ¬ nI (spl S p) ≤ 0 from nI_ge (a := 0) (by omega) (by omega)), if_pos rfl]
    rw [e]
    rfl
theorem isFit_e (hO : SOK S) (hM : MS S mem) (hL : ∀ x, x < 16 → mem o x = nI (L x)) (hL6 : ∀ x, x < 16 → L x ≤ 6) (hp : p < sP S) (hw : w < sW S) : f_X7_isFit o (nI p) (nI w) mem = some (b2i (fitB S L p w)) := by
  have hpl := hO.pl hp
  have he := empN_le S L p
  unfold f_X7_isFit fitB
  rw [isLike_e hO hM hL hL6 hp hw, empties_e hO hM hL hL6 hp, full_emp]
  simp only [ob]
  cases likeB S L p w with
  | false => rfl
  | true =>
    rw [if_neg (by decide)]
    by_cases h0 : empN S L p = 0
    · rw [h0, if_pos (by decide)]
      rfl
    · rw [if_neg (nI_nle (by omega) (by omega))]
      simp [h0, b2i]
theorem prints_e (hO : SOK S) (hM : MS S mem) (ho : o = 77 ∨ o = 78) (hp : p < sP S) (hw : w < sW S) : f_X7_prints o (nI p) (nI w) mem = some (wrK mem o (ssq S p) (swd S w) (spl S p)) := by
  have hp8 := hO.p8
  have hw9 := hO.w9
  have hpl := hO.pl hp
  obtain ⟨c1, c2, c3⟩ := hM.2.2.1 p hp
  obtain ⟨d1, d2⟩ := hM.2.2.2.1 w hw
  unfold f_X7_prints
  rw [show ((0 : Int32), mem) = (fun i => (nI i, wrK mem o (ssq S p) (swd S w) i)) 0 from rfl, lp_FU (fun i => (nI i, wrK mem o (ssq S p) (swd S w) i)) (spl S p) (r := (nI (spl S p), wrK mem o (ssq S p) (swd S w) (spl S p))) (by omega)]
  · rfl
  · intro k hk
    have hsq := hO.sq hp hk
    unfold f_X7_prints_b3 f_X7_squareOf
    simp only
    rw [wrK_ne (by omega), wrK_ne (by omega), wrK_ne (by omega), wrK_ne (by omega), rd_e p rfl (by omega) (by decide) c2, if_neg (nI_ge hk (by omega)), rd_e p rfl (by omega) (by decide) c1, rd_e p rfl (by omega) (by decide) c3]
    simp only [ob, lt']
    rw [rd_e (4 * w + k) (by rw [i_lit 4, pk_mul, nI_add]) (by omega) (by decide) (d2 k (by omega)), pk_mul, nI_add, wr_nI (show sfi S p + k * sst S p < 28 from Nat.lt_trans hsq (by decide)) (by decide)]
    rw [nI_1]
    rfl
  · unfold f_X7_prints_b3
    simp only
    rw [wrK_ne (by omega), rd_e p rfl (by omega) (by decide) c2, if_pos (nI_le (Nat.le_refl _) (by omega))]
theorem strikes_e (hO : SOK S) (hM : MS S mem) (ho : o = 77 ∨ o = 78) (hp : p < sP S) : f_X7_strikes o (nI p) mem = some (wrK mem o (ssq S p) (fun _ => 0) (spl S p)) := by
  have hp8 := hO.p8
  have hpl := hO.pl hp
  obtain ⟨c1, c2, c3⟩ := hM.2.2.1 p hp
  unfold f_X7_strikes
  rw [show ((0 : Int32), mem) = (fun i => (nI i, wrK mem o (ssq S p) (fun _ => 0) i)) 0 from rfl, lp_FU (fun i => (nI i, wrK mem o (ssq S p) (fun _ => 0) i)) (spl S p) (r := (nI (spl S p), wrK mem o (ssq S p) (fun _ => 0) (spl S p))) (by omega)]
  · rfl
  · intro k hk
    have hsq := hO.sq hp hk
    unfold f_X7_strikes_b2 f_X7_squareOf
    simp only
    rw [wrK_ne (by omega), wrK_ne (by omega), wrK_ne (by omega), rd_e p rfl (by omega) (by decide) c2, if_neg (nI_ge hk (by omega)), rd_e p rfl (by omega) (by decide) c1, rd_e p rfl (by omega) (by decide) c3]
    simp only [ob, lt']
    rw [pk_mul, nI_add, wr_nI (show sfi S p + k * sst S p < 28 from Nat.lt_trans hsq (by decide)) (by decide)]
    rw [nI_1]
    rfl
  · unfold f_X7_strikes_b2
    simp only
    rw [wrK_ne (by omega), rd_e p rfl (by omega) (by decide) c2, if_pos (nI_le (Nat.le_refl _) (by omega))]
/-- from p on, the first that is not full, or 8 -/
def lowFrom (S : Sh) (L : Nat → Nat) : Nat → Nat → Nat
  | 0, _ => 8
  | n + 1, i => if empN S L i = 0 then lowFrom S L n (i + 1) else i
theorem lowFrom_e (S : Sh) (L : Nat → Nat) : ∀ n i, i + n = sP S → (∀ j, j < i → fullB S L j = true) → lowFrom S L n i = if lowP S L < sP S then lowP S L else 8 := by
  intro n
  induction n with
  | zero =>
    intro i hi hj
    have : ¬ lowP S L < sP S := by
      intro h
      have h3 := (fstB_spec (fun p => !fullB S L p) (sP S)).2.2 h
      have h4 := hj (lowP S L) (by omega)
      rw [show fstB (fun p => !fullB S L p) (sP S) = lowP S L from rfl] at h3
      simp [h4] at h3
    rw [if_neg this]
    rfl
  | succ n ih =>
    intro i hi hj
    unfold lowFrom
    by_cases h0 : empN S L i = 0
    · rw [if_pos h0]
      refine ih (i + 1) (by omega) (fun j hj2 => ?_)
      rcases Nat.lt_or_ge j i with q | q
      · exact hj j q
      · have : j = i := by omega
        subst this
        rw [full_emp, h0]
        rfl
    · rw [if_neg h0]
      have : lowP S L = i := by
        refine fstB_is (by omega) ?_ (fun j h => ?_)
        · rw [full_emp]; simp [h0]
        · rw [hj j h]; rfl
      rw [this, if_pos (by omega)]
theorem lowFrom_le (S : Sh) (L : Nat → Nat) : ∀ n i, i + n ≤ 8 → lowFrom S L n i ≤ 8 := by
  intro n
  induction n with
  | zero => intro i _; exact Nat.le_refl _
  | succ n ih =>
    intro i hi
    unfold lowFrom
    split
    · exact ih (i + 1) (by omega)
    · omega
theorem lowest_e (hO : SOK S) (hM : MS S mem) (hL : ∀ x, x < 16 → mem o x = nI (L x)) (hL6 : ∀ x, x < 16 → L x ≤ 6) : f_X7_lowest o mem = some (nI (if lowP S L < sP S then lowP S L else 8)) := by
  have hp8 := hO.p8
  unfold f_X7_lowest
  simp only [lt']
  rw [hM.1.2.2.1, ← lowFrom_e S L (sP S) 0 (by omega) (fun j h => absurd h (Nat.not_lt_zero _))]
  have key : ∀ j, j ≤ sP S → lp (f_X7_lowest_b10 o mem) FU (8, nI (sP S) - 1) = some (nI (lowFrom S L (sP S) 0), nI 0 - 1) := by
    intro j _
    have e := lp_FU (body := f_X7_lowest_b10 o mem) (fun i => (nI (lowFrom S L i (sP S - i)), nI (sP S - i) - 1)) (sP S) (r := (nI (lowFrom S L (sP S) 0), nI 0 - 1)) (by omega) ?_ ?_
    · exact e
    · intro i hi
      obtain ⟨m, hm⟩ : ∃ m, sP S - i = m + 1 := ⟨sP S - i - 1, by omega⟩
      have hm2 : sP S - (i + 1) = m := by omega
      unfold f_X7_lowest_b10
      simp only [hm, hm2]
      rw [nI_pred, if_neg (nI_pos (by omega)), empties_e hO hM hL hL6 (by omega)]
      have hle := empN_le S L m
      have hpl := hO.pl (show m < sP S by omega)
      have e2 : nI m + -1 = nI m - 1 := by rw [Int32.sub_eq_add_neg]
      simp only [ob, lt', e2]
      have e3 : lowFrom S L (i + 1) m = if empN S L m = 0 then lowFrom S L i (m + 1) else m := rfl
      by_cases h0 : empN S L m = 0
      · rw [h0, if_pos (by decide), e3, if_pos h0]
      · rw [if_neg (nI_nle (by omega) (by omega)), e3, if_neg h0]
    · unfold f_X7_lowest_b10
      simp only [Nat.sub_self]
      rw [if_pos (by decide)]
  rw [key 0 (by omega)]
  rfl
theorem isPlace7 (hO : SOK S) (hM : MS S mem) {x : Nat} (hx : x < 2 ^ 30) : f_X7_isPlace (nI x) mem = some (b2i (decide (x < sP S))) := by
  have hp8 := hO.p8
  unfold f_X7_isPlace f_X7_in
  rw [hM.1.2.2.1, if_neg (nI_pos (by omega))]
  by_cases h : x < sP S
  · obtain ⟨m, hm⟩ : ∃ m, sP S = m + 1 := ⟨sP S - 1, by omega⟩
    rw [decide_eq_true h, hm, nI_pred, if_neg (nI_nlt (by omega) (by omega))]
    rfl
  · rw [decide_eq_false h]
    have : nI (sP S) - 1 < nI x := by
      rcases Nat.eq_zero_or_pos (sP S) with z | z
      · rw [z, Int32.lt_iff_toInt_lt]
        rw [nI_toInt (by omega)]
        have : (nI 0 - 1).toInt = -1 := by decide
        omega
      · obtain ⟨m, hm⟩ : ∃ m, sP S = m + 1 := ⟨sP S - 1, by omega⟩
        rw [hm, nI_pred]
        exact nI_lt (by omega) (by omega)
    rw [if_pos this]
    rfl
end MRD
