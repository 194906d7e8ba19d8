/-! the plain questions -/
theorem Bad.ne {l : Int32} {n k : Nat} (h : Bad l n) (hk : k < n) (hn : n < 2 ^ 31) : ¬ l = nI k := by
  rintro rfl
  rcases h with h | ⟨_, h⟩
  · exact nI_pos (by omega) h
  · exact nI_ge hk hn h
theorem may63 : ∀ i, i < 6 → ((63 : Int32) >>> (nI i &&& 31)) &&& 1 = b2i true := by decide +kernel
theorem mayAll : ∀ i, i < 6 → ((-1 : Int32) >>> (nI i &&& 31)) &&& 1 = b2i true := by decide +kernel
theorem in7_l1 {k m : Nat} (h : k < m + 1) (hm : m < 2 ^ 29) : f_X7_in (nI k) 0 (nI m) = some 1 := by
  have := in7_1 h (by omega)
  rw [nI_pred] at this
  exact this
theorem in7_l0 {l : Int32} {m : Nat} (h : Bad l (m + 1)) (hm : m < 2 ^ 29) : f_X7_in l 0 (nI m) = some 0 := by
  have := in7_0 h (by omega)
  rw [nI_pred] at this
  exact this
theorem i_or0 (a : Nat) : nI a ||| 0 = nI a := by rw [i_lit 0, i_or, Nat.or_zero]
theorem i_add0 (a : Nat) : nI a + 0 = nI a := by rw [i_lit 0, nI_add]; rfl
section ASK
variable {S : Sh} {P : Pa} {sh : Nat} {mem : Mem} {l l2 : Int32}
theorem square_a (hO : SOK S) (hC : CS S sh mem) (hM : MS S mem) (hT : CP P 31 mem) (hU : MP P 77 mem) : ∃ r, f_X6_square sh l mem = some r ∧ f_X7_square l mem = some r := by
  have hb := hO.rc
  unfold f_X6_square f_X7_square
  rcases ixs l (sR S * sC S) with ⟨x, hx, rfl⟩ | hl
  · rw [squarec_1 hO hC hx, square7_1 hO hM hx]
    simp only [ob]
    unfold f_X6_letterIn
    rw [if_neg (show ¬ (1 : Int32) = 0 by decide), if_neg (show ¬ (1 : Int32) = 0 by decide), rd_e x rfl (by omega) (by decide) (hC.2.1 x (by omega)), rd_e x rfl (by omega) (by decide) (hM.2.1 x (by omega)), rd_e x rfl (by omega) (by decide) (hT.1 x (by omega)), rd_e x rfl (by omega) (by decide) (hU.1 x (by omega))]
    have h1 := hO.2.2.2.2.2.1 x
    rcases (show sbl S x = 0 ∨ sbl S x = 1 by omega) with h | h
    · rw [h]
      exact ⟨_, rfl, rfl⟩
    · rw [h]
      exact ⟨_, rfl, rfl⟩
  · rw [squarec_0 hO hC hl, square7_0 hO hM hl]
    exact ⟨_, rfl, rfl⟩
theorem fitting7_e (hO : SOK S) (hM : MS S mem) (hP : POK S P) (hU : MP P 77 mem) {p : Nat} (hp : p < sP S) : f_X7_fitting (nI p) mem = some (nI (bm (fun w => fitB S P.1 p w) (sW S))) := by
  have hw9 := hO.w9
  unfold f_X7_fitting
  rw [show ((0 : Int32), (0 : Int32)) = (fun i => (nI (bm (fun w => fitB S P.1 p w) i), nI i)) 0 from rfl, lp_FU (fun i => (nI (bm (fun w => fitB S P.1 p w) i), nI i)) (sW S) (r := (nI (bm (fun w => fitB S P.1 p w) (sW S)), nI (sW S))) (by omega)]
  · rfl
  · intro i hi
    unfold f_X7_fitting_b4
    rw [hM.1.2.2.2.1, if_neg (nI_ge hi (by omega)), isFit_e hO hM hU.1 hP.1 hp hi]
    simp only [ob, lt', nI_1, bm]
    by_cases hf : fitB S P.1 p i = true
    · rw [if_pos hf, hf, if_neg (show ¬ b2i true = 0 by decide), i_orb (by omega)]
    · rw [if_neg hf, if_pos (show b2i (fitB S P.1 p i) = 0 by rw [Bool.not_eq_true] at hf; rw [hf]; rfl), i_or0]
      rfl
  · unfold f_X7_fitting_b4
    rw [hM.1.2.2.2.1, if_pos (nI_le (Nat.le_refl _) (by omega))]
theorem SOK.st {S : Sh} (hO : SOK S) {p : Nat} (hp : p < sP S) : sst S p < 16 ∧ sfi S p < 16 := by
  have h1 := hO.sq hp (k := 1) (by have := hO.pl hp; omega)
  unfold ssq at h1
  omega
theorem place_a (hO : SOK S) (hC : CS S sh mem) (hM : MS S mem) (hP : POK S P) (hT : CP P 31 mem) (hU : MP P 77 mem) : ∃ r, f_X6_place sh l l2 mem = some r ∧ f_X7_place l l2 mem = some r := by
  have hp8 := hO.p8
  unfold f_X6_place f_X7_place
  rcases ixs l (sP S) with ⟨p, hp, rfl⟩ | hl
  · rw [placec_1 hO hC hp, place7_1 hO hM hp]
    simp only [ob]
    obtain ⟨c1, c2, c3⟩ := hC.2.2.1 p hp
    obtain ⟨d1, d2, d3⟩ := hM.2.2.1 p hp
    have hpl := hO.pl hp
    obtain ⟨s1, s2⟩ := hO.st hp
    rw [if_neg (show ¬ (1 : Int32) = 0 by decide), if_neg (show ¬ (1 : Int32) = 0 by decide)]
    rcases ixs l2 5 with ⟨k, hk, rfl⟩ | hk
    · rw [show f_X7_in (nI k) 0 4 = some 1 from in7_l1 (m := 4) hk (by decide)]
      simp only
      rw [if_neg (show ¬ (1 : Int32) = 0 by decide)]
      rcases (show k = 0 ∨ k = 1 ∨ k = 2 ∨ k = 3 ∨ k = 4 by omega) with rfl | rfl | rfl | rfl | rfl
      · rw [if_pos (show nI 0 = 0 from rfl), if_pos (show nI 0 = 0 from rfl), rd_e (p * 4 + 0) (by rw [i_lit 4, pk_mul]; rfl) (by omega) (by decide) (c3 0 (by omega)), rd_e p rfl (by omega) (by decide) d1]
        refine ⟨_, rfl, ?_⟩
        unfold ssq
        rw [Nat.zero_mul]
        rfl
      · rw [if_neg (show ¬ nI 1 = 0 by decide), if_neg (show ¬ nI 1 = 0 by decide), if_pos (show nI 1 = 1 from rfl), if_pos (show nI 1 = 1 from rfl), rd_e p rfl (by omega) (by decide) c1, rd_e p rfl (by omega) (by decide) d2]
        exact ⟨_, rfl, rfl⟩
      · rw [if_neg (show ¬ nI 2 = 0 by decide), if_neg (show ¬ nI 2 = 0 by decide), if_neg (show ¬ nI 2 = 1 by decide), if_neg (show ¬ nI 2 = 1 by decide), if_pos (show nI 2 = 2 from rfl), if_pos (show nI 2 = 2 from rfl), rd_e p rfl (by omega) (by decide) c2, rd_e p rfl (by omega) (by decide) d3]
        by_cases h1 : sst S p = 1
        · rw [h1]
          exact ⟨_, rfl, rfl⟩
        · rw [if_neg h1, if_neg (show ¬ nI (sst S p) = 1 from lit_ne (n := 1) h1 (by omega) (by decide))]
          exact ⟨_, rfl, rfl⟩
      · rw [if_neg (show ¬ nI 3 = 0 by decide), if_neg (show ¬ nI 3 = 0 by decide), if_neg (show ¬ nI 3 = 1 by decide), if_neg (show ¬ nI 3 = 1 by decide), if_neg (show ¬ nI 3 = 2 by decide), if_neg (show ¬ nI 3 = 2 by decide), if_pos (show nI 3 = 3 from rfl), if_pos (show nI 3 = 3 from rfl), isFilled_e hO hC hT.1 hP.1 hp, empties_e hO hM hU.1 hP.1 hp, full_emp]
        simp only
        have he := empN_le S P.1 p
        by_cases h0 : empN S P.1 p = 0
        · rw [h0]
          exact ⟨_, rfl, rfl⟩
        · rw [decide_eq_false h0, if_neg (nI_ne0 (by omega) (by omega))]
          exact ⟨_, rfl, rfl⟩
      · rw [if_neg (show ¬ nI 4 = 0 by decide), if_neg (show ¬ nI 4 = 0 by decide), if_neg (show ¬ nI 4 = 1 by decide), if_neg (show ¬ nI 4 = 1 by decide), if_neg (show ¬ nI 4 = 2 by decide), if_neg (show ¬ nI 4 = 2 by decide), if_neg (show ¬ nI 4 = 3 by decide), if_neg (show ¬ nI 4 = 3 by decide), if_pos (show nI 4 = 4 from rfl), fitting_e hO hC hT.1 hP.1 hp, fitting7_e hO hM hP hU hp]
        exact ⟨_, rfl, rfl⟩
    · rw [show f_X7_in l2 0 4 = some 0 from in7_l0 (m := 4) hk (by decide), if_neg (show ¬ l2 = 0 from hk.ne (k := 0) (by decide) (by decide)), if_neg (show ¬ l2 = 1 from hk.ne (k := 1) (by decide) (by decide)), if_neg (show ¬ l2 = 2 from hk.ne (k := 2) (by decide) (by decide)), if_neg (show ¬ l2 = 3 from hk.ne (k := 3) (by decide) (by decide)), if_neg (show ¬ l2 = 4 from hk.ne (k := 4) (by decide) (by decide))]
      exact ⟨_, rfl, rfl⟩
  · rw [placec_0 hO hC hl, place7_0 hO hM hl]
    exact ⟨_, rfl, rfl⟩
theorem word_a (hO : SOK S) (hC : CS S sh mem) (hM : MS S mem) : ∃ r, f_X6_word sh l l2 mem = some r ∧ f_X7_word l l2 mem = some r := by
  have hw9 := hO.w9
  unfold f_X6_word f_X7_word
  rcases ixs l (sW S) with ⟨w, hw, rfl⟩ | hl
  · rw [wordc_1 hO hC hw, word7_1 hO hM hw]
    simp only [ob]
    obtain ⟨c1, c2⟩ := hC.2.2.2.1 w hw
    obtain ⟨d1, d2⟩ := hM.2.2.2.1 w hw
    have hwl := hO.wl hw
    rw [if_neg (show ¬ (1 : Int32) = 0 by decide), if_neg (show ¬ (1 : Int32) = 0 by decide), rd_e w rfl (by omega) (by decide) c1, rd_e w rfl (by omega) (by decide) d1]
    by_cases h1 : (-1 : Int32) ≤ l2
    · rw [if_pos h1, if_pos h1]
      by_cases h2 : l2 = -1
      · rw [if_pos h2, if_pos h2]
        exact ⟨_, rfl, rfl⟩
      · rw [if_neg h2, if_neg h2]
        have h3 : ¬ l2 < 0 := by
          intro z
          apply h2
          rw [Int32.lt_iff_toInt_lt] at z
          rw [Int32.le_iff_toInt_le] at h1
          have e1 : (-1 : Int32).toInt = -1 := by decide
          have e0 : (0 : Int32).toInt = 0 := by decide
          apply Int32.toInt_inj.mp
          omega
        obtain ⟨k, hk, rfl⟩ := nI_of h3
        by_cases h4 : swl S w ≤ k
        · rw [rd_e w rfl (by omega) (by decide) d1, if_pos (nI_le h4 hk), if_pos (nI_le h4 hk)]
          exact ⟨_, rfl, rfl⟩
        · have hl := scd_lt hO hw
          rw [rd_e w rfl (by omega) (by decide) d1, if_neg (nI_ge (by omega) (by omega)), if_neg (nI_ge (by omega) (by omega)), rd_e w rfl (by omega) (by decide) c2, letterOf_e (by omega) (by omega), scd_dig hO hw (by omega), rd_e (4 * w + k) (by rw [i_lit 4, pk_mul, nI_add]) (by omega) (by decide) (d2 k (by omega))]
          exact ⟨_, rfl, rfl⟩
    · rw [if_neg h1, if_neg h1]
      exact ⟨_, rfl, rfl⟩
  · rw [wordc_0 hO hC hl, word7_0 hO hM hl]
    exact ⟨_, rfl, rfl⟩
/-- a place that no word can fill any more -/
def deadB (S : Sh) (L : Nat → Nat) (p : Nat) : Bool := !fullB S L p && decide (bm (fun w => fitB S L p w) (sW S) = 0)
theorem dead_a (hO : SOK S) (hC : CS S sh mem) (hM : MS S mem) (hP : POK S P) (hT : CP P 31 mem) (hU : MP P 77 mem) : ∃ r, f_X6_dead sh mem = some r ∧ f_X7_dead mem = some r := by
  have hp8 := hO.p8
  refine ⟨nI (bm (deadB S P.1) (sP S)), ?_, ?_⟩
  · unfold f_X6_dead
    rw [show ((0 : Int32), (0 : Int32)) = (fun i => (nI (bm (deadB S P.1) i), nI i)) 0 from rfl, lp_FU (fun i => (nI (bm (deadB S P.1) i), nI i)) (sP S) (r := (nI (bm (deadB S P.1) (sP S)), nI (sP S))) (by omega)]
    · rfl
    · intro i hi
      have hd : deadB S P.1 i = (!fullB S P.1 i && decide (bm (fun w => fitB S P.1 i w) (sW S) = 0)) := rfl
      have hlt := bmW hO (fun w => fitB S P.1 i w)
      unfold f_X6_dead_b4
      rw [hC.1.2.2.1, if_neg (nI_ge hi (by omega)), isFilled_e hO hC hT.1 hP.1 hi]
      simp only [ob, lt', nI_1, bm]
      cases hf : fullB S P.1 i with
      | true =>
        rw [hf] at hd
        rw [hd, if_neg (by decide)]
        rfl
      | false =>
        rw [if_pos (by rfl), fitting_e hO hC hT.1 hP.1 hi]
        simp only
        by_cases h0 : bm (fun w => fitB S P.1 i w) (sW S) = 0
        · rw [hf, decide_eq_true h0] at hd
          rw [h0, if_pos nI_0, hd, i_orb (by omega)]
          rfl
        · rw [hf, decide_eq_false h0] at hd
          rw [if_neg (nI_ne0 (by omega) hlt), hd]
          rfl
    · unfold f_X6_dead_b4
      rw [hC.1.2.2.1, if_pos (nI_le (Nat.le_refl _) (by omega))]
  · unfold f_X7_dead
    rw [show ((0 : Int32), (0 : Int32)) = (fun i => (nI (bm (deadB S P.1) i), nI i)) 0 from rfl, lp_FU (fun i => (nI (bm (deadB S P.1) i), nI i)) (sP S) (r := (nI (bm (deadB S P.1) (sP S)), nI (sP S))) (by omega)]
    · rfl
    · intro i hi
      have hd : deadB S P.1 i = (!fullB S P.1 i && decide (bm (fun w => fitB S P.1 i w) (sW S) = 0)) := rfl
      have hlt := bmW hO (fun w => fitB S P.1 i w)
      have hle := empN_le S P.1 i
      have hpl := hO.pl hi
      rw [full_emp] at hd
      unfold f_X7_dead_b4
      rw [hM.1.2.2.1, if_neg (nI_ge hi (by omega)), empties_e hO hM hU.1 hP.1 hi]
      simp only [ob, lt', nI_1, bm]
      by_cases hf : empN S P.1 i = 0
      · rw [decide_eq_true hf] at hd
        rw [hd, hf, if_pos (by decide), i_or0]
        rfl
      · rw [decide_eq_false hf] at hd
        rw [if_neg (nI_nle (by omega) (by omega)), fitting7_e hO hM hP hU hi]
        simp only
        by_cases h0 : bm (fun w => fitB S P.1 i w) (sW S) = 0
        · rw [decide_eq_true h0] at hd
          rw [h0, if_pos nI_0, hd, i_orb (by omega)]
          rfl
        · rw [decide_eq_false h0] at hd
          rw [if_neg (nI_ne0 (by omega) hlt), hd, i_or0]
          rfl
    · unfold f_X7_dead_b4
      rw [hM.1.2.2.1, if_pos (nI_le (Nat.le_refl _) (by omega))]
theorem cnt_ext {f : Nat → Bool} {n : Nat} : ∀ m, (∀ i, n ≤ i → i < n + m → f i = false) → cnt f (n + m) = cnt f n := by
  intro m
  induction m with
  | zero => intro _; rfl
  | succ m ih =>
    intro h
    rw [show n + (m + 1) = (n + m) + 1 from rfl, cnt, h (n + m) (by omega) (by omega), ih (fun i h1 h2 => h i h1 (by omega))]
    rfl
theorem standing_e (hO : SOK S) (hP : POK S P) (hT : CP P 31 mem) : f_X0_standing 31 mem = some (nI (cnt (fun x => P.1 x != 0) (sR S * sC S))) := by
  have hb := hO.rc
  have e : cnt (fun x => P.1 x != 0) 16 = cnt (fun x => P.1 x != 0) (sR S * sC S) := by
    have h := cnt_ext (f := fun x => P.1 x != 0) (n := sR S * sC S) (16 - sR S * sC S) (fun i h1 h2 => by
      have := hP.2.1 i (by omega) (Or.inl h1)
      simp [this])
    rw [show sR S * sC S + (16 - sR S * sC S) = 16 by omega] at h
    exact h
  unfold f_X0_standing
  rw [show ((0 : Int32), (0 : Int32)) = (fun i => (nI (cnt (fun x => P.1 x != 0) i), nI i)) 0 from rfl, lp_FU (fun i => (nI (cnt (fun x => P.1 x != 0) i), nI i)) 16 (r := (nI (cnt (fun x => P.1 x != 0) 16), nI 16)) (by decide)]
  · rw [← e]
    rfl
  · intro i hi
    have h6 := hP.1 i hi
    unfold f_X0_standing_b4
    rw [if_neg (show ¬ (16 : Int32) ≤ nI i from nI_ge hi (by decide)), rd_e i rfl hi (by decide) (hT.1 i hi)]
    simp only [lt', nI_1, cnt]
    by_cases h0 : P.1 i = 0
    · rw [if_pos (show nI (P.1 i) = 0 by rw [h0]; rfl), if_neg (by simp [h0])]
      rfl
    · rw [if_neg (nI_ne0 (by omega) (by omega)), if_pos (by simpa using h0)]
  · unfold f_X0_standing_b4
    rw [if_pos (show (16 : Int32) ≤ nI 16 from nI_le (Nat.le_refl 16) (by decide))]
theorem standing7_e (hO : SOK S) (hM : MS S mem) (hP : POK S P) (hU : MP P 77 mem) : f_X7_standing mem = some (nI (cnt (fun x => P.1 x != 0) (sR S * sC S))) := by
  have hb := hO.rc
  unfold f_X7_standing
  rw [show ((0 : Int32), (0 : Int32)) = (fun i => (nI (cnt (fun x => P.1 x != 0) i), nI i)) 0 from rfl, lp_FU (fun i => (nI (cnt (fun x => P.1 x != 0) i), nI i)) (sR S * sC S) (r := (nI (cnt (fun x => P.1 x != 0) (sR S * sC S)), nI (sR S * sC S))) (by omega)]
  · rfl
  · intro i hi
    have h6 := hP.1 i (by omega)
    unfold f_X7_standing_b4
    rw [sqM hM]
    simp only [ob]
    rw [if_neg (nI_ge hi (by omega)), rd_e i rfl (by omega) (by decide) (hU.1 i (by omega))]
    simp only [lt', nI_1, cnt]
    by_cases h0 : P.1 i = 0
    · rw [if_pos (show nI (P.1 i) ≤ 0 by rw [h0]; decide), if_neg (by simp [h0]), i_add0]
      rfl
    · rw [if_neg (nI_nle (by omega) (by omega)), if_pos (by simpa using h0)]
  · unfold f_X7_standing_b4
    rw [sqM hM]
    simp only [ob]
    rw [if_pos (nI_le (Nat.le_refl _) (by omega))]
end ASK
section ASK2
variable {S : Sh} {P : Pa} {u k : Nat × (Nat → Pa)} {w : Nat × (Nat → Nat) × (Nat → Bool)} {x : Nat × (Nat → Nat)} {sh sp : Nat} {mem : Mem} {l l2 : Int32}
theorem count_a (hA : AOK S P u k w x) (hC : CI S P u k w x sh mem) (hM : MI S P u k w x mem) : ∃ r, f_X6_count sh l mem = some r ∧ f_X7_count l mem = some r := by
  obtain ⟨a, ha, h31, h32, hj⟩ := hM.2.2.1
  unfold f_X6_count f_X7_count
  rw [sqC hC.1, sqM hM.1, standing_e hA.1 hA.2.1 hC.2.1, standing7_e hA.1 hM.1 hA.2.1 hM.2.1, hC.1.1.1, hM.1.1.1, hC.1.1.2.2.1, hM.1.1.2.2.1, hC.1.1.2.2.2.1, hM.1.1.2.2.2.1, hC.1.1.2.2.2.2, hM.1.1.2.2.2.2, hC.2.2.2.2.1.1, hM.2.2.2.2.1.1, hC.2.2.1.2.1, h31, hC.2.2.2.1.2.1, hM.2.2.2.1.1, hC.2.2.2.2.2.1, hM.2.2.2.2.2.1]
  simp only [ob, lt', and_self]
  repeat' split
  all_goals exact ⟨_, rfl⟩
theorem solver_a (hs : Two sh sp) (hA : AOK S P u k w x) (hC : CI S P u k w x sh mem) (hM : MI S P u k w x mem) : Agree sh sp (f_X6_solver sh l l2) (f_X7_solver l l2) mem := by
  have hO := hA.1
  have hn := hO.n6
  rcases ixs l (sN S) with ⟨i, hi, rfl⟩ | hl
  · rcases ixs l2 4 with ⟨c, hc, rfl⟩ | hc
    · have e7 : ∀ m1 : Mem, (∀ a, 62 ≤ a → m1 a = mem a) → f_X7_layCounted 77 (-1) m1 = some (wrK m1 79 (fun k => k) (amt S P (fun _ => true)) (sN S)) ∧ ∀ r, (∀ m25 : Mem, (∀ a, a ≠ 79 → m25 a = m1 a) → (∀ j, j < sN S → m25 79 j = nI (amt S P (fun _ => true) j)) → (if nI c = 0 then (rd (m25 73) 6 (nI i) fun v37 => some (v37, m25)) else (if nI c = 3 then (rd (m25 79) 6 (nI i) fun v51 => some (v51, m25)) else (rd (m25 77) 28 (((16 + (2 * nI i)) + nI c) - 1) fun v69 => some (v69, m25)))) = some (r, m25)) → ∃ m2, f_X7_solver (nI i) (nI c) m1 = some (r, m2) ∧ QM m1 m2 ∧ ∀ a, a < 62 → m2 a = m1 a := by
        intro m1 h1
        have hM1 := MI.up hM h1
        have e := layCounted_e hO hM1.1 hA.2.1 (Or.inl rfl) hM1.2.1 mayAll
        refine ⟨e, fun r hr => ⟨wrK m1 79 (fun k => k) (amt S P (fun _ => true)) (sN S), ?_, QM.of (fun a _ z _ _ => wrK_ne z _), fun a ha => wrK_ne (by omega) _⟩⟩
        unfold f_X7_solver
        rw [solver7_1 hO hM1.1 hi, show f_X7_in (nI c) 0 3 = some 1 from in7_l1 (m := 3) hc (by decide)]
        simp only [ob]
        rw [if_neg (show ¬ (1 : Int32) = 0 by decide), if_neg (show ¬ (1 : Int32) = 0 by decide), e]
        exact hr _ (fun a z => wrK_ne z _) (fun j hj => wrK_id _ hj)
      have hk0 := hM.1.2.2.2.2 i hi
      obtain ⟨t1, t2⟩ := hC.2.1.2 i (by omega)
      obtain ⟨t3, t4⟩ := hM.2.1.2 i (by omega)
      have pre : f_X6_solver sh (nI i) (nI c) mem = (if nI c = 0 then (rd (mem (sh + 9)) 6 (nI i) fun v48 => some (v48, mem)) else (if nI c = 1 then (rd (mem 33) 6 (nI i) fun v58 => some (v58, mem)) else (if nI c = 2 then (rd (mem 34) 6 (nI i) fun v68 => some (v68, mem)) else (if nI c = 3 then (ob (f_X3_send sh 31 63 mem) fun m84 => rd (m84 40) 6 (nI i) fun v95 => some (v95, m84)) else (some ((-1), mem)))))) := by
        unfold f_X6_solver
        rw [solverc_1 hO hC.1 hi]
        rfl
      rcases (show c = 0 ∨ c = 1 ∨ c = 2 ∨ c = 3 by omega) with rfl | rfl | rfl | rfl
      · obtain ⟨m2, q1, q2, q3⟩ := (e7 mem (fun _ _ => rfl)).2 (nI (skd S i)) (fun m25 f1 f2 => by rw [if_pos (show nI 0 = 0 from rfl), rd_e i rfl (by omega) (by decide) (show m25 73 i = nI (skd S i) by rw [f1 73 (by decide)]; exact hk0)])
        refine agree_q hs hA hC hM (r := nI (skd S i)) ?_ QC.rfl q1 q2 q3
        rw [pre, if_pos (show nI 0 = 0 from rfl), rd_e i rfl (by omega) (by decide) (hC.1.2.2.2.2.2.2 i hi)]
      · obtain ⟨m2, q1, q2, q3⟩ := (e7 mem (fun _ _ => rfl)).2 (nI (P.2.1 i)) (fun m25 f1 f2 => by rw [if_neg (show ¬ nI 1 = 0 by decide), if_neg (show ¬ nI 1 = 3 by decide), rd_e (16 + 2 * i) (by rw [i_lit 16, i_lit 2, pk_mul, nI_add, nI_add, nI_pred]) (by omega) (by decide) (show m25 77 (16 + 2 * i) = nI (P.2.1 i) by rw [f1 77 (by decide)]; exact t3)])
        refine agree_q hs hA hC hM (r := nI (P.2.1 i)) ?_ QC.rfl q1 q2 q3
        rw [pre, if_neg (show ¬ nI 1 = 0 by decide), if_pos (show nI 1 = 1 from rfl), rd_e i rfl (by omega) (by decide) t1]
      · obtain ⟨m2, q1, q2, q3⟩ := (e7 mem (fun _ _ => rfl)).2 (nI (P.2.2 i)) (fun m25 f1 f2 => by rw [if_neg (show ¬ nI 2 = 0 by decide), if_neg (show ¬ nI 2 = 3 by decide), rd_e (16 + 2 * i + 1) (by rw [i_lit 16, i_lit 2, pk_mul, nI_add, nI_add, nI_pred]) (by omega) (by decide) (show m25 77 (16 + 2 * i + 1) = nI (P.2.2 i) by rw [f1 77 (by decide)]; exact t4)])
        refine agree_q hs hA hC hM (r := nI (P.2.2 i)) ?_ QC.rfl q1 q2 q3
        rw [pre, if_neg (show ¬ nI 2 = 0 by decide), if_neg (show ¬ nI 2 = 1 by decide), if_pos (show nI 2 = 2 from rfl), rd_e i rfl (by omega) (by decide) t2]
      · have hs' := hs
        unfold Two at hs'
        have es := send_e hO hC.1 hA.2.1 hC.2.1 (by omega) (Or.inl (by decide)) may63
        have hne : ∀ a, a ≠ 40 → wrK mem 40 (fun k => k) (amt S P (fun _ => true)) (sN S) a = mem a := fun a h => wrK_ne h _
        obtain ⟨m2, q1, q2, q3⟩ := (e7 (wrK mem 40 (fun k => k) (amt S P (fun _ => true)) (sN S)) (fun a ha => hne a (by omega))).2 (nI (amt S P (fun _ => true) i)) (fun m25 f1 f2 => by rw [if_neg (show ¬ nI 3 = 0 by decide), if_pos (show nI 3 = 3 from rfl), rd_e i rfl (by omega) (by decide) (f2 i hi)])
        refine agree_q hs hA hC hM (r := nI (amt S P (fun _ => true) i)) ?_ (QC.of hs (fun a ha => hne a (by omega))) q1 q2 q3
        rw [pre, if_neg (show ¬ nI 3 = 0 by decide), if_neg (show ¬ nI 3 = 1 by decide), if_neg (show ¬ nI 3 = 2 by decide), if_pos (show nI 3 = 3 from rfl), es]
        simp only [ob]
        rw [rd_e i rfl (by omega) (by decide) (wrK_id (mem := mem) (a := 40) (v := amt S P (fun _ => true)) (sN S) hi)]
    · refine agree_0 hs hA hC hM (r := -1) ?_ ?_
      · unfold f_X6_solver
        rw [solverc_1 hO hC.1 hi]
        simp only [ob]
        rw [if_neg (show ¬ (1 : Int32) = 0 by decide), if_neg (show ¬ l2 = 0 from hc.ne (k := 0) (by decide) (by decide)), if_neg (show ¬ l2 = 1 from hc.ne (k := 1) (by decide) (by decide)), if_neg (show ¬ l2 = 2 from hc.ne (k := 2) (by decide) (by decide)), if_neg (show ¬ l2 = 3 from hc.ne (k := 3) (by decide) (by decide))]
      · unfold f_X7_solver
        rw [solver7_1 hO hM.1 hi, show f_X7_in l2 0 3 = some 0 from in7_l0 (m := 3) hc (by decide)]
        rfl
  · refine agree_0 hs hA hC hM (r := -1) ?_ ?_
    · unfold f_X6_solver
      rw [solverc_0 hO hC.1 hl]
      rfl
    · unfold f_X7_solver
      rw [solver7_0 hO hM.1 hl]
      rfl
end ASK2
