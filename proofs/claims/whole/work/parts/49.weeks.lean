/-! weeks of draws -/
def dN (a j : Nat) : Nat := (7919 * a + 6151 * j + 1) * (7919 * a + 6151 * j + 1) % 65521
theorem l_lit (n : Nat) : (OfNat.ofNat n : Int64) = lN n := rfl
theorem dN_lt (a j : Nat) : dN a j < 65521 := Nat.mod_lt _ (by decide)
theorem dN_e {a j : Nat} (ha : a ≤ 9999) (hj : j ≤ 40) : (lrm (((7919 * (nI a).toInt64) + (6151 * (nI j).toInt64) + 1) * ((7919 * (nI a).toInt64) + (6151 * (nI j).toInt64) + 1)) 65521).toInt32 = nI (dN a j) := by
  have hle : 7919 * a + 6151 * j + 1 ≤ 100000000 := by omega
  have hsq : (7919 * a + 6151 * j + 1) * (7919 * a + 6151 * j + 1) ≤ 100000000 * 100000000 := Nat.mul_le_mul hle hle
  rw [nI_l (by omega), nI_l (by omega), l_lit 7919, l_lit 6151, l_lit 65521, lN_mul, lN_mul, lN_add, lN_1, lN_mul, ← lN_i]
  congr 1
  unfold lrm dN
  exact pk_lRem (Nat.lt_of_le_of_lt hsq (by decide)) (by decide) (by decide)
/-- what a draw does to a paper -/
def drwP (S : Sh) (P : Pa) (d : Nat) : Pa :=
  if sN S = 0 ∨ sP S = 0 then P else
    if d / 1024 % 4 = 0 then (wrN P.1 (ssq S (d / 64 % sP S)) (fun _ => 0) (spl S (d / 64 % sP S)), (wshP P (d % sN S) (d / 64 % sP S) (d / 8 % sW S)).2.1, (wshP P (d % sN S) (d / 64 % sP S) (d / 8 % sW S)).2.2)
    else wshP P (d % sN S) (d / 64 % sP S) (d / 8 % sW S)
section WEE
variable {S : Sh} {P : Pa} {sh : Nat} {m : Mem} {d : Nat}
theorem drwOK (hO : SOK S) (hP : POK S P) : POK S (drwP S P d) := by
  have hp8 := hO.p8
  have hw1 := hO.2.2.2.1.1
  unfold drwP
  by_cases h : sN S = 0 ∨ sP S = 0
  · rw [if_pos h]; exact hP
  · rw [if_neg h]
    have h1 : d / 64 % sP S < sP S := Nat.mod_lt _ (by omega)
    have h2 : d / 8 % sW S < sW S := Nat.mod_lt _ (by omega)
    have hq := wshOK (i := d % sN S) (a := d / 64 % sP S) (b := d / 8 % sW S) hP (by omega) h2
    by_cases h3 : d / 1024 % 4 = 0
    · rw [if_pos h3]
      exact hq.wr hO h1 (fun _ _ => Nat.zero_le _)
    · rw [if_neg h3]
      exact hq
theorem applyDraw_e (hO : SOK S) (hs : sh + 9 < 35) (hC : CS S sh m) (hT : CP P 35 m) (hd : d < 65521) : ∃ m', f_X6_applyDraw sh (nI d) m = some m' ∧ CP (drwP S P d) 35 m' ∧ ∀ a, a < 36 ∨ 43 < a → m' a = m a := by
  have hp8 := hO.p8
  have hn := hO.n6
  have hw1 := hO.2.2.2.1
  unfold f_X6_applyDraw drwP
  rw [hC.1.2.2.1, hC.1.2.2.2.1, hC.1.2.2.2.2]
  by_cases hN : sN S = 0
  · rw [if_pos (Or.inl hN), hN, if_pos nI_0]
    exact ⟨m, rfl, hT, fun _ _ => rfl⟩
  · rw [if_neg (nI_ne0 (by omega) (by omega))]
    by_cases hp : sP S = 0
    · rw [if_pos (Or.inr hp), hp, if_pos nI_0]
      exact ⟨m, rfl, hT, fun _ _ => rfl⟩
    · have g1 : d / 64 % sP S < sP S := Nat.mod_lt _ (by omega)
      have g2 : d / 8 % sW S < sW S := Nat.mod_lt _ (by omega)
      have g3 : d % sN S < sN S := Nat.mod_lt _ (by omega)
      rw [if_neg (nI_ne0 (by omega) (by omega)), if_neg (nI_ne0 (by omega) (by omega)), if_neg (show ¬ (sN S = 0 ∨ sP S = 0) by omega)]
      simp only [lt', dk]
      rw [if_neg (nI_ne0 (by omega) (by omega)), if_neg (nI_ne0 (by omega) (by omega)), if_neg (nI_ne0 (by omega) (by omega))]
      rw [i_lit 64, i_lit 8, i_lit 1024, i_lit 4, i_dv (by omega) (by decide) (by decide), i_dv (by omega) (by decide) (by decide), i_dv (by omega) (by decide) (by decide), i_rm (by omega) (by omega) (by omega), i_rm (by omega) (by omega) (by omega), i_rm (by omega) (by omega) (by omega), i_rm (by omega) (by decide) (by decide)]
      obtain ⟨m1, e1, t1, f1⟩ := wishC (a := d / 64 % sP S) (b := d / 8 % sW S) hT (show d % sN S < 6 by omega)
      rw [e1]
      simp only [ob]
      by_cases h0 : d / 1024 % 4 = 0
      · rw [if_pos h0, h0, if_pos nI_0]
        have hC1 := hC.keep (mem' := m1) (fun a _ _ => f1 a (by omega) (by omega))
        have e2 := put_e (t := 35) (c := 0) (v := fun _ => 0) hO hC1 ⟨by omega, by omega⟩ (by decide) (fun j hj => by simp) g1
        have t2 := putC (S := S) (p := d / 64 % sP S) (v := fun _ => 0) t1
        rw [show f_X5_put sh 35 (nI (d / 64 % sP S)) 0 m1 = _ from e2]
        refine ⟨_, rfl, t2, fun a ha => by rw [wrK_ne (by omega), f1 a (by omega) (by omega)]⟩
      · rw [if_neg h0, if_neg (nI_ne0 (by omega) (by omega))]
        exact ⟨m1, rfl, t1, fun a ha => f1 a (by omega) (by omega)⟩
end WEE
/-- after so many weeks: the paper, and how much was printed -/
def wkI (S : Sh) (P : Pa) (a : Nat) : Nat → Pa × Nat
  | 0 => (P, 0)
  | i + 1 => (evP S (drwP S (wkI S P a i).1 (dN a i)) (fun _ => true), (wkI S P a i).2 + (eveN S (drwP S (wkI S P a i).1 (dN a i)) (fun _ => true)).2.2)
section WEE2
variable {S : Sh} {P : Pa} {u k : Nat × (Nat → Pa)} {w : Nat × (Nat → Nat) × (Nat → Bool)} {x : Nat × (Nat → Nat)} {sh sp : Nat} {mem : Mem} {l l2 l3 : Int32}
theorem filledC (hO : SOK S) {m : Mem} (hC : CS S sh m) (hP : POK S P) (hT : CP P 35 m) : f_X6_filledPlaces 35 sh m = some (nI (cnt (fullB S P.1) (sP S))) := by
  have hp8 := hO.p8
  unfold f_X6_filledPlaces
  rw [show ((0 : Int32), (0 : Int32)) = (fun i => (nI (cnt (fullB S P.1) i), nI i)) 0 from rfl, lp_FU (fun i => (nI (cnt (fullB S P.1) i), nI i)) (sP S) (r := (nI (cnt (fullB S P.1) (sP S)), nI (sP S))) (by omega)]
  · rfl
  · intro i hi
    unfold f_X6_filledPlaces_b4
    rw [hC.1.2.2.1, if_neg (nI_ge hi (by omega)), isFilled_e hO hC hT.1 hP.1 hi]
    simp only [ob, lt', nI_1, cnt]
    by_cases hf : fullB S P.1 i = true
    · rw [if_pos hf, hf, if_neg (show ¬ b2i true = 0 by decide)]
    · rw [if_neg hf, if_pos (show b2i (fullB S P.1 i) = 0 by rw [Bool.not_eq_true] at hf; rw [hf]; rfl)]
      rfl
  · unfold f_X6_filledPlaces_b4
    rw [hC.1.2.2.1, if_pos (nI_le (Nat.le_refl _) (by omega))]
theorem filledM (hO : SOK S) {m : Mem} (hM : MS S m) (hP : POK S P) (hT : MP P 78 m) {a b : Int32} : lp (f_X7_weeks_b198 a b m) FU (0, 0) = some (nI (cnt (fullB S P.1) (sP S)), nI (sP S)) := by
  have hp8 := hO.p8
  refine lp_FU (fun i => (nI (cnt (fullB S P.1) i), nI i)) (sP S) (by omega) ?_ ?_
  · intro i hi
    have hle := empN_le S P.1 i
    have hpl := hO.pl hi
    unfold f_X7_weeks_b198
    rw [hM.1.2.2.1, if_neg (nI_ge hi (by omega)), empties_e hO hM hT.1 hP.1 hi]
    simp only [ob, lt', nI_1, cnt]
    by_cases hf : empN S P.1 i = 0
    · rw [if_pos (show nI (empN S P.1 i) = 0 by rw [hf]; rfl), if_pos (by rw [full_emp, hf]; rfl)]
    · rw [if_neg (nI_ne0 (by omega) (by omega)), if_neg (by rw [full_emp]; simpa using hf), i_add0]
      rfl
  · unfold f_X7_weeks_b198
    rw [hM.1.2.2.1, if_pos (nI_le (Nat.le_refl _) (by omega))]
theorem j172_e (hO : SOK S) {m : Mem} (hM : MS S m) (hP : POK S P) (hT : MP P 78 m) {a b c : Int32} {s i : Nat} : ∃ m', f_X7_weeks_j172 a b c (nI s) (nI i) m = some (.inl (nI (s + (eveN S P (fun _ => true)).2.2), nI (i + 1), m')) ∧ MS S m' ∧ MP (evP S P (fun _ => true)) 78 m' ∧ POK S (evP S P (fun _ => true)) ∧ ∀ a, a ≠ 78 → a ≠ 79 → a ≠ 80 → a ≠ 81 → m' a = m a := by
  obtain ⟨m', e, h1, h2, h3, -, h4⟩ := trialM hO hM hP hT mayAll
  refine ⟨m', ?_, h1, h2, h3, h4⟩
  unfold f_X7_weeks_j172
  rw [e]
  simp only [ob2, lt', nI_1, nI_add]
theorem weeks7_b {m : Mem} (hO : SOK S) (hM : MS S m) (hP : POK S P) (hT : MP P 78 m) {a n i s : Nat} {c : Int32} (ha : a ≤ 9999) (hn : n ≤ 40) (hi : i < n) : ∃ m', f_X7_weeks_b42 (nI a) (nI n) c (nI s, nI i, m) = some (.inl (nI (s + (eveN S (drwP S P (dN a i)) (fun _ => true)).2.2), nI (i + 1), m')) ∧ MS S m' ∧ MP (evP S (drwP S P (dN a i)) (fun _ => true)) 78 m' ∧ POK S (evP S (drwP S P (dN a i)) (fun _ => true)) ∧ ∀ a, a ≠ 78 → a ≠ 79 → a ≠ 80 → a ≠ 81 → m' a = m a := by
  have hp8 := hO.p8
  have hn6 := hO.n6
  have hw1 := hO.2.2.2.1
  have hOK := drwOK (d := dN a i) hO hP
  have hd := dN_lt a i
  unfold f_X7_weeks_b42
  simp only [lt']
  rw [if_neg (nI_ge hi (by omega)), dN_e ha (by omega), hM.1.2.2.2.2, hM.1.2.2.1]
  generalize dN a i = d at *
  by_cases hN : sN S = 0
  · have e : drwP S P d = P := by unfold drwP; rw [if_pos (Or.inl hN)]
    rw [e, hN, if_pos (by decide)]
    exact j172_e hO hM hP hT
  · rw [if_neg (nI_nle (by omega) (by omega))]
    by_cases hp : sP S = 0
    · have e : drwP S P d = P := by unfold drwP; rw [if_pos (Or.inr hp)]
      rw [e, hp, if_pos (by decide)]
      exact j172_e hO hM hP hT
    · have g1 : d / 64 % sP S < sP S := Nat.mod_lt _ (by omega)
      have g2 : d / 8 % sW S < sW S := Nat.mod_lt _ (by omega)
      have g3 : d % sN S < sN S := Nat.mod_lt _ (by omega)
      have t1 := wishM (a := d / 64 % sP S) (b := d / 8 % sW S) hT (show d % sN S < 6 by omega)
      rw [if_neg (nI_nle (by omega) (by omega))]
      unfold dk
      rw [if_neg (nI_ne0 (by omega) (by omega)), if_neg (nI_ne0 (by omega) (by omega)), i_lit 64, i_lit 8, i_lit 1024, i_lit 4, i_dv (by omega) (by decide) (by decide), i_dv (by omega) (by decide) (by decide), i_dv (by omega) (by decide) (by decide), i_rm (by omega) (by omega) (by omega), i_rm (by omega) (by omega) (by omega), i_rm (by omega) (by decide) (by decide), wr_e (16 + 2 * (d % sN S)) (by rw [i_lit 16, i_lit 2, pk_mul, nI_add]) (by omega) (by decide), mset_ne (by decide), hM.1.2.2.2.1, if_neg (nI_ne0 (by omega) (by omega)), i_rm (by omega) (by omega) (by omega), wr_e (16 + 2 * (d % sN S) + 1) (by rw [i_lit 16, i_lit 2, pk_mul, nI_add, nI_1]) (by omega) (by decide)]
      generalize hm1 : mset (mset m 78 (16 + 2 * (d % sN S)) (nI (d / 64 % sP S))) 78 (16 + 2 * (d % sN S) + 1) (nI (d / 8 % sW S)) = m1 at t1
      have f1 : ∀ b, b ≠ 78 → m1 b = m b := fun b h => by rw [← hm1, mset_ne h, mset_ne h]
      have hM1 := hM.keep (mem' := m1) (fun b _ _ => by rw [f1 62 (by decide)]) (fun b _ _ => f1 b (by omega))
      unfold drwP at hOK ⊢
      rw [if_neg (show ¬ (sN S = 0 ∨ sP S = 0) by omega)] at hOK ⊢
      by_cases h0 : d / 1024 % 4 = 0
      · rw [if_pos h0] at hOK ⊢
        rw [h0, if_pos nI_0, strikes_e hO hM1 (Or.inr rfl) g1]
        simp only [ob]
        have t2 := putM hO g1 (v := fun _ => 0) t1
        generalize hm2 : wrK m1 78 (ssq S (d / 64 % sP S)) (fun _ => 0) (spl S (d / 64 % sP S)) = m2 at t2
        have f2 : ∀ b, b ≠ 78 → m2 b = m1 b := fun b h => by rw [← hm2, wrK_ne h]
        obtain ⟨m', q1, q2, q3, q4, q5⟩ := j172_e (a := nI a) (b := nI n) (c := c) (s := s) (i := i) hO (hM1.keep (mem' := m2) (fun b _ _ => by rw [f2 62 (by decide)]) (fun b _ _ => f2 b (by omega))) hOK t2
        exact ⟨m', q1, q2, q3, q4, fun b z1 z2 z3 z4 => by rw [q5 b z1 z2 z3 z4, f2 b z1, f1 b z1]⟩
      · rw [if_neg h0] at hOK ⊢
        rw [if_neg (nI_ne0 (by omega) (by omega))]
        obtain ⟨m', q1, q2, q3, q4, q5⟩ := j172_e (a := nI a) (b := nI n) (c := c) (s := s) (i := i) hO hM1 hOK t1
        exact ⟨m', q1, q2, q3, q4, fun b z1 z2 z3 z4 => by rw [q5 b z1 z2 z3 z4, f1 b z1]⟩
theorem weeks_a (hs : Two sh sp) (hA : AOK S P u k w x) (hC : CI S P u k w x sh mem) (hM : MI S P u k w x mem) : Agree sh sp (f_X6_weeks sh l l2 l3) (f_X7_weeks l l2 l3) mem := by
  have hs' := hs
  unfold Two at hs'
  have hO := hA.1
  have lt9 : ∀ {y : Int32} {n : Nat}, ¬ y < 0 → nI (n + 1) ≤ y → n < 2 ^ 20 → nI n < y := by
    intro y n h0 h hn
    obtain ⟨j, hj, rfl⟩ := nI_of h0
    exact nI_lt ((nI_leI (by omega) hj).mp h) hj
  rcases ixs l 10000 with ⟨a, ha, rfl⟩ | hl
  · have i1 : f_X7_in (nI a) 0 9999 = some 1 := in7_l1 (m := 9999) ha (by decide)
    rcases ixs l2 41 with ⟨n, hn, rfl⟩ | hl2
    · by_cases hn0 : n = 0
      · subst hn0
        refine agree_0 hs hA hC hM (r := -1) ?_ ?_
        · unfold f_X6_weeks
          rw [if_neg (nI_pos (by omega)), if_neg (show ¬ (9999 : Int32) < nI a from nI_nlt (a := 9999) (by omega) (by decide)), if_pos (show nI 0 < 1 by decide)]
        · unfold f_X7_weeks
          rw [i1, show f_X7_in (nI 0) 1 40 = some 0 by decide]
          rfl
      · have i2 : f_X7_in (nI n) 1 40 = some 1 := by
          unfold f_X7_in
          rw [if_neg (show ¬ nI n < 1 from nI_nlt (b := 1) (by omega) (by omega)), if_neg (show ¬ (40 : Int32) < nI n from nI_nlt (a := 40) (by omega) (by decide))]
        have pre : ∀ R, f_X6_weeks sh (nI a) (nI n) l3 mem = R ↔ (if l3 < 0 then (some ((-1), mem)) else (if l3 ≤ 1 then (ob (f_X0_copy 35 31 mem) fun m44 => ob (lp (f_X6_weeks_b50 sh (nI a) (nI n) l3) FU (0, 0, m44)) fun q50 => if l3 = 0 then (ob (f_X6_filledPlaces 35 sh q50.2.2) fun r103 => some (r103, q50.2.2)) else (some (q50.1, q50.2.2))) else (some ((-1), mem)))) = R := by
          intro R
          unfold f_X6_weeks
          rw [if_neg (nI_pos (by omega)), if_neg (show ¬ (9999 : Int32) < nI a from nI_nlt (a := 9999) (by omega) (by decide)), if_neg (show ¬ nI n < 1 from nI_nlt (b := 1) (by omega) (by omega)), if_neg (show ¬ (40 : Int32) < nI n from nI_nlt (a := 40) (by omega) (by decide))]
        rcases ixs l3 2 with ⟨c, hc, rfl⟩ | hl3
        · obtain ⟨m1, e1, t1, f1⟩ := copy_e (t := 35) hC.2.1 (by decide)
          obtain ⟨r2, e2, m2, rfl, c2, t2, p2, f2⟩ := lp_invF (body := f_X6_weeks_b50 sh (nI a) (nI n) (nI c)) (fun i q => ∃ m, q = (nI (wkI S P a i).2, nI i, m) ∧ CS S sh m ∧ CP (wkI S P a i).1 35 m ∧ POK S (wkI S P a i).1 ∧ ∀ a, a < 36 ∨ 43 < a → m a = m1 a) n (fun r => ∃ m, r = (nI (wkI S P a n).2, nI n, m) ∧ CS S sh m ∧ CP (wkI S P a n).1 35 m ∧ POK S (wkI S P a n).1 ∧ ∀ a, a < 36 ∨ 43 < a → m a = m1 a) (by omega) (q := (0, 0, m1)) ⟨m1, rfl, hC.1.keep (fun a _ _ => f1 a (by omega) (by omega) (by omega)), t1, hA.2.1, fun _ _ => rfl⟩
            (fun i q hi hI => by
              obtain ⟨m, rfl, cc, t, p, f⟩ := hI
              obtain ⟨m', e', t', f'⟩ := applyDraw_e hO (by omega) cc t (dN_lt a i)
              obtain ⟨m'', e'', c'', t'', p'', -, f''⟩ := trialC (by omega) hO (cc.keep (mem' := m') (fun a _ _ => f' a (by omega))) (drwOK hO p) t' may63
              refine Or.inl ⟨_, ?_, m'', rfl, c'', t'', p'', fun a ha => by rw [f'' a ha, f' a ha, f a ha]⟩
              unfold f_X6_weeks_b50 f_X6_drawOf
              simp only [lt', ob]
              rw [if_neg (nI_ge hi (by omega)), dN_e (by omega) (by omega), e']
              simp only
              rw [e'']
              simp only [ob2, nI_1, nI_add]
              rfl)
            (fun q hI => by
              obtain ⟨m, rfl, cc, t, p, f⟩ := hI
              unfold f_X6_weeks_b50
              simp only
              rw [if_pos (nI_le (Nat.le_refl _) (by omega))]
              exact ⟨_, rfl, m, rfl, cc, t, p, f⟩)
          have hM2 := hM.up (mem' := m2) (fun a ha => by rw [f2 a (by omega), f1 a (by omega) (by omega) (by omega)])
          obtain ⟨m3, e3, t3, f3⟩ := copyNow_e hM2.2.1
          obtain ⟨r4, e4, m4, rfl, c4, t4, p4, f4⟩ := lp_invF (body := f_X7_weeks_b42 (nI a) (nI n) (nI c)) (fun i q => ∃ m, q = (nI (wkI S P a i).2, nI i, m) ∧ MS S m ∧ MP (wkI S P a i).1 78 m ∧ POK S (wkI S P a i).1 ∧ ∀ a, a ≠ 78 → a ≠ 79 → a ≠ 80 → a ≠ 81 → m a = m3 a) n (fun r => ∃ m, r = (nI (wkI S P a n).2, nI n, m) ∧ MS S m ∧ MP (wkI S P a n).1 78 m ∧ POK S (wkI S P a n).1 ∧ ∀ a, a ≠ 78 → a ≠ 79 → a ≠ 80 → a ≠ 81 → m a = m3 a) (by omega) (q := (0, 0, m3)) ⟨m3, rfl, hM2.1.keep (fun a _ _ => by rw [f3 62 (by decide)]) (fun a _ _ => f3 a (by omega)), t3, hA.2.1, fun _ _ _ _ _ => rfl⟩
            (fun i q hi hI => by
              obtain ⟨m, rfl, cc, t, p, f⟩ := hI
              obtain ⟨m', e', c', t', p', f'⟩ := weeks7_b (s := (wkI S P a i).2) (c := nI c) hO cc p t (show a ≤ 9999 by omega) (show n ≤ 40 by omega) hi
              exact Or.inl ⟨_, e', m', rfl, c', t', p', fun a z1 z2 z3 z4 => by rw [f' a z1 z2 z3 z4, f a z1 z2 z3 z4]⟩)
            (fun q hI => by
              obtain ⟨m, rfl, cc, t, p, f⟩ := hI
              unfold f_X7_weeks_b42
              simp only
              rw [if_pos (nI_le (Nat.le_refl _) (by omega))]
              exact ⟨_, rfl, m, rfl, cc, t, p, f⟩)
          refine agree_q (m1 := m2) (m2 := m4) (r := if c = 0 then nI (cnt (fullB S (wkI S P a n).1.1) (sP S)) else nI (wkI S P a n).2) hs hA hC hM ?_ (QC.of hs (fun a ha => by rw [f2 a (by omega), f1 a (by omega) (by omega) (by omega)])) ?_ (QM.of (fun a z1 z2 z3 z4 => by rw [f4 a z1 z2 z3 z4, f3 a z1])) (fun a ha => by rw [f4 a (by omega) (by omega) (by omega) (by omega), f3 a (by omega)])
          · rw [pre, if_neg (nI_pos (by omega)), if_pos (show nI c ≤ 1 from nI_le (b := 1) (by omega) (by decide)), e1]
            simp only [ob]
            rw [e2]
            simp only
            rw [filledC hO c2 p2 t2]
            rcases (show c = 0 ∨ c = 1 by omega) with rfl | rfl
            · rfl
            · rfl
          · unfold f_X7_weeks
            rw [i1, i2, show f_X7_in (nI c) 0 1 = some 1 from in7_l1 (m := 1) hc (by decide)]
            simp only [ob]
            rw [if_neg (by decide), if_neg (by decide), if_neg (by decide), e3]
            simp only
            rw [e4]
            simp only
            rw [filledM hO c4 p4 t4]
            rcases (show c = 0 ∨ c = 1 by omega) with rfl | rfl
            · rfl
            · rfl
        · refine agree_0 hs hA hC hM (r := -1) ?_ ?_
          · rw [pre]
            rcases hl3 with h | ⟨h0, h⟩
            · rw [if_pos h]
            · rw [if_neg h0, if_neg (show ¬ l3 ≤ 1 by obtain ⟨j, hj, rfl⟩ := nI_of h0; exact nI_ge (a := 1) ((nI_leI (by decide) hj).mp h) hj)]
          · unfold f_X7_weeks
            rw [i1, i2, show f_X7_in l3 0 1 = some 0 from in7_l0 (m := 1) hl3 (by decide)]
            rfl
    · have bad : l2 < 1 ∨ (¬ l2 < 1 ∧ 40 < l2) := by
        rcases hl2 with h | ⟨h0, h⟩
        · refine Or.inl ?_
          rw [Int32.lt_iff_toInt_lt] at h ⊢
          have e0 : (0 : Int32).toInt = 0 := by decide
          have e1 : (1 : Int32).toInt = 1 := by decide
          omega
        · obtain ⟨j, hj, rfl⟩ := nI_of h0
          have := (nI_leI (by decide) hj).mp h
          exact Or.inr ⟨nI_nlt (b := 1) (by omega) hj, nI_lt (a := 40) (by omega) hj⟩
      refine agree_0 hs hA hC hM (r := -1) ?_ ?_
      · unfold f_X6_weeks
        rw [if_neg (nI_pos (by omega)), if_neg (show ¬ (9999 : Int32) < nI a from nI_nlt (a := 9999) (by omega) (by decide))]
        rcases bad with h | ⟨h0, h⟩
        · rw [if_pos h]
        · rw [if_neg h0, if_pos h]
      · unfold f_X7_weeks
        rw [i1]
        simp only [ob]
        unfold f_X7_in
        rcases bad with h | ⟨h0, h⟩
        · rw [if_pos h]
          rfl
        · rw [if_neg h0, if_pos h]
          rfl
  · refine agree_0 hs hA hC hM (r := -1) ?_ ?_
    · unfold f_X6_weeks
      rcases hl with h | ⟨h0, h⟩
      · rw [if_pos h]
      · rw [if_neg h0, if_pos (show (9999 : Int32) < l from lt9 h0 h (by decide))]
    · unfold f_X7_weeks
      rw [show f_X7_in l 0 9999 = some 0 from in7_l0 (m := 9999) hl (by decide)]
      rfl
end WEE2
