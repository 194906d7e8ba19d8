/-! an evening on the paper of trial -/
def evP (S : Sh) (P : Pa) (may : Nat → Bool) : Pa := ((eveN S P may).1, P.2.1, P.2.2)
section TRI
variable {S : Sh} {P : Pa} {sh : Nat} {m : Mem} {l : Int32} {may : Nat → Bool}
theorem hasPrinted_e (hO : SOK S) {s t : Nat} {mem0 : Mem} {W F : Nat → Bool} {q : Ev} (h : HI S s t P may mem0 W F q m) (hP0 : POK S P) {p w : Nat} (hp : p < 2 ^ 30) (hw : w < 9) : f_X3_hasPrinted s t (nI p) (nI w) m = some (b2i (q.2.1 (9 * p + w))) := by
  obtain ⟨hC, hT, hP, hR, hW, hF, hfr⟩ := h
  have hn := hO.n6
  have hw9 := hO.w9
  unfold f_X3_hasPrinted
  rw [lp_all (fun i => !(F i && (P.2.1 i == p && P.2.2 i == w))) (sN S) 1 (by omega)]
  · cases ha : allB (fun i => !(F i && (P.2.1 i == p && P.2.2 i == w))) (sN S) with
    | true =>
      rw [if_pos rfl]
      have : q.2.1 (9 * p + w) = false := by
        cases hq : q.2.1 (9 * p + w) with
        | false => rfl
        | true =>
          obtain ⟨i, h1, h2, h3⟩ := (hF _).mp hq
          have h4 := allB_iff.mp ha i h1
          obtain ⟨b1, b2⟩ := hP0.2.2 i (by omega)
          unfold atN at h3
          have e1 : P.2.1 i = p := by omega
          have e2 : P.2.2 i = w := by omega
          simp [h2, e1, e2] at h4
      rw [this]
      rfl
    | false =>
      rw [if_neg (by decide)]
      have : q.2.1 (9 * p + w) = true := by
        refine (hF _).mpr ?_
        apply Classical.byContradiction
        intro hno
        have : allB (fun i => !(F i && (P.2.1 i == p && P.2.2 i == w))) (sN S) = true := by
          rw [allB_iff]
          intro i hi
          cases hf : (F i && (P.2.1 i == p && P.2.2 i == w)) with
          | false => rfl
          | true =>
            simp only [Bool.and_eq_true, beq_iff_eq] at hf
            exact absurd ⟨i, hi, hf.1, by unfold atN; omega⟩ hno
        rw [this] at ha
        cases ha
      rw [this]
      rfl
  · intro i hi
    unfold f_X3_hasPrinted_b3
    rw [hC.1.2.2.2.2, if_neg (nI_ge hi (by omega)), rd_e i rfl (by omega) (by decide) (hR i hi).2.2.2, isWanted_e hT hP hw9 (by omega) hp (by omega)]
    simp only [lt', ob, nI_1]
    cases F i with
    | false => rfl
    | true =>
      rw [if_neg (by decide)]
      cases (P.2.1 i == p && P.2.2 i == w) <;> rfl
  · unfold f_X3_hasPrinted_b3
    rw [hC.1.2.2.2.2, if_pos (nI_le (Nat.le_refl _) (by omega))]
theorem trialC (hs : sh + 9 < 35) (hO : SOK S) (hC : CS S sh m) (hP : POK S P) (hT : CP P 35 m) (hl : ∀ i, i < 6 → (l >>> (nI i &&& 31)) &&& 1 = b2i (may i)) :
    ∃ m', f_X3_hold sh 35 l m = some (nI (eveN S P may).2.2, m') ∧ CS S sh m' ∧ CP (evP S P may) 35 m' ∧ POK S (evP S P may) ∧ (∀ p w, p < 8 → w < 9 → f_X3_totalOf sh 35 (nI p) (nI w) m' = some (nI (totN S P (amt S P may) p w)) ∧ f_X3_hasPrinted sh 35 (nI p) (nI w) m' = some (b2i ((eveN S P may).2.1 (9 * p + w)))) ∧ ∀ a, a < 36 ∨ 43 < a → m' a = m a := by
  obtain ⟨m', W, F, e, h⟩ := hold_e hO hC hP hT (by omega) (by decide) hl
  refine ⟨m', e, h.1, h.2.1, h.2.2.1, fun p w hp hw => ⟨?_, hasPrinted_e hO h hP (by omega) hw⟩, fun a ha => h.2.2.2.2.2.2 a (by omega) (by omega) (by omega) (by omega) (by omega)⟩
  exact totalOf_e hO h.1 h.2.2.1 h.2.1 (fun j hj => (h.2.2.2.1 j hj).1) (by omega) (by omega)
theorem trialM (hO : SOK S) (hM : MS S m) (hP : POK S P) (hT : MP P 78 m) (hl : ∀ i, i < 6 → (l >>> (nI i &&& 31)) &&& 1 = b2i (may i)) :
    ∃ m', f_X7_passes 78 l m = some (nI (eveN S P may).2.2, m') ∧ MS S m' ∧ MP (evP S P may) 78 m' ∧ POK S (evP S P may) ∧ (∀ p w, p < 8 → w < 9 → m' 80 (9 * p + w) = nI (totN S P (amt S P may) p w) ∧ m' 81 (9 * p + w) = b2i ((eveN S P may).2.1 (9 * p + w))) ∧ ∀ a, a ≠ 78 → a ≠ 79 → a ≠ 80 → a ≠ 81 → m' a = m a := by
  obtain ⟨m', e, h⟩ := passes_e hO hP (Or.inr rfl) hM hT hl
  refine ⟨m', e, h.1, h.2.1, h.2.2.1, fun p w hp hw => ⟨?_, h.2.2.2.2.1 _ (by omega)⟩, fun a z1 z2 z3 z4 => h.2.2.2.2.2 a z2 z3 z4 z1⟩
  rw [tA_tot hO hP _ hw]
  exact h.2.2.2.1 _ (by omega)
end TRI
/-- so many evenings -/
def evI (S : Sh) (P : Pa) : Nat → Pa
  | 0 => P
  | n + 1 => evP S (evI S P n) (fun _ => true)
section TRI2
variable {S : Sh} {P : Pa} {u k : Nat × (Nat → Pa)} {w : Nat × (Nat → Nat) × (Nat → Bool)} {x : Nat × (Nat → Nat)} {sh sp : Nat} {mem : Mem} {l l2 l3 : Int32}
theorem behind_a (hs : Two sh sp) (hA : AOK S P u k w x) (hC : CI S P u k w x sh mem) (hM : MI S P u k w x mem) : Agree sh sp (f_X6_behind sh l l2) (f_X7_behind l l2) mem := by
  have hs' := hs
  unfold Two at hs'
  have hO := hA.1
  have hb := hO.rc
  rcases ixs l 21 with ⟨n, hn, rfl⟩ | hl
  · rcases ixs l2 (sR S * sC S) with ⟨z, hz, rfl⟩ | hl2
    · obtain ⟨m1, e1, t1, f1⟩ := copy_e (t := 35) hC.2.1 (by decide)
      obtain ⟨r2, e2, m2, rfl, c2, t2, p2, f2⟩ := lp_invF (body := f_X6_behind_b33 sh (nI n) (nI z)) (fun i q => ∃ m, q = (nI i, m) ∧ CS S sh m ∧ CP (evI S P i) 35 m ∧ POK S (evI S P i) ∧ ∀ a, a < 36 ∨ 43 < a → m a = m1 a) n (fun r => ∃ m, r = (nI n, m) ∧ CS S sh m ∧ CP (evI S P n) 35 m ∧ POK S (evI S P n) ∧ ∀ a, a < 36 ∨ 43 < a → m a = m1 a) (by omega) (q := (0, m1)) ⟨m1, rfl, hC.1.keep (fun a _ _ => f1 a (by omega) (by omega) (by omega)), t1, hA.2.1, fun _ _ => rfl⟩
        (fun i q hi hI => by
          obtain ⟨m, rfl, c, t, p, f⟩ := hI
          obtain ⟨m', e, c', t', p', -, f'⟩ := trialC (by omega) hO c p t may63
          refine Or.inl ⟨_, ?_, m', rfl, c', t', p', fun a ha => by rw [f' a ha, f a ha]⟩
          unfold f_X6_behind_b33
          simp only
          rw [if_neg (nI_ge hi (by omega)), e]
          simp only [ob2, lt', nI_1])
        (fun q hI => by
          obtain ⟨m, rfl, c, t, p, f⟩ := hI
          unfold f_X6_behind_b33
          simp only
          rw [if_pos (nI_le (Nat.le_refl _) (by omega))]
          exact ⟨_, rfl, m, rfl, c, t, p, f⟩)
      have q1 : QC sp mem m2 := QC.of hs (fun a ha => by rw [f2 a (by omega), f1 a (by omega) (by omega) (by omega)])
      have hM2 := hM.up (mem' := m2) (fun a ha => by rw [f2 a (by omega), f1 a (by omega) (by omega) (by omega)])
      obtain ⟨m3, e3, t3, f3⟩ := copyNow_e hM2.2.1
      obtain ⟨r4, e4, m4, rfl, c4, t4, p4, f4⟩ := lp_invF (body := f_X7_behind_b26 (nI n) (nI z)) (fun i q => ∃ m, q = (nI i, m) ∧ MS S m ∧ MP (evI S P i) 78 m ∧ POK S (evI S P i) ∧ ∀ a, a ≠ 78 → a ≠ 79 → a ≠ 80 → a ≠ 81 → m a = m3 a) n (fun r => ∃ m, r = (nI n, m) ∧ MS S m ∧ MP (evI S P n) 78 m ∧ POK S (evI S P n) ∧ ∀ a, a ≠ 78 → a ≠ 79 → a ≠ 80 → a ≠ 81 → m a = m3 a) (by omega) (q := (0, m3)) ⟨m3, rfl, hM2.1.keep (fun a _ _ => by rw [f3 62 (by decide)]) (fun a _ _ => f3 a (by omega)), t3, hA.2.1, fun _ _ _ _ _ => rfl⟩
        (fun i q hi hI => by
          obtain ⟨m, rfl, c, t, p, f⟩ := hI
          obtain ⟨m', e, c', t', p', -, f'⟩ := trialM hO c p t mayAll
          refine Or.inl ⟨_, ?_, m', rfl, c', t', p', fun a z1 z2 z3 z4 => by rw [f' a z1 z2 z3 z4, f a z1 z2 z3 z4]⟩
          unfold f_X7_behind_b26
          simp only
          rw [if_neg (nI_ge hi (by omega)), e]
          simp only [ob2, lt', nI_1])
        (fun q hI => by
          obtain ⟨m, rfl, c, t, p, f⟩ := hI
          unfold f_X7_behind_b26
          simp only
          rw [if_pos (nI_le (Nat.le_refl _) (by omega))]
          exact ⟨_, rfl, m, rfl, c, t, p, f⟩)
      have hbl := hO.2.2.2.2.2.1 z
      refine agree_q (m1 := m2) (m2 := m4) (r := if sbl S z = 0 then nI ((evI S P n).1 z) else -4) hs hA hC hM ?_ q1 ?_ (QM.of (fun a z1 z2 z3 z4 => by rw [f4 a z1 z2 z3 z4, f3 a z1])) (fun a ha => by rw [f4 a (by omega) (by omega) (by omega) (by omega), f3 a (by omega)])
      · unfold f_X6_behind
        rw [squarec_1 hO hC.1 hz]
        simp only [ob]
        rw [if_neg (nI_pos (by omega)), if_neg (show ¬ (20 : Int32) < nI n from nI_nlt (a := 20) (by omega) (by decide)), if_neg (by decide), e1]
        simp only
        rw [e2]
        simp only
        unfold f_X6_letterIn
        rw [rd_e z rfl (by omega) (by decide) (c2.2.1 z (by omega)), rd_e z rfl (by omega) (by decide) (t2.1 z (by omega))]
        rcases (show sbl S z = 0 ∨ sbl S z = 1 by omega) with h | h
        · rw [h]; rfl
        · rw [h]; rfl
      · unfold f_X7_behind
        rw [show f_X7_in (nI n) 0 20 = some 1 from in7_l1 (m := 20) hn (by decide), square7_1 hO hM2.1 hz]
        simp only [ob]
        rw [if_neg (by decide), if_neg (by decide), e3]
        simp only
        rw [e4]
        simp only
        rw [rd_e z rfl (by omega) (by decide) (c4.2.1 z (by omega)), rd_e z rfl (by omega) (by decide) (t4.1 z (by omega))]
        rcases (show sbl S z = 0 ∨ sbl S z = 1 by omega) with h | h
        · rw [h]; rfl
        · rw [h]; rfl
    · refine agree_0 hs hA hC hM (r := -1) ?_ ?_
      · unfold f_X6_behind
        rw [squarec_0 hO hC.1 hl2]
        simp only [ob]
        rw [if_neg (nI_pos (by omega)), if_neg (show ¬ (20 : Int32) < nI n from nI_nlt (a := 20) (by omega) (by decide))]
        rfl
      · unfold f_X7_behind
        rw [show f_X7_in (nI n) 0 20 = some 1 from in7_l1 (m := 20) hn (by decide), square7_0 hO hM.1 hl2]
        rfl
  · refine agree_0 hs hA hC hM (r := -1) ?_ ?_
    · unfold f_X6_behind
      rcases hl with h | ⟨h0, h⟩
      · rw [if_pos h]
      · rw [if_neg h0, if_pos (show (20 : Int32) < l by obtain ⟨j, hj, rfl⟩ := nI_of h0; exact nI_lt (a := 20) ((nI_leI (by decide) hj).mp h) hj)]
    · unfold f_X7_behind
      rw [show f_X7_in l 0 20 = some 0 from in7_l0 (m := 20) hl (by decide)]
      rfl
theorem counts_a (hs : Two sh sp) (hA : AOK S P u k w x) (hC : CI S P u k w x sh mem) (hM : MI S P u k w x mem) : Agree sh sp (f_X6_counts sh l l2 l3) (f_X7_counts l l2 l3) mem := by
  have hs' := hs
  unfold Two at hs'
  have hO := hA.1
  have hp8 := hO.p8
  have hw9 := hO.w9
  rcases ixs l (sP S) with ⟨p, hp, rfl⟩ | hl
  · rcases ixs l2 (sW S) with ⟨v, hv, rfl⟩ | hl2
    · rcases ixs l3 2 with ⟨c, hc, rfl⟩ | hl3
      · obtain ⟨m1, e1, t1, f1⟩ := copy_e (t := 35) hC.2.1 (by decide)
        obtain ⟨m2, e2, c2, t2, p2, a2, f2⟩ := trialC (by omega) hO (hC.1.keep (mem' := m1) (fun a _ _ => f1 a (by omega) (by omega) (by omega))) hA.2.1 t1 may63
        have q1 : QC sp mem m2 := QC.of hs (fun a ha => by rw [f2 a (by omega), f1 a (by omega) (by omega) (by omega)])
        have hM2 := hM.up (mem' := m2) (fun a ha => by rw [f2 a (by omega), f1 a (by omega) (by omega) (by omega)])
        obtain ⟨m3, e3, t3, f3⟩ := copyNow_e hM2.2.1
        obtain ⟨m4, e4, c4, t4, p4, a4, f4⟩ := trialM hO (hM2.1.keep (mem' := m3) (fun a _ _ => by rw [f3 62 (by decide)]) (fun a _ _ => f3 a (by omega))) hA.2.1 t3 mayAll
        obtain ⟨b1, b2⟩ := a2 p v (by omega) (by omega)
        obtain ⟨b3, b4⟩ := a4 p v (by omega) (by omega)
        refine agree_q (m1 := m2) (m2 := m4) (r := if c = 0 then nI (totN S P (amt S P (fun _ => true)) p v) else b2i ((eveN S P (fun _ => true)).2.1 (9 * p + v))) hs hA hC hM ?_ q1 ?_ (QM.of (fun a z1 z2 z3 z4 => by rw [f4 a z1 z2 z3 z4, f3 a z1])) (fun a ha => by rw [f4 a (by omega) (by omega) (by omega) (by omega), f3 a (by omega)])
        · unfold f_X6_counts
          rw [placec_1 hO hC.1 hp, wordc_1 hO hC.1 hv]
          simp only [ob]
          rw [if_neg (by decide), if_neg (by decide), if_neg (nI_pos (by omega)), if_pos (show nI c ≤ 1 from nI_le (b := 1) (by omega) (by decide)), e1]
          simp only
          rw [e2]
          simp only [ob2]
          rw [b1, b2]
          rcases (show c = 0 ∨ c = 1 by omega) with rfl | rfl
          · rfl
          · simp only
            cases (eveN S P (fun _ => true)).2.1 (9 * p + v) <;> rfl
        · unfold f_X7_counts
          rw [place7_1 hO hM2.1 hp, word7_1 hO hM2.1 hv, show f_X7_in (nI c) 0 1 = some 1 from in7_l1 (m := 1) hc (by decide)]
          simp only [ob]
          rw [if_neg (by decide), if_neg (by decide), if_neg (by decide), e3]
          simp only
          rw [e4]
          simp only [ob2, lt']
          rw [rd_e (9 * p + v) (by rw [i_lit 9, pk_mul, nI_add]) (by omega) (by decide) b3, rd_e (9 * p + v) (by rw [i_lit 9, pk_mul, nI_add]) (by omega) (by decide) b4]
          rcases (show c = 0 ∨ c = 1 by omega) with rfl | rfl
          · rfl
          · cases (eveN S P (fun _ => true)).2.1 (9 * p + v) <;> rfl
      · refine agree_0 hs hA hC hM (r := -1) ?_ ?_
        · unfold f_X6_counts
          rw [placec_1 hO hC.1 hp, wordc_1 hO hC.1 hv]
          simp only [ob]
          rw [if_neg (by decide), if_neg (by decide)]
          rcases hl3 with h | ⟨h0, h⟩
          · rw [if_pos h]
          · rw [if_neg h0, if_neg (show ¬ l3 ≤ 1 by obtain ⟨j, hj, rfl⟩ := nI_of h0; exact nI_ge (a := 1) ((nI_leI (by decide) hj).mp h) hj)]
        · unfold f_X7_counts
          rw [place7_1 hO hM.1 hp, word7_1 hO hM.1 hv, show f_X7_in l3 0 1 = some 0 from in7_l0 (m := 1) hl3 (by decide)]
          rfl
    · refine agree_0 hs hA hC hM (r := -1) ?_ ?_
      · unfold f_X6_counts
        rw [placec_1 hO hC.1 hp, wordc_0 hO hC.1 hl2]
        rfl
      · unfold f_X7_counts
        rw [place7_1 hO hM.1 hp, word7_0 hO hM.1 hl2]
        rfl
  · refine agree_0 hs hA hC hM (r := -1) ?_ ?_
    · unfold f_X6_counts
      rw [placec_0 hO hC.1 hl]
      rfl
    · unfold f_X7_counts
      rw [place7_0 hO hM.1 hl]
      rfl
end TRI2
