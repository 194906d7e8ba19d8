/-! the calls that change what stands -/
theorem pushOK {S : Sh} {P : Pa} {c n : Nat} {U : Nat → Pa} (h : n ≤ c ∧ ∀ j, j < n → POK S (U j)) (hP : POK S P) : pushN c n ≤ c ∧ ∀ j, j < pushN c n → POK S (pushF c n U P j) := by
  unfold pushN pushF
  by_cases hc : n < c
  · rw [if_pos hc]
    refine ⟨hc, fun j hj => ?_⟩
    simp only [if_pos hc]
    by_cases he : j = n
    · rw [if_pos he]; exact hP
    · rw [if_neg he]; exact h.2 j (by omega)
  · rw [if_neg hc]
    refine ⟨Nat.le_refl _, fun j hj => ?_⟩
    simp only [if_neg hc]
    by_cases he : j + 1 = c
    · rw [if_pos he]; exact hP
    · rw [if_neg he]; exact h.2 (j + 1) (by omega)
section ACT
variable {S : Sh} {P P' : Pa} {u u' k : Nat × (Nat → Pa)} {w : Nat × (Nat → Nat) × (Nat → Bool)} {x : Nat × (Nat → Nat)} {sh sp : Nat} {mem m' : Mem} {l l2 l3 : Int32}
theorem CI.pu (hC : CI S P u k w x sh mem) (hs : Two sh sp) (hf : ∀ a, a < 32 ∨ 55 < a → m' a = mem a) (hP : CP P' 31 m') (hU : CU u'.1 u'.2 m') : CI S P' u' k w x sh m' := by
  unfold Two at hs
  exact ⟨hC.1.keep (fun a _ _ => hf a (by omega)), hP, hU, hC.2.2.2.1.keep (fun a _ _ => hf a (by omega)), hC.2.2.2.2.1.keep (by rw [hf 0 (by decide)]) (hf 60 (by decide)) (hf 61 (by decide)), hC.2.2.2.2.2.keep (by rw [hf 1 (by decide)]) (hf 2 (by decide))⟩
theorem MI.pu (hM : MI S P u k w x mem) (hf : ∀ a, a ≠ 62 → (a < 77 ∨ 82 < a) → m' a = mem a) (h62 : ∀ i, i ≠ 31 → i ≠ 32 → m' 62 i = mem 62 i) (hP : MP P' 77 m') (hU : MU u'.1 u'.2 m') : MI S P' u' k w x m' :=
  ⟨hM.1.keep (fun a _ _ => h62 a (by omega) (by omega)) (fun a _ _ => hf a (by omega) (by omega)), hP, hU, hM.2.2.2.1.keep (h62 43 (by decide) (by decide)) (hf 89 (by decide) (by decide)), hM.2.2.2.2.1.keep (h62 40 (by decide) (by decide)) (hf 87 (by decide) (by decide)) (hf 88 (by decide) (by decide)), hM.2.2.2.2.2.keep (h62 0 (by decide) (by decide)) (hf 63 (by decide) (by decide))⟩
theorem evening_a (hs : Two sh sp) (hA : AOK S P u k w x) (hC : CI S P u k w x sh mem) (hM : MI S P u k w x mem) : Agree sh sp (f_X6_evening sh) f_X7_evening mem := by
  have hs' := hs
  unfold Two at hs'
  obtain ⟨m1, e1, g1, f1⟩ := pushU_e hC.2.1 (by decide) hC.2.2.1 hA.2.2.1.1
  have hC1 := hC.1.keep (mem' := m1) (fun a _ _ => f1 a (by omega))
  have hT1 := hC.2.1.keep (mem' := m1) (fun a _ _ => f1 a (by omega))
  obtain ⟨m2, W, F, e2, g2⟩ := hold_e hA.1 hC1 hA.2.1 hT1 (by omega) (by decide) may63
  have f2 := g2.2.2.2.2.2.2
  have hM2 := hM.up (mem' := m2) (fun a ha => by rw [f2 a (by omega) (by omega) (by omega) (by omega) (by omega), f1 a (by omega)])
  obtain ⟨m3, e3, g3, f3, h3⟩ := remember_e hM2.2.1 hA.2.2.1.1 hM2.2.2.1
  have hM3 := hM2.1.keep (mem' := m3) (fun i _ _ => h3 i (by omega) (by omega)) (fun a _ _ => f3 a (by omega) (by omega))
  have hT3 := hM2.2.1.keep (mem' := m3) (f3 77 (by decide) (by decide))
  obtain ⟨m4, e4, g4⟩ := passes_e hA.1 hA.2.1 (Or.inl rfl) hM3 hT3 mayAll
  have f4 := g4.2.2.2.2.2
  refine agree_of (P' := ((eveN S P (fun _ => true)).1, P.2.1, P.2.2)) (u' := (pushN 8 u.1, pushF 8 u.1 u.2 P)) (r := nI (eveN S P (fun _ => true)).2.2) (m1 := m2) (m2 := m4) hs ?_ ?_ ⟨hA.1, g2.2.2.1, pushOK hA.2.2.1 hA.2.1, hA.2.2.2⟩ (hC.pu hs (fun a ha => by rw [f2 a (by omega) (by omega) (by omega) (by omega) (by omega), f1 a (by omega)]) g2.2.1 (g1.keep (fun a _ _ => f2 a (by omega) (by omega) (by omega) (by omega) (by omega)))) (fun a ha => by rw [f4 a (by omega) (by omega) (by omega) (by omega), f3 a (by omega) (by omega)]) (hM2.pu (fun a z1 z2 => by rw [f4 a (by omega) (by omega) (by omega) (by omega), f3 a (by omega) (by omega)]) (fun i z1 z2 => by rw [f4 62 (by decide) (by decide) (by decide) (by decide), h3 i z1 z2]) g4.2.1 (g3.keep (by rw [f4 62 (by decide) (by decide) (by decide) (by decide)]) (by rw [f4 62 (by decide) (by decide) (by decide) (by decide)]) (f4 82 (by decide) (by decide) (by decide) (by decide))))
  · unfold f_X6_evening
    rw [e1]
    simp only [ob]
    rw [e2]
    rfl
  · unfold f_X7_evening
    rw [e3]
    simp only [ob]
    rw [e4]
    rfl
theorem cnt_two (f : Nat → Bool) (n : Nat) : cnt (fun i => !f i) n + cnt f n = n := by
  induction n with
  | zero => rfl
  | succ n ih =>
    rw [cnt, cnt]
    cases f n <;> simp <;> omega
theorem emp_full (S : Sh) (L : Nat → Nat) (p : Nat) : cnt (fun i => L (ssq S p i) != 0) (spl S p) + empN S L p = spl S p := by
  have h := cnt_two (fun i => L (ssq S p i) == 0) (spl S p)
  unfold empN
  exact h
/-- writing v along the place p, here and there -/
theorem putC {S : Sh} {P : Pa} {p t : Nat} {mem : Mem} {v : Nat → Nat} (hT : CP P t mem) : CP (wrN P.1 (ssq S p) v (spl S p), P.2.1, P.2.2) t (wrK mem (t + 1) (ssq S p) v (spl S p)) := by
  refine ⟨fun x hx => wrK_at (hT.1 x hx) _, fun i hi => ?_⟩
  rw [wrK_ne (by omega), wrK_ne (by omega)]
  exact hT.2 i hi
theorem putM {S : Sh} (hO : SOK S) {P : Pa} {p o : Nat} (hp : p < sP S) {mem : Mem} {v : Nat → Nat} (hT : MP P o mem) : MP (wrN P.1 (ssq S p) v (spl S p), P.2.1, P.2.2) o (wrK mem o (ssq S p) v (spl S p)) := by
  refine ⟨fun x hx => wrK_at (hT.1 x hx) _, fun i hi => ?_⟩
  rw [wrK_out _ (fun k' hk' => by have := hO.sq hp hk'; omega), wrK_out _ (fun k' hk' => by have := hO.sq hp hk'; omega)]
  exact hT.2 i hi
theorem set_a (hs : Two sh sp) (hA : AOK S P u k w x) (hC : CI S P u k w x sh mem) (hM : MI S P u k w x mem) : Agree sh sp (f_X6_set sh l l2) (f_X7_set l l2) mem := by
  have hs' := hs
  unfold Two at hs'
  have hO := hA.1
  have hp8 := hO.p8
  have hw9 := hO.w9
  rcases ixs l (sP S) with ⟨p, hp, rfl⟩ | hl
  · rcases ixs l2 (sW S) with ⟨v, hv, rfl⟩ | hl
    · cases hf : fitB S P.1 p v with
      | false =>
        refine agree_0 hs hA hC hM (r := -2) ?_ ?_
        · unfold f_X6_set
          rw [placec_1 hO hC.1 hp, wordc_1 hO hC.1 hv, fits_e hO hC.1 hC.2.1.1 hA.2.1.1 (by omega) hv, hf, Bool.and_false]
          rfl
        · unfold f_X7_set
          rw [place7_1 hO hM.1 hp, word7_1 hO hM.1 hv, isFit_e hO hM.1 hM.2.1.1 hA.2.1.1 hp hv, hf]
          rfl
      | true =>
        have hpl := hO.pl hp
        have hef := emp_full S P.1 p
        obtain ⟨m1, e1, g1, f1⟩ := pushU_e hC.2.1 (by decide) hC.2.2.1 hA.2.2.1.1
        have hC1 := hC.1.keep (mem' := m1) (fun a _ _ => f1 a (by omega))
        have hT1 := hC.2.1.keep (mem' := m1) (fun a _ _ => f1 a (by omega))
        have e2 := put_e (t := 31) hO hC1 ⟨by omega, by omega⟩ (Nat.lt_trans (scd_lt hO hv) (by decide)) (fun j hj => scd_dig hO hv hj) hp
        have g2 := putC (S := S) (p := p) (v := swd S v) hT1
        generalize hm2 : wrK m1 (31 + 1) (ssq S p) (swd S v) (spl S p) = m2 at e2 g2
        have f2 : ∀ a, a ≠ 32 → m2 a = m1 a := fun a h => by rw [← hm2, wrK_ne h]
        have hM2 := hM.up (mem' := m2) (fun a ha => by rw [f2 a (by omega), f1 a (by omega)])
        obtain ⟨m3, e3, g3, f3, h3⟩ := remember_e hM2.2.1 hA.2.2.1.1 hM2.2.2.1
        have hM3 := hM2.1.keep (mem' := m3) (fun i _ _ => h3 i (by omega) (by omega)) (fun a _ _ => f3 a (by omega) (by omega))
        have hT3 := hM2.2.1.keep (mem' := m3) (f3 77 (by decide) (by decide))
        have e4 := prints_e hO hM3 (Or.inl rfl) hp hv
        have g4 := putM hO hp (v := swd S v) hT3
        generalize hm4 : wrK m3 77 (ssq S p) (swd S v) (spl S p) = m4 at e4 g4
        have f4 : ∀ a, a ≠ 77 → m4 a = m3 a := fun a h => by rw [← hm4, wrK_ne h]
        refine agree_of (P' := (wrN P.1 (ssq S p) (swd S v) (spl S p), P.2.1, P.2.2)) (u' := (pushN 8 u.1, pushF 8 u.1 u.2 P)) (r := nI (empN S P.1 p)) (m1 := m2) (m2 := m4) hs ?_ ?_ ⟨hO, hA.2.1.wr hO hp (fun j _ => hO.wd6 hv j), pushOK hA.2.2.1 hA.2.1, hA.2.2.2⟩ (hC.pu hs (fun a ha => by rw [f2 a (by omega), f1 a (by omega)]) g2 (g1.keep (fun a _ _ => f2 a (by omega)))) (fun a ha => by rw [f4 a (by omega), f3 a (by omega) (by omega)]) (hM2.pu (fun a z1 z2 => by rw [f4 a (by omega), f3 a (by omega) (by omega)]) (fun i z1 z2 => by rw [f4 62 (by decide), h3 i z1 z2]) g4 (g3.keep (by rw [f4 62 (by decide)]) (by rw [f4 62 (by decide)]) (f4 82 (by decide))))
        · unfold f_X6_set
          rw [placec_1 hO hC.1 hp, wordc_1 hO hC.1 hv, fits_e hO hC.1 hC.2.1.1 hA.2.1.1 (by omega) hv, hf, decide_eq_true hp]
          simp only [ob, lt', Bool.and_self]
          rw [if_neg (by decide), if_neg (by decide), if_neg (by decide), rd_e p rfl (by omega) (by decide) (hC.1.2.2.1 p hp).1, lettersIn_e hO hC.1 hC.2.1.1 hA.2.1.1 hp, e1]
          simp only
          rw [rd_e v rfl (by omega) (by decide) (hC1.2.2.2.1 v hv).2, e2, i_sub (by omega), show spl S p - cnt (fun i => P.1 (ssq S p i) != 0) (spl S p) = empN S P.1 p by omega]
        · unfold f_X7_set
          rw [place7_1 hO hM2.1 hp, word7_1 hO hM2.1 hv, isFit_e hO hM2.1 hM2.2.1.1 hA.2.1.1 hp hv, hf]
          simp only [ob]
          rw [if_neg (by decide), if_neg (by decide), if_neg (by decide), e3]
          simp only
          rw [empties_e hO hM3 hT3.1 hA.2.1.1 hp]
          simp only
          rw [e4]
    · refine agree_0 hs hA hC hM (r := -1) ?_ ?_
      · unfold f_X6_set
        rw [placec_1 hO hC.1 hp, wordc_0 hO hC.1 hl]
        rfl
      · unfold f_X7_set
        rw [place7_1 hO hM.1 hp, word7_0 hO hM.1 hl]
        rfl
  · refine agree_0 hs hA hC hM (r := -1) ?_ ?_
    · unfold f_X6_set
      rw [placec_0 hO hC.1 hl]
      rfl
    · unfold f_X7_set
      rw [place7_0 hO hM.1 hl]
      rfl
theorem strike_a (hs : Two sh sp) (hA : AOK S P u k w x) (hC : CI S P u k w x sh mem) (hM : MI S P u k w x mem) : Agree sh sp (f_X6_strike sh l) (f_X7_strike l) mem := by
  have hs' := hs
  unfold Two at hs'
  have hO := hA.1
  have hp8 := hO.p8
  rcases ixs l (sP S) with ⟨p, hp, rfl⟩ | hl
  · have hpl := hO.pl hp
    have hef := emp_full S P.1 p
    by_cases hz : cnt (fun i => P.1 (ssq S p i) != 0) (spl S p) = 0
    · refine agree_0 hs hA hC hM (r := -2) ?_ ?_
      · unfold f_X6_strike
        rw [placec_1 hO hC.1 hp, lettersIn_e hO hC.1 hC.2.1.1 hA.2.1.1 hp, hz]
        rfl
      · unfold f_X7_strike
        rw [place7_1 hO hM.1 hp, rd_e p rfl (by omega) (by decide) (hM.1.2.2.1 p hp).2.1, empties_e hO hM.1 hM.2.1.1 hA.2.1.1 hp]
        simp only [ob, lt']
        rw [if_neg (by decide), i_sub (by omega), show spl S p - empN S P.1 p = 0 by omega]
        rfl
    · obtain ⟨m1, e1, g1, f1⟩ := pushU_e hC.2.1 (by decide) hC.2.2.1 hA.2.2.1.1
      have hC1 := hC.1.keep (mem' := m1) (fun a _ _ => f1 a (by omega))
      have hT1 := hC.2.1.keep (mem' := m1) (fun a _ _ => f1 a (by omega))
      have e2 := put_e (t := 31) (c := 0) (v := fun _ => 0) hO hC1 ⟨by omega, by omega⟩ (by decide) (fun j hj => by simp) hp
      have g2 := putC (S := S) (p := p) (v := fun _ => 0) hT1
      generalize hm2 : wrK m1 (31 + 1) (ssq S p) (fun _ => 0) (spl S p) = m2 at e2 g2
      have f2 : ∀ a, a ≠ 32 → m2 a = m1 a := fun a h => by rw [← hm2, wrK_ne h]
      have hM2 := hM.up (mem' := m2) (fun a ha => by rw [f2 a (by omega), f1 a (by omega)])
      obtain ⟨m3, e3, g3, f3, h3⟩ := remember_e hM2.2.1 hA.2.2.1.1 hM2.2.2.1
      have hM3 := hM2.1.keep (mem' := m3) (fun i _ _ => h3 i (by omega) (by omega)) (fun a _ _ => f3 a (by omega) (by omega))
      have hT3 := hM2.2.1.keep (mem' := m3) (f3 77 (by decide) (by decide))
      have e4 := strikes_e hO hM3 (Or.inl rfl) hp
      have g4 := putM hO hp (v := fun _ => 0) hT3
      generalize hm4 : wrK m3 77 (ssq S p) (fun _ => 0) (spl S p) = m4 at e4 g4
      have f4 : ∀ a, a ≠ 77 → m4 a = m3 a := fun a h => by rw [← hm4, wrK_ne h]
      refine agree_of (P' := (wrN P.1 (ssq S p) (fun _ => 0) (spl S p), P.2.1, P.2.2)) (u' := (pushN 8 u.1, pushF 8 u.1 u.2 P)) (r := nI (cnt (fun i => P.1 (ssq S p i) != 0) (spl S p))) (m1 := m2) (m2 := m4) hs ?_ ?_ ⟨hO, hA.2.1.wr hO hp (fun j _ => Nat.zero_le _), pushOK hA.2.2.1 hA.2.1, hA.2.2.2⟩ (hC.pu hs (fun a ha => by rw [f2 a (by omega), f1 a (by omega)]) g2 (g1.keep (fun a _ _ => f2 a (by omega)))) (fun a ha => by rw [f4 a (by omega), f3 a (by omega) (by omega)]) (hM2.pu (fun a z1 z2 => by rw [f4 a (by omega), f3 a (by omega) (by omega)]) (fun i z1 z2 => by rw [f4 62 (by decide), h3 i z1 z2]) g4 (g3.keep (by rw [f4 62 (by decide)]) (by rw [f4 62 (by decide)]) (f4 82 (by decide))))
      · unfold f_X6_strike
        rw [placec_1 hO hC.1 hp, lettersIn_e hO hC.1 hC.2.1.1 hA.2.1.1 hp]
        simp only [ob]
        rw [if_neg (by decide), if_neg (nI_ne0 (by omega) (by omega)), e1]
        simp only
        rw [show f_X5_put sh 31 (nI p) 0 m1 = some m2 from e2]
      · unfold f_X7_strike
        rw [place7_1 hO hM2.1 hp, rd_e p rfl (by omega) (by decide) (hM2.1.2.2.1 p hp).2.1, empties_e hO hM2.1 hM2.2.1.1 hA.2.1.1 hp]
        simp only [ob, lt']
        rw [if_neg (by decide), i_sub (by omega), show spl S p - empN S P.1 p = cnt (fun i => P.1 (ssq S p i) != 0) (spl S p) by omega, if_neg (nI_ne0 (by omega) (by omega)), e3]
        simp only
        rw [e4]
  · refine agree_0 hs hA hC hM (r := -1) ?_ ?_
    · unfold f_X6_strike
      rw [placec_0 hO hC.1 hl]
      rfl
    · unfold f_X7_strike
      rw [place7_0 hO hM.1 hl]
      rfl
end ACT
