/-! the chance of a word -/
def sndM (S : Sh) (P : Pa) : Nat := bm (sendB S P) (sN S)
def chB (S : Sh) (P : Pa) (p v s : Nat) : Bool := (eveN S P (bitB s)).2.1 (9 * p + v)
/-- all that is weighed below s -/
def wgt (S : Sh) (P : Pa) (p v c : Nat) : Nat → Nat
  | 0 => 0
  | s + 1 => wgt S P p v c s + (if inB (sndM S P) s && chB S P p v s then prdN (sndM S P) s c (10 - c) (sN S) else 0)
theorem bmbit (f : Nat → Bool) {n i : Nat} (hn : n ≤ 6) (hi : i < 6) : bitB (bm f n) i = (decide (i < n) && f i) := by
  have h1 := bm_bit f n i
  rw [Nat.testBit_eq_decide_div_mod_eq] at h1
  rw [← h1]
  unfold bitB
  rw [Bool.eq_iff_iff, beq_iff_eq, decide_eq_true_iff]
section CHN
variable {S : Sh} {P : Pa} {sh : Nat} {mem : Mem} {s p v c : Nat}
theorem snd_lt (hO : SOK S) : sndM S P < 64 := Nat.lt_of_lt_of_le (bm_lt _ _) (two_le hO.n6)
theorem cnt6 (hO : SOK S) {g : Nat → Bool} : cnt (fun i => bitB (sndM S P) i && g i) 6 = cnt (fun i => bitB (sndM S P) i && g i) (sN S) := by
  have hn := hO.n6
  have h := cnt_ext (f := fun i => bitB (sndM S P) i && g i) (n := sN S) (6 - sN S) (fun i h1 h2 => by
    unfold sndM
    rw [bmbit _ hn (by omega), decide_eq_false (by omega)]
    rfl)
  rw [show sN S + (6 - sN S) = 6 by omega] at h
  exact h
theorem wgt_le (hO : SOK S) (hc : c ≤ 10) : ∀ s, wgt S P p v c s ≤ s * 1000000 := by
  have hn := hO.n6
  intro s
  induction s with
  | zero => exact Nat.le_refl _
  | succ s ih =>
    have h1 := prd_le (sndM S P) s c (10 - c) (sN S) hc (by omega)
    have h2 : 10 ^ sN S ≤ 10 ^ 6 := Nat.pow_le_pow_right (by decide) hn
    have h3 : prdN (sndM S P) s c (10 - c) (sN S) ≤ 1000000 := Nat.le_trans h1 (Nat.le_trans h2 (by decide))
    rw [wgt, Nat.succ_mul]
    refine Nat.add_le_add ih ?_
    split
    · exact h3
    · exact Nat.zero_le _
theorem bySending_e (hs : sh + 9 < 31) (hO : SOK S) (hC : CS S sh mem) (hP : POK S P) (hT : CP P 31 mem) (hs64 : s < 64) (hp : p < sP S) (hv : v < sW S) : ∃ m', f_X6_isPrintedBySending sh (nI s) (nI p) (nI v) mem = some (b2i (chB S P p v s), m') ∧ ∀ a, a < 36 ∨ 43 < a → m' a = mem a := by
  have hp8 := hO.p8
  have hw9 := hO.w9
  obtain ⟨m1, e1, t1, f1⟩ := copy_e (t := 35) hT (by decide)
  obtain ⟨m3, e3, c3, t3, p3, a3, f3⟩ := trialC (l := nI s) (may := bitB s) (by omega) hO (hC.keep (mem' := m1) (fun a _ _ => f1 a (by omega) (by omega) (by omega))) hP t1 (fun i hi => bit_e (by omega) (by omega))
  refine ⟨m3, ?_, fun a ha => by rw [f3 a ha, f1 a (by omega) (by omega) (by omega)]⟩
  unfold f_X6_isPrintedBySending
  rw [e1]
  simp only [ob]
  rw [e3]
  simp only [ob2]
  rw [(a3 p v (by omega) (by omega)).2]
  simp only
  rw [bk_b]
  rfl
theorem senders_e (hO : SOK S) (hP : POK S P) (hC : CS S sh mem) (hA : ∀ j, j < sN S → mem 40 j = nI (amt S P (fun _ => true) j)) : f_X3_senders sh mem = some (nI (sndM S P)) := by
  have hn := hO.n6
  unfold f_X3_senders sndM
  rw [show ((0 : Int32), (0 : Int32)) = (fun i => (nI (bm (sendB S P) i), nI i)) 0 from rfl, lp_FU (fun i => (nI (bm (sendB S P) i), nI i)) (sN S) (r := (nI (bm (sendB S P) (sN S)), nI (sN S))) (by omega)]
  · rfl
  · intro i hi
    have hle := amt_le hO hP (may := fun _ => true) (show i < 6 by omega)
    unfold f_X3_senders_b4
    rw [hC.1.2.2.2.2, if_neg (nI_ge hi (by omega)), rd_e i rfl (by omega) (by decide) (hA i hi)]
    simp only [lt', nI_1, bm]
    by_cases hb : sendB S P i = true
    · have hpos := (amt_pos (S := S) (P := P) (may := fun _ => true) (i := i)).mpr (show ((fun _ => true) i && sendB S P i) = true by rw [hb]; rfl)
      rw [if_neg (nI_nle hpos (by omega)), if_pos hb, i_orb (by omega)]
    · have hz : amt S P (fun _ => true) i = 0 := by
        have := mt (amt_pos (S := S) (P := P) (may := fun _ => true) (i := i)).mp (show ¬ ((fun _ => true) i && sendB S P i) = true by simpa using hb)
        omega
      rw [hz, if_pos (by decide), if_neg hb]
      rfl
  · unfold f_X3_senders_b4
    rw [hC.1.2.2.2.2, if_pos (nI_le (Nat.le_refl _) (by omega))]
theorem ch47_e (hO : SOK S) (hM : MS S mem) (hP : POK S P) (hT : MP P 77 mem) {l1 l2 l3 l4 : Int32} : lp (f_X7_chance_b47 l1 l2 l3 l4 mem) FU (0, 1, 0) = some (nI (sndM S P), lN (10 ^ cnt (sendB S P) (sN S)), nI (sN S)) := by
  have hn := hO.n6
  unfold sndM
  rw [show ((0 : Int32), (1 : Int64), (0 : Int32)) = (fun i => (nI (bm (sendB S P) i), lN (10 ^ cnt (sendB S P) i), nI i)) 0 from rfl]
  refine lp_FU (fun i => (nI (bm (sendB S P) i), lN (10 ^ cnt (sendB S P) i), nI i)) (sN S) (by omega) ?_ ?_
  · intro i hi
    unfold f_X7_chance_b47
    simp only
    rw [hM.1.2.2.2.2, if_neg (nI_ge hi (by omega)), isSending_e hO hM hP hT hi]
    simp only [ob, lt', nI_1, bm, cnt]
    by_cases hb : sendB S P i = true
    · rw [if_pos hb, if_pos hb, hb, if_neg (show ¬ b2i true = 0 by decide), i_orb (by omega), l_lit 10, lN_mul, Nat.pow_succ]
    · rw [if_neg hb, if_neg hb, if_pos (show b2i (sendB S P i) = 0 by rw [Bool.not_eq_true] at hb; rw [hb]; rfl)]
      rfl
  · unfold f_X7_chance_b47
    simp only
    rw [hM.1.2.2.2.2, if_pos (nI_le (Nat.le_refl _) (by omega))]
theorem ch125_e (hO : SOK S) (hM : MS S mem) {l1 l2 l4 : Int32} {l6 l8 : Int64} {M : Nat} (hM64 : M < 64) (hs64 : s < 64) (hc : c ≤ 10) : lp (f_X7_chance_b125 l1 l2 (nI c) l4 (nI M) l6 l8 (nI s) mem) FU (1, 0) = some (lN (prdN M s c (10 - c) (sN S)), nI (sN S)) := by
  have hn := hO.n6
  rw [show ((1 : Int64), (0 : Int32)) = (fun i => (lN (prdN M s c (10 - c) i), nI i)) 0 from rfl]
  refine lp_FU (fun i => (lN (prdN M s c (10 - c) i), nI i)) (sN S) (by omega) ?_ ?_
  · intro i hi
    unfold f_X7_chance_b125
    simp only
    rw [hM.1.2.2.2.2, if_neg (nI_ge hi (by omega)), has_e (bit_e (s := M) (i := i) (by omega) (by omega)), has_e (bit_e (s := s) (i := i) (by omega) (by omega))]
    simp only [ob, lt', nI_1, prdN]
    have e10 : (10 : Int32) - nI c = nI (10 - c) := by rw [i_lit 10]; exact i_sub hc
    rw [e10, nI_l (by omega), nI_l (by omega), l_lit 1, lN_mul, lN_mul, lN_mul]
    cases bitB M i with
    | false => rfl
    | true =>
      rw [if_neg (by decide)]
      cases bitB s i with
      | false => rfl
      | true => rfl
  · unfold f_X7_chance_b125
    simp only
    rw [hM.1.2.2.2.2, if_pos (nI_le (Nat.le_refl _) (by omega))]
end CHN
section CHN2
variable {S : Sh} {P : Pa} {u k : Nat × (Nat → Pa)} {w : Nat × (Nat → Nat) × (Nat → Bool)} {x : Nat × (Nat → Nat)} {sh sp : Nat} {mem : Mem} {l l2 l3 l4 : Int32}
theorem chance_a (hs : Two sh sp) (hA : AOK S P u k w x) (hC : CI S P u k w x sh mem) (hM : MI S P u k w x mem) : Agree sh sp (f_X6_chance sh l l2 l3 l4) (f_X7_chance l l2 l3 l4) mem := by
  have hs' := hs
  unfold Two at hs'
  have hO := hA.1
  have hp8 := hO.p8
  have hw9 := hO.w9
  have hn := hO.n6
  have h64 := two_le hn
  have hM64 := snd_lt (P := P) hO
  rcases ixs l (sP S) with ⟨p, hp, rfl⟩ | hl
  · rcases ixs l2 (sW S) with ⟨v, hv, rfl⟩ | hl2
    · rcases ixs l3 11 with ⟨c, hc, rfl⟩ | hl3
      · have i3 : f_X7_in (nI c) 0 10 = some 1 := in7_l1 (m := 10) hc (by decide)
        rcases ixs l4 2 with ⟨d, hd, rfl⟩ | hl4
        · have i4 : f_X7_in (nI d) 0 1 = some 1 := in7_l1 (m := 1) hd (by decide)
          -- the class
          have e1 := send_e hO hC.1 hA.2.1 hC.2.1 (by omega) (Or.inl (by decide)) may63
          generalize hm1 : wrK mem 40 (fun k => k) (amt S P (fun _ => true)) (sN S) = m1 at e1
          have f1 : ∀ a, a ≠ 40 → m1 a = mem a := fun a h => by rw [← hm1, wrK_ne h]
          have hA1 : ∀ j, j < sN S → m1 40 j = nI (amt S P (fun _ => true) j) := fun j hj => by rw [← hm1]; exact wrK_id _ hj
          have hC1 := hC.1.keep (mem' := m1) (fun a _ _ => f1 a (by omega))
          obtain ⟨r2, e2, m2, z2, rfl, f2⟩ := lp_invF (body := f_X6_chance_b75 sh (nI p) (nI v) (nI c) (nI d) (nI (sndM S P))) (fun s q => ∃ m, q = (nI (wgt S P p v c s), nI s, m) ∧ ∀ a, a < 36 ∨ 43 < a → m a = m1 a) (2 ^ sN S) (fun r => ∃ m z, r = (nI (wgt S P p v c (2 ^ sN S)), z, m) ∧ ∀ a, a < 36 ∨ 43 < a → m a = m1 a) (by omega) (q := (0, 0, m1)) ⟨m1, rfl, fun _ _ => rfl⟩
            (fun s q hi hI => by
              obtain ⟨m, rfl, f⟩ := hI
              have hC' := hC1.keep (mem' := m) (fun a _ _ => f a (by omega))
              have hT' := hC.2.1.keep (mem' := m) (fun a _ _ => by rw [f a (by omega), f1 a (by omega)])
              refine Or.inl ?_
              unfold f_X6_chance_b75
              simp only
              rw [hC'.1.2.2.2.2, i_shl1 _ (by omega), if_neg (nI_ge hi (by omega))]
              have step : wgt S P p v c (s + 1) = wgt S P p v c s + (if inB (sndM S P) s && chB S P p v s then prdN (sndM S P) s c (10 - c) (sN S) else 0) := rfl
              cases hin : inB (sndM S P) s with
              | false =>
                have hno : ¬ (nI s &&& (nI (sndM S P) ^^^ (-1))) = 0 := of_decide_eq_false hin
                rw [hin] at step
                rw [if_neg hno, step]
                simp only [lt', nI_1]
                exact ⟨_, rfl, m, rfl, f⟩
              | true =>
                have hyes : (nI s &&& (nI (sndM S P) ^^^ (-1))) = 0 := of_decide_eq_true hin
                obtain ⟨b1, b2⟩ := in_pop _ hM64 s (by omega) hin
                obtain ⟨m', e', f'⟩ := bySending_e (by omega) hO hC' hA.2.1 hT' (show s < 64 by omega) hp hv
                rw [if_pos hyes, e']
                simp only [ob2]
                rw [hin, Bool.true_and] at step
                by_cases hch : chB S P p v s = true
                · rw [hch, if_neg (show ¬ b2i true = 0 by decide), b1]
                  simp only [ob]
                  rw [power_e c _ (Nat.lt_of_le_of_lt (cnt_le _ _) (by decide)), b2]
                  simp only
                  rw [show (10 : Int32) - nI c = nI (10 - c) by rw [i_lit 10]; exact i_sub (by omega), power_e (10 - c) _ (Nat.lt_of_le_of_lt (cnt_le _ _) (by decide))]
                  simp only [lt', nI_1]
                  rw [if_pos hch, prd_e, ← cnt6 hO, ← cnt6 hO] at step
                  rw [pk_mul, nI_add, ← step]
                  exact ⟨_, rfl, m', rfl, fun a ha => by rw [f' a ha, f a ha]⟩
                · rw [if_neg hch, Nat.add_zero] at step
                  rw [if_pos (show b2i (chB S P p v s) = 0 by rw [Bool.not_eq_true] at hch; rw [hch]; rfl), step]
                  simp only [lt', nI_1]
                  exact ⟨_, rfl, m', rfl, fun a ha => by rw [f' a ha, f a ha]⟩)
            (fun q hI => by
              obtain ⟨m, rfl, f⟩ := hI
              have hC' := hC1.keep (mem' := m) (fun a _ _ => f a (by omega))
              unfold f_X6_chance_b75
              simp only
              rw [hC'.1.2.2.2.2, i_shl1 _ (by omega), if_pos (nI_le (Nat.le_refl _) (by omega))]
              exact ⟨_, rfl, m, _, rfl, f⟩)
          have g2 : ∀ a, a < 36 ∨ 43 < a → m2 a = mem a := fun a ha => by rw [f2 a ha, f1 a (by omega)]
          have hM2 := hM.up (mem' := m2) (fun a ha => g2 a (by omega))
          -- the reference
          have e3 := ch47_e (l1 := nI p) (l2 := nI v) (l3 := nI c) (l4 := nI d) hO hM2.1 hA.2.1 hM2.2.1
          obtain ⟨r4, e4, m4, z4, rfl, f4⟩ := lp_invF (body := f_X7_chance_b98 (nI p) (nI v) (nI c) (nI d) (nI (sndM S P)) (lN (10 ^ cnt (sendB S P) (sN S)))) (fun s q => ∃ m, q = (lN (wgt S P p v c s), nI s, m) ∧ ∀ a, a ≠ 78 → a ≠ 79 → a ≠ 80 → a ≠ 81 → m a = m2 a) (2 ^ sN S) (fun r => ∃ m z, r = (lN (wgt S P p v c (2 ^ sN S)), z, m) ∧ ∀ a, a ≠ 78 → a ≠ 79 → a ≠ 80 → a ≠ 81 → m a = m2 a) (by omega) (q := (0, 0, m2)) ⟨m2, rfl, fun _ _ _ _ _ => rfl⟩
            (fun s q hi hI => by
              obtain ⟨m, rfl, f⟩ := hI
              have hM' := hM2.1.keep (mem' := m) (fun a _ _ => by rw [f 62 (by decide) (by decide) (by decide) (by decide)]) (fun a _ _ => f a (by omega) (by omega) (by omega) (by omega))
              have hT' := hM2.2.1.keep (mem' := m) (f 77 (by decide) (by decide) (by decide) (by decide))
              refine Or.inl ?_
              unfold f_X7_chance_b98
              simp only
              rw [hM'.1.2.2.2.2, i_shl1 _ (by omega), if_neg (nI_ge hi (by omega))]
              have step : wgt S P p v c (s + 1) = wgt S P p v c s + (if inB (sndM S P) s && chB S P p v s then prdN (sndM S P) s c (10 - c) (sN S) else 0) := rfl
              cases hin : inB (sndM S P) s with
              | false =>
                have hno : ¬ (nI s &&& (nI (sndM S P) ^^^ (-1))) = 0 := of_decide_eq_false hin
                rw [hin] at step
                rw [if_neg hno, step]
                simp only [lt', nI_1]
                exact ⟨_, rfl, m, rfl, f⟩
              | true =>
                have hyes : (nI s &&& (nI (sndM S P) ^^^ (-1))) = 0 := of_decide_eq_true hin
                obtain ⟨m5, e5, t5, f5⟩ := copyNow_e hT'
                obtain ⟨m6, e6, c6, t6, p6, a6, f6⟩ := trialM (l := nI s) (may := bitB s) hO (hM'.keep (mem' := m5) (fun a _ _ => by rw [f5 62 (by decide)]) (fun a _ _ => f5 a (by omega))) hA.2.1 t5 (fun i hi => bit_e (by omega) (by omega))
                have fr : ∀ a, a ≠ 78 → a ≠ 79 → a ≠ 80 → a ≠ 81 → m6 a = m2 a := fun a z1 z2 z3 z4 => by rw [f6 a z1 z2 z3 z4, f5 a z1, f a z1 z2 z3 z4]
                rw [if_pos hyes, ch125_e hO hM' hM64 (show s < 64 by omega) (show c ≤ 10 by omega)]
                simp only [ob]
                rw [e5]
                simp only
                rw [e6]
                simp only [ob2]
                rw [rd_e (9 * p + v) (by rw [i_lit 9, pk_mul, nI_add]) (by omega) (by decide) (a6 p v (by omega) (by omega)).2, show (eveN S P (bitB s)).2.1 (9 * p + v) = chB S P p v s from rfl]
                rw [hin, Bool.true_and] at step
                by_cases hch : chB S P p v s = true
                · rw [hch, if_neg (show ¬ b2i true = 0 by decide)]
                  rw [if_pos hch] at step
                  simp only [lt', nI_1]
                  rw [lN_add, ← step]
                  exact ⟨_, rfl, m6, rfl, fr⟩
                · rw [if_neg hch] at step
                  rw [if_pos (show b2i (chB S P p v s) = 0 by rw [Bool.not_eq_true] at hch; rw [hch]; rfl)]
                  simp only [lt', nI_1]
                  rw [l_lit 0, lN_add, ← step]
                  exact ⟨_, rfl, m6, rfl, fr⟩)
            (fun q hI => by
              obtain ⟨m, rfl, f⟩ := hI
              have hM' := hM2.1.keep (mem' := m) (fun a _ _ => by rw [f 62 (by decide) (by decide) (by decide) (by decide)]) (fun a _ _ => f a (by omega) (by omega) (by omega) (by omega))
              unfold f_X7_chance_b98
              simp only
              rw [hM'.1.2.2.2.2, i_shl1 _ (by omega), if_pos (nI_le (Nat.le_refl _) (by omega))]
              exact ⟨_, rfl, m, _, rfl, f⟩)
          -- the numbers
          have hA0 : wgt S P p v c (2 ^ sN S) < 2 ^ 31 := by
            have h1 := wgt_le (P := P) (p := p) (v := v) hO (show c ≤ 10 by omega) (2 ^ sN S)
            have h2 : 2 ^ sN S * 1000000 ≤ 64 * 1000000 := Nat.mul_le_mul_right _ h64
            exact Nat.lt_of_le_of_lt (Nat.le_trans h1 h2) (by decide)
          have hcn : cnt (sendB S P) (sN S) ≤ 6 := Nat.le_trans (cnt_le _ _) hn
          have hB0 : 10 ^ cnt (sendB S P) (sN S) ≤ 1000000 := Nat.le_trans (Nat.pow_le_pow_right (by decide) hcn) (by decide)
          have hB1 : 0 < 10 ^ cnt (sendB S P) (sN S) := Nat.pow_pos (by decide)
          have hpopM : f_J6_bitCount_0f7a4 (nI (sndM S P)) = some (nI (cnt (sendB S P) (sN S))) := by
            rw [bitCount_e _ hM64]
            congr 2
            have h := cnt6 (P := P) hO (g := fun _ => true)
            unfold popN
            rw [cnt_congr (g := fun i => bitB (sndM S P) i && true) (fun i _ => by rw [Bool.and_true]), h]
            refine cnt_congr (fun i hi => ?_)
            unfold sndM
            rw [bmbit _ hn (by omega), decide_eq_true hi, Bool.true_and, Bool.and_true]
          generalize hWA : wgt S P p v c (2 ^ sN S) = A at *
          generalize hWB : 10 ^ cnt (sendB S P) (sN S) = B at *
          have hG0 : 0 < Nat.gcd A B := Nat.gcd_pos_of_pos_right _ hB1
          have hG1 : Nat.gcd A B ≤ B := Nat.gcd_le_right _ hB1
          refine agree_q (m1 := m2) (m2 := m4) (r := if d = 0 then nI (A / Nat.gcd A B) else nI (B / Nat.gcd A B)) hs hA hC hM ?_ (QC.of hs (fun a ha => g2 a (by omega))) ?_ (QM.of f4) (fun a ha => f4 a (by omega) (by omega) (by omega) (by omega))
          · unfold f_X6_chance
            rw [placec_1 hO hC.1 hp, wordc_1 hO hC.1 hv]
            simp only [ob]
            rw [if_neg (by decide), if_neg (by decide), if_neg (nI_pos (by omega)), if_neg (show ¬ (10 : Int32) < nI c from nI_nlt (a := 10) (by omega) (by decide)), if_neg (nI_pos (by omega)), if_pos (show nI d ≤ 1 from nI_le (b := 1) (by omega) (by decide)), e1]
            simp only
            rw [senders_e hO hA.2.1 hC1 hA1]
            simp only
            rw [e2]
            simp only
            rw [hpopM]
            simp only
            rw [show f_X6_power 10 (nI (cnt (sendB S P) (sN S))) = some (nI (10 ^ cnt (sendB S P) (sN S))) from power_e 10 _ (by omega), hWB]
            simp only
            rw [gcdC_e hA0 (by omega)]
            simp only [dk, lt']
            rw [if_neg (nI_ne0 hG0 (by omega)), if_neg (nI_ne0 hG0 (by omega)), if_neg (nI_ne0 hG0 (by omega)), i_dv hA0 hG0 (by omega), i_dv (by omega) hG0 (by omega)]
            rcases (show d = 0 ∨ d = 1 by omega) with rfl | rfl
            · rfl
            · rfl
          · unfold f_X7_chance
            rw [place7_1 hO hM2.1 hp, word7_1 hO hM2.1 hv, i3, i4]
            simp only [ob]
            rw [if_neg (by decide), if_neg (by decide), if_neg (by decide), if_neg (by decide), e3]
            simp only
            rw [e4]
            simp only
            rw [gcdM_e hA0 (by omega)]
            have hne : ¬ lN (Nat.gcd A B) = 0 := fun z => (Nat.ne_of_gt hG0) ((lN_eq (a := Nat.gcd A B) (b := 0) (by omega) (by decide)).mp z)
            simp only [dkL, lt']
            rw [if_neg hne, if_neg hne, pk_lDiv (by omega) hG0 (by omega), pk_lDiv (by omega) hG0 (by omega), lN_i, lN_i]
            rcases (show d = 0 ∨ d = 1 by omega) with rfl | rfl
            · rfl
            · rfl
        · refine agree_0 hs hA hC hM (r := -1) ?_ ?_
          · unfold f_X6_chance
            rw [placec_1 hO hC.1 hp, wordc_1 hO hC.1 hv]
            simp only [ob]
            rw [if_neg (by decide), if_neg (by decide), if_neg (nI_pos (by omega)), if_neg (show ¬ (10 : Int32) < nI c from nI_nlt (a := 10) (by omega) (by decide))]
            rcases hl4 with h | ⟨h0, h⟩
            · rw [if_pos h]
            · rw [if_neg h0, if_neg (show ¬ l4 ≤ 1 by obtain ⟨j, hj, rfl⟩ := nI_of h0; exact nI_ge (a := 1) ((nI_leI (by decide) hj).mp h) hj)]
          · unfold f_X7_chance
            rw [place7_1 hO hM.1 hp, word7_1 hO hM.1 hv, i3, show f_X7_in l4 0 1 = some 0 from in7_l0 (m := 1) hl4 (by decide)]
            rfl
      · refine agree_0 hs hA hC hM (r := -1) ?_ ?_
        · unfold f_X6_chance
          rw [placec_1 hO hC.1 hp, wordc_1 hO hC.1 hv]
          simp only [ob]
          rw [if_neg (by decide), if_neg (by decide)]
          rcases hl3 with h | ⟨h0, h⟩
          · rw [if_pos h]
          · rw [if_neg h0, if_pos (show (10 : Int32) < l3 by obtain ⟨j, hj, rfl⟩ := nI_of h0; exact nI_lt (a := 10) ((nI_leI (by decide) hj).mp h) hj)]
        · unfold f_X7_chance
          rw [place7_1 hO hM.1 hp, word7_1 hO hM.1 hv, show f_X7_in l3 0 10 = some 0 from in7_l0 (m := 10) hl3 (by decide)]
          rfl
    · refine agree_0 hs hA hC hM (r := -1) ?_ ?_
      · unfold f_X6_chance
        rw [placec_1 hO hC.1 hp, wordc_0 hO hC.1 hl2]
        rfl
      · unfold f_X7_chance
        rw [place7_1 hO hM.1 hp, word7_0 hO hM.1 hl2]
        rfl
  · refine agree_0 hs hA hC hM (r := -1) ?_ ?_
    · unfold f_X6_chance
      rw [placec_0 hO hC.1 hl]
      rfl
    · unfold f_X7_chance
      rw [place7_0 hO hM.1 hl]
      rfl
end CHN2
