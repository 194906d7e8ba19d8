/-! the reference reads a word -/
def n4 (x : Nat × (Nat → Nat)) (a : Nat) : Nat := if nl x a ≤ 4 then nl x a else 4
section WD7
variable {x : Nat × (Nat → Nat)} {i j a n v : Nat} {mem m' m2 : Mem} {S : Sh} {P : Pa} {g : Bool} {f : Nat → Nat}
theorem n4_le : n4 x a ≤ 4 ∧ n4 x a ≤ nl x a := by
  unfold n4
  split <;> omega
theorem n4_is (h : nl x a ≤ 4) : n4 x a = nl x a := by rw [n4, if_pos h]
theorem n4_4 (h : ¬ nl x a ≤ 4) : n4 x a = 4 := by rw [n4, if_neg h]
theorem wf4_ok : WOK (n4 x a) (wf x a (n4 x a)) := by
  have h4 := n4_le (x := x) (a := a)
  refine ⟨fun k hk => ?_, fun k hk => ?_⟩
  · have := ltrB_ge (nl_in (show k < nl x a by omega))
    unfold wf
    rw [if_pos hk]
    omega
  · unfold wf
    rw [if_neg (by omega)]
theorem zero69 (mem : Mem) : ∃ r, lp (f_X7_readsWord_b4 0) FU (0, mem) = some r ∧ (∀ b, b ≠ 69 → r.2 b = mem b) ∧ ∀ k, k < 4 → r.2 69 k = 0 := by
  refine lp_invF (body := f_X7_readsWord_b4 0) (fun i q => q.1 = nI i ∧ (∀ b, b ≠ 69 → q.2 b = mem b) ∧ ∀ k, k < i → q.2 69 k = 0) 4 (fun r => (∀ b, b ≠ 69 → r.2 b = mem b) ∧ ∀ k, k < 4 → r.2 69 k = 0) (by decide) ⟨rfl, fun _ _ => rfl, fun k hk => absurd hk (Nat.not_lt_zero _)⟩ (fun i q hi hq => ?_) (fun q hq => ?_)
  · left
    obtain ⟨q1, q2, q3⟩ := hq
    unfold f_X7_readsWord_b4
    rw [q1, if_neg (show ¬ (4 : Int32) ≤ nI i from nI_ge (b := 4) hi (by decide)), wr_nI hi (by decide)]
    simp only [lt', nI_1]
    refine ⟨_, rfl, rfl, fun b z => ?_, fun k hk => ?_⟩
    · show mset q.2 69 i 0 b = _
      rw [mset_ne z, q2 b z]
    · show mset q.2 69 i 0 69 k = _
      rw [mset_at]
      by_cases e : k = i
      · rw [if_pos ⟨rfl, e⟩]
      · rw [if_neg (fun z => e z.2), q3 k (by omega)]
  · obtain ⟨q1, q2, q3⟩ := hq
    unfold f_X7_readsWord_b4
    rw [q1, if_pos (show (4 : Int32) ≤ nI 4 from nI_le (Nat.le_refl 4) (by decide))]
    exact ⟨_, rfl, q2, q3⟩
theorem spell69 (hX : XOK x) (hT : TM x a mem) (ha : a < 300) (h0 : ∀ k, k < 4 → mem 69 k = 0) : ∃ r, lp f_X7_readsWord_b22 FU (0, mem) = some r ∧ r.1 = nI (n4 x a) ∧ TM x (a + n4 x a) r.2 ∧ (∀ k, k < 4 → r.2 69 k = nI (wf x a (n4 x a) k)) ∧ (∀ b, b ≠ 62 → b ≠ 69 → r.2 b = mem b) ∧ ∀ j, j ≠ 2 → r.2 62 j = mem 62 j := by
  have h4 := n4_le (x := x) (a := a)
  refine lp_invF (body := f_X7_readsWord_b22) (fun i q => q.1 = nI i ∧ TM x (a + i) q.2 ∧ (∀ k, k < 4 → q.2 69 k = nI (wf x a i k)) ∧ (∀ b, b ≠ 62 → b ≠ 69 → q.2 b = mem b) ∧ ∀ j, j ≠ 2 → q.2 62 j = mem 62 j) (n4 x a) (fun r => r.1 = nI (n4 x a) ∧ TM x (a + n4 x a) r.2 ∧ (∀ k, k < 4 → r.2 69 k = nI (wf x a (n4 x a) k)) ∧ (∀ b, b ≠ 62 → b ≠ 69 → r.2 b = mem b) ∧ ∀ j, j ≠ 2 → r.2 62 j = mem 62 j) (by omega) ⟨rfl, hT, fun k hk => ?_, fun _ _ _ => rfl, fun _ _ => rfl⟩ (fun i q hi hq => ?_) (fun q hq => ?_)
  · show mem 69 k = _
    rw [h0 k hk]
    unfold wf
    rw [if_neg (Nat.not_lt_zero _)]
    rfl
  · left
    obtain ⟨q1, q2, q3, q4, q5⟩ := hq
    have k1 := tk_le hX (a + i)
    have c := nl_in (x := x) (a := a) (show i < nl x a by omega)
    have c1 := ltrB_ge c
    unfold f_X7_readsWord_b22
    rw [here_e hX q2 (by omega)]
    simp only [ob]
    rw [ltr_7 _ (by omega), c]
    simp only
    rw [if_neg (by decide), q1, if_neg (show ¬ (4 : Int32) ≤ nI i from nI_ge (b := 4) (by omega) (by decide)), wr_nI (by omega) (by decide), i_lit 97, i_sub (by omega), nI_1 (tk x (a + i) - 97), show tk x (a + i) - 97 + 1 = tk x (a + i) - 96 by omega]
    simp only [lt', nI_1]
    generalize hm : mset q.2 69 i (nI (tk x (a + i) - 96)) = m1
    have g1 : ∀ b, b ≠ 69 → m1 b = q.2 b := fun b z => by rw [← hm, mset_ne z]
    have T2 : TM x (a + i) m1 := q2.keep (by rw [g1 _ (by decide)]) (by rw [g1 _ (by decide)]) (g1 _ (by decide))
    rw [T2.2, nI_1]
    refine ⟨_, rfl, rfl, T2.go _, fun k hk => ?_, fun b z1 z2 => ?_, fun j z => ?_⟩
    · show mset m1 62 2 (nI (a + i + 1)) 69 k = _
      rw [mset_ne (by decide), ← hm, mset_at]
      unfold wf
      by_cases e : k = i
      · rw [if_pos ⟨rfl, e⟩, if_pos (by omega), e]
      · rw [if_neg (fun z => e z.2), q3 k hk]
        unfold wf
        by_cases e2 : k < i
        · rw [if_pos e2, if_pos (by omega)]
        · rw [if_neg e2, if_neg (by omega)]
    · show mset m1 62 2 (nI (a + i + 1)) b = _
      rw [mset_ne z1, g1 b z2, q4 b z1 z2]
    · show mset m1 62 2 (nI (a + i + 1)) 62 j = _
      rw [mset_k z, g1 _ (by decide), q5 j z]
  · obtain ⟨q1, q2, q3, q4, q5⟩ := hq
    have k1 := tk_le hX (a + n4 x a)
    unfold f_X7_readsWord_b22
    rw [here_e hX q2 (by omega)]
    simp only [ob]
    rw [ltr_7 _ (by omega)]
    simp only
    by_cases c : ltrB (tk x (a + n4 x a)) = true
    · have e : n4 x a = 4 := by
        by_cases e : nl x a ≤ 4
        · have e2 := n4_is e
          rw [e2] at c
          exact absurd c (nl_out (by omega))
        · exact n4_4 e
      rw [c, if_neg (by decide), q1, if_pos (show (4 : Int32) ≤ nI (n4 x a) from nI_le (a := 4) (by omega) (by omega))]
      exact ⟨_, rfl, rfl, q2, q3, q4, q5⟩
    · simp only [c, b2i, Bool.false_eq_true, if_false]
      rw [if_pos trivial]
      exact ⟨_, rfl, q1, q2, q3, q4, q5⟩
theorem isTold_e (hO : DOK S P g) (hR : RR S P mem) (hf : ∀ k, f k ≤ 6) : f_X7_isTold (nI (f 0)) (nI (f 1)) (nI (f 2)) (nI (f 3)) mem = some (b2i (listB S f)) := by
  have h9 := hO.2.2.2.1
  have hN : ∀ {u v : Nat}, u ≤ 6 → v ≤ 6 → (nI u = nI v ↔ u = v) := fun h1 h2 => nI_eq (by omega) (by omega)
  unfold f_X7_isTold
  rw [show ((0 : Int32), (0 : Int32)) = (fun i => (b2i (!allB (fun w => !sameB (swd S w) f) i), nI i)) 0 from rfl, lp_FU (fun i => (b2i (!allB (fun w => !sameB (swd S w) f) i), nI i)) (sW S) (r := (b2i (!allB (fun w => !sameB (swd S w) f) (sW S)), nI (sW S))) (by omega)]
  · simp only [ob]
    unfold listB
    cases allB (fun w => !sameB (swd S w) f) (sW S) <;> rfl
  · intro w hw
    have h6 := hO.wd6 hw
    have c := (hR.2.2.1 w hw).2
    unfold f_X7_isTold_b6
    simp only
    rw [hR.1.2.2.1, if_neg (nI_ge hw (by omega)), nI_1]
    rw [show allB (fun w => !sameB (swd S w) f) (w + 1) = (allB (fun w => !sameB (swd S w) f) w && !sameB (swd S w) f) from rfl]
    by_cases e : allB (fun w => !sameB (swd S w) f) w = true
    · rw [e, if_pos (by decide), rd_e (4 * w) (by rw [i_lit 4, pk_mul]) (by omega) (by decide) (c 0 (by decide))]
      have hs : sameB (swd S w) f = (swd S w 0 == f 0 && swd S w 1 == f 1 && swd S w 2 == f 2 && swd S w 3 == f 3) := by
        unfold sameB
        simp [allB]
      rw [hs]
      by_cases c0 : swd S w 0 = f 0
      · rw [if_pos (by rw [c0]), rd_e (4 * w + 1) (by rw [i_lit 4, pk_mul, nI_1]) (by omega) (by decide) (c 1 (by decide))]
        by_cases c1 : swd S w 1 = f 1
        · rw [if_pos (by rw [c1]), rd_e (4 * w + 2) (by rw [i_lit 4, pk_mul, i_lit 2, nI_add]) (by omega) (by decide) (c 2 (by decide))]
          by_cases c2 : swd S w 2 = f 2
          · rw [if_pos (by rw [c2]), rd_e (4 * w + 3) (by rw [i_lit 4, pk_mul, i_lit 3, nI_add]) (by omega) (by decide) (c 3 (by decide))]
            by_cases c3 : swd S w 3 = f 3
            · rw [if_pos (by rw [c3])]
              simp [c0, c1, c2, c3, lt', b2i]
            · rw [if_neg (fun z => c3 ((hN (h6 3) (hf 3)).mp z))]
              simp [c3, lt', b2i]
          · rw [if_neg (fun z => c2 ((hN (h6 2) (hf 2)).mp z))]
            simp [c2, lt', b2i]
        · rw [if_neg (fun z => c1 ((hN (h6 1) (hf 1)).mp z))]
          simp [c1, lt', b2i]
      · rw [if_neg (fun z => c0 ((hN (h6 0) (hf 0)).mp z))]
        simp [c0, lt', b2i]
    · have e' : allB (fun w => !sameB (swd S w) f) w = false := by simpa using e
      rw [e', if_neg (by decide)]
      rfl
  · unfold f_X7_isTold_b6
    simp only
    rw [hR.1.2.2.1, if_pos (nI_le (Nat.le_refl _) (by omega))]
theorem spells_7 (hR : RR S P mem) (h9 : sW S < 9) (h2 : 2 ≤ n) (h4 : n ≤ 4) (hf : WOK n f) : ∃ m', f_X7_spells (nI (f 0)) (nI (f 1)) (nI (f 2)) (nI (f 3)) mem = some m' ∧ RR (DW S n f) P m' ∧ (∀ b, b ≠ 62 → b ≠ 66 → b ≠ 67 → m' b = mem b) ∧ ∀ j, j ≠ 5 → m' 62 j = mem 62 j := by
  have f2 := hf.le 2
  have f3 := hf.le 3
  unfold f_X7_spells
  rw [hR.1.2.2.1]
  simp only [lt']
  rw [show (4 : Int32) * nI (sW S) = nI (4 * sW S) by rw [i_lit 4, pk_mul], wr_nI (by omega) (by decide), nI_1, wr_nI (by omega) (by decide), show nI (4 * sW S) + 2 = nI (4 * sW S + 2) from nI_add _ 2, wr_nI (by omega) (by decide), show nI (4 * sW S) + 3 = nI (4 * sW S + 3) from nI_add _ 3, wr_nI (by omega) (by decide)]
  generalize hm1 : mset (mset (mset (mset mem 67 (4 * sW S) (nI (f 0))) 67 (4 * sW S + 1) (nI (f 1))) 67 (4 * sW S + 2) (nI (f 2))) 67 (4 * sW S + 3) (nI (f 3)) = m1
  have g1 : ∀ b, b ≠ 67 → m1 b = mem b := fun b z => by rw [← hm1, mset_ne z, mset_ne z, mset_ne z, mset_ne z]
  have w1 : m1 62 5 = nI (sW S) := by rw [g1 _ (by decide)]; exact hR.1.2.2.1
  have hE : (if nI (f 3) ≤ 0 then (if nI (f 2) ≤ 0 then (wr m1 66 9 (m1 62 5) 2 fun m73 => some (mset m73 62 5 ((m73 62 5) + 1))) else (wr m1 66 9 (m1 62 5) 3 fun m73 => some (mset m73 62 5 ((m73 62 5) + 1)))) else (wr m1 66 9 (m1 62 5) 4 fun m73 => some (mset m73 62 5 ((m73 62 5) + 1)))) = some (mset (mset m1 66 (sW S) (nI n)) 62 5 (nI (sW S + 1))) := by
    have h73 : ∀ v, mset m1 66 (sW S) v 62 5 = nI (sW S) := fun v => by rw [mset_ne (by decide), w1]
    rw [w1, wr_nI h9 (by decide), wr_nI h9 (by decide), wr_nI h9 (by decide), h73, h73, h73, nI_1]
    rcases (show n = 2 ∨ n = 3 ∨ n = 4 by omega) with rfl | rfl | rfl
    · rw [hf.2 3 (by decide), hf.2 2 (by decide), if_pos (by decide), if_pos (by decide)]
      rfl
    · have := (hf.1 2 (by decide)).1
      rw [hf.2 3 (by decide), if_pos (by decide), if_neg (nI_nle (by omega) (by omega))]
      rfl
    · have := (hf.1 3 (by decide)).1
      rw [if_neg (nI_nle (by omega) (by omega))]
      rfl
  rw [hE]
  have g2 : ∀ b, b ≠ 62 → b ≠ 66 → mset (mset m1 66 (sW S) (nI n)) 62 5 (nI (sW S + 1)) b = m1 b := fun b z1 z2 => by rw [mset_ne z1, mset_ne z2]
  have h62 : ∀ j, j ≠ 5 → mset (mset m1 66 (sW S) (nI n)) 62 5 (nI (sW S + 1)) 62 j = mem 62 j := fun j z => by rw [mset_k z, mset_ne (by decide), g1 _ (by decide)]
  refine ⟨_, rfl, ⟨⟨?_, ?_, mset_eq, ?_⟩, ?_, ?_, ?_⟩, fun b z1 z2 z3 => by rw [g2 b z1 z2, g1 b z3], h62⟩
  · rw [h62 _ (by decide)]; exact hR.1.1
  · rw [h62 _ (by decide)]; exact hR.1.2.1
  · rw [h62 _ (by decide)]; exact hR.1.2.2.2
  · rw [g2 _ (by decide) (by decide), g1 _ (by decide), g2 _ (by decide) (by decide), g1 _ (by decide)]; exact hR.2.1
  · intro w hw
    have hw' : w < sW S + 1 := hw
    constructor
    · rw [mset_ne (by decide), mset_at]
      show _ = nI (if w = sW S then n else swl S w)
      by_cases e : w = sW S
      · rw [if_pos ⟨rfl, e⟩, if_pos e]
      · rw [if_neg (fun z => e z.2), if_neg e, g1 _ (by decide)]; exact (hR.2.2.1 w (by omega)).1
    · intro k hk
      rw [g2 _ (by decide) (by decide)]
      show _ = nI ((if w = sW S then f else swd S w) k)
      have e : ∀ j, m1 67 j = if j = 4 * sW S + 3 then nI (f 3) else if j = 4 * sW S + 2 then nI (f 2) else if j = 4 * sW S + 1 then nI (f 1) else if j = 4 * sW S then nI (f 0) else mem 67 j := by
        intro j
        rw [← hm1, mset_at, mset_at, mset_at, mset_at]
        simp only [true_and]
      rw [e]
      by_cases c : w = sW S
      · subst c
        rw [if_pos rfl]
        rcases (show k = 0 ∨ k = 1 ∨ k = 2 ∨ k = 3 by omega) with rfl | rfl | rfl | rfl
        · rw [if_neg (by omega), if_neg (by omega), if_neg (by omega), if_pos (by omega)]
        · rw [if_neg (by omega), if_neg (by omega), if_pos rfl]
        · rw [if_neg (by omega), if_pos rfl]
        · rw [if_pos rfl]
      · rw [if_neg c, if_neg (by omega), if_neg (by omega), if_neg (by omega), if_neg (by omega)]
        exact (hR.2.2.1 w (by omega)).2 k hk
  · rw [g2 _ (by decide) (by decide), g1 _ (by decide)]; exact hR.2.2.2
def tokW7 (x : Nat × (Nat → Nat)) (S : Sh) (a : Nat) : Prop := 2 ≤ n4 x a ∧ sW S < 9 ∧ listB S (wf x a (n4 x a)) = false
theorem word_7 (hX : XOK x) (hO : DOK S P g) (hR : RR S P mem) (hT : TM x a mem) (ha : a < 300) : (tokW7 x S a → ∃ m', f_X7_readsWord mem = some (1, m') ∧ RR (DW S (n4 x a) (wf x a (n4 x a))) P m' ∧ TM x (a + n4 x a) m' ∧ FR mem m' ∧ m' 62 7 = mem 62 7) ∧ (¬ tokW7 x S a → ∃ m', f_X7_readsWord mem = some (0, m') ∧ FR mem m') := by
  have h4 := n4_le (x := x) (a := a)
  have h9 := hO.2.2.2.1
  unfold f_X7_readsWord
  obtain ⟨r, hr, r1, r2⟩ := zero69 mem
  rw [hr]
  simp only [ob]
  obtain ⟨t, ht, t1, t2, t3, t4, t5⟩ := spell69 hX (hT.keep (m' := r.2) (by rw [r1 _ (by decide)]) (by rw [r1 _ (by decide)]) (r1 _ (by decide))) ha r2
  rw [ht]
  simp only
  have F1 : FR mem t.2 := ⟨fun b z1 z2 => by rw [t4 b z1 (by omega), r1 b (by omega)], fun j z => by rw [t5 j (by omega), r1 _ (by decide)]⟩
  have R1 : RR S P t.2 := hR.keep (fun k _ _ => by rw [t5 k (by omega), r1 _ (by decide)]) (fun b _ _ => by rw [t4 b (by omega) (by omega), r1 b (by omega)])
  unfold f_X7_readsWord_j72
  rw [t1]
  by_cases e : 2 ≤ n4 x a
  · rw [if_neg (show ¬ nI (n4 x a) < 2 from nI_nlt (b := 2) e (by omega)), R1.1.2.2.1]
    by_cases e2 : sW S < 9
    · rw [if_neg (show ¬ nI (sW S) = 9 from lit_ne (n := 9) (by omega) (by omega) (by decide)), rd_e (i := 0) (n := 4) 0 rfl (by decide) (by decide) (t3 0 (by decide)), rd_e (i := 1) (n := 4) 1 rfl (by decide) (by decide) (t3 1 (by decide)), rd_e (i := 2) (n := 4) 2 rfl (by decide) (by decide) (t3 2 (by decide)), rd_e (i := 3) (n := 4) 3 rfl (by decide) (by decide) (t3 3 (by decide)), isTold_e hO R1 wf4_ok.le]
      simp only [ob]
      by_cases e3 : listB S (wf x a (n4 x a)) = true
      · rw [e3, if_neg (by decide)]
        exact ⟨fun z => absurd (z.2.2.symm.trans e3) (by decide), fun _ => ⟨_, rfl, F1⟩⟩
      · have e3' : listB S (wf x a (n4 x a)) = false := by simpa using e3
        rw [e3', if_pos (by decide), rd_e (i := 0) (n := 4) 0 rfl (by decide) (by decide) (t3 0 (by decide)), rd_e (i := 1) (n := 4) 1 rfl (by decide) (by decide) (t3 1 (by decide)), rd_e (i := 2) (n := 4) 2 rfl (by decide) (by decide) (t3 2 (by decide)), rd_e (i := 3) (n := 4) 3 rfl (by decide) (by decide) (t3 3 (by decide))]
        obtain ⟨m1, q1, q2, q3, q4⟩ := spells_7 R1 e2 e h4.1 wf4_ok
        rw [q1]
        refine ⟨fun _ => ⟨m1, rfl, q2, t2.keep (q4 0 (by decide)) (q4 2 (by decide)) (q3 63 (by decide) (by decide) (by decide)), F1.tr ⟨fun b z1 z2 => q3 b z1 (by omega) (by omega), fun j z => q4 j (by omega)⟩, ?_⟩, fun z => absurd ⟨e, e2, e3'⟩ z⟩
        rw [q4 7 (by decide), t5 7 (by decide), r1 _ (by decide)]
    · rw [if_pos (show nI (sW S) = 9 by rw [show sW S = 9 by omega]; rfl)]
      exact ⟨fun z => absurd z.2.1 e2, fun _ => ⟨_, rfl, F1⟩⟩
  · rw [if_pos (show nI (n4 x a) < 2 from nI_lt (b := 2) (by omega) (by decide))]
    exact ⟨fun z => absurd z.1 e, fun _ => ⟨_, rfl, F1⟩⟩
end WD7
