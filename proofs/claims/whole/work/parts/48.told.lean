/-! what was told -/
def okB (S : Sh) (P : Pa) (w : Nat × (Nat → Nat) × (Nat → Bool)) (i : Nat) : Bool := allB (fun j => !(w.2.1 j == i) || (w.2.2 j == sendB S P i)) w.1
def okA (S : Sh) (P : Pa) (w : Nat × (Nat → Nat) × (Nat → Bool)) : Bool := allB (fun j => w.2.2 j == sendB S P (w.2.1 j)) w.1
theorem ok_all {S : Sh} {P : Pa} {w : Nat × (Nat → Nat) × (Nat → Bool)} (hw : ∀ j, j < w.1 → w.2.1 j < sN S) : allB (okB S P w) (sN S) = okA S P w := by
  rw [Bool.eq_iff_iff, allB_iff]
  unfold okA okB
  rw [allB_iff]
  constructor
  · intro h j hj
    have := allB_iff.mp (h (w.2.1 j) (hw j hj)) j hj
    simpa using this
  · intro h i hi
    rw [allB_iff]
    intro j hj
    have := h j hj
    by_cases he : w.2.1 j = i
    · rw [he] at this
      rw [this, Bool.or_true]
    · have e : (w.2.1 j == i) = false := by simpa using he
      rw [e]
      rfl
section TLD
variable {S : Sh} {P : Pa} {w : Nat × (Nat → Nat) × (Nat → Bool)} {sh : Nat} {m : Mem} {i : Nat}
theorem b2i_inj {a b : Bool} : b2i a = b2i b ↔ a = b := by cases a <;> cases b <;> simp [b2i]
theorem isAsTold_e (hO : SOK S) (hC : CS S sh m) (hP : POK S P) (hT : CP P 35 m) (hw6 : w.1 ≤ 6) (hw : ∀ j, j < w.1 → w.2.1 j < sN S) (hD : CT w m) (hi : i < sN S) : f_X6_isAsTold sh (nI i) m = some (b2i (okB S P w i)) := by
  have hn := hO.n6
  unfold f_X6_isAsTold
  rw [sends_e hO hC hP hT hi]
  simp only [ob]
  rw [lp_all (fun j => !(w.2.1 j == i) || (w.2.2 j == sendB S P i)) w.1 0 (by omega)]
  · unfold okB
    cases allB (fun j => !(w.2.1 j == i) || (w.2.2 j == sendB S P i)) w.1 <;> rfl
  · intro j hj
    have hj2 := hw j hj
    obtain ⟨d1, d2⟩ := hD.2 j hj
    unfold f_X6_isAsTold_b15
    rw [hD.1, if_neg (nI_ge hj (by omega)), rd_e j rfl (by omega) (by decide) d1, rd_e j rfl (by omega) (by decide) d2]
    simp only [lt', nI_1]
    by_cases he : w.2.1 j = i
    · rw [if_pos (by rw [he])]
      by_cases hd : w.2.2 j = sendB S P i
      · rw [if_pos (by rw [hd]), if_pos (by simp [hd])]
      · rw [if_neg (fun z => hd (b2i_inj.mp z)), if_neg (by simp [hd, he])]
    · rw [if_neg (lit_ne he (by omega) (by omega)), if_pos (by simp [he])]
  · unfold f_X6_isAsTold_b15
    rw [hD.1, if_pos (nI_le (Nat.le_refl _) (by omega))]
theorem isAll_e (hO : SOK S) (hC : CS S sh m) (hP : POK S P) (hT : CP P 35 m) (hw6 : w.1 ≤ 6) (hw : ∀ j, j < w.1 → w.2.1 j < sN S) (hD : CT w m) : f_X6_isAllAsTold sh m = some (b2i (okA S P w)) := by
  have hn := hO.n6
  unfold f_X6_isAllAsTold
  rw [lp_all (okB S P w) (sN S) 0 (by omega)]
  · rw [ok_all hw]
    cases okA S P w <;> rfl
  · intro j hj
    unfold f_X6_isAllAsTold_b2
    rw [hC.1.2.2.2.2, if_neg (nI_ge hj (by omega)), isAsTold_e hO hC hP hT hw6 hw hD hj]
    simp only [ob, lt', nI_1]
    cases okB S P w j <;> rfl
  · unfold f_X6_isAllAsTold_b2
    rw [hC.1.2.2.2.2, if_pos (nI_le (Nat.le_refl _) (by omega))]
theorem j33_e (hO : SOK S) (hM : MS S m) (hP : POK S P) (hT : MP P 78 m) (hw6 : w.1 ≤ 6) (hw : ∀ j, j < w.1 → w.2.1 j < sN S) (hD : MT w m) {l : Int32} {j : Nat} (hj : j < w.1) : f_X7_isSo_j33 78 l (nI j) m = some (.inl (b2i (w.2.2 j == sendB S P (w.2.1 j)), nI (j + 1))) := by
  obtain ⟨d1, d2⟩ := hD.2 j hj
  unfold f_X7_isSo_j33
  rw [rd_e j rfl (by omega) (by decide) d1, isSending_e hO hM hP hT (hw j hj)]
  simp only [ob]
  rw [rd_e j rfl (by omega) (by decide) d2]
  simp only [lt', nI_1]
  by_cases hd : sendB S P (w.2.1 j) = w.2.2 j
  · rw [if_pos (by rw [hd]), show (w.2.2 j == sendB S P (w.2.1 j)) = true by simp [hd]]
    rfl
  · rw [if_neg (fun z => hd (b2i_inj.mp z)), show (w.2.2 j == sendB S P (w.2.1 j)) = false by simpa using fun z => hd z.symm]
    rfl
theorem isSo_lp {l : Int32} {c : Nat → Bool} (hw6 : w.1 ≤ 6) (hD : MT w m) (h : ∀ j, j < w.1 → (if l < 0 then (f_X7_isSo_j33 78 l (nI j) m) else (rd (m 87) 6 (nI j) fun v28 => if v28 = l then (f_X7_isSo_j33 78 l (nI j) m) else (lt' (nI j + 1) fun v61 => some (.inl (1, v61))))) = some (.inl (b2i (c j), nI (j + 1)))) : f_X7_isSo 78 l m = some (b2i (allB c w.1)) := by
  unfold f_X7_isSo
  rw [show ((1 : Int32), (0 : Int32)) = (fun i => (b2i (allB c i), nI i)) 0 from rfl, lp_FU (fun i => (b2i (allB c i), nI i)) w.1 (r := (b2i (allB c w.1), nI w.1)) (by omega)]
  · simp only [ob]
    rw [bk_b]
  · intro j hj
    unfold f_X7_isSo_b5
    simp only
    rw [hD.1, if_neg (nI_ge hj (by omega)), h j hj]
    simp only [lt', nI_1, allB]
    cases allB c j with
    | false => rfl
    | true => rw [if_neg (by decide), Bool.true_and]
  · unfold f_X7_isSo_b5
    simp only
    rw [hD.1, if_pos (nI_le (Nat.le_refl _) (by omega))]
theorem isSo_e (hO : SOK S) (hM : MS S m) (hP : POK S P) (hT : MP P 78 m) (hw6 : w.1 ≤ 6) (hw : ∀ j, j < w.1 → w.2.1 j < sN S) (hD : MT w m) (hi : i < sN S) : f_X7_isSo 78 (nI i) m = some (b2i (okB S P w i)) := by
  have hn := hO.n6
  refine isSo_lp (c := fun j => !(w.2.1 j == i) || (w.2.2 j == sendB S P i)) hw6 hD (fun j hj => ?_)
  obtain ⟨d1, d2⟩ := hD.2 j hj
  have hj2 := hw j hj
  rw [if_neg (nI_pos (by omega)), rd_e j rfl (by omega) (by decide) d1]
  by_cases he : w.2.1 j = i
  · rw [if_pos (by rw [he]), j33_e hO hM hP hT hw6 hw hD hj, he]
    simp
  · rw [if_neg (lit_ne he (by omega) (by omega))]
    simp only [lt', nI_1]
    have e : (w.2.1 j == i) = false := by simpa using he
    rw [e]
    rfl
theorem isSoA_e (hO : SOK S) (hM : MS S m) (hP : POK S P) (hT : MP P 78 m) (hw6 : w.1 ≤ 6) (hw : ∀ j, j < w.1 → w.2.1 j < sN S) (hD : MT w m) : f_X7_isSo 78 (-1) m = some (b2i (okA S P w)) := by
  refine isSo_lp (c := fun j => w.2.2 j == sendB S P (w.2.1 j)) hw6 hD (fun j hj => ?_)
  rw [if_pos (by decide), j33_e hO hM hP hT hw6 hw hD hj]
/-- another word wanted; another letter -/
def wWP (P : Pa) (i v : Nat) : Pa := (P.1, P.2.1, fun j => if j = i then v else P.2.2 j)
def lWP (P : Pa) (z c : Nat) : Pa := ((fun y => if y = z then c else P.1 y), P.2.1, P.2.2)
theorem wWOK (hP : POK S P) {v : Nat} (hv : v < sW S) : POK S (wWP P i v) := by
  refine ⟨hP.1, hP.2.1, fun j hj => ⟨(hP.2.2 j hj).1, ?_⟩⟩
  unfold wWP
  simp only
  by_cases he : j = i
  · rw [if_pos he]; exact hv
  · rw [if_neg he]; exact (hP.2.2 j hj).2
theorem lWOK (hP : POK S P) {z c : Nat} (hz : z < sR S * sC S) (hb : sbl S z = 0) (hc : c ≤ 6) : POK S (lWP P z c) := by
  refine ⟨fun y hy => ?_, fun y hy h => ?_, hP.2.2⟩
  · unfold lWP
    simp only
    by_cases he : y = z
    · rw [if_pos he]; exact hc
    · rw [if_neg he]; exact hP.1 y hy
  · unfold lWP
    simp only
    by_cases he : y = z
    · subst he; omega
    · rw [if_neg he]; exact hP.2.1 y hy h
end TLD
section TLD2
variable {S : Sh} {P : Pa} {u k : Nat × (Nat → Pa)} {w : Nat × (Nat → Nat) × (Nat → Bool)} {x : Nat × (Nat → Nat)} {sh sp : Nat} {mem : Mem} {l l2 l3 : Int32}
theorem wants_a (hs : Two sh sp) (hA : AOK S P u k w x) (hC : CI S P u k w x sh mem) (hM : MI S P u k w x mem) : Agree sh sp (f_X6_wants sh l) (f_X7_wants l) mem := by
  have hs' := hs
  unfold Two at hs'
  have hO := hA.1
  have hw9 := hO.w9
  have hn := hO.n6
  have hw := hA.2.2.2.2.1
  rcases ixs l (sN S) with ⟨i, hi, rfl⟩ | hl
  · obtain ⟨m1, e1, t1, f1⟩ := copy_e (t := 35) hC.2.1 (by decide)
    obtain ⟨r2, e2, m2, rfl, f2⟩ := lp_invF (body := f_X6_wants_b25 sh (nI i)) (fun v q => ∃ m, q = (nI (bm (fun v => okB S (wWP P i v) w i) v), nI v, m) ∧ (∀ y, y < 16 → m 36 y = nI (P.1 y)) ∧ (∀ j, j < 6 → m 37 j = nI (P.2.1 j) ∧ (j ≠ i → m 38 j = nI (P.2.2 j))) ∧ ∀ a, a < 36 ∨ 43 < a → m a = mem a) (sW S) (fun r => ∃ m, r = (nI (bm (fun v => okB S (wWP P i v) w i) (sW S)), nI (sW S), m) ∧ ∀ a, a < 36 ∨ 43 < a → m a = mem a) (by omega) (q := (0, 0, m1)) ⟨m1, rfl, t1.1, fun j hj => ⟨(t1.2 j hj).1, fun _ => (t1.2 j hj).2⟩, fun a ha => f1 a (by omega) (by omega) (by omega)⟩
      (fun v q hv hI => by
        obtain ⟨m, rfl, g1, g2, f⟩ := hI
        refine Or.inl ?_
        unfold f_X6_wants_b25
        simp only
        rw [f sh (by omega), hC.1.1.2.2.2.1, if_neg (nI_ge hv (by omega)), wr_nI (show i < 6 by omega) (by decide)]
        generalize hm' : mset m 38 i (nI v) = m'
        have fm : ∀ a, a ≠ 38 → m' a = m a := fun a h => by rw [← hm', mset_ne h]
        have hC' := hC.1.keep (mem' := m') (fun a _ _ => by rw [fm a (by omega), f a (by omega)])
        have hT' : CP (wWP P i v) 35 m' := by
          refine ⟨fun y hy => ?_, fun j hj => ⟨?_, ?_⟩⟩
          · show m' 36 y = _
            rw [fm 36 (by decide)]
            exact g1 y hy
          · show m' 37 j = _
            rw [fm 37 (by decide)]
            exact (g2 j hj).1
          · show m' 38 j = nI (if j = i then v else P.2.2 j)
            rw [← hm', mset_at]
            by_cases he : j = i
            · rw [if_pos ⟨rfl, he⟩, if_pos he]
            · rw [if_neg (fun z => he z.2), if_neg he]
              exact (g2 j hj).2 he
        rw [isAsTold_e hO hC' (wWOK hA.2.1 hv) hT' hw.1 hw.2 (hC.2.2.2.2.1.keep (by rw [fm 0 (by decide), f 0 (by decide)]) (by rw [fm 60 (by decide), f 60 (by decide)]) (by rw [fm 61 (by decide), f 61 (by decide)])) hi]
        simp only [ob, lt', nI_1, bm]
        have keepI : (∀ y, y < 16 → m' 36 y = nI (P.1 y)) ∧ (∀ j, j < 6 → m' 37 j = nI (P.2.1 j) ∧ (j ≠ i → m' 38 j = nI (P.2.2 j))) ∧ ∀ a, a < 36 ∨ 43 < a → m' a = mem a := by
          refine ⟨hT'.1, fun j hj => ⟨(hT'.2 j hj).1, fun he => ?_⟩, fun a ha => by rw [fm a (by omega), f a ha]⟩
          rw [← hm', mset_k he]
          exact (g2 j hj).2 he
        by_cases hb : okB S (wWP P i v) w i = true
        · rw [if_pos hb, hb, if_neg (show ¬ b2i true = 0 by decide), i_orb (by omega)]
          exact ⟨_, rfl, m', rfl, keepI⟩
        · rw [if_neg hb, if_pos (show b2i (okB S (wWP P i v) w i) = 0 by rw [Bool.not_eq_true] at hb; rw [hb]; rfl)]
          exact ⟨_, rfl, m', rfl, keepI⟩)
      (fun q hI => by
        obtain ⟨m, rfl, g1, g2, f⟩ := hI
        unfold f_X6_wants_b25
        simp only
        rw [f sh (by omega), hC.1.1.2.2.2.1, if_pos (nI_le (Nat.le_refl _) (by omega))]
        exact ⟨_, rfl, m, rfl, f⟩)
    have hM2 := hM.up (mem' := m2) (fun a ha => f2 a (by omega))
    obtain ⟨r4, e4, m4, rfl, f4⟩ := lp_invF (body := f_X7_wants_b14 (nI i)) (fun v q => ∃ m, q = (nI (bm (fun v => okB S (wWP P i v) w i) v), nI v, m) ∧ ∀ a, a ≠ 78 → m a = m2 a) (sW S) (fun r => ∃ m, r = (nI (bm (fun v => okB S (wWP P i v) w i) (sW S)), nI (sW S), m) ∧ ∀ a, a ≠ 78 → m a = m2 a) (by omega) (q := (0, 0, m2)) ⟨m2, rfl, fun _ _ => rfl⟩
      (fun v q hv hI => by
        obtain ⟨m, rfl, f⟩ := hI
        refine Or.inl ?_
        obtain ⟨m3, e3, t3, f3⟩ := copyNow_e (hM2.2.1.keep (mem' := m) (f 77 (by decide)))
        unfold f_X7_wants_b14
        simp only
        rw [f 62 (by decide), hM2.1.1.2.2.2.1, if_neg (nI_ge hv (by omega)), e3]
        simp only [ob]
        rw [wr_e (16 + 2 * i + 1) (by rw [i_lit 16, i_lit 2, pk_mul, nI_add, nI_1]) (by omega) (by decide)]
        generalize hm' : mset m3 78 (16 + 2 * i + 1) (nI v) = m'
        have fm : ∀ a, a ≠ 78 → m' a = m2 a := fun a h => by rw [← hm', mset_ne h, f3 a h, f a h]
        have hM' := hM2.1.keep (mem' := m') (fun a _ _ => by rw [fm 62 (by decide)]) (fun a _ _ => fm a (by omega))
        have hT' : MP (wWP P i v) 78 m' := by
          refine ⟨fun y hy => ?_, fun j hj => ⟨?_, ?_⟩⟩
          · rw [← hm', mset_k (by omega)]
            exact t3.1 y hy
          · rw [← hm', mset_k (by omega)]
            exact (t3.2 j hj).1
          · show m' 78 (16 + 2 * j + 1) = nI (if j = i then v else P.2.2 j)
            rw [← hm', mset_at]
            by_cases he : j = i
            · rw [if_pos ⟨rfl, by rw [he]⟩, if_pos he]
            · rw [if_neg (fun z => he (by omega)), if_neg he]
              exact (t3.2 j hj).2
        rw [isSo_e hO hM' (wWOK hA.2.1 hv) hT' hw.1 hw.2 (hM2.2.2.2.2.1.keep (by rw [fm 62 (by decide)]) (fm 87 (by decide)) (fm 88 (by decide))) hi]
        simp only [lt', nI_1, bm]
        by_cases hb : okB S (wWP P i v) w i = true
        · rw [if_pos hb, hb, if_neg (show ¬ b2i true = 0 by decide), i_orb (by omega)]
          exact ⟨_, rfl, m', rfl, fm⟩
        · rw [if_neg hb, if_pos (show b2i (okB S (wWP P i v) w i) = 0 by rw [Bool.not_eq_true] at hb; rw [hb]; rfl), i_or0]
          exact ⟨_, rfl, m', rfl, fm⟩)
      (fun q hI => by
        obtain ⟨m, rfl, f⟩ := hI
        unfold f_X7_wants_b14
        simp only
        rw [f 62 (by decide), hM2.1.1.2.2.2.1, if_pos (nI_le (Nat.le_refl _) (by omega))]
        exact ⟨_, rfl, m, rfl, f⟩)
    refine agree_q (m1 := m2) (m2 := m4) (r := nI (bm (fun v => okB S (wWP P i v) w i) (sW S))) hs hA hC hM ?_ (QC.of hs (fun a ha => f2 a (by omega))) ?_ (QM.of (fun a z1 _ _ _ => f4 a z1)) (fun a ha => f4 a (by omega))
    · unfold f_X6_wants
      rw [solverc_1 hO hC.1 hi]
      simp only [ob]
      rw [if_neg (by decide), e1]
      simp only
      rw [e2]
    · unfold f_X7_wants
      rw [solver7_1 hO hM2.1 hi]
      simp only [ob]
      rw [if_neg (by decide), e4]
  · refine agree_0 hs hA hC hM (r := -1) ?_ ?_
    · unfold f_X6_wants
      rw [solverc_0 hO hC.1 hl]
      rfl
    · unfold f_X7_wants
      rw [solver7_0 hO hM.1 hl]
      rfl
theorem letters_a (hs : Two sh sp) (hA : AOK S P u k w x) (hC : CI S P u k w x sh mem) (hM : MI S P u k w x mem) : Agree sh sp (f_X6_letters sh l) (f_X7_letters l) mem := by
  have hs' := hs
  unfold Two at hs'
  have hO := hA.1
  have hrc := hO.rc
  have hw := hA.2.2.2.2.1
  rcases ixs l (sR S * sC S) with ⟨z, hz, rfl⟩ | hl
  · have hbl := hO.2.2.2.2.2.1 z
    rcases (show sbl S z = 1 ∨ sbl S z = 0 by omega) with h1 | h0
    · refine agree_0 hs hA hC hM (r := -2) ?_ ?_
      · unfold f_X6_letters
        rw [squarec_1 hO hC.1 hz, rd_e z rfl (by omega) (by decide) (hC.1.2.1 z (by omega)), h1]
        rfl
      · unfold f_X7_letters
        rw [square7_1 hO hM.1 hz, rd_e z rfl (by omega) (by decide) (hM.1.2.1 z (by omega)), h1]
        rfl
    · obtain ⟨m1, e1, t1, f1⟩ := copy_e (t := 35) hC.2.1 (by decide)
      obtain ⟨r2, e2, m2, rfl, f2⟩ := lp_invF (body := f_X6_letters_b40 sh (nI z)) (fun v q => ∃ m, q = (nI (bm (fun v => okA S (lWP P z v) w) v), nI v, m) ∧ (∀ y, y < 16 → y ≠ z → m 36 y = nI (P.1 y)) ∧ (∀ j, j < 6 → m 37 j = nI (P.2.1 j) ∧ m 38 j = nI (P.2.2 j)) ∧ ∀ a, a < 36 ∨ 43 < a → m a = mem a) 7 (fun r => ∃ m, r = (nI (bm (fun v => okA S (lWP P z v) w) 7), nI 7, m) ∧ ∀ a, a < 36 ∨ 43 < a → m a = mem a) (by omega) (q := (0, 0, m1)) ⟨m1, rfl, fun y hy _ => t1.1 y hy, t1.2, fun a ha => f1 a (by omega) (by omega) (by omega)⟩
        (fun v q hv hI => by
          obtain ⟨m, rfl, g1, g2, f⟩ := hI
          refine Or.inl ?_
          unfold f_X6_letters_b40
          simp only
          rw [if_neg (show ¬ (6 : Int32) < nI v from nI_nlt (a := 6) (by omega) (by decide)), wr_nI (show z < 16 by omega) (by decide)]
          generalize hm' : mset m 36 z (nI v) = m'
          have fm : ∀ a, a ≠ 36 → m' a = m a := fun a h => by rw [← hm', mset_ne h]
          have hC' := hC.1.keep (mem' := m') (fun a _ _ => by rw [fm a (by omega), f a (by omega)])
          have hT' : CP (lWP P z v) 35 m' := by
            refine ⟨fun y hy => ?_, fun j hj => ?_⟩
            · show m' 36 y = nI (if y = z then v else P.1 y)
              rw [← hm', mset_at]
              by_cases he : y = z
              · rw [if_pos ⟨rfl, he⟩, if_pos he]
              · rw [if_neg (fun z => he z.2), if_neg he]
                exact g1 y hy he
            · show m' 37 j = _ ∧ m' 38 j = _
              rw [fm 37 (by decide), fm 38 (by decide)]
              exact g2 j hj
          rw [isAll_e hO hC' (lWOK hA.2.1 hz h0 (show v ≤ 6 by omega)) hT' hw.1 hw.2 (hC.2.2.2.2.1.keep (by rw [fm 0 (by decide), f 0 (by decide)]) (by rw [fm 60 (by decide), f 60 (by decide)]) (by rw [fm 61 (by decide), f 61 (by decide)]))]
          simp only [ob, lt', nI_1, bm]
          have keepI : (∀ y, y < 16 → y ≠ z → m' 36 y = nI (P.1 y)) ∧ (∀ j, j < 6 → m' 37 j = nI (P.2.1 j) ∧ m' 38 j = nI (P.2.2 j)) ∧ ∀ a, a < 36 ∨ 43 < a → m' a = mem a := by
            refine ⟨fun y hy he => ?_, hT'.2, fun a ha => by rw [fm a (by omega), f a ha]⟩
            rw [← hm', mset_k he]
            exact g1 y hy he
          by_cases hb : okA S (lWP P z v) w = true
          · rw [if_pos hb, hb, if_neg (show ¬ b2i true = 0 by decide), i_orb (by omega)]
            exact ⟨_, rfl, m', rfl, keepI⟩
          · rw [if_neg hb, if_pos (show b2i (okA S (lWP P z v) w) = 0 by rw [Bool.not_eq_true] at hb; rw [hb]; rfl)]
            exact ⟨_, rfl, m', rfl, keepI⟩)
        (fun q hI => by
          obtain ⟨m, rfl, g1, g2, f⟩ := hI
          unfold f_X6_letters_b40
          simp only
          rw [if_pos (show (6 : Int32) < nI 7 by decide)]
          exact ⟨_, rfl, m, rfl, f⟩)
      have hM2 := hM.up (mem' := m2) (fun a ha => f2 a (by omega))
      obtain ⟨r4, e4, m4, rfl, f4⟩ := lp_invF (body := f_X7_letters_b27 (nI z)) (fun v q => ∃ m, q = (nI (bm (fun v => okA S (lWP P z v) w) v), nI v, m) ∧ ∀ a, a ≠ 78 → m a = m2 a) 7 (fun r => ∃ m, r = (nI (bm (fun v => okA S (lWP P z v) w) 7), nI 7, m) ∧ ∀ a, a ≠ 78 → m a = m2 a) (by omega) (q := (0, 0, m2)) ⟨m2, rfl, fun _ _ => rfl⟩
        (fun v q hv hI => by
          obtain ⟨m, rfl, f⟩ := hI
          refine Or.inl ?_
          obtain ⟨m3, e3, t3, f3⟩ := copyNow_e (hM2.2.1.keep (mem' := m) (f 77 (by decide)))
          unfold f_X7_letters_b27
          simp only
          rw [if_neg (show ¬ (6 : Int32) < nI v from nI_nlt (a := 6) (by omega) (by decide)), e3]
          simp only [ob]
          rw [wr_nI (show z < 28 by omega) (by decide)]
          generalize hm' : mset m3 78 z (nI v) = m'
          have fm : ∀ a, a ≠ 78 → m' a = m2 a := fun a h => by rw [← hm', mset_ne h, f3 a h, f a h]
          have hM' := hM2.1.keep (mem' := m') (fun a _ _ => by rw [fm 62 (by decide)]) (fun a _ _ => fm a (by omega))
          have hT' : MP (lWP P z v) 78 m' := by
            refine ⟨fun y hy => ?_, fun j hj => ?_⟩
            · show m' 78 y = nI (if y = z then v else P.1 y)
              rw [← hm', mset_at]
              by_cases he : y = z
              · rw [if_pos ⟨rfl, he⟩, if_pos he]
              · rw [if_neg (fun z => he z.2), if_neg he]
                exact t3.1 y hy
            · rw [← hm', mset_k (by omega), mset_k (by omega)]
              exact t3.2 j hj
          rw [isSoA_e hO hM' (lWOK hA.2.1 hz h0 (show v ≤ 6 by omega)) hT' hw.1 hw.2 (hM2.2.2.2.2.1.keep (by rw [fm 62 (by decide)]) (fm 87 (by decide)) (fm 88 (by decide)))]
          simp only [lt', nI_1, bm]
          by_cases hb : okA S (lWP P z v) w = true
          · rw [if_pos hb, hb, if_neg (show ¬ b2i true = 0 by decide), i_orb (by omega)]
            exact ⟨_, rfl, m', rfl, fm⟩
          · rw [if_neg hb, if_pos (show b2i (okA S (lWP P z v) w) = 0 by rw [Bool.not_eq_true] at hb; rw [hb]; rfl), i_or0]
            exact ⟨_, rfl, m', rfl, fm⟩)
        (fun q hI => by
          obtain ⟨m, rfl, f⟩ := hI
          unfold f_X7_letters_b27
          simp only
          rw [if_pos (show (6 : Int32) < nI 7 by decide)]
          exact ⟨_, rfl, m, rfl, f⟩)
      refine agree_q (m1 := m2) (m2 := m4) (r := nI (bm (fun v => okA S (lWP P z v) w) 7)) hs hA hC hM ?_ (QC.of hs (fun a ha => f2 a (by omega))) ?_ (QM.of (fun a z1 _ _ _ => f4 a z1)) (fun a ha => f4 a (by omega))
      · unfold f_X6_letters
        rw [squarec_1 hO hC.1 hz, rd_e z rfl (by omega) (by decide) (hC.1.2.1 z (by omega)), h0]
        simp only [ob]
        rw [if_neg (by decide), if_pos nI_0, e1]
        simp only
        rw [e2]
      · unfold f_X7_letters
        rw [square7_1 hO hM2.1 hz, rd_e z rfl (by omega) (by decide) (hM2.1.2.1 z (by omega)), h0]
        simp only [ob]
        rw [if_neg (by decide), if_neg (by decide), e4]
  · refine agree_0 hs hA hC hM (r := -1) ?_ ?_
    · unfold f_X6_letters
      rw [squarec_0 hO hC.1 hl]
      rfl
    · unfold f_X7_letters
      rw [square7_0 hO hM.1 hl]
      rfl
end TLD2
