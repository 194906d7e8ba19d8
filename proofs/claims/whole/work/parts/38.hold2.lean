section HOLD2
variable {S : Sh} {s t : Nat} {P : Pa}
def dropB (W : Nat → Bool) (m : Nat) : Nat → Bool := fun i => if i = m then false else W i
def HI (S : Sh) (s t : Nat) (P : Pa) (may : Nat → Bool) (mem0 : Mem) (W F : Nat → Bool) (q : Ev) (m : Mem) : Prop := CS S s m ∧ CP (q.1, P.2.1, P.2.2) t m ∧ POK S (q.1, P.2.1, P.2.2) ∧ RW S P (amt S P may) W F m ∧ (∀ i, i < sN S → W i = true → (may i && sendB S P i) = true) ∧ (∀ a, q.2.1 a = true ↔ ∃ i, i < sN S ∧ F i = true ∧ atN P i = a) ∧ ∀ a, a ≠ 40 → a ≠ 41 → a ≠ 42 → a ≠ 43 → a ≠ t + 1 → m a = mem0 a
theorem key_mod (hP : POK S P) (hO : SOK S) {a : Nat → Nat} {i : Nat} (hi : i < 6) : keyN S P a i % 72 = atN P i ∧ atN P i / 9 = P.2.1 i ∧ atN P i % 9 = P.2.2 i := by
  have hw9 := hO.w9
  obtain ⟨b1, b2⟩ := hP.2.2 i hi
  unfold keyN atN
  generalize 100 - totN S P a (P.2.1 i) (P.2.2 i) = c
  omega
theorem evT_key (hP : POK S P) (hO : SOK S) {a : Nat → Nat} {i : Nat} (hi : i < 6) (q : Ev) : evT S q (keyN S P a i) = if fitB S q.1 (P.2.1 i) (P.2.2 i) then (wrN q.1 (ssq S (P.2.1 i)) (swd S (P.2.2 i)) (spl S (P.2.1 i)), (fun x => if x = atN P i then true else q.2.1 x), q.2.2 + 1) else q := by
  obtain ⟨k1, k2, k3⟩ := key_mod (a := a) hP hO hi
  unfold evT
  rw [k1, k2, k3]
theorem send_np {may : Nat → Bool} {i : Nat} (h : (may i && sendB S P i) = true) : P.2.1 i < sP S := by
  unfold sendB at h
  simp only [Bool.and_eq_true, decide_eq_true_eq] at h
  exact h.2.1.1
theorem printNext_e (hO : SOK S) (hP0 : POK S P) (hs : s + 9 < t) (ht : t + 3 < 40) {may : Nat → Bool} {mem0 : Mem} {W F : Nat → Bool} {q : Ev} {m : Mem} (h : HI S s t P may mem0 W F q m) :
    ∃ (r : Bool) (m' : Mem) (W' F' : Nat → Bool) (q' : Ev), f_X3_printNext s t m = some (b2i r, m') ∧ HI S s t P may mem0 W' F' q' m' ∧ q'.2.2 = q.2.2 + b2n r ∧ ∀ j, turns (evT S) (keyN S P (amt S P may)) (sN S) (j + 1) W q = turns (evT S) (keyN S P (amt S P may)) (sN S) j W' q' := by
  have hn := hO.n6
  have hw9 := hO.w9
  obtain ⟨hC, hT, hP, hR, hW, hF, hfr⟩ := h
  unfold f_X3_printNext
  rw [nextInTurn_e hO hC hP0 hT.2 hR]
  simp only [ob]
  cases hp : pick W (keyN S P (amt S P may)) (sN S) with
  | none =>
    refine ⟨false, m, W, F, q, ?_, ⟨hC, hT, hP, hR, hW, hF, hfr⟩, rfl, fun j => ?_⟩
    · rw [if_neg (show ¬ (0 : Int32) ≤ oI none by decide)]
      rfl
    · rw [turns, hp]
  | some k =>
    obtain ⟨g1, g2, g3⟩ := pick_some _ k hp
    have hk6 : k < 6 := by omega
    obtain ⟨b1, b2⟩ := hP0.2.2 k hk6
    have hnp := send_np (hW k g1 g2)
    have hkey := evT_key (a := amt S P may) hP0 hO hk6 q
    -- the one that waits no more
    generalize hm1 : mset m 42 k 0 = m1
    have hne : ∀ a, a ≠ 42 → m1 a = m a := fun a h => by rw [← hm1, mset_ne h]
    have hC1 := hC.keep (mem' := m1) (fun a _ _ => hne a (by omega))
    have hT1 := hT.keep (mem' := m1) (fun a _ _ => hne a (by omega))
    have hR1 : RW S P (amt S P may) (dropB W k) F m1 := by
      intro i hi
      obtain ⟨r1, r2, r3, r4⟩ := hR i hi
      refine ⟨by rw [hne 40 (by decide)]; exact r1, by rw [hne 41 (by decide)]; exact r2, ?_, by rw [hne 43 (by decide)]; exact r4⟩
      rw [← hm1, mset_at]
      unfold dropB
      by_cases he : i = k
      · rw [if_pos ⟨rfl, he⟩, if_pos he]; rfl
      · rw [if_neg (fun z => he z.2), if_neg he]; exact r3
    have hW1 : ∀ i, i < sN S → dropB W k i = true → (may i && sendB S P i) = true := by
      intro i hi hw
      unfold dropB at hw
      by_cases he : i = k
      · rw [if_pos he] at hw; cases hw
      · rw [if_neg he] at hw; exact hW i hi hw
    have hfr1 : ∀ a, a ≠ 40 → a ≠ 41 → a ≠ 42 → a ≠ 43 → a ≠ t + 1 → m1 a = mem0 a := fun a h1 h2 h3 h4 h5 => by rw [hne a h3]; exact hfr a h1 h2 h3 h4 h5
    have htu : ∀ j, turns (evT S) (keyN S P (amt S P may)) (sN S) (j + 1) W q = turns (evT S) (keyN S P (amt S P may)) (sN S) j (dropB W k) (evT S q (keyN S P (amt S P may) k)) := fun j => by rw [turns, hp]; rfl
    rw [if_pos (show (0 : Int32) ≤ oI (some k) from nI_pos' (by omega)), show oI (some k) = nI k from rfl, wr_nI hk6 (by decide), nar0, hm1, rd_e k rfl hk6 (by decide) (hT1.2 k hk6).1, rd_e k rfl hk6 (by decide) (hT1.2 k hk6).2, fits_e hO hC1 hT1.1 hP.1 b1 b2]
    simp only [decide_eq_true hnp, Bool.true_and]
    cases hf : fitB S q.1 (P.2.1 k) (P.2.2 k) with
    | false =>
      refine ⟨false, m1, dropB W k, F, q, by rw [if_pos (by rfl)]; rfl, ⟨hC1, hT1, hP, hR1, hW1, hF, hfr1⟩, rfl, fun j => ?_⟩
      rw [htu, hkey, hf]
      rfl
    | true =>
      have hlk : likeB S q.1 (P.2.1 k) (P.2.2 k) = true := by
        unfold fitB at hf
        rw [Bool.and_eq_true] at hf
        exact hf.1
      rw [if_neg (by decide), rd_e (P.2.2 k) rfl (by omega) (by decide) (hC1.2.2.2.1 _ b2).2, put_e hO hC1 ⟨by omega, by omega⟩ (Nat.lt_trans (scd_lt hO b2) (by decide)) (fun j hj => scd_dig hO b2 hj) hnp]
      simp only
      generalize hm2 : wrK m1 (t + 1) (ssq S (P.2.1 k)) (swd S (P.2.2 k)) (spl S (P.2.1 k)) = m2
      have hne2 : ∀ a, a ≠ t + 1 → m2 a = m1 a := fun a h => by rw [← hm2, wrK_ne h]
      rw [wr_nI hk6 (by decide), nar1]
      generalize hm3 : mset m2 43 k 1 = m3
      have hne3 : ∀ a, a ≠ 43 → m3 a = m2 a := fun a h => by rw [← hm3, mset_ne h]
      refine ⟨true, m3, dropB W k, (fun i => if i = k then true else F i), evT S q (keyN S P (amt S P may) k), rfl, ?_, ?_, htu⟩
      · rw [hkey, hf, if_pos rfl]
        refine ⟨hC1.keep (fun a _ _ => by rw [hne3 a (by omega), hne2 a (by omega)]), ⟨fun x hx => ?_, fun i hi => ?_⟩, ?_, ?_, hW1, ?_, ?_⟩
        · show m3 (t + 1) x = _
          rw [hne3 _ (by omega), ← hm2, wrK_at (hT1.1 x hx)]
        · rw [hne3 _ (by omega), hne2 _ (by omega), hne3 _ (by omega), hne2 _ (by omega)]
          exact hT1.2 i hi
        · exact POK.wr hO hP hnp (fun j hj => hO.wd6 b2 j)
        · intro i hi
          obtain ⟨r1, r2, r3, r4⟩ := hR1 i hi
          refine ⟨by rw [hne3 _ (by decide), hne2 _ (by omega)]; exact r1, by rw [hne3 _ (by decide), hne2 _ (by omega)]; exact r2, by rw [hne3 _ (by decide), hne2 _ (by omega)]; exact r3, ?_⟩
          show m3 43 i = b2i (if i = k then true else F i)
          rw [← hm3, mset_at]
          by_cases he : i = k
          · rw [if_pos ⟨rfl, he⟩, if_pos he]; rfl
          · rw [if_neg (fun z => he z.2), if_neg he, hne2 _ (by omega)]; exact r4
        · intro a
          simp only
          by_cases ha : a = atN P k
          · rw [if_pos ha]
            exact ⟨fun _ => ⟨k, g1, if_pos rfl, ha.symm⟩, fun _ => rfl⟩
          · rw [if_neg ha, hF a]
            constructor
            · rintro ⟨i, h1, h2, h3⟩
              refine ⟨i, h1, ?_, h3⟩
              by_cases he : i = k
              · rw [if_pos he]
              · rw [if_neg he]; exact h2
            · rintro ⟨i, h1, h2, h3⟩
              by_cases he : i = k
              · exact absurd (by rw [← h3, he]) ha
              · rw [if_neg he] at h2; exact ⟨i, h1, h2, h3⟩
        · intro a h1 h2 h3 h4 h5
          rw [hne3 a h4, hne2 a h5]
          exact hfr1 a h1 h2 h3 h4 h5
      · rw [hkey, hf]
        rfl
theorem hold_b10_e (hO : SOK S) {mem : Mem} (hC : CS S s mem) (hP : POK S P) (hT : CP P t mem) (hs : s + 9 < t) (ht : t + 3 < 40) {may : Nat → Bool} (hA : ∀ j, j < sN S → mem 40 j = nI (amt S P may j)) :
    ∃ m', lp (f_X3_hold_b10 s t) FU (0, mem) = some (nI (sN S), m') ∧ HI S s t P may mem (fun i => may i && sendB S P i) (fun _ => false) (P.1, (fun _ => false), 0) m' := by
  have hn := hO.n6
  have hw9 := hO.w9
  obtain ⟨r, hr, m', rfl, h1, h2⟩ := lp_invF (body := f_X3_hold_b10 s t) (fun i q => ∃ m, q = (nI i, m) ∧ (∀ j, j < i → m 41 j = nI (totN S P (amt S P may) (P.2.1 j) (P.2.2 j)) ∧ m 42 j = b2i (may j && sendB S P j) ∧ m 43 j = b2i false) ∧ ∀ a, a ≠ 41 → a ≠ 42 → a ≠ 43 → m a = mem a) (sN S) (fun r => ∃ m, r = (nI (sN S), m) ∧ (∀ j, j < sN S → m 41 j = nI (totN S P (amt S P may) (P.2.1 j) (P.2.2 j)) ∧ m 42 j = b2i (may j && sendB S P j) ∧ m 43 j = b2i false) ∧ ∀ a, a ≠ 41 → a ≠ 42 → a ≠ 43 → m a = mem a) (by omega) (q := (0, mem)) ⟨mem, rfl, fun j hj => absurd hj (Nat.not_lt_zero _), fun a _ _ _ => rfl⟩
    (fun i q hi hI => by
      obtain ⟨m, rfl, h1, h2⟩ := hI
      have hC' := hC.keep (mem' := m) (fun a _ _ => h2 a (by omega) (by omega) (by omega))
      have hT' := hT.keep (mem' := m) (fun a _ _ => h2 a (by omega) (by omega) (by omega))
      have hA' : ∀ j, j < sN S → m 40 j = nI (amt S P may j) := fun j hj => by rw [h2 40 (by decide) (by decide) (by decide)]; exact hA j hj
      obtain ⟨b1, b2⟩ := hP.2.2 i (by omega)
      have ha := amt_le hO hP (may := may) (show i < 6 by omega)
      refine Or.inl ?_
      unfold f_X3_hold_b10
      simp only
      rw [hC'.1.2.2.2.2, if_neg (nI_ge hi (by omega)), rd_e i rfl (by omega) (by decide) (hT'.2 i (by omega)).1, rd_e i rfl (by omega) (by decide) (hT'.2 i (by omega)).2, totalOf_e hO hC' hP hT' hA' (by omega) (by omega)]
      simp only [ob]
      rw [wr_nI (by omega) (by decide), rd_e i rfl (by omega) (by decide) (show mset m 41 i _ 40 i = nI (amt S P may i) by rw [mset_ne (by decide)]; exact hA' i hi)]
      have fin : ∀ b : Bool, (may i && sendB S P i) = b → ∃ q', (wr (mset m 41 i (nI (totN S P (amt S P may) (P.2.1 i) (P.2.2 i)))) 42 6 (nI i) (b2i b) fun m67 => wr m67 43 6 (nI i) (vp_nar .boolean 0) fun m75 => lt' (nI i + 1) fun v76 => some (Sum.inl (v76, m75))) = (some (Sum.inl q') : Option ((Int32 × Mem) ⊕ (Int32 × Mem))) ∧ ∃ m, q' = (nI (i + 1), m) ∧ (∀ j, j < i + 1 → m 41 j = nI (totN S P (amt S P may) (P.2.1 j) (P.2.2 j)) ∧ m 42 j = b2i (may j && sendB S P j) ∧ m 43 j = b2i false) ∧ ∀ a, a ≠ 41 → a ≠ 42 → a ≠ 43 → m a = mem a := by
        intro b hb
        rw [wr_nI (by omega) (by decide), wr_nI (by omega) (by decide), nar0]
        simp only [lt', nI_1]
        refine ⟨_, rfl, _, rfl, fun j hj => ?_, fun a z1 z2 z3 => ?_⟩
        · by_cases he : j = i
          · subst he
            refine ⟨?_, ?_, ?_⟩
            · rw [mset_ne (by decide), mset_ne (by decide), mset_eq]
            · rw [mset_ne (by decide), mset_eq, hb]
            · rw [mset_eq]; rfl
          · obtain ⟨c1, c2, c3⟩ := h1 j (by omega)
            refine ⟨?_, ?_, ?_⟩
            · rw [mset_ne (by decide), mset_ne (by decide), mset_k he]; exact c1
            · rw [mset_ne (by decide), mset_k he, mset_ne (by decide)]; exact c2
            · rw [mset_k he, mset_ne (by decide), mset_ne (by decide)]; exact c3
        · rw [mset_ne z3, mset_ne z2, mset_ne z1]
          exact h2 a z1 z2 z3
      cases hb : (may i && sendB S P i) with
      | false =>
        have hz : amt S P may i = 0 := by
          have := mt amt_pos.mp (show ¬ (may i && sendB S P i) = true by rw [hb]; decide)
          omega
        rw [hz, if_pos (by decide), nar0]
        exact fin false hb
      | true =>
        have hpos := amt_pos.mpr hb
        rw [if_neg (nI_nle hpos (by omega)), nar1]
        exact fin true hb)
    (fun q hI => by
      obtain ⟨m, rfl, h1, h2⟩ := hI
      have hC' := hC.keep (mem' := m) (fun a _ _ => h2 a (by omega) (by omega) (by omega))
      unfold f_X3_hold_b10
      simp only
      rw [hC'.1.2.2.2.2, if_pos (nI_le (Nat.le_refl _) (by omega))]
      exact ⟨_, rfl, m, rfl, h1, h2⟩)
  refine ⟨m', hr, hC.keep (fun a _ _ => h2 a (by omega) (by omega) (by omega)), hT.keep (fun a _ _ => h2 a (by omega) (by omega) (by omega)), hP, fun i hi => ?_, fun i _ h => h, fun a => ?_, fun a _ z1 z2 z3 _ => h2 a z1 z2 z3⟩
  · obtain ⟨c1, c2, c3⟩ := h1 i hi
    exact ⟨by rw [h2 40 (by decide) (by decide) (by decide)]; exact hA i hi, c1, c2, c3⟩
  · simp
/-- an evening of the class: what it leaves behind -/
theorem hold_e (hO : SOK S) {mem : Mem} (hC : CS S s mem) (hP : POK S P) (hT : CP P t mem) (hs : s + 9 < t) (ht : t + 3 < 40) {l : Int32} {may : Nat → Bool} (hl : ∀ i, i < 6 → (l >>> (nI i &&& 31)) &&& 1 = b2i (may i)) :
    ∃ m' W F, f_X3_hold s t l mem = some (nI (eveN S P may).2.2, m') ∧ HI S s t P may mem W F (eveN S P may) m' := by
  have hn := hO.n6
  have hw9 := hO.w9
  unfold f_X3_hold
  rw [send_e hO hC hP hT (by omega) (Or.inl ht) hl]
  simp only [ob]
  generalize hm1 : wrK mem 40 (fun k => k) (amt S P may) (sN S) = m1
  have hne1 : ∀ a, a ≠ 40 → m1 a = mem a := fun a h => by rw [← hm1, wrK_ne h]
  have hA1 : ∀ j, j < sN S → m1 40 j = nI (amt S P may j) := fun j hj => by rw [← hm1]; exact wrK_id _ hj
  obtain ⟨m2, e2, h2⟩ := hold_b10_e hO (hC.keep (mem' := m1) (fun a _ _ => hne1 a (by omega))) hP (hT.keep (mem' := m1) (fun a _ _ => hne1 a (by omega))) hs ht hA1
  rw [e2]
  simp only
  have hsc := turns_scan (evT S) (K := keyN S P (amt S P may)) (n := sN S) (T := 7200) (sN S) (fun i => may i && sendB S P i) (P.1, (fun _ => false), 0) (cnt_le _ _) (fun i hi hw => by
    have h1 := tot_pos hi hw
    obtain ⟨b1, b2⟩ := hP.2.2 i (by omega)
    obtain ⟨k1, k2, k3⟩ := key_mod (a := amt S P may) hP hO (show i < 6 by omega)
    refine ⟨?_, fun q => evT_id hO q (by rw [k1, k2]; exact send_np hw) (by rw [k1, k3]; exact b2)⟩
    unfold keyN atN
    omega)
  obtain ⟨r, hr, m3, W3, F3, rfl, h3⟩ := lp_invF (body := f_X3_hold_b88 s t) (fun j x => ∃ m W F q, x = (nI q.2.2, nI j, m) ∧ HI S s t P may m1 W F q m ∧ turns (evT S) (keyN S P (amt S P may)) (sN S) (sN S - j) W q = turns (evT S) (keyN S P (amt S P may)) (sN S) (sN S) (fun i => may i && sendB S P i) (P.1, (fun _ => false), 0)) (sN S) (fun r => ∃ m W F, r = (nI (eveN S P may).2.2, nI (sN S), m) ∧ HI S s t P may m1 W F (eveN S P may) m) (by omega) (q := (0, 0, m2)) ⟨m2, _, _, _, rfl, h2, rfl⟩
    (fun j x hj hI => by
      obtain ⟨m, W, F, q, rfl, hH, hq⟩ := hI
      obtain ⟨r, m', W', F', q', e1, e2, e3, e4⟩ := printNext_e hO hP hs ht hH
      refine Or.inl ⟨(nI q'.2.2, nI (j + 1), m'), ?_, m', W', F', q', rfl, e2, ?_⟩
      · unfold f_X3_hold_b88
        simp only
        rw [hH.1.1.2.2.2.2, if_neg (nI_ge hj (by omega)), e1]
        simp only [ob2, lt', nI_1, e3]
        cases r with
        | false => rw [if_pos (by rfl)]; rfl
        | true => rw [if_neg (by decide)]; rfl
      · rw [← hq, ← e4, show sN S - j = sN S - (j + 1) + 1 by omega])
    (fun x hI => by
      obtain ⟨m, W, F, q, rfl, hH, hq⟩ := hI
      rw [Nat.sub_self, turns] at hq
      have hq2 : q = eveN S P may := by
        rw [eveN, ← hsc, ← hq]
      subst hq2
      unfold f_X3_hold_b88
      simp only
      rw [hH.1.1.2.2.2.2, if_pos (nI_le (Nat.le_refl _) (by omega))]
      exact ⟨_, rfl, m, W, F, rfl, hH⟩)
  rw [hr]
  refine ⟨m3, W3, F3, rfl, h3.1, h3.2.1, h3.2.2.1, h3.2.2.2.1, h3.2.2.2.2.1, h3.2.2.2.2.2.1, fun a z1 z2 z3 z4 z5 => ?_⟩
  rw [h3.2.2.2.2.2.2 a z1 z2 z3 z4 z5]
  exact hne1 a z1
end HOLD2
