/-! the reference: what each counts -/
section CNT
variable {S : Sh} {o : Nat} {mem : Mem} {P : Pa}
theorem has_e {l : Int32} {b : Bool} {i : Nat} (h : (l >>> (nI i &&& 31)) &&& 1 = b2i b) : f_X7_has l (nI i) = some (b2i b) := by
  unfold f_X7_has
  rw [h]
  cases b <;> rfl
theorem ahead7 (hO : SOK S) (hP : POK S P) (hT : MP P o mem) {may : Nat → Bool} {i : Nat} {l : Int32} (hi : i < 6) (hA : ∀ j, j < i → mem 79 j = nI (amt S P may j)) : lp (f_X7_layCounted_b40 o l (nI i) mem) FU (0, 0) = some (nI (cnt (fun j => (may j && sendB S P j) && (P.2.1 j == P.2.1 i && P.2.2 j == P.2.2 i)) i), nI i) := by
  have hw9 := hO.w9
  obtain ⟨b1, b2⟩ := hP.2.2 i hi
  obtain ⟨t1, t2⟩ := hT.2 i hi
  refine lp_FU (fun n => (nI (cnt (fun j => (may j && sendB S P j) && (P.2.1 j == P.2.1 i && P.2.2 j == P.2.2 i)) n), nI n)) i (by omega) ?_ ?_
  · intro j hj
    have ha := amt_le hO hP (may := may) (show j < 6 by omega)
    obtain ⟨b3, b4⟩ := hP.2.2 j (by omega)
    obtain ⟨t3, t4⟩ := hT.2 j (by omega)
    have fin : ∀ b : Bool, (P.2.1 j == P.2.1 i && P.2.2 j == P.2.2 i) = b → f_X7_layCounted_j95 o l (nI i) (nI (cnt (fun j => (may j && sendB S P j) && (P.2.1 j == P.2.1 i && P.2.2 j == P.2.2 i)) j)) (nI j) (b2i b) mem = some (.inl (nI (cnt (fun j => (may j && sendB S P j) && (P.2.1 j == P.2.1 i && P.2.2 j == P.2.2 i)) (j + 1)), nI (j + 1))) := by
      intro b hb
      unfold f_X7_layCounted_j95
      rw [rd_e j rfl (by omega) (by decide) (hA j hj)]
      simp only [lt', nI_1, cnt, hb]
      by_cases h0 : (may j && sendB S P j) = true
      · have hpos := amt_pos.mpr h0
        rw [if_neg (nI_nle hpos (by omega)), h0]
        cases b with
        | false => rw [if_pos (by rfl), i_lit 0, nI_add]; rfl
        | true => rw [if_neg (by decide)]; rfl
      · have hz : amt S P may j = 0 := by
          have := mt amt_pos.mp h0
          omega
        rw [hz, if_pos (by decide), if_neg (by simp [h0]), i_lit 0, nI_add]
    unfold f_X7_layCounted_b40
    rw [if_neg (nI_ge hj (by omega)), rd_e (16 + 2 * j) (by rw [i_lit 16, i_lit 2, pk_mul, nI_add]) (by omega) (by decide) t3, rd_e (16 + 2 * i) (by rw [i_lit 16, i_lit 2, pk_mul, nI_add]) (by omega) (by decide) t1]
    by_cases h1 : P.2.1 j = P.2.1 i
    · rw [if_pos (by rw [h1]), rd_e (16 + 2 * j + 1) (by rw [i_lit 16, i_lit 2, pk_mul, nI_add, nI_1]) (by omega) (by decide) t4, rd_e (16 + 2 * i + 1) (by rw [i_lit 16, i_lit 2, pk_mul, nI_add, nI_1]) (by omega) (by decide) t2]
      by_cases h2 : P.2.2 j = P.2.2 i
      · rw [if_pos (by rw [h2])]
        exact fin true (by simp [h1, h2])
      · rw [if_neg (lit_ne h2 (by omega) (by omega))]
        exact fin false (by simp [h2])
    · rw [if_neg (lit_ne h1 (by omega) (by omega))]
      exact fin false (by simp [h1])
  · unfold f_X7_layCounted_b40
    rw [if_pos (nI_le (Nat.le_refl _) (by omega))]
theorem layCounted_e (hO : SOK S) (hM : MS S mem) (hP : POK S P) (ho : o = 77 ∨ o = 78) (hT : MP P o mem) {l : Int32} {may : Nat → Bool} (hl : ∀ i, i < 6 → (l >>> (nI i &&& 31)) &&& 1 = b2i (may i)) : f_X7_layCounted o l mem = some (wrK mem 79 (fun k => k) (amt S P may) (sN S)) := by
  have hn := hO.n6
  unfold f_X7_layCounted
  rw [show ((0 : Int32), mem) = (fun i => (nI i, wrK mem 79 (fun k => k) (amt S P may) i)) 0 from rfl, lp_FU (fun i => (nI i, wrK mem 79 (fun k => k) (amt S P may) i)) (sN S) (r := (nI (sN S), wrK mem 79 (fun k => k) (amt S P may) (sN S))) (by omega)]
  · rfl
  · intro i hi
    have hk := hO.2.2.2.2.2.2.2.2 i hi
    obtain ⟨b1, b2⟩ := hP.2.2 i (by omega)
    generalize hm' : mset (wrK mem 79 (fun k => k) (amt S P may) i) 79 i 0 = m'
    have hne : ∀ a, a ≠ 79 → m' a = mem a := fun a h => by rw [← hm', mset_ne h, wrK_ne h]
    have hM' := hM.keep (mem' := m') (fun k _ _ => by rw [hne 62 (by decide)]) (fun a _ _ => hne a (by omega))
    have hT' := hT.keep (mem' := m') (hne o (by omega))
    have hA : ∀ j, j < i → m' 79 j = nI (amt S P may j) := fun j hj => by rw [← hm', mset_k (by omega), wrK_id i hj]
    have hz : (may i && sendB S P i) = false → m' = wrK mem 79 (fun k => k) (amt S P may) (i + 1) := by
      intro h
      have : amt S P may i = 0 := by unfold amt; rw [h]; rfl
      rw [← hm', wrK, this]
      rfl
    have hv : ∀ v, amt S P may i = v → mset m' 79 i (nI v) = wrK mem 79 (fun k => k) (amt S P may) (i + 1) := by
      intro v hv
      rw [← hm', mset2, wrK, hv]
    unfold f_X7_layCounted_b2
    simp only
    rw [wrK_ne (by decide), hM.1.2.2.2.2, if_neg (nI_ge hi (by omega)), wr_nI (by omega) (by decide), hm', has_e (hl i (by omega))]
    simp only [ob]
    cases hmy : may i with
    | false =>
      rw [if_pos (by rfl)]
      simp only [lt', nI_1]
      rw [hz (by rw [hmy]; rfl)]
    | true =>
      rw [if_neg (by decide), isSending_e hO hM' hP hT' hi]
      simp only
      cases hs : sendB S P i with
      | false =>
        rw [if_pos (by rfl)]
        simp only [lt', nI_1]
        rw [hz (by rw [hs, Bool.and_false])]
      | true =>
        have hs2 : (may i && sendB S P i) = true := by rw [hmy, hs]; rfl
        rw [if_neg (by decide), ahead7 hO hP hT' (by omega) hA]
        simp only
        rw [rd_e i rfl (by omega) (by decide) (hM'.2.2.2.2 i hi)]
        have ha : amt S P may i = (if skd S i = 1 then 2 else if skd S i = 2 then 1 + vowN S (P.2.2 i) else if skd S i = 3 then 3 else if skd S i = 4 then cnt (fun j => (may j && sendB S P j) && (P.2.1 j == P.2.1 i && P.2.2 j == P.2.2 i)) i + 1 else 1) := by
          rw [amt, if_pos hs2]
        by_cases h1 : skd S i = 1
        · rw [if_pos (show nI (skd S i) = 1 by rw [h1]; rfl), wr_nI (by omega) (by decide)]
          simp only [lt', nI_1]
          rw [i_lit 2, hv 2 (by rw [ha, if_pos h1])]
        · rw [if_neg (show ¬ nI (skd S i) = 1 from lit_ne h1 (by omega) (by decide))]
          rw [if_neg h1] at ha
          by_cases h2 : skd S i = 2
          · rw [if_pos (show nI (skd S i) = 2 by rw [h2]; rfl), rd_e (16 + 2 * i + 1) (by rw [i_lit 16, i_lit 2, pk_mul, nI_add, nI_1]) (by omega) (by decide) (hT'.2 i (by omega)).2, vowels_e hO hM' b2]
            simp only
            rw [wr_nI (by omega) (by decide)]
            simp only [lt', nI_1]
            rw [i_lit 1, nI_add, hv _ (by rw [ha, if_pos h2])]
          · rw [if_neg (show ¬ nI (skd S i) = 2 from lit_ne h2 (by omega) (by decide))]
            rw [if_neg h2] at ha
            by_cases h3 : skd S i = 3
            · rw [if_pos (show nI (skd S i) = 3 by rw [h3]; rfl), wr_nI (by omega) (by decide)]
              simp only [lt', nI_1]
              rw [i_lit 3, hv 3 (by rw [ha, if_pos h3])]
            · rw [if_neg (show ¬ nI (skd S i) = 3 from lit_ne h3 (by omega) (by decide))]
              rw [if_neg h3] at ha
              by_cases h4 : skd S i = 4
              · rw [if_pos (show nI (skd S i) = 4 by rw [h4]; rfl), wr_nI (by omega) (by decide)]
                simp only [lt', nI_1]
                rw [hv _ (by rw [ha, if_pos h4])]
              · rw [if_neg (show ¬ nI (skd S i) = 4 from lit_ne h4 (by omega) (by decide)), wr_nI (by omega) (by decide)]
                simp only [lt', nI_1]
                rw [i_lit 1, hv 1 (by rw [ha, if_neg h4])]
  · unfold f_X7_layCounted_b2
    simp only
    rw [wrK_ne (by decide), hM.1.2.2.2.2, if_pos (nI_le (Nat.le_refl _) (by omega))]
end CNT
