/-! who sends, and how much it counts -/
def amt (S : Sh) (P : Pa) (may : Nat → Bool) (i : Nat) : Nat :=
  if may i && sendB S P i then (if skd S i = 1 then 2 else if skd S i = 2 then 1 + vowN S (P.2.2 i) else if skd S i = 3 then 3 else if skd S i = 4 then cnt (fun j => (may j && sendB S P j) && (P.2.1 j == P.2.1 i && P.2.2 j == P.2.2 i)) i + 1 else 1) else 0
theorem amt_pos {S : Sh} {P : Pa} {may : Nat → Bool} {i : Nat} : 0 < amt S P may i ↔ (may i && sendB S P i) = true := by
  unfold amt
  by_cases h : (may i && sendB S P i) = true
  · rw [if_pos h]
    refine ⟨fun _ => h, fun _ => ?_⟩
    split
    · decide
    · split
      · omega
      · split
        · decide
        · split <;> omega
  · rw [if_neg h]
    exact ⟨fun z => absurd z (Nat.lt_irrefl _), fun z => absurd z h⟩
theorem vowN_le {S : Sh} (hO : SOK S) {w : Nat} (hw : w < sW S) : vowN S w ≤ 4 := by
  have h1 := cnt_le (fun k => swd S w k == 1 || swd S w k == 5) (swl S w)
  have h2 := (hO.wl hw).2
  unfold vowN
  omega
theorem amt_le {S : Sh} (hO : SOK S) {P : Pa} (hP : POK S P) {may : Nat → Bool} {i : Nat} (hi : i < 6) : amt S P may i ≤ 10 := by
  have h1 := vowN_le hO (hP.2.2 i hi).2
  have h2 := cnt_le (fun j => (may j && sendB S P j) && (P.2.1 j == P.2.1 i && P.2.2 j == P.2.2 i)) i
  unfold amt
  split
  · split
    · decide
    · split
      · omega
      · split
        · decide
        · split <;> omega
  · omega
theorem wrK_id {mem : Mem} {a : Nat} {v : Nat → Nat} {j : Nat} : ∀ i, j < i → wrK mem a (fun k => k) v i a j = nI (v j) := by
  intro i
  induction i with
  | zero => intro h; exact absurd h (Nat.not_lt_zero _)
  | succ i ih =>
    intro h
    unfold wrK
    rw [mset_at]
    by_cases hj : j = i
    · subst hj; simp
    · rw [if_neg (by intro z; exact hj z.2), ih (by omega)]
section MSN
variable {S : Sh} {o s t : Nat} {mem : Mem} {P : Pa} {w : Nat}
theorem vowels_e (hO : SOK S) (hM : MS S mem) (hw : w < sW S) : f_X7_vowels (nI w) mem = some (nI (vowN S w)) := by
  have hw9 := hO.w9
  have hwl := hO.wl hw
  obtain ⟨d1, d2⟩ := hM.2.2.2.1 w hw
  unfold f_X7_vowels
  rw [show ((0 : Int32), (0 : Int32)) = (fun i => (nI (cnt (fun k => swd S w k == 1 || swd S w k == 5) i), nI i)) 0 from rfl, lp_FU (fun i => (nI (cnt (fun k => swd S w k == 1 || swd S w k == 5) i), nI i)) (swl S w) (r := (nI (vowN S w), nI (swl S w))) (by omega)]
  · rfl
  · intro k hk
    have h6 := hO.wd6 hw k
    unfold f_X7_vowels_b4
    rw [rd_e w rfl (by omega) (by decide) d1, if_neg (nI_ge hk (by omega)), rd_e (4 * w + k) (by rw [i_lit 4, pk_mul, nI_add]) (by omega) (by decide) (d2 k (by omega))]
    simp only [lt', nI_1, cnt]
    by_cases h1 : swd S w k = 1
    · rw [if_pos (show nI (swd S w k) = 1 by rw [h1]; rfl), if_pos (by simp [h1])]
    · rw [if_neg (show ¬ nI (swd S w k) = 1 from lit_ne h1 (by omega) (by decide)), rd_e (4 * w + k) (by rw [i_lit 4, pk_mul, nI_add]) (by omega) (by decide) (d2 k (by omega))]
      by_cases h5 : swd S w k = 5
      · rw [if_pos (show nI (swd S w k) = 5 by rw [h5]; rfl), if_pos (by simp [h5])]
      · rw [if_neg (show ¬ nI (swd S w k) = 5 from lit_ne h5 (by omega) (by decide)), if_neg (by simp [h1, h5]), i_lit 0, nI_add]
  · unfold f_X7_vowels_b4 vowN
    rw [rd_e w rfl (by omega) (by decide) d1, if_pos (nI_le (Nat.le_refl _) (by omega))]
theorem isSending_e (hO : SOK S) (hM : MS S mem) (hP : POK S P) (hT : MP P o mem) {i : Nat} (hi : i < sN S) : f_X7_isSending o (nI i) mem = some (b2i (sendB S P i)) := by
  have hn := hO.n6
  have hp8 := hO.p8
  obtain ⟨b1, b2⟩ := hP.2.2 i (by omega)
  obtain ⟨t1, t2⟩ := hT.2 i (by omega)
  have hk := hO.2.2.2.2.2.2.2.2 i hi
  unfold f_X7_isSending
  rw [rd_e (16 + 2 * i) (by rw [i_lit 16, i_lit 2, pk_mul, nI_add]) (by omega) (by decide) t1, isPlace7 hO hM (by omega)]
  simp only [ob]
  unfold sendB
  by_cases hp : P.2.1 i < sP S
  · rw [decide_eq_true hp, if_neg (show ¬ b2i true = 0 by decide), rd_e (16 + 2 * i + 1) (by rw [i_lit 16, i_lit 2, pk_mul, nI_add, nI_1]) (by omega) (by decide) t2, isFit_e hO hM hT.1 hP.1 hp b2]
    simp only [Bool.true_and]
    cases hf : fitB S P.1 (P.2.1 i) (P.2.2 i) with
    | false => rfl
    | true =>
      rw [if_neg (show ¬ b2i true = 0 by decide), rd_e i rfl (by omega) (by decide) (hM.2.2.2.2 i hi)]
      have hlow := fit_open hp hf
      by_cases h3 : skd S i = 3
      · rw [h3, if_pos (show nI 3 = 3 from rfl), lowest_e hO hM hT.1 hP.1, if_pos (show lowP S P.1 < sP S by omega)]
        simp only
        by_cases he : P.2.1 i = lowP S P.1
        · rw [if_pos (by rw [he])]
          simp [he, b2i]
        · rw [if_neg (lit_ne he (by omega) (by omega))]
          simp [he, b2i]
      · rw [if_neg (show ¬ nI (skd S i) = 3 from lit_ne h3 (by omega) (by decide))]
        simp [h3, b2i]
  · rw [decide_eq_false hp]
    rfl
theorem isWanted_e (hT : CP P t mem) (hP : POK S P) (hw9 : sW S ≤ 9) {i p w : Nat} (hi : i < 6) (hp : p < 2 ^ 30) (hw : w < 2 ^ 30) : f_X0_isWanted t (nI i) (nI p) (nI w) mem = some (b2i (P.2.1 i == p && P.2.2 i == w)) := by
  obtain ⟨b1, b2⟩ := hP.2.2 i hi
  obtain ⟨t1, t2⟩ := hT.2 i hi
  unfold f_X0_isWanted
  rw [rd_e i rfl hi (by decide) t1]
  by_cases h1 : P.2.1 i = p
  · rw [if_pos (by rw [h1]), rd_e i rfl hi (by decide) t2]
    by_cases h2 : P.2.2 i = w
    · rw [if_pos (by rw [h2])]
      simp [h1, h2, b2i]
    · rw [if_neg (lit_ne h2 (by omega) (by omega))]
      simp [h2, b2i]
  · rw [if_neg (lit_ne h1 (by omega) (by omega))]
    simp [h1, b2i]
/-- the class: what each counts -/
theorem ahead_e (hO : SOK S) (hP : POK S P) (hT : CP P t mem) {may : Nat → Bool} {i : Nat} (hi : i < 6) (hA : ∀ j, j < i → mem 40 j = nI (amt S P may j)) : f_X3_sendersAhead t (nI i) mem = some (nI (cnt (fun j => (may j && sendB S P j) && (P.2.1 j == P.2.1 i && P.2.2 j == P.2.2 i)) i)) := by
  have hw9 := hO.w9
  obtain ⟨b1, b2⟩ := hP.2.2 i hi
  obtain ⟨t1, t2⟩ := hT.2 i hi
  unfold f_X3_sendersAhead
  rw [show ((0 : Int32), (0 : Int32)) = (fun n => (nI (cnt (fun j => (may j && sendB S P j) && (P.2.1 j == P.2.1 i && P.2.2 j == P.2.2 i)) n), nI n)) 0 from rfl, lp_FU (fun n => (nI (cnt (fun j => (may j && sendB S P j) && (P.2.1 j == P.2.1 i && P.2.2 j == P.2.2 i)) n), nI n)) i (r := (nI (cnt (fun j => (may j && sendB S P j) && (P.2.1 j == P.2.1 i && P.2.2 j == P.2.2 i)) i), nI i)) (by omega)]
  · rfl
  · intro j hj
    have ha := amt_le hO hP (may := may) (show j < 6 by omega)
    unfold f_X3_sendersAhead_b5
    rw [if_neg (nI_ge hj (by omega)), rd_e j rfl (by omega) (by decide) (hA j hj)]
    simp only [lt', nI_1, cnt]
    by_cases h0 : (may j && sendB S P j) = true
    · have hpos := amt_pos.mpr h0
      rw [if_neg (nI_nle hpos (by omega)), rd_e i rfl hi (by decide) t1, rd_e i rfl hi (by decide) t2, isWanted_e hT hP hw9 (by omega) (by omega) (by omega)]
      simp only [ob, h0, Bool.true_and]
      cases (P.2.1 j == P.2.1 i && P.2.2 j == P.2.2 i) <;> rfl
    · have hz : amt S P may j = 0 := by
        have := mt amt_pos.mp h0
        omega
      have h0 : (may j && sendB S P j) = false := by simpa using h0
      rw [hz, if_pos (by decide), if_neg (by simp [h0])]
      rfl
  · unfold f_X3_sendersAhead_b5
    rw [if_pos (nI_le (Nat.le_refl _) (by omega))]
theorem amountOf_e (hO : SOK S) (hC : CS S s mem) (hP : POK S P) (hT : CP P t mem) {may : Nat → Bool} {i : Nat} (hi : i < sN S) (hs : (may i && sendB S P i) = true) (hA : ∀ j, j < i → mem 40 j = nI (amt S P may j)) : f_X3_amountOf s t (nI i) mem = some (nI (amt S P may i)) := by
  have hn := hO.n6
  have hk := hO.2.2.2.2.2.2.2.2 i hi
  obtain ⟨b1, b2⟩ := hP.2.2 i (by omega)
  obtain ⟨t1, t2⟩ := hT.2 i (by omega)
  unfold f_X3_amountOf amt
  rw [rd_e i rfl (by omega) (by decide) (hC.2.2.2.2.2.2 i hi), if_pos hs]
  by_cases h1 : skd S i = 1
  · rw [if_pos (show nI (skd S i) = 1 by rw [h1]; rfl), if_pos h1]
    rfl
  · rw [if_neg (show ¬ nI (skd S i) = 1 from lit_ne h1 (by omega) (by decide)), if_neg h1]
    by_cases h2 : skd S i = 2
    · rw [if_pos (show nI (skd S i) = 2 by rw [h2]; rfl), if_pos h2, rd_e i rfl (by omega) (by decide) t2, vowelsIn_e hO hC b2]
      simp only [ob, lt']
      rw [i_lit 1, nI_add]
    · rw [if_neg (show ¬ nI (skd S i) = 2 from lit_ne h2 (by omega) (by decide)), if_neg h2]
      by_cases h3 : skd S i = 3
      · rw [if_pos (show nI (skd S i) = 3 by rw [h3]; rfl), if_pos h3]
        rfl
      · rw [if_neg (show ¬ nI (skd S i) = 3 from lit_ne h3 (by omega) (by decide)), if_neg h3]
        by_cases h4 : skd S i = 4
        · rw [if_pos (show nI (skd S i) = 4 by rw [h4]; rfl), if_pos h4, ahead_e hO hP hT (by omega) hA]
          simp only [ob, lt']
          rw [i_lit 1, nI_add, Nat.add_comm]
        · rw [if_neg (show ¬ nI (skd S i) = 4 from lit_ne h4 (by omega) (by decide)), if_neg h4]
          rfl
theorem CS.keep {mem' : Mem} (h : CS S s mem) (hk : ∀ a, s ≤ a → a ≤ s + 9 → mem' a = mem a) : CS S s mem' := by
  obtain ⟨⟨a1, a2, a3, a4, a5⟩, b, c, d, e, f, g⟩ := h
  rw [CS, hk s (by omega) (by omega), hk (s + 1) (by omega) (by omega), hk (s + 2) (by omega) (by omega), hk (s + 3) (by omega) (by omega), hk (s + 4) (by omega) (by omega), hk (s + 5) (by omega) (by omega), hk (s + 6) (by omega) (by omega), hk (s + 7) (by omega) (by omega), hk (s + 8) (by omega) (by omega), hk (s + 9) (by omega) (by omega)]
  exact ⟨⟨a1, a2, a3, a4, a5⟩, b, c, d, e, f, g⟩
theorem CP.keep {mem' : Mem} (h : CP P t mem) (hk : ∀ a, t + 1 ≤ a → a ≤ t + 3 → mem' a = mem a) : CP P t mem' := by
  rw [CP, hk (t + 1) (by omega) (by omega), hk (t + 2) (by omega) (by omega), hk (t + 3) (by omega) (by omega)]
  exact h
theorem MP.keep {mem' : Mem} (h : MP P o mem) (hk : mem' o = mem o) : MP P o mem' := by
  rw [MP, hk]
  exact h
theorem MS.keep {mem' : Mem} (h : MS S mem) (h62 : ∀ k, 14 ≤ k → k ≤ 18 → mem' 62 k = mem 62 k) (hk : ∀ a, 70 ≤ a → a ≤ 76 → mem' a = mem a) : MS S mem' := by
  obtain ⟨⟨a1, a2, a3, a4, a5⟩, b, c, d, e⟩ := h
  rw [MS, h62 14 (by decide) (by decide), h62 15 (by decide) (by decide), h62 16 (by decide) (by decide), h62 17 (by decide) (by decide), h62 18 (by decide) (by decide), hk 70 (by decide) (by decide), hk 71 (by decide) (by decide), hk 72 (by decide) (by decide), hk 73 (by decide) (by decide), hk 74 (by decide) (by decide), hk 75 (by decide) (by decide), hk 76 (by decide) (by decide)]
  exact ⟨⟨a1, a2, a3, a4, a5⟩, b, c, d, e⟩
theorem b2i_nz {b : Bool} : (¬ b2i b = 0) ↔ b = true := by cases b <;> simp [b2i]
theorem send_e (hO : SOK S) (hC : CS S s mem) (hP : POK S P) (hT : CP P t mem) (hs9 : s + 9 < 40) (ht3 : t + 3 < 40 ∨ 40 < t + 1) {l : Int32} {may : Nat → Bool} (hl : ∀ i, i < 6 → (l >>> (nI i &&& 31)) &&& 1 = b2i (may i)) : f_X3_send s t l mem = some (wrK mem 40 (fun k => k) (amt S P may) (sN S)) := by
  have hn := hO.n6
  unfold f_X3_send
  rw [show ((0 : Int32), mem) = (fun i => (nI i, wrK mem 40 (fun k => k) (amt S P may) i)) 0 from rfl, lp_FU (fun i => (nI i, wrK mem 40 (fun k => k) (amt S P may) i)) (sN S) (r := (nI (sN S), wrK mem 40 (fun k => k) (amt S P may) (sN S))) (by omega)]
  · rfl
  · intro i hi
    have hne : ∀ a, a ≠ 40 → wrK mem 40 (fun k => k) (amt S P may) i a = mem a := fun a h => wrK_ne h i
    have hC' := hC.keep (mem' := wrK mem 40 (fun k => k) (amt S P may) i) (fun a _ _ => hne a (by omega))
    have hT' := hT.keep (mem' := wrK mem 40 (fun k => k) (amt S P may) i) (fun a _ _ => hne a (by omega))
    have hA : ∀ j, j < i → wrK mem 40 (fun k => k) (amt S P may) i 40 j = nI (amt S P may j) := fun j hj => wrK_id i hj
    unfold f_X3_send_b3
    simp only
    rw [hC'.1.2.2.2.2, if_neg (nI_ge hi (by omega)), hl i (by omega)]
    have hz : (may i && sendB S P i) = false → mset (wrK mem 40 (fun k => k) (amt S P may) i) 40 i 0 = wrK mem 40 (fun k => k) (amt S P may) (i + 1) := by
      intro h
      have : amt S P may i = 0 := by unfold amt; rw [h]; rfl
      rw [wrK, this]
      rfl
    cases hm : may i with
    | false =>
      rw [if_pos (by rfl)]
      unfold f_X3_send_j26
      rw [if_pos rfl, wr_nI (by omega) (by decide)]
      simp only [lt', nI_1]
      rw [hz (by rw [hm]; rfl)]
    | true =>
      rw [if_neg (by decide)]
      unfold f_X3_send_j26
      rw [if_neg (by decide), sends_e hO hC' hP hT' hi]
      simp only [ob]
      cases hs : sendB S P i with
      | false =>
        rw [if_pos (by rfl), wr_nI (by omega) (by decide)]
        simp only [lt', nI_1]
        rw [hz (by rw [hs, Bool.and_false])]
      | true =>
        rw [if_neg (by decide), amountOf_e hO hC' hP hT' hi (by rw [hm, hs]; rfl) hA]
        simp only
        rw [wr_nI (by omega) (by decide)]
        simp only [lt', nI_1]
        rfl
  · unfold f_X3_send_b3
    simp only
    rw [(hC.keep (mem' := wrK mem 40 (fun k => k) (amt S P may) (sN S)) (fun a _ _ => wrK_ne (by omega) _)).1.2.2.2.2, if_pos (nI_le (Nat.le_refl _) (by omega))]
end MSN
