/-! the law's loop: every call answers alike, and all that stands stays -/
def LR (i : Nat) (o : Option (LSt ⊕ (LSt ⊕ Int32))) : Prop := ∃ (sh' sp' : Nat) (m' : Mem), o = some (.inl (nI (i + 5), sh', sp', m')) ∧ Inv sh' sp' m'
section LAW
variable {L i sh sp : Nat} {xs : Nat → Int32} {mem : Mem}
theorem LR.ite {c : Prop} [Decidable c] {A B : Option (LSt ⊕ (LSt ⊕ Int32))} (h1 : LR i A) (h2 : LR i B) : LR i (if c then A else B) := by
  by_cases h : c
  · rw [if_pos h]; exact h1
  · rw [if_neg h]; exact h2
theorem law_907 (h : Inv sh sp mem) : LR i (f_law_907 L xs (nI i) sh sp mem) := ⟨sh, sp, mem, by
  unfold f_law_907
  simp only [lt']
  rw [show nI i + 5 = nI (i + 5) from nI_add i 5], h⟩
theorem law_fin {fc fr : Mem → Option (Int32 × Mem)} (H : Agree sh sp fc fr mem) : LR i (ob2 (fc mem) fun r m => ob2 (fr m) fun r' m' => if r = r' then (f_law_907 L xs (nI i) sh sp m') else (some (.inr (.inr 0)))) := by
  obtain ⟨r, m1, m2, h1, h2, h3⟩ := H
  rw [h1]
  show LR i (ob2 (fr m1) fun r' m' => if r = r' then (f_law_907 L xs (nI i) sh sp m') else (some (.inr (.inr 0))))
  rw [h2]
  show LR i (if r = r then (f_law_907 L xs (nI i) sh sp m2) else (some (.inr (.inr 0))))
  rw [if_pos rfl]
  exact law_907 h3
theorem law_fin0 {oc or : Option Int32} (hI : Inv sh sp mem) (H : ∃ r, oc = some r ∧ or = some r) : LR i (ob oc fun r => ob or fun r' => if r = r' then (f_law_907 L xs (nI i) sh sp mem) else (some (.inr (.inr 0)))) := by
  obtain ⟨r, h1, h2⟩ := H
  rw [h1, h2]
  show LR i (if r = r then (f_law_907 L xs (nI i) sh sp mem) else (some (.inr (.inr 0))))
  rw [if_pos rfl]
  exact law_907 hI
theorem law_164 (hL : L ≤ 320) (hi : i + 5 ≤ L) (hI : Inv sh sp mem) : LR i (f_law_164 L xs (nI i) sh sp mem) := by
  have hI' := hI
  obtain ⟨hs, S, P, u, k, w, x, hA, hC, hM⟩ := hI
  have e1 : ∀ k : Int32 → Option (LSt ⊕ (LSt ⊕ Int32)), rd xs L (nI i + 1) k = k (xs (i + 1)) := fun k => rd_e (i + 1) (nI_add i 1) (by omega) (by omega) rfl
  unfold f_law_164
  simp only [e1]
  have H : Agree sh sp (f_X6_write (xs (i + 1))) (f_X7_write (xs (i + 1))) mem := write_a hs hA hC hM
  exact law_fin H
theorem law_187 (hL : L ≤ 320) (hi : i + 5 ≤ L) (hI : Inv sh sp mem) : LR i (f_law_187 L xs (nI i) sh sp mem) := by
  have hI' := hI
  obtain ⟨hs, S, P, u, k, w, x, hA, hC, hM⟩ := hI
  unfold f_law_187
  have H : Agree sh sp (f_X6_wipe) (f_X7_wipe) mem := wipe_a hs hA hC hM
  exact law_fin H
theorem law_200 (hL : L ≤ 320) (hi : i + 5 ≤ L) (hI : Inv sh sp mem) : LR i (f_law_200 L xs (nI i) sh sp mem) := by
  have hI' := hI
  obtain ⟨hs, S, P, u, k, w, x, hA, hC, hM⟩ := hI
  unfold f_law_200
  have H : Agree sh sp (f_X6_fault sp) (f_X7_fault) mem := fault_a hs hA hC hM
  exact law_fin H
theorem law_226 (hL : L ≤ 320) (hi : i + 5 ≤ L) (hI : Inv sh sp mem) : LR i (f_law_226 L xs (nI i) sh sp mem) := by
  have hI' := hI
  obtain ⟨hs, S, P, u, k, w, x, hA, hC, hM⟩ := hI
  have e1 : ∀ k : Int32 → Option (LSt ⊕ (LSt ⊕ Int32)), rd xs L (nI i + 1) k = k (xs (i + 1)) := fun k => rd_e (i + 1) (nI_add i 1) (by omega) (by omega) rfl
  unfold f_law_226
  simp only [e1]
  exact law_fin0 hI' (square_a hA.1 hC.1 hM.1 hC.2.1 hM.2.1)
theorem law_249 (hL : L ≤ 320) (hi : i + 5 ≤ L) (hI : Inv sh sp mem) : LR i (f_law_249 L xs (nI i) sh sp mem) := by
  have hI' := hI
  obtain ⟨hs, S, P, u, k, w, x, hA, hC, hM⟩ := hI
  have e1 : ∀ k : Int32 → Option (LSt ⊕ (LSt ⊕ Int32)), rd xs L (nI i + 1) k = k (xs (i + 1)) := fun k => rd_e (i + 1) (nI_add i 1) (by omega) (by omega) rfl
  have e2 : ∀ k : Int32 → Option (LSt ⊕ (LSt ⊕ Int32)), rd xs L (nI i + 2) k = k (xs (i + 2)) := fun k => rd_e (i + 2) (nI_add i 2) (by omega) (by omega) rfl
  unfold f_law_249
  simp only [e1, e2]
  exact law_fin0 hI' (place_a hA.1 hC.1 hM.1 hA.2.1 hC.2.1 hM.2.1)
theorem law_282 (hL : L ≤ 320) (hi : i + 5 ≤ L) (hI : Inv sh sp mem) : LR i (f_law_282 L xs (nI i) sh sp mem) := by
  have hI' := hI
  obtain ⟨hs, S, P, u, k, w, x, hA, hC, hM⟩ := hI
  have e1 : ∀ k : Int32 → Option (LSt ⊕ (LSt ⊕ Int32)), rd xs L (nI i + 1) k = k (xs (i + 1)) := fun k => rd_e (i + 1) (nI_add i 1) (by omega) (by omega) rfl
  have e2 : ∀ k : Int32 → Option (LSt ⊕ (LSt ⊕ Int32)), rd xs L (nI i + 2) k = k (xs (i + 2)) := fun k => rd_e (i + 2) (nI_add i 2) (by omega) (by omega) rfl
  unfold f_law_282
  simp only [e1, e2]
  exact law_fin0 hI' (word_a hA.1 hC.1 hM.1)
theorem law_315 (hL : L ≤ 320) (hi : i + 5 ≤ L) (hI : Inv sh sp mem) : LR i (f_law_315 L xs (nI i) sh sp mem) := by
  have hI' := hI
  obtain ⟨hs, S, P, u, k, w, x, hA, hC, hM⟩ := hI
  have e1 : ∀ k : Int32 → Option (LSt ⊕ (LSt ⊕ Int32)), rd xs L (nI i + 1) k = k (xs (i + 1)) := fun k => rd_e (i + 1) (nI_add i 1) (by omega) (by omega) rfl
  have e2 : ∀ k : Int32 → Option (LSt ⊕ (LSt ⊕ Int32)), rd xs L (nI i + 2) k = k (xs (i + 2)) := fun k => rd_e (i + 2) (nI_add i 2) (by omega) (by omega) rfl
  unfold f_law_315
  simp only [e1, e2]
  have H : Agree sh sp (f_X6_solver sh (xs (i + 1)) (xs (i + 2))) (f_X7_solver (xs (i + 1)) (xs (i + 2))) mem := solver_a hs hA hC hM
  exact law_fin H
theorem law_348 (hL : L ≤ 320) (hi : i + 5 ≤ L) (hI : Inv sh sp mem) : LR i (f_law_348 L xs (nI i) sh sp mem) := by
  have hI' := hI
  obtain ⟨hs, S, P, u, k, w, x, hA, hC, hM⟩ := hI
  unfold f_law_348
  have H : Agree sh sp (f_X6_evening sh) (f_X7_evening) mem := evening_a hs hA hC hM
  exact law_fin H
theorem law_361 (hL : L ≤ 320) (hi : i + 5 ≤ L) (hI : Inv sh sp mem) : LR i (f_law_361 L xs (nI i) sh sp mem) := by
  have hI' := hI
  obtain ⟨hs, S, P, u, k, w, x, hA, hC, hM⟩ := hI
  have e1 : ∀ k : Int32 → Option (LSt ⊕ (LSt ⊕ Int32)), rd xs L (nI i + 1) k = k (xs (i + 1)) := fun k => rd_e (i + 1) (nI_add i 1) (by omega) (by omega) rfl
  have e2 : ∀ k : Int32 → Option (LSt ⊕ (LSt ⊕ Int32)), rd xs L (nI i + 2) k = k (xs (i + 2)) := fun k => rd_e (i + 2) (nI_add i 2) (by omega) (by omega) rfl
  unfold f_law_361
  simp only [e1, e2]
  have H : Agree sh sp (f_X6_set sh (xs (i + 1)) (xs (i + 2))) (f_X7_set (xs (i + 1)) (xs (i + 2))) mem := set_a hs hA hC hM
  exact law_fin H
theorem law_394 (hL : L ≤ 320) (hi : i + 5 ≤ L) (hI : Inv sh sp mem) : LR i (f_law_394 L xs (nI i) sh sp mem) := by
  have hI' := hI
  obtain ⟨hs, S, P, u, k, w, x, hA, hC, hM⟩ := hI
  have e1 : ∀ k : Int32 → Option (LSt ⊕ (LSt ⊕ Int32)), rd xs L (nI i + 1) k = k (xs (i + 1)) := fun k => rd_e (i + 1) (nI_add i 1) (by omega) (by omega) rfl
  unfold f_law_394
  simp only [e1]
  have H : Agree sh sp (f_X6_strike sh (xs (i + 1))) (f_X7_strike (xs (i + 1))) mem := strike_a hs hA hC hM
  exact law_fin H
theorem law_417 (hL : L ≤ 320) (hi : i + 5 ≤ L) (hI : Inv sh sp mem) : LR i (f_law_417 L xs (nI i) sh sp mem) := by
  have hI' := hI
  obtain ⟨hs, S, P, u, k, w, x, hA, hC, hM⟩ := hI
  have e1 : ∀ k : Int32 → Option (LSt ⊕ (LSt ⊕ Int32)), rd xs L (nI i + 1) k = k (xs (i + 1)) := fun k => rd_e (i + 1) (nI_add i 1) (by omega) (by omega) rfl
  have e2 : ∀ k : Int32 → Option (LSt ⊕ (LSt ⊕ Int32)), rd xs L (nI i + 2) k = k (xs (i + 2)) := fun k => rd_e (i + 2) (nI_add i 2) (by omega) (by omega) rfl
  have e3 : ∀ k : Int32 → Option (LSt ⊕ (LSt ⊕ Int32)), rd xs L (nI i + 3) k = k (xs (i + 3)) := fun k => rd_e (i + 3) (nI_add i 3) (by omega) (by omega) rfl
  unfold f_law_417
  simp only [e1, e2, e3]
  have H : Agree sh sp (f_X6_want sh (xs (i + 1)) (xs (i + 2)) (xs (i + 3))) (f_X7_want (xs (i + 1)) (xs (i + 2)) (xs (i + 3))) mem := want_a hs hA hC hM
  exact law_fin H
theorem law_460 (hL : L ≤ 320) (hi : i + 5 ≤ L) (hI : Inv sh sp mem) : LR i (f_law_460 L xs (nI i) sh sp mem) := by
  have hI' := hI
  obtain ⟨hs, S, P, u, k, w, x, hA, hC, hM⟩ := hI
  unfold f_law_460
  have H : Agree sh sp (f_X6_undo) (f_X7_undo) mem := undo_a hs hA hC hM
  exact law_fin H
theorem law_473 (hL : L ≤ 320) (hi : i + 5 ≤ L) (hI : Inv sh sp mem) : LR i (f_law_473 L xs (nI i) sh sp mem) := by
  have hI' := hI
  obtain ⟨hs, S, P, u, k, w, x, hA, hC, hM⟩ := hI
  have e1 : ∀ k : Int32 → Option (LSt ⊕ (LSt ⊕ Int32)), rd xs L (nI i + 1) k = k (xs (i + 1)) := fun k => rd_e (i + 1) (nI_add i 1) (by omega) (by omega) rfl
  have e2 : ∀ k : Int32 → Option (LSt ⊕ (LSt ⊕ Int32)), rd xs L (nI i + 2) k = k (xs (i + 2)) := fun k => rd_e (i + 2) (nI_add i 2) (by omega) (by omega) rfl
  unfold f_law_473
  simp only [e1, e2]
  have H : Agree sh sp (f_X6_behind sh (xs (i + 1)) (xs (i + 2))) (f_X7_behind (xs (i + 1)) (xs (i + 2))) mem := behind_a hs hA hC hM
  exact law_fin H
theorem law_506 (hL : L ≤ 320) (hi : i + 5 ≤ L) (hI : Inv sh sp mem) : LR i (f_law_506 L xs (nI i) sh sp mem) := by
  have hI' := hI
  obtain ⟨hs, S, P, u, k, w, x, hA, hC, hM⟩ := hI
  have e1 : ∀ k : Int32 → Option (LSt ⊕ (LSt ⊕ Int32)), rd xs L (nI i + 1) k = k (xs (i + 1)) := fun k => rd_e (i + 1) (nI_add i 1) (by omega) (by omega) rfl
  unfold f_law_506
  simp only [e1]
  have H : Agree sh sp (f_X6_fillings sh (xs (i + 1))) (f_X7_fillings (xs (i + 1))) mem := fillings_a hs hA hC hM
  exact law_fin H
theorem law_529 (hL : L ≤ 320) (hi : i + 5 ≤ L) (hI : Inv sh sp mem) : LR i (f_law_529 L xs (nI i) sh sp mem) := by
  have hI' := hI
  obtain ⟨hs, S, P, u, k, w, x, hA, hC, hM⟩ := hI
  have e1 : ∀ k : Int32 → Option (LSt ⊕ (LSt ⊕ Int32)), rd xs L (nI i + 1) k = k (xs (i + 1)) := fun k => rd_e (i + 1) (nI_add i 1) (by omega) (by omega) rfl
  unfold f_law_529
  simp only [e1]
  have H : Agree sh sp (f_X6_must sh (xs (i + 1))) (f_X7_must (xs (i + 1))) mem := must_a hs hA hC hM
  exact law_fin H
theorem law_552 (hL : L ≤ 320) (hi : i + 5 ≤ L) (hI : Inv sh sp mem) : LR i (f_law_552 L xs (nI i) sh sp mem) := by
  have hI' := hI
  obtain ⟨hs, S, P, u, k, w, x, hA, hC, hM⟩ := hI
  unfold f_law_552
  have H : Agree sh sp (f_X6_best sh) (f_X7_best) mem := best_a hs hA hC hM
  exact law_fin H
theorem law_565 (hL : L ≤ 320) (hi : i + 5 ≤ L) (hI : Inv sh sp mem) : LR i (f_law_565 L xs (nI i) sh sp mem) := by
  have hI' := hI
  obtain ⟨hs, S, P, u, k, w, x, hA, hC, hM⟩ := hI
  unfold f_law_565
  exact law_fin0 hI' (dead_a hA.1 hC.1 hM.1 hA.2.1 hC.2.1 hM.2.1)
theorem law_578 (hL : L ≤ 320) (hi : i + 5 ≤ L) (hI : Inv sh sp mem) : LR i (f_law_578 L xs (nI i) sh sp mem) := by
  have hI' := hI
  obtain ⟨hs, S, P, u, k, w, x, hA, hC, hM⟩ := hI
  have e1 : ∀ k : Int32 → Option (LSt ⊕ (LSt ⊕ Int32)), rd xs L (nI i + 1) k = k (xs (i + 1)) := fun k => rd_e (i + 1) (nI_add i 1) (by omega) (by omega) rfl
  have e2 : ∀ k : Int32 → Option (LSt ⊕ (LSt ⊕ Int32)), rd xs L (nI i + 2) k = k (xs (i + 2)) := fun k => rd_e (i + 2) (nI_add i 2) (by omega) (by omega) rfl
  have e3 : ∀ k : Int32 → Option (LSt ⊕ (LSt ⊕ Int32)), rd xs L (nI i + 3) k = k (xs (i + 3)) := fun k => rd_e (i + 3) (nI_add i 3) (by omega) (by omega) rfl
  unfold f_law_578
  simp only [e1, e2, e3]
  have H : Agree sh sp (f_X6_counts sh (xs (i + 1)) (xs (i + 2)) (xs (i + 3))) (f_X7_counts (xs (i + 1)) (xs (i + 2)) (xs (i + 3))) mem := counts_a hs hA hC hM
  exact law_fin H
theorem law_621 (hL : L ≤ 320) (hi : i + 5 ≤ L) (hI : Inv sh sp mem) : LR i (f_law_621 L xs (nI i) sh sp mem) := by
  have hI' := hI
  obtain ⟨hs, S, P, u, k, w, x, hA, hC, hM⟩ := hI
  have e1 : ∀ k : Int32 → Option (LSt ⊕ (LSt ⊕ Int32)), rd xs L (nI i + 1) k = k (xs (i + 1)) := fun k => rd_e (i + 1) (nI_add i 1) (by omega) (by omega) rfl
  have e2 : ∀ k : Int32 → Option (LSt ⊕ (LSt ⊕ Int32)), rd xs L (nI i + 2) k = k (xs (i + 2)) := fun k => rd_e (i + 2) (nI_add i 2) (by omega) (by omega) rfl
  unfold f_law_621
  simp only [e1, e2]
  have H : Agree sh sp (f_X6_win sh (xs (i + 1)) (xs (i + 2))) (f_X7_win (xs (i + 1)) (xs (i + 2))) mem := win_a hs hA hC hM
  exact law_fin H
theorem law_703 (hL : L ≤ 320) (hi : i + 5 ≤ L) (hI : Inv sh sp mem) : LR i (f_law_703 L xs (nI i) sh sp mem) := by
  have hI' := hI
  obtain ⟨hs, S, P, u, k, w, x, hA, hC, hM⟩ := hI
  unfold f_law_703
  have H : Agree sh sp (f_X6_forget) (f_X7_forget) mem := forget_a hs hA hC hM
  exact law_fin H
theorem law_716 (hL : L ≤ 320) (hi : i + 5 ≤ L) (hI : Inv sh sp mem) : LR i (f_law_716 L xs (nI i) sh sp mem) := by
  have hI' := hI
  obtain ⟨hs, S, P, u, k, w, x, hA, hC, hM⟩ := hI
  have e1 : ∀ k : Int32 → Option (LSt ⊕ (LSt ⊕ Int32)), rd xs L (nI i + 1) k = k (xs (i + 1)) := fun k => rd_e (i + 1) (nI_add i 1) (by omega) (by omega) rfl
  unfold f_law_716
  simp only [e1]
  have H : Agree sh sp (f_X6_wants sh (xs (i + 1))) (f_X7_wants (xs (i + 1))) mem := wants_a hs hA hC hM
  exact law_fin H
theorem law_739 (hL : L ≤ 320) (hi : i + 5 ≤ L) (hI : Inv sh sp mem) : LR i (f_law_739 L xs (nI i) sh sp mem) := by
  have hI' := hI
  obtain ⟨hs, S, P, u, k, w, x, hA, hC, hM⟩ := hI
  have e1 : ∀ k : Int32 → Option (LSt ⊕ (LSt ⊕ Int32)), rd xs L (nI i + 1) k = k (xs (i + 1)) := fun k => rd_e (i + 1) (nI_add i 1) (by omega) (by omega) rfl
  unfold f_law_739
  simp only [e1]
  have H : Agree sh sp (f_X6_letters sh (xs (i + 1))) (f_X7_letters (xs (i + 1))) mem := letters_a hs hA hC hM
  exact law_fin H
theorem law_762 (hL : L ≤ 320) (hi : i + 5 ≤ L) (hI : Inv sh sp mem) : LR i (f_law_762 L xs (nI i) sh sp mem) := by
  have hI' := hI
  obtain ⟨hs, S, P, u, k, w, x, hA, hC, hM⟩ := hI
  have e1 : ∀ k : Int32 → Option (LSt ⊕ (LSt ⊕ Int32)), rd xs L (nI i + 1) k = k (xs (i + 1)) := fun k => rd_e (i + 1) (nI_add i 1) (by omega) (by omega) rfl
  have e2 : ∀ k : Int32 → Option (LSt ⊕ (LSt ⊕ Int32)), rd xs L (nI i + 2) k = k (xs (i + 2)) := fun k => rd_e (i + 2) (nI_add i 2) (by omega) (by omega) rfl
  have e3 : ∀ k : Int32 → Option (LSt ⊕ (LSt ⊕ Int32)), rd xs L (nI i + 3) k = k (xs (i + 3)) := fun k => rd_e (i + 3) (nI_add i 3) (by omega) (by omega) rfl
  have e4 : ∀ k : Int32 → Option (LSt ⊕ (LSt ⊕ Int32)), rd xs L (nI i + 4) k = k (xs (i + 4)) := fun k => rd_e (i + 4) (nI_add i 4) (by omega) (by omega) rfl
  unfold f_law_762
  simp only [e1, e2, e3, e4]
  have H : Agree sh sp (f_X6_chance sh (xs (i + 1)) (xs (i + 2)) (xs (i + 3)) (xs (i + 4))) (f_X7_chance (xs (i + 1)) (xs (i + 2)) (xs (i + 3)) (xs (i + 4))) mem := chance_a hs hA hC hM
  exact law_fin H
theorem law_815 (hL : L ≤ 320) (hi : i + 5 ≤ L) (hI : Inv sh sp mem) : LR i (f_law_815 L xs (nI i) sh sp mem) := by
  have hI' := hI
  obtain ⟨hs, S, P, u, k, w, x, hA, hC, hM⟩ := hI
  have e1 : ∀ k : Int32 → Option (LSt ⊕ (LSt ⊕ Int32)), rd xs L (nI i + 1) k = k (xs (i + 1)) := fun k => rd_e (i + 1) (nI_add i 1) (by omega) (by omega) rfl
  have e2 : ∀ k : Int32 → Option (LSt ⊕ (LSt ⊕ Int32)), rd xs L (nI i + 2) k = k (xs (i + 2)) := fun k => rd_e (i + 2) (nI_add i 2) (by omega) (by omega) rfl
  have e3 : ∀ k : Int32 → Option (LSt ⊕ (LSt ⊕ Int32)), rd xs L (nI i + 3) k = k (xs (i + 3)) := fun k => rd_e (i + 3) (nI_add i 3) (by omega) (by omega) rfl
  unfold f_law_815
  simp only [e1, e2, e3]
  have H : Agree sh sp (f_X6_weeks sh (xs (i + 1)) (xs (i + 2)) (xs (i + 3))) (f_X7_weeks (xs (i + 1)) (xs (i + 2)) (xs (i + 3))) mem := weeks_a hs hA hC hM
  exact law_fin H
theorem law_858 (hL : L ≤ 320) (hi : i + 5 ≤ L) (hI : Inv sh sp mem) : LR i (f_law_858 L xs (nI i) sh sp mem) := by
  have hI' := hI
  obtain ⟨hs, S, P, u, k, w, x, hA, hC, hM⟩ := hI
  unfold f_law_858
  have H : Agree sh sp (f_X6_keep) (f_X7_keep) mem := keep_a hs hA hC hM
  exact law_fin H
theorem law_871 (hL : L ≤ 320) (hi : i + 5 ≤ L) (hI : Inv sh sp mem) : LR i (f_law_871 L xs (nI i) sh sp mem) := by
  have hI' := hI
  obtain ⟨hs, S, P, u, k, w, x, hA, hC, hM⟩ := hI
  unfold f_law_871
  have H : Agree sh sp (f_X6_back) (f_X7_back) mem := back_a hs hA hC hM
  exact law_fin H
theorem law_884 (hL : L ≤ 320) (hi : i + 5 ≤ L) (hI : Inv sh sp mem) : LR i (f_law_884 L xs (nI i) sh sp mem) := by
  have hI' := hI
  obtain ⟨hs, S, P, u, k, w, x, hA, hC, hM⟩ := hI
  have e1 : ∀ k : Int32 → Option (LSt ⊕ (LSt ⊕ Int32)), rd xs L (nI i + 1) k = k (xs (i + 1)) := fun k => rd_e (i + 1) (nI_add i 1) (by omega) (by omega) rfl
  unfold f_law_884
  simp only [e1]
  exact law_fin0 hI' (count_a hA hC hM)
theorem law_213 (hI : Inv sh sp mem) : LR i (f_law_213 L xs (nI i) sh sp mem) := by
  obtain ⟨hs, S, P, u, k, w, x, hA, hC, hM⟩ := hI
  obtain ⟨r, sh', sp', m1, m2, h1, h2, h3⟩ := lay_a hs hA hC hM
  unfold f_law_213
  rw [h1]
  show LR i (ob2 (f_X7_lay m1) fun r' m' => if r = r' then (f_law_907 L xs (nI i) sh' sp' m') else (some (.inr (.inr 0))))
  rw [h2]
  show LR i (if r = r then (f_law_907 L xs (nI i) sh' sp' m2) else (some (.inr (.inr 0))))
  rw [if_pos rfl]
  exact law_907 h3
theorem law_654 (hL : L ≤ 320) (hi : i + 5 ≤ L) (hI : Inv sh sp mem) : LR i (f_law_654 L xs (nI i) sh sp mem) := by
  obtain ⟨hs, S, P, u, k, w, x, hA, hC, hM⟩ := hI
  have e1 : ∀ k : Int32 → Option (LSt ⊕ (LSt ⊕ Int32)), rd xs L (nI i + 1) k = k (xs (i + 1)) := fun k => rd_e (i + 1) (nI_add i 1) (by omega) (by omega) rfl
  have e2 : ∀ k : Int32 → Option (LSt ⊕ (LSt ⊕ Int32)), rd xs L (nI i + 2) k = k (xs (i + 2)) := fun k => rd_e (i + 2) (nI_add i 2) (by omega) (by omega) rfl
  have key : ∀ b : Bool, (xs (i + 2) = 0 ↔ b = false) → LR i (f_law_673 L xs (nI i) (xs (i + 1)) (b2i b) sh sp mem) := by
    intro b hb
    have H : Agree sh sp (f_X6_sent sh (xs (i + 1)) (b2i b)) (f_X7_sent (xs (i + 1)) (b2i b)) mem := sent_a hs hA hC hM b
    have E : f_law_673 L xs (nI i) (xs (i + 1)) (b2i b) sh sp mem = (ob2 (f_X6_sent sh (xs (i + 1)) (b2i b) mem) fun r m => ob2 (f_X7_sent (xs (i + 1)) (b2i b) m) fun r' m' => if r = r' then (f_law_907 L xs (nI i) sh sp m') else (some (.inr (.inr 0)))) := by
      unfold f_law_673
      simp only [e1, e2]
      by_cases c : xs (i + 2) = 0
      · rw [hb.mp c]
        simp only [c, if_true]
        rfl
      · have hb2 : b = true := by
          cases h : b
          · exact absurd (hb.mpr h) c
          · rfl
        rw [hb2]
        simp only [c, if_false]
        rfl
    rw [E]
    exact law_fin H
  unfold f_law_654
  simp only [e1, e2]
  by_cases c : xs (i + 2) = 0
  · rw [if_pos c]
    exact key false ⟨fun _ => rfl, fun _ => c⟩
  · rw [if_neg c]
    exact key true ⟨fun z => absurd z c, fun z => by cases z⟩
theorem law_step (hL : L ≤ 320) (hi : i + 5 ≤ L) (hI : Inv sh sp mem) : LR i (f_law_b L xs (nI i, sh, sp, mem)) := by
  unfold f_law_b
  simp only
  rw [if_neg (show ¬ nI L - 5 < nI i by rw [i_lit 5, i_sub (by omega)]; exact nI_nlt (by omega) (by omega)), rd_e i rfl (by omega) (by omega) rfl]
  exact LR.ite (law_164 hL hi hI) (LR.ite (law_187 hL hi hI) (LR.ite (law_200 hL hi hI) (LR.ite (law_213 hI) (LR.ite (law_226 hL hi hI) (LR.ite (law_249 hL hi hI) (LR.ite (law_282 hL hi hI) (LR.ite (law_315 hL hi hI) (LR.ite (law_348 hL hi hI) (LR.ite (law_361 hL hi hI) (LR.ite (law_394 hL hi hI) (LR.ite (law_417 hL hi hI) (LR.ite (law_460 hL hi hI) (LR.ite (law_473 hL hi hI) (LR.ite (law_506 hL hi hI) (LR.ite (law_529 hL hi hI) (LR.ite (law_552 hL hi hI) (LR.ite (law_565 hL hi hI) (LR.ite (law_578 hL hi hI) (LR.ite (law_621 hL hi hI) (LR.ite (law_654 hL hi hI) (LR.ite (law_703 hL hi hI) (LR.ite (law_716 hL hi hI) (LR.ite (law_739 hL hi hI) (LR.ite (law_762 hL hi hI) (LR.ite (law_815 hL hi hI) (LR.ite (law_858 hL hi hI) (LR.ite (law_871 hL hi hI) (LR.ite (law_884 hL hi hI) (law_907 hI)))))))))))))))))))))))))))))
theorem law_exit (hL : L ≤ 320) (h0 : i ≤ 1000) (hi : ¬ i + 5 ≤ L) : f_law_b L xs (nI i, sh, sp, mem) = some (.inr (.inl (nI i, sh, sp, mem))) := by
  unfold f_law_b
  simp only
  have h : nI L - 5 < nI i := by
    rcases Nat.lt_or_ge L 5 with q | q
    · rw [Int32.lt_iff_toInt_lt, nI_toInt (by omega)]
      have : (nI L - 5).toInt < 0 := by
        rcases (show L = 0 ∨ L = 1 ∨ L = 2 ∨ L = 3 ∨ L = 4 by omega) with rfl | rfl | rfl | rfl | rfl <;> decide
      omega
    · rw [i_lit 5, i_sub q]
      exact nI_lt (by omega) (by omega)
  rw [if_pos h]
theorem law_runs {mem7 : Mem} (hI : Inv 17 3 mem7) (hL : L ≤ 320) : ∃ (n : Nat) (q : LSt), lp (f_law_b L xs) n (0, 17, 3, mem7) = some (.inl q) := by
  obtain ⟨r, h1, q, h2⟩ := lp_inv (body := f_law_b L xs) (fun t q => ∃ sh sp m, q = (nI (5 * t), sh, sp, m) ∧ Inv sh sp m) (L / 5) (fun r => ∃ q, r = .inl q) (fun t q ht hq => by
    obtain ⟨sh, sp, m, rfl, h⟩ := hq
    obtain ⟨sh', sp', m', e, h'⟩ := law_step (xs := xs) (i := 5 * t) hL (by omega) h
    exact Or.inl ⟨_, e, sh', sp', m', rfl, h'⟩) (fun q hq => by
    obtain ⟨sh, sp, m, rfl, h⟩ := hq
    exact ⟨_, law_exit hL (by omega) (by omega), _, rfl⟩) (L / 5) (L / 5 + 1) 0 (0, 17, 3, mem7) (by omega) (by omega) (by omega) ⟨17, 3, mem7, rfl, hI⟩
  exact ⟨L / 5 + 1, q, by rw [h1, h2]⟩
end LAW
