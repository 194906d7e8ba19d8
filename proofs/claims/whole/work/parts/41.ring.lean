/-! the reference's papers, copied about -/
def cpK (mem : Mem) (a : Nat) (f : Nat → Nat) (v : Nat → Int32) : Nat → Mem
  | 0 => mem
  | i + 1 => mset (cpK mem a f v i) a (f i) (v i)
theorem cpK_ne {mem : Mem} {a a' : Nat} {f : Nat → Nat} {v : Nat → Int32} (h : a' ≠ a) : ∀ i, cpK mem a f v i a' = mem a' := by
  intro i
  induction i with
  | zero => rfl
  | succ i ih => rw [cpK, mset_ne h, ih]
theorem cpK_out {mem : Mem} {a y : Nat} {f : Nat → Nat} {v : Nat → Int32} : ∀ i, (∀ k, k < i → f k ≠ y) → cpK mem a f v i a y = mem a y := by
  intro i
  induction i with
  | zero => intro _; rfl
  | succ i ih =>
    intro h
    rw [cpK, mset_k (fun z => h i (by omega) z.symm), ih (fun k hk => h k (by omega))]
theorem cpK_in {mem : Mem} {a k : Nat} {f : Nat → Nat} {v : Nat → Int32} : ∀ i, (∀ x y, x < i → y < i → f x = f y → x = y) → k < i → cpK mem a f v i a (f k) = v k := by
  intro i
  induction i with
  | zero => intro _ h; exact absurd h (Nat.not_lt_zero _)
  | succ i ih =>
    intro hf hk
    rw [cpK, mset_at]
    by_cases he : k = i
    · subst he
      rw [if_pos ⟨rfl, rfl⟩]
    · rw [if_neg (fun z => he (hf k i hk (by omega) z.2)), ih (fun x y hx hy e => hf x y (by omega) (by omega) e) (by omega)]
/-- a paper among others -/
def MA (P : Pa) (a off : Nat) (mem : Mem) : Prop := (∀ x, x < 16 → mem a (off + x) = nI (P.1 x)) ∧ ∀ i, i < 6 → mem a (off + (16 + 2 * i)) = nI (P.2.1 i) ∧ mem a (off + (16 + 2 * i + 1)) = nI (P.2.2 i)
theorem MA.of {P : Pa} {o a off : Nat} {mem mem' : Mem} (h : MP P o mem) (hk : ∀ k, k < 28 → mem' a (off + k) = mem o k) : MA P a off mem' := by
  refine ⟨fun x hx => by rw [hk x (by omega)]; exact h.1 x hx, fun i hi => ⟨?_, ?_⟩⟩
  · rw [hk _ (by omega)]; exact (h.2 i hi).1
  · rw [hk _ (by omega)]; exact (h.2 i hi).2
theorem MP.of {P : Pa} {o a off : Nat} {mem mem' : Mem} (h : MA P a off mem) (hk : ∀ k, k < 28 → mem' o k = mem a (off + k)) : MP P o mem' := by
  refine ⟨fun x hx => by rw [hk x (by omega)]; exact h.1 x hx, fun i hi => ⟨?_, ?_⟩⟩
  · rw [hk _ (by omega)]; exact (h.2 i hi).1
  · rw [hk _ (by omega)]; exact (h.2 i hi).2
theorem MA.keep {P : Pa} {a off : Nat} {mem mem' : Mem} (h : MA P a off mem) (hk : ∀ k, k < 28 → mem' a (off + k) = mem a (off + k)) : MA P a off mem' := by
  refine ⟨fun x hx => by rw [hk x (by omega)]; exact h.1 x hx, fun i hi => ⟨?_, ?_⟩⟩
  · rw [hk _ (by omega)]; exact (h.2 i hi).1
  · rw [hk _ (by omega)]; exact (h.2 i hi).2
theorem copyNow_e {P : Pa} {mem : Mem} (h : MP P 77 mem) : ∃ m', f_X7_copyNow mem = some m' ∧ MP P 78 m' ∧ ∀ a, a ≠ 78 → m' a = mem a := by
  refine ⟨cpK mem 78 (fun k => k) (fun k => mem 77 k) 28, ?_, MP.of (off := 0) (MA.of (off := 0) h (fun k _ => by rw [Nat.zero_add])) (fun k hk => ?_), fun a ha => cpK_ne ha _⟩
  · unfold f_X7_copyNow
    rw [show ((0 : Int32), mem) = (fun i => (nI i, cpK mem 78 (fun k => k) (fun k => mem 77 k) i)) 0 from rfl, lp_FU (fun i => (nI i, cpK mem 78 (fun k => k) (fun k => mem 77 k) i)) 28 (r := (nI 28, cpK mem 78 (fun k => k) (fun k => mem 77 k) 28)) (by decide)]
    · rfl
    · intro i hi
      unfold f_X7_copyNow_b2
      simp only
      rw [if_neg (show ¬ (28 : Int32) ≤ nI i from nI_ge hi (by decide)), cpK_ne (by decide), rd_nI hi (by decide), wr_nI hi (by decide)]
      simp only [lt', nI_1]
      rfl
    · unfold f_X7_copyNow_b2
      simp only
      rw [if_pos (show (28 : Int32) ≤ nI 28 from nI_le (Nat.le_refl 28) (by decide))]
  · rw [Nat.zero_add]
    exact cpK_in 28 (fun _ _ _ _ e => e) hk
/-- what was before, the latest last -/
def MU (n : Nat) (U : Nat → Pa) (mem : Mem) : Prop := ∃ a, a < 8 ∧ mem 62 31 = nI n ∧ mem 62 32 = nI a ∧ ∀ j, j < n → MA (U j) 82 (28 * ((a + 8 - n + j) % 8)) mem
theorem MU.keep {n : Nat} {U : Nat → Pa} {mem mem' : Mem} (h : MU n U mem) (h31 : mem' 62 31 = mem 62 31) (h32 : mem' 62 32 = mem 62 32) (h82 : mem' 82 = mem 82) : MU n U mem' := by
  obtain ⟨a, h1, h2, h3, h4⟩ := h
  exact ⟨a, h1, by rw [h31, h2], by rw [h32, h3], fun j hj => (h4 j hj).keep (fun k _ => by rw [h82])⟩
theorem MU.less {n : Nat} {U : Nat → Pa} {mem : Mem} (h : MU n U mem) : MU 0 U (mset mem 62 31 0) := by
  obtain ⟨a, h1, h2, h3, h4⟩ := h
  exact ⟨a, h1, by rw [mset_eq]; rfl, by rw [mset_k (by decide), h3], fun j hj => absurd hj (Nat.not_lt_zero _)⟩
theorem remember_e {P : Pa} {n : Nat} {U : Nat → Pa} {mem : Mem} (h : MP P 77 mem) (hn : n ≤ 8) (hU : MU n U mem) : ∃ m', f_X7_remember mem = some m' ∧ MU (pushN 8 n) (pushF 8 n U P) m' ∧ (∀ a, a ≠ 62 → a ≠ 82 → m' a = mem a) ∧ ∀ k, k ≠ 31 → k ≠ 32 → m' 62 k = mem 62 k := by
  obtain ⟨a, ha, h31, h32, hj⟩ := hU
  have e : lp f_X7_remember_b2 FU (0, mem) = some (nI 28, cpK mem 82 (fun k => 28 * a + k) (fun k => mem 77 k) 28) := by
    refine lp_FU (fun i => (nI i, cpK mem 82 (fun k => 28 * a + k) (fun k => mem 77 k) i)) 28 (by decide) ?_ ?_
    · intro i hi
      unfold f_X7_remember_b2
      simp only
      rw [if_neg (show ¬ (28 : Int32) ≤ nI i from nI_ge hi (by decide)), cpK_ne (by decide), rd_nI hi (by decide), cpK_ne (by decide), h32, i_lit 28, pk_mul, nI_add, wr_nI (by omega) (by decide)]
      simp only [lt', nI_1]
      rfl
    · unfold f_X7_remember_b2
      simp only
      rw [if_pos (show (28 : Int32) ≤ nI 28 from nI_le (Nat.le_refl 28) (by decide))]
  generalize hm1 : cpK mem 82 (fun k => 28 * a + k) (fun k => mem 77 k) 28 = m1 at e
  have hne1 : ∀ b, b ≠ 82 → m1 b = mem b := fun b hb => by rw [← hm1, cpK_ne hb]
  have hin1 : ∀ k, k < 28 → m1 82 (28 * a + k) = mem 77 k := fun k hk => by
    rw [← hm1]
    exact cpK_in (f := fun k => 28 * a + k) 28 (fun x y _ _ e => by omega) hk
  have hout1 : ∀ s k, s ≠ a → k < 28 → m1 82 (28 * s + k) = mem 82 (28 * s + k) := fun s k hs hk => by
    rw [← hm1]
    exact cpK_out 28 (fun x hx => by omega)
  unfold f_X7_remember
  rw [e]
  simp only [ob, lt']
  have er : irm (m1 62 32 + 1) 8 = nI ((a + 1) % 8) := by
    rw [hne1 62 (by decide), h32, nI_1, i_lit 8]
    exact i_rm (by omega) (by decide) (by decide)
  have e31 : ∀ v, mset m1 62 32 v 62 31 = nI n := fun v => by rw [mset_k (by decide), hne1 62 (by decide), h31]
  rw [er, e31]
  have fin : ∀ v, nI v = nI (pushN 8 n) → ∃ m', some (mset (mset m1 62 32 (nI ((a + 1) % 8))) 62 31 (nI v)) = some m' ∧ MU (pushN 8 n) (pushF 8 n U P) m' ∧ (∀ a, a ≠ 62 → a ≠ 82 → m' a = mem a) ∧ ∀ k, k ≠ 31 → k ≠ 32 → m' 62 k = mem 62 k := by
    intro v hv
    refine ⟨_, rfl, ⟨(a + 1) % 8, by omega, by rw [mset_eq, hv], by rw [mset_k (by decide), mset_eq], fun j hj' => ?_⟩, fun b z1 z2 => by rw [mset_ne z1, mset_ne z1, hne1 b z2], fun k z1 z2 => by rw [mset_k z1, mset_k z2, hne1 62 (by decide)]⟩
    have h82 : ∀ y, mset (mset m1 62 32 (nI ((a + 1) % 8))) 62 31 (nI v) 82 y = m1 82 y := fun y => by rw [mset_ne (by decide), mset_ne (by decide)]
    unfold pushN at hj' ⊢
    unfold pushF
    by_cases hc : n < 8
    · rw [if_pos hc] at hj' ⊢
      rw [if_pos hc]
      by_cases he : j = n
      · rw [if_pos he, show ((a + 1) % 8 + 8 - (n + 1) + j) % 8 = a by omega]
        exact MA.of h (fun k hk => by rw [h82, hin1 k hk])
      · rw [if_neg he, show ((a + 1) % 8 + 8 - (n + 1) + j) % 8 = (a + 8 - n + j) % 8 by omega]
        exact (hj j (by omega)).keep (fun k hk => by rw [h82, hout1 _ k (by omega) hk])
    · rw [if_neg hc] at hj' ⊢
      rw [if_neg hc]
      have h8 : n = 8 := by omega
      by_cases he : j + 1 = 8
      · rw [if_pos he, show ((a + 1) % 8 + 8 - 8 + j) % 8 = a by omega]
        exact MA.of h (fun k hk => by rw [h82, hin1 k hk])
      · rw [if_neg he, show ((a + 1) % 8 + 8 - 8 + j) % 8 = (a + 8 - n + (j + 1)) % 8 by omega]
        exact (hj (j + 1) (by omega)).keep (fun k hk => by rw [h82, hout1 _ k (by omega) hk])
  by_cases hc : n < 8
  · rw [if_neg (show ¬ (8 : Int32) ≤ nI n from nI_ge hc (by decide)), nI_1]
    exact fin _ (by rw [pushN, if_pos hc])
  · rw [if_pos (show (8 : Int32) ≤ nI n from nI_le (a := 8) (by omega) (by omega)), i_lit 0, nI_add]
    exact fin _ (by rw [pushN, if_neg hc]; congr 1; omega)
theorem undo7_0 {U : Nat → Pa} {mem : Mem} (hU : MU 0 U mem) : f_X7_undo mem = some (-2, mem) := by
  obtain ⟨a, ha, h31, h32, hj⟩ := hU
  unfold f_X7_undo
  rw [h31, if_pos (by decide)]
theorem undo7_e {n : Nat} {U : Nat → Pa} {mem : Mem} (hn : n + 1 ≤ 8) (hU : MU (n + 1) U mem) : ∃ m', f_X7_undo mem = some (nI n, m') ∧ MU n U m' ∧ MP (U n) 77 m' ∧ (∀ a, a ≠ 62 → a ≠ 77 → m' a = mem a) ∧ ∀ k, k ≠ 31 → k ≠ 32 → m' 62 k = mem 62 k := by
  obtain ⟨a, ha, h31, h32, hj⟩ := hU
  unfold f_X7_undo
  simp only [lt']
  rw [h31, if_neg (nI_ne0 (by omega) (by omega)), h32, show nI a + 8 - 1 = nI (a + 7) by rw [i_lit 8, nI_add, nI_pred], show irm (nI (a + 7)) 8 = nI ((a + 7) % 8) from i_rm (by omega) (by decide) (by decide), mset_k (by decide), h31, nI_pred]
  generalize hm1 : mset (mset mem 62 32 (nI ((a + 7) % 8))) 62 31 (nI n) = m1
  have h62 : m1 62 31 = nI n ∧ m1 62 32 = nI ((a + 7) % 8) ∧ ∀ k, k ≠ 31 → k ≠ 32 → m1 62 k = mem 62 k := by
    rw [← hm1]
    exact ⟨mset_eq, by rw [mset_k (by decide), mset_eq], fun k z1 z2 => by rw [mset_k z1, mset_k z2]⟩
  have hne1 : ∀ b, b ≠ 62 → m1 b = mem b := fun b hb => by rw [← hm1, mset_ne hb, mset_ne hb]
  have e : lp f_X7_undo_b38 FU (0, m1) = some (nI 28, cpK m1 77 (fun k => k) (fun k => m1 82 (28 * ((a + 7) % 8) + k)) 28) := by
    refine lp_FU (fun i => (nI i, cpK m1 77 (fun k => k) (fun k => m1 82 (28 * ((a + 7) % 8) + k)) i)) 28 (by decide) ?_ ?_
    · intro i hi
      unfold f_X7_undo_b38
      simp only
      rw [if_neg (show ¬ (28 : Int32) ≤ nI i from nI_ge hi (by decide)), cpK_ne (by decide), cpK_ne (by decide), h62.2.1, i_lit 28, pk_mul, nI_add, rd_nI (by omega) (by decide), wr_nI hi (by decide)]
      simp only [lt', nI_1]
      rfl
    · unfold f_X7_undo_b38
      simp only
      rw [if_pos (show (28 : Int32) ≤ nI 28 from nI_le (Nat.le_refl 28) (by decide))]
  rw [e]
  simp only [ob]
  rw [cpK_ne (by decide), h62.1]
  refine ⟨_, rfl, ⟨(a + 7) % 8, by omega, by rw [cpK_ne (by decide), h62.1], by rw [cpK_ne (by decide), h62.2.1], fun j hj' => ?_⟩, ?_, fun b z1 z2 => by rw [cpK_ne z2, hne1 b z1], fun k z1 z2 => by rw [cpK_ne (by decide)]; exact h62.2.2 k z1 z2⟩
  · rw [show ((a + 7) % 8 + 8 - n + j) % 8 = (a + 8 - (n + 1) + j) % 8 by omega]
    exact (hj j (by omega)).keep (fun k hk => by rw [cpK_ne (by decide), hne1 82 (by decide)])
  · have h2 := hj n (by omega)
    rw [show (a + 8 - (n + 1) + n) % 8 = (a + 7) % 8 by omega] at h2
    refine MP.of h2 (fun k hk => ?_)
    rw [← hne1 82 (by decide)]
    exact cpK_in (f := fun k => k) 28 (fun _ _ _ _ e => e) hk
/-- what is kept -/
def MK (n : Nat) (K : Nat → Pa) (mem : Mem) : Prop := mem 62 43 = nI n ∧ ∀ j, j < n → MA (K j) 89 (28 * j) mem
theorem MK.keep {n : Nat} {U : Nat → Pa} {mem mem' : Mem} (h : MK n U mem) (h43 : mem' 62 43 = mem 62 43) (h89 : mem' 89 = mem 89) : MK n U mem' :=
  ⟨by rw [h43, h.1], fun j hj => (h.2 j hj).keep (fun k _ => by rw [h89])⟩
theorem MK.less {n : Nat} {U : Nat → Pa} {mem : Mem} (h : MK n U mem) : MK 0 U (mset mem 62 43 0) :=
  ⟨by rw [mset_eq]; rfl, fun j hj => absurd hj (Nat.not_lt_zero _)⟩
theorem keep7_2 {K : Nat → Pa} {mem : Mem} (hK : MK 2 K mem) : f_X7_keep mem = some (-3, mem) := by
  unfold f_X7_keep
  rw [hK.1, if_pos (by decide)]
theorem keep7_e {P : Pa} {n : Nat} {K : Nat → Pa} {mem : Mem} (h : MP P 77 mem) (hn : n < 2) (hK : MK n K mem) : ∃ m', f_X7_keep mem = some (nI (n + 1), m') ∧ MK (n + 1) (fun j => if j = n then P else K j) m' ∧ (∀ a, a ≠ 62 → a ≠ 89 → m' a = mem a) ∧ ∀ k, k ≠ 43 → m' 62 k = mem 62 k := by
  have e : lp f_X7_keep_b13 FU (0, mem) = some (nI 28, cpK mem 89 (fun k => 28 * n + k) (fun k => mem 77 k) 28) := by
    refine lp_FU (fun i => (nI i, cpK mem 89 (fun k => 28 * n + k) (fun k => mem 77 k) i)) 28 (by decide) ?_ ?_
    · intro i hi
      unfold f_X7_keep_b13
      simp only
      rw [if_neg (show ¬ (28 : Int32) ≤ nI i from nI_ge hi (by decide)), cpK_ne (by decide), rd_nI hi (by decide), cpK_ne (by decide), hK.1, i_lit 28, pk_mul, nI_add, wr_nI (by omega) (by decide)]
      simp only [lt', nI_1]
      rfl
    · unfold f_X7_keep_b13
      simp only
      rw [if_pos (show (28 : Int32) ≤ nI 28 from nI_le (Nat.le_refl 28) (by decide))]
  generalize hm1 : cpK mem 89 (fun k => 28 * n + k) (fun k => mem 77 k) 28 = m1 at e
  have hne1 : ∀ b, b ≠ 89 → m1 b = mem b := fun b hb => by rw [← hm1, cpK_ne hb]
  have hin1 : ∀ k, k < 28 → m1 89 (28 * n + k) = mem 77 k := fun k hk => by
    rw [← hm1]
    exact cpK_in (f := fun k => 28 * n + k) 28 (fun x y _ _ e => by omega) hk
  have hout1 : ∀ s k, s ≠ n → k < 28 → m1 89 (28 * s + k) = mem 89 (28 * s + k) := fun s k hs hk => by
    rw [← hm1]
    exact cpK_out 28 (fun x hx => by omega)
  unfold f_X7_keep
  rw [hK.1, if_neg (show ¬ nI n = 2 from lit_ne (n := 2) (by omega) (by omega) (by decide)), e]
  simp only [ob, lt']
  rw [hne1 62 (by decide), hK.1, nI_1, mset_eq]
  refine ⟨_, rfl, ⟨mset_eq, fun j hj => ?_⟩, fun b z1 z2 => by rw [mset_ne z1, hne1 b z2], fun k z1 => by rw [mset_k z1, hne1 62 (by decide)]⟩
  simp only
  by_cases he : j = n
  · rw [if_pos he, he]
    exact MA.of h (fun k hk => by rw [mset_ne (by decide), hin1 k hk])
  · rw [if_neg he]
    exact (hK.2 j (by omega)).keep (fun k hk => by rw [mset_ne (by decide), hout1 _ k (by omega) hk])
theorem back7_0 {K : Nat → Pa} {mem : Mem} (hK : MK 0 K mem) : f_X7_back mem = some (-2, mem) := by
  unfold f_X7_back
  rw [hK.1, if_pos (by decide)]
theorem back7_e {n m : Nat} {K U : Nat → Pa} {mem : Mem} (hn : n + 1 ≤ 2) (hK : MK (n + 1) K mem) (hU : MU m U mem) : ∃ m', f_X7_back mem = some (nI n, m') ∧ MK n K m' ∧ MU 0 U m' ∧ MP (K n) 77 m' ∧ (∀ a, a ≠ 62 → a ≠ 77 → m' a = mem a) ∧ ∀ k, k ≠ 31 → k ≠ 43 → m' 62 k = mem 62 k := by
  unfold f_X7_back
  simp only [lt']
  rw [hK.1, if_neg (nI_ne0 (by omega) (by omega)), nI_pred]
  generalize hm1 : mset mem 62 43 (nI n) = m1
  have h43 : m1 62 43 = nI n := by rw [← hm1, mset_eq]
  have h62 : ∀ k, k ≠ 43 → m1 62 k = mem 62 k := fun k z => by rw [← hm1, mset_k z]
  have hne1 : ∀ b, b ≠ 62 → m1 b = mem b := fun b hb => by rw [← hm1, mset_ne hb]
  have e : lp f_X7_back_b22 FU (0, m1) = some (nI 28, cpK m1 77 (fun k => k) (fun k => m1 89 (28 * n + k)) 28) := by
    refine lp_FU (fun i => (nI i, cpK m1 77 (fun k => k) (fun k => m1 89 (28 * n + k)) i)) 28 (by decide) ?_ ?_
    · intro i hi
      unfold f_X7_back_b22
      simp only
      rw [if_neg (show ¬ (28 : Int32) ≤ nI i from nI_ge hi (by decide)), cpK_ne (by decide), cpK_ne (by decide), h43, i_lit 28, pk_mul, nI_add, rd_nI (by omega) (by decide), wr_nI hi (by decide)]
      simp only [lt', nI_1]
      rfl
    · unfold f_X7_back_b22
      simp only
      rw [if_pos (show (28 : Int32) ≤ nI 28 from nI_le (Nat.le_refl 28) (by decide))]
  rw [e]
  simp only [ob]
  rw [mset_k (by decide), cpK_ne (by decide), h43]
  refine ⟨_, rfl, ⟨by rw [mset_k (by decide), cpK_ne (by decide), h43], fun j hj => ?_⟩, ?_, ?_, fun b z1 z2 => by rw [mset_ne z1, cpK_ne z2, hne1 b z1], fun k z1 z2 => by rw [mset_k z1, cpK_ne (by decide)]; exact h62 k z2⟩
  · exact (hK.2 j (by omega)).keep (fun k hk => by rw [mset_ne (by decide), cpK_ne (by decide), hne1 89 (by decide)])
  · exact MU.less (hU.keep (by rw [cpK_ne (by decide), h62 31 (by decide)]) (by rw [cpK_ne (by decide), h62 32 (by decide)]) (by rw [cpK_ne (by decide), hne1 82 (by decide)]))
  · refine MP.of (hK.2 n (by omega)) (fun k hk => ?_)
    rw [mset_ne (by decide), ← hne1 89 (by decide)]
    exact cpK_in (f := fun k => k) 28 (fun _ _ _ _ e => e) hk
