/-! piles of papers: the class's two, the reference's two -/
theorem gt0_nI {n : Nat} (h0 : 0 < n) (h : n < 2 ^ 31) : 0 < nI n := nI_lt (a := 0) h0 h
theorem acp_e {α : Type} {mem : Mem} {a0 n0 a n1 : Nat} {sp dp n : Int32} {k : Mem → Option α} (i j c : Nat) (hi : sp = nI i) (hj : dp = nI j) (hc : n = nI c) (h0 : i + c ≤ n0) (h1 : j + c ≤ n1) (hb : n0 < 2 ^ 31 ∧ n1 < 2 ^ 31) : acp mem a0 n0 a n1 sp dp n k = k (va_up mem a (va_cpy (mem a0) (mem a) i j c)) := by
  subst hi hj hc
  unfold acp
  rw [nI_clamp (by omega), nI_clamp (by omega), nI_clamp (by omega), if_pos ⟨nI_pos (by omega), nI_pos (by omega), nI_pos (by omega), h0, h1⟩]
theorem cpy_in {f g : Nat → Int32} {i j c k : Nat} (h1 : j ≤ k) (h2 : k < j + c) : va_cpy f g i j c k = f (i + (k - j)) := by
  unfold va_cpy
  rw [if_pos ⟨h1, h2⟩]
theorem cpy_out {f g : Nat → Int32} {i j c k : Nat} (h : k < j ∨ j + c ≤ k) : va_cpy f g i j c k = g k := by
  unfold va_cpy
  rw [if_neg (by omega)]
/-- a paper after the one of t2 is copied to t -/
theorem copy_e {P : Pa} {t t2 : Nat} {mem : Mem} (h : CP P t2 mem) (ht : t + 3 < t2 ∨ t2 + 3 < t) : ∃ m', f_X0_copy t t2 mem = some m' ∧ CP P t m' ∧ ∀ a, a ≠ t + 1 → a ≠ t + 2 → a ≠ t + 3 → m' a = mem a := by
  unfold f_X0_copy
  rw [acp_e 0 0 16 (i_lit 0) (i_lit 0) (i_lit 16) (by decide) (by decide) (by decide), acp_e 0 0 6 (i_lit 0) (i_lit 0) (i_lit 6) (by decide) (by decide) (by decide), acp_e 0 0 6 (i_lit 0) (i_lit 0) (i_lit 6) (by decide) (by decide) (by decide)]
  refine ⟨_, rfl, ⟨fun x hx => ?_, fun i hi => ⟨?_, ?_⟩⟩, fun a z1 z2 z3 => ?_⟩
  · rw [upa_ne (by omega), upa_ne (by omega), upa_eq, cpy_in (by omega) (by omega), Nat.zero_add, Nat.sub_zero]
    exact h.1 x hx
  · rw [upa_ne (by omega), upa_eq, cpy_in (by omega) (by omega), Nat.zero_add, Nat.sub_zero, upa_ne (by omega)]
    exact (h.2 i hi).1
  · rw [upa_eq, cpy_in (by omega) (by omega), Nat.zero_add, Nat.sub_zero, upa_ne (by omega), upa_ne (by omega)]
    exact (h.2 i hi).2
  · rw [upa_ne z3, upa_ne z2, upa_ne z1]
def pushN (c n : Nat) : Nat := if n < c then n + 1 else c
def pushF (c n : Nat) (U : Nat → Pa) (P : Pa) : Nat → Pa := fun j => if n < c then (if j = n then P else U j) else (if j + 1 = c then P else U (j + 1))
def CU (n : Nat) (U : Nat → Pa) (mem : Mem) : Prop := mem 52 0 = nI 8 ∧ mem 52 4 = nI n ∧ ∀ j, j < n → (∀ x, x < 16 → mem 53 (16 * j + x) = nI ((U j).1 x)) ∧ ∀ i, i < 6 → mem 54 (6 * j + i) = nI ((U j).2.1 i) ∧ mem 55 (6 * j + i) = nI ((U j).2.2 i)
theorem CU.keep {n : Nat} {U : Nat → Pa} {mem mem' : Mem} (h : CU n U mem) (hk : ∀ a, 52 ≤ a → a ≤ 55 → mem' a = mem a) : CU n U mem' := by
  rw [CU, hk 52 (by decide) (by decide), hk 53 (by decide) (by decide), hk 54 (by decide) (by decide), hk 55 (by decide) (by decide)]
  exact h
theorem CU.less {n : Nat} {U : Nat → Pa} {mem : Mem} (h : CU n U mem) : CU 0 U (mset mem 52 4 0) := by
  refine ⟨?_, by rw [mset_eq]; rfl, fun j hj => absurd hj (Nat.not_lt_zero _)⟩
  rw [mset_k (by decide)]
  exact h.1
theorem pushU_j {P : Pa} {t n : Nat} {U : Nat → Pa} {mem : Mem} (h : CP P t mem) (ht : t + 3 < 52) (hU : CU n U mem) (hn : n < 8) : ∃ m', f_X1_push_U_j15 t mem = some m' ∧ CU (n + 1) (fun j => if j = n then P else U j) m' ∧ ∀ a, a < 52 ∨ 55 < a → m' a = mem a := by
  unfold f_X1_push_U_j15
  rw [acp_e 0 (n * 16) 16 (i_lit 0) (by rw [hU.2.1, i_lit 16, pk_mul]) (i_lit 16) (by decide) (by omega) (by decide)]
  rw [acp_e 0 (n * 6) 6 (i_lit 0) (by rw [upa_ne (by decide), hU.2.1, i_lit 6, pk_mul]) (i_lit 6) (by decide) (by omega) (by decide)]
  rw [acp_e 0 (n * 6) 6 (i_lit 0) (by rw [upa_ne (by decide), upa_ne (by decide), hU.2.1, i_lit 6, pk_mul]) (i_lit 6) (by decide) (by omega) (by decide)]
  simp only [lt']
  refine ⟨_, rfl, ⟨?_, ?_, fun j hj => ⟨fun x hx => ?_, fun i hi => ⟨?_, ?_⟩⟩⟩, fun a ha => ?_⟩
  · rw [mset_k (by decide), upa_ne (by decide), upa_ne (by decide), upa_ne (by decide)]
    exact hU.1
  · rw [mset_eq, upa_ne (by decide), upa_ne (by decide), upa_ne (by decide), hU.2.1, nI_1]
  · rw [mset_ne (by decide), upa_ne (by decide), upa_ne (by decide), upa_eq]
    simp only
    by_cases he : j = n
    · rw [cpy_in (by omega) (by omega), if_pos he, show 0 + (16 * j + x - n * 16) = x by omega]
      exact h.1 x hx
    · rw [cpy_out (by omega), if_neg he]
      exact (hU.2.2 j (by omega)).1 x hx
  · rw [mset_ne (by decide), upa_ne (by decide), upa_eq]
    simp only
    by_cases he : j = n
    · rw [cpy_in (by omega) (by omega), if_pos he, show 0 + (6 * j + i - n * 6) = i by omega, upa_ne (by omega)]
      exact (h.2 i hi).1
    · rw [cpy_out (by omega), if_neg he, upa_ne (by decide)]
      exact ((hU.2.2 j (by omega)).2 i hi).1
  · rw [mset_ne (by decide), upa_eq]
    simp only
    by_cases he : j = n
    · rw [cpy_in (by omega) (by omega), if_pos he, show 0 + (6 * j + i - n * 6) = i by omega, upa_ne (by omega), upa_ne (by omega)]
      exact (h.2 i hi).2
    · rw [cpy_out (by omega), if_neg he, upa_ne (by decide), upa_ne (by decide)]
      exact ((hU.2.2 j (by omega)).2 i hi).2
  · rw [mset_ne (by omega), upa_ne (by omega), upa_ne (by omega), upa_ne (by omega)]
theorem dropU_e {U : Nat → Pa} {mem : Mem} (hU : CU 8 U mem) : ∃ m', f_X1_dropOldest_U mem = some m' ∧ CU (8 - 1) (fun j => U (j + 1)) m' ∧ ∀ a, a < 52 ∨ 55 < a → m' a = mem a := by
  unfold f_X1_dropOldest_U
  simp only [lt']
  have e0 : mem 52 0 - 1 = nI (8 - 1) := by rw [hU.1]; decide
  rw [e0]
  rw [acp_e 16 0 ((8 - 1) * 16) (i_lit 16) (i_lit 0) (by rw [mset_eq, i_lit 16, pk_mul]) (by decide) (by decide) (by decide)]
  rw [acp_e 6 0 ((8 - 1) * 6) (i_lit 6) (i_lit 0) (by rw [upa_ne (by decide), mset_eq, i_lit 6, pk_mul]) (by decide) (by decide) (by decide)]
  rw [acp_e 6 0 ((8 - 1) * 6) (i_lit 6) (i_lit 0) (by rw [upa_ne (by decide), upa_ne (by decide), mset_eq, i_lit 6, pk_mul]) (by decide) (by decide) (by decide)]
  refine ⟨_, rfl, ⟨?_, ?_, fun j hj => ⟨fun x hx => ?_, fun i hi => ⟨?_, ?_⟩⟩⟩, fun a ha => ?_⟩
  · rw [upa_ne (by decide), upa_ne (by decide), upa_ne (by decide), mset_k (by decide)]
    exact hU.1
  · rw [upa_ne (by decide), upa_ne (by decide), upa_ne (by decide), mset_eq]
  · rw [upa_ne (by decide), upa_ne (by decide), upa_eq, cpy_in (by omega) (by omega), mset_ne (by decide), show 16 + (16 * j + x - 0) = 16 * (j + 1) + x by omega]
    exact (hU.2.2 (j + 1) (by omega)).1 x hx
  · rw [upa_ne (by decide), upa_eq, cpy_in (by omega) (by omega), upa_ne (by decide), mset_ne (by decide), show 6 + (6 * j + i - 0) = 6 * (j + 1) + i by omega]
    exact ((hU.2.2 (j + 1) (by omega)).2 i hi).1
  · rw [upa_eq, cpy_in (by omega) (by omega), upa_ne (by decide), upa_ne (by decide), mset_ne (by decide), show 6 + (6 * j + i - 0) = 6 * (j + 1) + i by omega]
    exact ((hU.2.2 (j + 1) (by omega)).2 i hi).2
  · rw [upa_ne (by omega), upa_ne (by omega), upa_ne (by omega), mset_ne (by omega)]
theorem pushU_e {P : Pa} {t n : Nat} {U : Nat → Pa} {mem : Mem} (h : CP P t mem) (ht : t + 3 < 52) (hU : CU n U mem) (hn : n ≤ 8) : ∃ m', f_X1_push_U t mem = some m' ∧ CU (pushN 8 n) (pushF 8 n U P) m' ∧ ∀ a, a < 52 ∨ 55 < a → m' a = mem a := by
  unfold f_X1_push_U
  rw [hU.1, hU.2.1]
  by_cases hc : n < 8
  · obtain ⟨m', e, h1, h2⟩ := pushU_j h ht hU hc
    rw [if_pos (nI_lt hc (by decide))]
    refine ⟨m', e, ?_, h2⟩
    have e1 : pushN 8 n = n + 1 := if_pos hc
    have e2 : pushF 8 n U P = (fun j => if j = n then P else U j) := by funext j; unfold pushF; rw [if_pos hc]
    rw [e1, e2]
    exact h1
  · have : n = 8 := by omega
    subst this
    obtain ⟨m1, e, h1, h2⟩ := dropU_e hU
    rw [if_neg (nI_nlt (Nat.le_refl _) (by decide)), e]
    simp only [ob]
    obtain ⟨m', e', h1', h2'⟩ := pushU_j (h.keep (fun a _ _ => h2 a (by omega))) ht h1 (by decide)
    refine ⟨m', e', ?_, fun a ha => by rw [h2' a ha, h2 a ha]⟩
    have e2 : pushF 8 8 U P = (fun j => if j = 8 - 1 then P else U (j + 1)) := by
      funext j
      unfold pushF
      rw [if_neg (by decide)]
      by_cases hj : j = 8 - 1
      · rw [if_pos hj, if_pos (by omega)]
      · rw [if_neg hj, if_neg (by omega)]
    rw [e2]
    exact h1'
theorem popU_0 {t : Nat} {U : Nat → Pa} {mem : Mem} (hU : CU 0 U mem) : f_X1_pop_U t mem = some (0, mem) := by
  unfold f_X1_pop_U
  rw [hU.2.1, if_neg (by decide)]
theorem popU_e {t n : Nat} {U : Nat → Pa} {mem : Mem} (ht : t + 3 < 52) (hU : CU (n + 1) U mem) (hn : n + 1 ≤ 8) : ∃ m', f_X1_pop_U t mem = some (1, m') ∧ CU n U m' ∧ CP (U n) t m' ∧ ∀ a, a ≠ 52 → a ≠ t + 1 → a ≠ t + 2 → a ≠ t + 3 → m' a = mem a := by
  unfold f_X1_pop_U
  rw [hU.2.1, if_pos (gt0_nI (by omega) (by omega)), nI_pred]
  simp only [lt']
  rw [acp_e (n * 16) 0 16 (by rw [mset_eq, i_lit 16, pk_mul]) (i_lit 0) (i_lit 16) (by omega) (by decide) (by decide)]
  rw [acp_e (n * 6) 0 6 (by rw [upa_ne (by omega), mset_eq, i_lit 6, pk_mul]) (i_lit 0) (i_lit 6) (by omega) (by decide) (by decide)]
  rw [acp_e (n * 6) 0 6 (by rw [upa_ne (by omega), upa_ne (by omega), mset_eq, i_lit 6, pk_mul]) (i_lit 0) (i_lit 6) (by omega) (by decide) (by decide)]
  refine ⟨_, rfl, ⟨?_, ?_, fun j hj => ?_⟩, ⟨fun x hx => ?_, fun i hi => ⟨?_, ?_⟩⟩, fun a z0 z1 z2 z3 => ?_⟩
  · rw [upa_ne (by omega), upa_ne (by omega), upa_ne (by omega), mset_k (by decide)]
    exact hU.1
  · rw [upa_ne (by omega), upa_ne (by omega), upa_ne (by omega), mset_eq]
  · rw [upa_ne (show 53 ≠ t + 3 by omega), upa_ne (show 53 ≠ t + 2 by omega), upa_ne (show 53 ≠ t + 1 by omega), mset_ne (by decide), upa_ne (show 54 ≠ t + 3 by omega), upa_ne (show 54 ≠ t + 2 by omega), upa_ne (show 54 ≠ t + 1 by omega), mset_ne (by decide), upa_ne (show 55 ≠ t + 3 by omega), upa_ne (show 55 ≠ t + 2 by omega), upa_ne (show 55 ≠ t + 1 by omega), mset_ne (by decide)]
    exact hU.2.2 j (by omega)
  · rw [upa_ne (by omega), upa_ne (by omega), upa_eq, cpy_in (by omega) (by omega), mset_ne (by decide), show n * 16 + (x - 0) = 16 * n + x by omega]
    exact (hU.2.2 n (by omega)).1 x hx
  · rw [upa_ne (by omega), upa_eq, cpy_in (by omega) (by omega), upa_ne (by omega), mset_ne (by decide), show n * 6 + (i - 0) = 6 * n + i by omega]
    exact ((hU.2.2 n (by omega)).2 i hi).1
  · rw [upa_eq, cpy_in (by omega) (by omega), upa_ne (by omega), upa_ne (by omega), mset_ne (by decide), show n * 6 + (i - 0) = 6 * n + i by omega]
    exact ((hU.2.2 n (by omega)).2 i hi).2
  · rw [upa_ne z3, upa_ne z2, upa_ne z1, mset_ne z0]
def CK (n : Nat) (U : Nat → Pa) (mem : Mem) : Prop := mem 56 0 = nI 2 ∧ mem 56 4 = nI n ∧ ∀ j, j < n → (∀ x, x < 16 → mem 57 (16 * j + x) = nI ((U j).1 x)) ∧ ∀ i, i < 6 → mem 58 (6 * j + i) = nI ((U j).2.1 i) ∧ mem 59 (6 * j + i) = nI ((U j).2.2 i)
theorem CK.keep {n : Nat} {U : Nat → Pa} {mem mem' : Mem} (h : CK n U mem) (hk : ∀ a, 56 ≤ a → a ≤ 59 → mem' a = mem a) : CK n U mem' := by
  rw [CK, hk 56 (by decide) (by decide), hk 57 (by decide) (by decide), hk 58 (by decide) (by decide), hk 59 (by decide) (by decide)]
  exact h
theorem CK.less {n : Nat} {U : Nat → Pa} {mem : Mem} (h : CK n U mem) : CK 0 U (mset mem 56 4 0) := by
  refine ⟨?_, by rw [mset_eq]; rfl, fun j hj => absurd hj (Nat.not_lt_zero _)⟩
  rw [mset_k (by decide)]
  exact h.1
theorem pushK_j {P : Pa} {t n : Nat} {U : Nat → Pa} {mem : Mem} (h : CP P t mem) (ht : t + 3 < 56) (hU : CK n U mem) (hn : n < 2) : ∃ m', f_X1_push_K_j15 t mem = some m' ∧ CK (n + 1) (fun j => if j = n then P else U j) m' ∧ ∀ a, a < 56 ∨ 59 < a → m' a = mem a := by
  unfold f_X1_push_K_j15
  rw [acp_e 0 (n * 16) 16 (i_lit 0) (by rw [hU.2.1, i_lit 16, pk_mul]) (i_lit 16) (by decide) (by omega) (by decide)]
  rw [acp_e 0 (n * 6) 6 (i_lit 0) (by rw [upa_ne (by decide), hU.2.1, i_lit 6, pk_mul]) (i_lit 6) (by decide) (by omega) (by decide)]
  rw [acp_e 0 (n * 6) 6 (i_lit 0) (by rw [upa_ne (by decide), upa_ne (by decide), hU.2.1, i_lit 6, pk_mul]) (i_lit 6) (by decide) (by omega) (by decide)]
  simp only [lt']
  refine ⟨_, rfl, ⟨?_, ?_, fun j hj => ⟨fun x hx => ?_, fun i hi => ⟨?_, ?_⟩⟩⟩, fun a ha => ?_⟩
  · rw [mset_k (by decide), upa_ne (by decide), upa_ne (by decide), upa_ne (by decide)]
    exact hU.1
  · rw [mset_eq, upa_ne (by decide), upa_ne (by decide), upa_ne (by decide), hU.2.1, nI_1]
  · rw [mset_ne (by decide), upa_ne (by decide), upa_ne (by decide), upa_eq]
    simp only
    by_cases he : j = n
    · rw [cpy_in (by omega) (by omega), if_pos he, show 0 + (16 * j + x - n * 16) = x by omega]
      exact h.1 x hx
    · rw [cpy_out (by omega), if_neg he]
      exact (hU.2.2 j (by omega)).1 x hx
  · rw [mset_ne (by decide), upa_ne (by decide), upa_eq]
    simp only
    by_cases he : j = n
    · rw [cpy_in (by omega) (by omega), if_pos he, show 0 + (6 * j + i - n * 6) = i by omega, upa_ne (by omega)]
      exact (h.2 i hi).1
    · rw [cpy_out (by omega), if_neg he, upa_ne (by decide)]
      exact ((hU.2.2 j (by omega)).2 i hi).1
  · rw [mset_ne (by decide), upa_eq]
    simp only
    by_cases he : j = n
    · rw [cpy_in (by omega) (by omega), if_pos he, show 0 + (6 * j + i - n * 6) = i by omega, upa_ne (by omega), upa_ne (by omega)]
      exact (h.2 i hi).2
    · rw [cpy_out (by omega), if_neg he, upa_ne (by decide), upa_ne (by decide)]
      exact ((hU.2.2 j (by omega)).2 i hi).2
  · rw [mset_ne (by omega), upa_ne (by omega), upa_ne (by omega), upa_ne (by omega)]
theorem dropK_e {U : Nat → Pa} {mem : Mem} (hU : CK 2 U mem) : ∃ m', f_X1_dropOldest_K mem = some m' ∧ CK (2 - 1) (fun j => U (j + 1)) m' ∧ ∀ a, a < 56 ∨ 59 < a → m' a = mem a := by
  unfold f_X1_dropOldest_K
  simp only [lt']
  have e0 : mem 56 0 - 1 = nI (2 - 1) := by rw [hU.1]; decide
  rw [e0]
  rw [acp_e 16 0 ((2 - 1) * 16) (i_lit 16) (i_lit 0) (by rw [mset_eq, i_lit 16, pk_mul]) (by decide) (by decide) (by decide)]
  rw [acp_e 6 0 ((2 - 1) * 6) (i_lit 6) (i_lit 0) (by rw [upa_ne (by decide), mset_eq, i_lit 6, pk_mul]) (by decide) (by decide) (by decide)]
  rw [acp_e 6 0 ((2 - 1) * 6) (i_lit 6) (i_lit 0) (by rw [upa_ne (by decide), upa_ne (by decide), mset_eq, i_lit 6, pk_mul]) (by decide) (by decide) (by decide)]
  refine ⟨_, rfl, ⟨?_, ?_, fun j hj => ⟨fun x hx => ?_, fun i hi => ⟨?_, ?_⟩⟩⟩, fun a ha => ?_⟩
  · rw [upa_ne (by decide), upa_ne (by decide), upa_ne (by decide), mset_k (by decide)]
    exact hU.1
  · rw [upa_ne (by decide), upa_ne (by decide), upa_ne (by decide), mset_eq]
  · rw [upa_ne (by decide), upa_ne (by decide), upa_eq, cpy_in (by omega) (by omega), mset_ne (by decide), show 16 + (16 * j + x - 0) = 16 * (j + 1) + x by omega]
    exact (hU.2.2 (j + 1) (by omega)).1 x hx
  · rw [upa_ne (by decide), upa_eq, cpy_in (by omega) (by omega), upa_ne (by decide), mset_ne (by decide), show 6 + (6 * j + i - 0) = 6 * (j + 1) + i by omega]
    exact ((hU.2.2 (j + 1) (by omega)).2 i hi).1
  · rw [upa_eq, cpy_in (by omega) (by omega), upa_ne (by decide), upa_ne (by decide), mset_ne (by decide), show 6 + (6 * j + i - 0) = 6 * (j + 1) + i by omega]
    exact ((hU.2.2 (j + 1) (by omega)).2 i hi).2
  · rw [upa_ne (by omega), upa_ne (by omega), upa_ne (by omega), mset_ne (by omega)]
theorem pushK_e {P : Pa} {t n : Nat} {U : Nat → Pa} {mem : Mem} (h : CP P t mem) (ht : t + 3 < 56) (hU : CK n U mem) (hn : n ≤ 2) : ∃ m', f_X1_push_K t mem = some m' ∧ CK (pushN 2 n) (pushF 2 n U P) m' ∧ ∀ a, a < 56 ∨ 59 < a → m' a = mem a := by
  unfold f_X1_push_K
  rw [hU.1, hU.2.1]
  by_cases hc : n < 2
  · obtain ⟨m', e, h1, h2⟩ := pushK_j h ht hU hc
    rw [if_pos (nI_lt hc (by decide))]
    refine ⟨m', e, ?_, h2⟩
    have e1 : pushN 2 n = n + 1 := if_pos hc
    have e2 : pushF 2 n U P = (fun j => if j = n then P else U j) := by funext j; unfold pushF; rw [if_pos hc]
    rw [e1, e2]
    exact h1
  · have : n = 2 := by omega
    subst this
    obtain ⟨m1, e, h1, h2⟩ := dropK_e hU
    rw [if_neg (nI_nlt (Nat.le_refl _) (by decide)), e]
    simp only [ob]
    obtain ⟨m', e', h1', h2'⟩ := pushK_j (h.keep (fun a _ _ => h2 a (by omega))) ht h1 (by decide)
    refine ⟨m', e', ?_, fun a ha => by rw [h2' a ha, h2 a ha]⟩
    have e2 : pushF 2 2 U P = (fun j => if j = 2 - 1 then P else U (j + 1)) := by
      funext j
      unfold pushF
      rw [if_neg (by decide)]
      by_cases hj : j = 2 - 1
      · rw [if_pos hj, if_pos (by omega)]
      · rw [if_neg hj, if_neg (by omega)]
    rw [e2]
    exact h1'
theorem popK_0 {t : Nat} {U : Nat → Pa} {mem : Mem} (hU : CK 0 U mem) : f_X1_pop_K t mem = some (0, mem) := by
  unfold f_X1_pop_K
  rw [hU.2.1, if_neg (by decide)]
theorem popK_e {t n : Nat} {U : Nat → Pa} {mem : Mem} (ht : t + 3 < 56) (hU : CK (n + 1) U mem) (hn : n + 1 ≤ 2) : ∃ m', f_X1_pop_K t mem = some (1, m') ∧ CK n U m' ∧ CP (U n) t m' ∧ ∀ a, a ≠ 56 → a ≠ t + 1 → a ≠ t + 2 → a ≠ t + 3 → m' a = mem a := by
  unfold f_X1_pop_K
  rw [hU.2.1, if_pos (gt0_nI (by omega) (by omega)), nI_pred]
  simp only [lt']
  rw [acp_e (n * 16) 0 16 (by rw [mset_eq, i_lit 16, pk_mul]) (i_lit 0) (i_lit 16) (by omega) (by decide) (by decide)]
  rw [acp_e (n * 6) 0 6 (by rw [upa_ne (by omega), mset_eq, i_lit 6, pk_mul]) (i_lit 0) (i_lit 6) (by omega) (by decide) (by decide)]
  rw [acp_e (n * 6) 0 6 (by rw [upa_ne (by omega), upa_ne (by omega), mset_eq, i_lit 6, pk_mul]) (i_lit 0) (i_lit 6) (by omega) (by decide) (by decide)]
  refine ⟨_, rfl, ⟨?_, ?_, fun j hj => ?_⟩, ⟨fun x hx => ?_, fun i hi => ⟨?_, ?_⟩⟩, fun a z0 z1 z2 z3 => ?_⟩
  · rw [upa_ne (by omega), upa_ne (by omega), upa_ne (by omega), mset_k (by decide)]
    exact hU.1
  · rw [upa_ne (by omega), upa_ne (by omega), upa_ne (by omega), mset_eq]
  · rw [upa_ne (show 57 ≠ t + 3 by omega), upa_ne (show 57 ≠ t + 2 by omega), upa_ne (show 57 ≠ t + 1 by omega), mset_ne (by decide), upa_ne (show 58 ≠ t + 3 by omega), upa_ne (show 58 ≠ t + 2 by omega), upa_ne (show 58 ≠ t + 1 by omega), mset_ne (by decide), upa_ne (show 59 ≠ t + 3 by omega), upa_ne (show 59 ≠ t + 2 by omega), upa_ne (show 59 ≠ t + 1 by omega), mset_ne (by decide)]
    exact hU.2.2 j (by omega)
  · rw [upa_ne (by omega), upa_ne (by omega), upa_eq, cpy_in (by omega) (by omega), mset_ne (by decide), show n * 16 + (x - 0) = 16 * n + x by omega]
    exact (hU.2.2 n (by omega)).1 x hx
  · rw [upa_ne (by omega), upa_eq, cpy_in (by omega) (by omega), upa_ne (by omega), mset_ne (by decide), show n * 6 + (i - 0) = 6 * n + i by omega]
    exact ((hU.2.2 n (by omega)).2 i hi).1
  · rw [upa_eq, cpy_in (by omega) (by omega), upa_ne (by omega), upa_ne (by omega), mset_ne (by decide), show n * 6 + (i - 0) = 6 * n + i by omega]
    exact ((hU.2.2 n (by omega)).2 i hi).2
  · rw [upa_ne z3, upa_ne z2, upa_ne z1, mset_ne z0]
