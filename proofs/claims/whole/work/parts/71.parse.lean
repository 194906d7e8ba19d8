/-! a whole text: both find the same fault, or both have taken all of it -/
def Stn (x : Nat × (Nat → Nat)) : Nat → PS → PS → Prop
  | 0, D, D' => D = D'
  | n + 1, D, D' => ∃ D1, Step x D D1 ∧ Stn x n D1 D'
def D0 : PS := (((3, 4, 0, 0, 0), (fun _ => 0), (fun _ => 0), (fun _ => 0), (fun _ => 0), (fun _ => 0), (fun _ _ => 0), fun _ => 0), ((fun _ => 0), (fun _ => 0), fun _ => 0), 0, true)
/-- all of it is taken -/
def Done (x : Nat × (Nat → Nat)) (S : Sh) (P : Pa) : Prop := ∃ n j g, Stn x n D0 (S, P, j, g) ∧ x.1 ≤ j
/-- the item at k is refused -/
def Flt (x : Nat × (Nat → Nat)) (k : Nat) : Prop := ∃ n S P g, Stn x n D0 (S, P, k, g) ∧ k < x.1 ∧ ∀ D', ¬ Step x (S, P, k, g) D'
section PRS
variable {x : Nat × (Nat → Nat)} {i j a n v s k : Nat} {mem m' m2 : Mem} {S S' : Sh} {P P' : Pa} {g g' : Bool}
theorem d0_ok : DOK D0.1 D0.2.1 D0.2.2.2 := ⟨⟨by decide, by decide⟩, ⟨by decide, by decide⟩, rfl, by decide, by decide, fun _ => Nat.zero_le _, fun w hw => absurd hw (Nat.not_lt_zero _), fun w hw => absurd hw (Nat.not_lt_zero _), fun _ _ => Nat.zero_le _, fun _ _ _ => rfl, fun _ _ _ => rfl, fun i _ => ⟨(by decide : 0 < 8), fun z => absurd z (Nat.not_lt_zero _), fun _ => ⟨rfl, rfl⟩⟩⟩
theorem stn_ok (hX : XOK x) : ∀ (n : Nat) (S : Sh) (P : Pa) (i : Nat) (g : Bool), DOK S P g → i ≤ 220 → Stn x n (S, P, i, g) (S', P', j, g') → DOK S' P' g' ∧ i + n ≤ j ∧ j ≤ 220 := by
  have h200 := hX.1
  intro n
  induction n with
  | zero =>
    intro S P i g hO hi h
    have h' : (S, P, i, g) = (S', P', j, g') := h
    simp only [Prod.mk.injEq] at h'
    obtain ⟨rfl, rfl, rfl, rfl⟩ := h'
    exact ⟨hO, by omega, hi⟩
  | succ n ih =>
    intro S P i g hO hi h
    obtain ⟨⟨S1, P1, i1, g1⟩, h1, h2⟩ := h
    have h3 := step_ok hX hO h1
    have h4 : i < x.1 := h1.1
    have h5 := ih S1 P1 i1 g1 h3.1 (by omega) h2
    exact ⟨h5.1, by omega, h5.2.2⟩
theorem parse (hX : XOK x) : (∃ S P, Done x S P) ∨ ∃ k, Flt x k := by
  have key : ∀ d S P i g, x.1 - i ≤ d → DOK S P g → ∃ n S' P' j g', Stn x n (S, P, i, g) (S', P', j, g') ∧ (x.1 ≤ j ∨ (j < x.1 ∧ ∀ D', ¬ Step x (S', P', j, g') D')) := by
    intro d
    induction d with
    | zero =>
      intro S P i g hd hO
      exact ⟨0, S, P, i, g, rfl, Or.inl (by omega)⟩
    | succ d ih =>
      intro S P i g hd hO
      by_cases hi : x.1 ≤ i
      · exact ⟨0, S, P, i, g, rfl, Or.inl hi⟩
      · by_cases hs : ∃ D', Step x (S, P, i, g) D'
        · obtain ⟨⟨S1, P1, i1, g1⟩, h1⟩ := hs
          have h3 := step_ok hX hO h1
          obtain ⟨n, S', P', j, g', q1, q2⟩ := ih S1 P1 i1 g1 (by omega) h3.1
          exact ⟨n + 1, S', P', j, g', ⟨_, h1, q1⟩, q2⟩
        · exact ⟨0, S, P, i, g, rfl, Or.inr ⟨by omega, fun D' z => hs ⟨D', z⟩⟩⟩
  obtain ⟨n, S', P', j, g', q1, q2⟩ := key x.1 D0.1 D0.2.1 D0.2.2.1 D0.2.2.2 (by omega) d0_ok
  rcases q2 with q2 | q2
  · exact Or.inl ⟨S', P', n, j, g', q1, q2⟩
  · exact Or.inr ⟨j, n, S', P', g', q1, q2⟩
theorem into_b (hX : XOK x) (hT : TX x i mem) (hi : i < x.1) {c : Nat} (hc : c ≤ i) : f_X2_readInto_b13 s (b2i g, nI c, mem) = f_X2_readInto_j58 s (nI c) (nI i) (b2i (g && tk x i == 103)) mem := by
  have h200 := hX.1
  have e : tk x i = x.2 i := by rw [tk, if_pos hi]
  have k0 := tk_le hX i
  unfold f_X2_readInto_b13
  simp only
  rw [if_neg (show ¬ (200 : Int32) ≤ nI c from nI_ge (b := 200) (by omega) (by decide)), hT.1.1, hT.2, if_neg (nI_ge hi (by omega))]
  simp only [lt']
  by_cases hg : g = true
  · rw [hg, if_neg (by decide), rd_e i rfl (by omega) (by decide) (hT.1.2 i hi), ← e]
    by_cases c2 : tk x i = 103
    · rw [c2, if_pos (by decide)]
      rfl
    · rw [if_neg (show ¬ nI (tk x i) = 103 from lit_ne (n := 103) c2 (by omega) (by decide)), show (tk x i == 103) = false by simpa using c2]
      rfl
  · have hg' : g = false := by simpa using hg
    rw [hg', if_pos (by decide)]
    rfl
theorem loop_c (hX : XOK x) (hs : 3 ≤ s) : ∀ (n : Nat) (S : Sh) (P : Pa) (i : Nat) (g : Bool) (c : Nat) (mem : Mem), DOK S P g → i ≤ 220 → c ≤ i → CR S P s mem → TX x i mem → Stn x n (S, P, i, g) (S', P', j, g') → ∀ N, n < N → (x.1 ≤ j → ∃ fl cc m', lp (f_X2_readInto_b13 s) N (b2i g, nI c, mem) = some (.inl (fl, cc, m')) ∧ CR S' P' s m' ∧ CX x m' ∧ GC s mem m') ∧ (j < x.1 → (∀ D', ¬ Step x (S', P', j, g') D') → ∃ m', lp (f_X2_readInto_b13 s) N (b2i g, nI c, mem) = some (.inr (nI j, m')) ∧ GC s mem m') := by
  have h200 := hX.1
  intro n
  induction n with
  | zero =>
    intro S P i g c mem hO hi hc hC hT h N hN
    have h' : (S, P, i, g) = (S', P', j, g') := h
    simp only [Prod.mk.injEq] at h'
    obtain ⟨rfl, rfl, rfl, rfl⟩ := h'
    obtain ⟨M, rfl⟩ : ∃ M, N = M + 1 := ⟨N - 1, by omega⟩
    refine ⟨fun hj => ?_, fun hj hst => ?_⟩
    · refine ⟨b2i g, nI c, mem, lp_done ?_, hC, hT.1, GC.rfl⟩
      unfold f_X2_readInto_b13
      simp only
      by_cases c2 : (200 : Int32) ≤ nI c
      · rw [if_pos c2]
      · rw [if_neg c2, hT.1.1, hT.2, if_pos (nI_le hj (by omega))]
    · obtain ⟨m1, q1, q2⟩ := (item_c hX hs hO hC hT hj).2 hst
      refine ⟨m1, lp_done ?_, q2⟩
      rw [into_b hX hT hj hc]
      unfold f_X2_readInto_j58
      rw [q1]
      simp only [ob2]
      rw [if_pos trivial]
  | succ n ih =>
    intro S P i g c mem hO hi hc hC hT h N hN
    obtain ⟨⟨S1, P1, i1, g1⟩, h1, h2⟩ := h
    have hi1 : i < x.1 := h1.1
    have h3 := step_ok hX hO h1
    obtain ⟨M, rfl⟩ : ∃ M, N = M + 1 := ⟨N - 1, by omega⟩
    obtain ⟨m1, q1, q2, q3, q4⟩ := (item_c hX hs hO hC hT hi1).1 S1 P1 i1 g1 h1
    have hb : f_X2_readInto_b13 s (b2i g, nI c, mem) = some (.inl (b2i g1, nI (c + 1), m1)) := by
      rw [into_b hX hT hi1 hc]
      unfold f_X2_readInto_j58
      rw [q1]
      simp only [ob2]
      rw [if_neg (by decide), h3.2.2.2, nI_1]
      rfl
    rw [lp_more hb]
    have hh := ih S1 P1 i1 g1 (c + 1) m1 h3.1 (by omega) (by omega) q2 q3 h2 M (by omega)
    refine ⟨fun hj => ?_, fun hj hst => ?_⟩
    · obtain ⟨fl, cc, m2, r1, r2, r3, r4⟩ := hh.1 hj
      exact ⟨fl, cc, m2, r1, r2, r3, q4.tr r4⟩
    · obtain ⟨m2, r1, r2⟩ := hh.2 hj hst
      exact ⟨m2, r1, q4.tr r2⟩
theorem loop_7 (hX : XOK x) : ∀ (n : Nat) (S : Sh) (P : Pa) (i : Nat) (g : Bool) (mem : Mem), DOK S P g → i ≤ 220 → RR S P mem → TM x i mem → mem 62 7 = b2i (!g) → Stn x n (S, P, i, g) (S', P', j, g') → ∀ N, n < N → (x.1 ≤ j → ∃ m', lp f_X7_faultOf_b9 N mem = some (.inl m') ∧ RR S' P' m' ∧ FR mem m') ∧ (j < x.1 → (∀ D', ¬ Step x (S', P', j, g') D') → ∃ m', lp f_X7_faultOf_b9 N mem = some (.inr (nI j, m')) ∧ FR mem m') := by
  have h200 := hX.1
  intro n
  induction n with
  | zero =>
    intro S P i g mem hO hi hR hT h7 h N hN
    have h' : (S, P, i, g) = (S', P', j, g') := h
    simp only [Prod.mk.injEq] at h'
    obtain ⟨rfl, rfl, rfl, rfl⟩ := h'
    obtain ⟨M, rfl⟩ : ∃ M, N = M + 1 := ⟨N - 1, by omega⟩
    refine ⟨fun hj => ?_, fun hj hst => ?_⟩
    · refine ⟨mem, lp_done ?_, hR, FR.rfl⟩
      unfold f_X7_faultOf_b9
      rw [hT.1.1, hT.2, if_pos (nI_le hj (by omega))]
    · obtain ⟨m1, q1, q2⟩ := (item_7 hX hO hR hT h7 hj).2 hst
      refine ⟨m1, lp_done ?_, q2⟩
      unfold f_X7_faultOf_b9
      rw [hT.1.1, hT.2, if_neg (nI_ge hj (by omega)), q1]
      simp only [lt', ob2]
      rw [if_pos trivial]
  | succ n ih =>
    intro S P i g mem hO hi hR hT h7 h N hN
    obtain ⟨⟨S1, P1, i1, g1⟩, h1, h2⟩ := h
    have hi1 : i < x.1 := h1.1
    have h3 := step_ok hX hO h1
    obtain ⟨M, rfl⟩ : ∃ M, N = M + 1 := ⟨N - 1, by omega⟩
    obtain ⟨m1, q1, q2, q3, q4, q5⟩ := (item_7 hX hO hR hT h7 hi1).1 S1 P1 i1 g1 h1
    have hb : f_X7_faultOf_b9 mem = some (.inl m1) := by
      unfold f_X7_faultOf_b9
      rw [hT.1.1, hT.2, if_neg (nI_ge hi1 (by omega)), q1]
      simp only [lt', ob2]
      rw [if_neg (by decide)]
    rw [lp_more hb]
    rw [← h3.2.2.2] at q4
    have hh := ih S1 P1 i1 g1 m1 h3.1 (by omega) q2 q3 q4 h2 M (by omega)
    refine ⟨fun hj => ?_, fun hj hst => ?_⟩
    · obtain ⟨m2, r1, r2, r3⟩ := hh.1 hj
      exact ⟨m2, r1, r2, q5.tr r3⟩
    · obtain ⟨m2, r1, r2⟩ := hh.2 hj hst
      exact ⟨m2, r1, q5.tr r2⟩
theorem fill0_e {a n : Nat} (hn : n < 1000) (mem : Mem) : ∃ m', f_J7_fill_53178 a n 0 mem = some m' ∧ (∀ k, k < n → m' a k = 0) ∧ ∀ b, b ≠ a → m' b = mem b := by
  unfold f_J7_fill_53178
  simp only [lt']
  obtain ⟨r, hr, r1, r2⟩ := lp_invF (body := f_J7_fill_53178_b5 a n 0 (nI n)) (fun i q => q.1 = nI i ∧ (∀ k, k < i → q.2 a k = 0) ∧ ∀ b, b ≠ a → q.2 b = mem b) n (fun r => (∀ k, k < n → r.2 a k = 0) ∧ ∀ b, b ≠ a → r.2 b = mem b) (by omega) (q := (0, mem)) ⟨rfl, fun k hk => absurd hk (Nat.not_lt_zero _), fun _ _ => rfl⟩ (fun i q hi hq => by
    left
    obtain ⟨q1, q2, q3⟩ := hq
    unfold f_J7_fill_53178_b5
    rw [q1, if_neg (nI_ge hi (by omega)), wr_nI hi (by omega)]
    simp only [lt', nI_1]
    refine ⟨_, rfl, rfl, fun k hk => ?_, fun b z => ?_⟩
    · show mset q.2 a i 0 a k = 0
      rw [mset_at]
      by_cases e : k = i
      · rw [if_pos ⟨rfl, e⟩]
      · rw [if_neg (fun z => e z.2), q2 k (by omega)]
    · show mset q.2 a i 0 b = _
      rw [mset_ne z, q3 b z]) (fun q hq => by
    obtain ⟨q1, q2, q3⟩ := hq
    unfold f_J7_fill_53178_b5
    rw [q1, if_pos (nI_le (Nat.le_refl _) (by omega))]
    exact ⟨_, rfl, q2, q3⟩)
  rw [hr]
  exact ⟨_, rfl, r1, r2⟩
theorem clear_e (s : Nat) (mem : Mem) : ∃ m', f_X5_clear s mem = some m' ∧ CR D0.1 D0.2.1 s m' ∧ ∀ b, (b < s ∨ s + 13 < b) → m' b = mem b := by
  unfold f_X5_clear
  simp only [lt']
  generalize hm0 : mset (mset (mset (mset (mset mem s 0 3) s 1 4) s 3 0) s 7 0) s 12 0 = m0
  have g0 : ∀ b, b ≠ s → m0 b = mem b := fun b z => by rw [← hm0, mset_ne z, mset_ne z, mset_ne z, mset_ne z, mset_ne z]
  have h0 : m0 s 0 = 3 ∧ m0 s 1 = 4 ∧ m0 s 3 = 0 ∧ m0 s 7 = 0 ∧ m0 s 12 = 0 := by
    rw [← hm0]
    simp only [mset_at]
    simp
  obtain ⟨r, hr, r1, r2⟩ := lp_invF (body := f_X5_clear_b27 s) (fun i q => q.1 = nI i ∧ (∀ k, k < i → q.2 (s + 1) k = 0) ∧ ∀ b, b ≠ s + 1 → q.2 b = m0 b) 16 (fun r => (∀ k, k < 16 → r.2 (s + 1) k = 0) ∧ ∀ b, b ≠ s + 1 → r.2 b = m0 b) (by decide) (q := (0, m0)) ⟨rfl, fun k hk => absurd hk (Nat.not_lt_zero _), fun _ _ => rfl⟩ (fun i q hi hq => by
    left
    obtain ⟨q1, q2, q3⟩ := hq
    unfold f_X5_clear_b27
    rw [q1, if_neg (show ¬ (16 : Int32) ≤ nI i from nI_ge (b := 16) hi (by decide)), wr_nI hi (by decide), nar0]
    simp only [lt', nI_1]
    refine ⟨_, rfl, rfl, fun k hk => ?_, fun b z => ?_⟩
    · show mset q.2 (s + 1) i 0 (s + 1) k = 0
      rw [mset_at]
      by_cases e : k = i
      · rw [if_pos ⟨rfl, e⟩]
      · rw [if_neg (fun z => e z.2), q2 k (by omega)]
    · show mset q.2 (s + 1) i 0 b = _
      rw [mset_ne z, q3 b z]) (fun q hq => by
    obtain ⟨q1, q2, q3⟩ := hq
    unfold f_X5_clear_b27
    rw [q1, if_pos (show (16 : Int32) ≤ nI 16 from nI_le (Nat.le_refl 16) (by decide))]
    exact ⟨_, rfl, q2, q3⟩)
  rw [hr]
  simp only [ob]
  obtain ⟨a1, ha1, b1, c1⟩ := fill0_e (a := s + 7) (n := 5) (by decide) r.2
  rw [ha1]
  simp only
  obtain ⟨a2, ha2, b2, c2⟩ := fill0_e (a := s + 8) (n := 28) (by decide) a1
  rw [ha2]
  simp only
  unfold f_X0_clear
  obtain ⟨a3, ha3, b3, c3⟩ := fill0_e (a := s + 10 + 1) (n := 16) (by decide) a2
  rw [ha3]
  simp only [ob]
  obtain ⟨a4, ha4, b4, c4⟩ := fill0_e (a := s + 10 + 2) (n := 6) (by decide) a3
  rw [ha4]
  simp only
  obtain ⟨a5, ha5, b5, c5⟩ := fill0_e (a := s + 10 + 3) (n := 6) (by decide) a4
  rw [ha5]
  simp only
  have hs5 : a5 s = m0 s := by rw [c5 _ (by omega), c4 _ (by omega), c3 _ (by omega), c2 _ (by omega), c1 _ (by omega), r2 _ (by omega)]
  refine ⟨a5, rfl, ⟨⟨?_, ?_, fun p hp => absurd hp (Nat.not_lt_zero _), fun p hp => absurd hp (Nat.not_lt_zero _), ?_, ?_, fun p hp => absurd hp (Nat.not_lt_zero _)⟩, ?_, ?_⟩, fun b z => by rw [c5 _ (by omega), c4 _ (by omega), c3 _ (by omega), c2 _ (by omega), c1 _ (by omega), r2 _ (by omega), g0 _ (by omega)]⟩
  · rw [hs5]; exact h0
  · intro y hy
    rw [c5 _ (by omega), c4 _ (by omega), c3 _ (by omega), c2 _ (by omega), c1 _ (by omega), r1 y hy]
    rfl
  · intro y hy
    rw [c5 _ (by omega), c4 _ (by omega), c3 _ (by omega), c2 _ (by omega), b1 y hy]
    rfl
  · intro y l hy hl
    rw [c5 _ (by omega), c4 _ (by omega), c3 _ (by omega), b2 _ (by omega)]
    rfl
  · intro y hy
    rw [c5 _ (by omega), c4 _ (by omega), b3 y hy]
    rfl
  · intro y hy
    rw [c5 (s + 10 + 2) (by omega), b4 y hy, b5 y hy]
    exact ⟨rfl, rfl⟩
theorem anew_e (mem : Mem) : ∃ m', f_X7_anew mem = some m' ∧ RR D0.1 D0.2.1 m' ∧ m' 62 7 = 0 ∧ FR mem m' := by
  unfold f_X7_anew
  simp only [lt']
  generalize hm0 : mset (mset (mset (mset (mset mem 62 3 3) 62 4 4) 62 5 0) 62 6 0) 62 7 0 = m0
  have g0 : ∀ b, b ≠ 62 → m0 b = mem b := fun b z => by rw [← hm0, mset_ne z, mset_ne z, mset_ne z, mset_ne z, mset_ne z]
  have h0 : m0 62 3 = 3 ∧ m0 62 4 = 4 ∧ m0 62 5 = 0 ∧ m0 62 6 = 0 ∧ m0 62 7 = 0 := by
    rw [← hm0]
    simp only [mset_at]
    simp
  have k0 : ∀ k, (k = 0 ∨ 14 ≤ k) → m0 62 k = mem 62 k := fun k z => by rw [← hm0, mset_k (by omega), mset_k (by omega), mset_k (by omega), mset_k (by omega), mset_k (by omega)]
  obtain ⟨r, hr, r1, r2⟩ := lp_invF (body := f_X7_anew_b27) (fun i q => q.1 = nI i ∧ (∀ k, k < i → q.2 64 k = 0 ∧ q.2 65 k = 0) ∧ ∀ b, b ≠ 64 → b ≠ 65 → q.2 b = m0 b) 16 (fun r => (∀ k, k < 16 → r.2 64 k = 0 ∧ r.2 65 k = 0) ∧ ∀ b, b ≠ 64 → b ≠ 65 → r.2 b = m0 b) (by decide) (q := (0, m0)) ⟨rfl, fun k hk => absurd hk (Nat.not_lt_zero _), fun _ _ _ => rfl⟩ (fun i q hi hq => by
    left
    obtain ⟨q1, q2, q3⟩ := hq
    unfold f_X7_anew_b27
    rw [q1, if_neg (show ¬ (16 : Int32) ≤ nI i from nI_ge (b := 16) hi (by decide)), wr_nI hi (by decide), wr_nI hi (by decide)]
    simp only [lt', nI_1]
    refine ⟨_, rfl, rfl, fun k hk => ?_, fun b z1 z2 => ?_⟩
    · show mset (mset q.2 64 i 0) 65 i 0 64 k = 0 ∧ mset (mset q.2 64 i 0) 65 i 0 65 k = 0
      rw [mset_ne (by decide), mset_at, mset_at, mset_ne (by decide)]
      by_cases e : k = i
      · rw [if_pos ⟨rfl, e⟩, if_pos ⟨rfl, e⟩]
        exact ⟨rfl, rfl⟩
      · rw [if_neg (fun z => e z.2), if_neg (fun z => e z.2)]
        exact q2 k (by omega)
    · show mset (mset q.2 64 i 0) 65 i 0 b = _
      rw [mset_ne z2, mset_ne z1, q3 b z1 z2]) (fun q hq => by
    obtain ⟨q1, q2, q3⟩ := hq
    unfold f_X7_anew_b27
    rw [q1, if_pos (show (16 : Int32) ≤ nI 16 from nI_le (Nat.le_refl 16) (by decide))]
    exact ⟨_, rfl, q2, q3⟩)
  rw [hr]
  simp only [ob]
  have e62 : r.2 62 = m0 62 := r2 62 (by decide) (by decide)
  refine ⟨r.2, rfl, ⟨?_, fun y hy => r1 y hy, fun p hp => absurd hp (Nat.not_lt_zero _), fun p hp => absurd hp (Nat.not_lt_zero _)⟩, by rw [e62]; exact h0.2.2.2.2, ⟨fun b z1 z2 => by rw [r2 b (by omega) (by omega), g0 b z1], fun k z => by rw [e62, k0 k z]⟩⟩
  rw [e62]
  exact ⟨h0.1, h0.2.1, h0.2.2.1, h0.2.2.2.1⟩
theorem into_done (hX : XOK x) (hs : 3 ≤ s) (h : Done x S P) (hC : CX x mem) : ∃ m', f_X2_readInto s mem = f_X2_readInto_j77 s m' ∧ CR S P s m' ∧ CX x m' ∧ GC s mem m' := by
  obtain ⟨n, j, g, h1, h2⟩ := h
  have hn := (stn_ok hX n D0.1 D0.2.1 D0.2.2.1 D0.2.2.2 d0_ok (by decide) h1).2
  unfold f_X2_readInto
  obtain ⟨m1, q1, q2, q3⟩ := clear_e s mem
  rw [q1]
  simp only [ob, lt']
  have C1 := q2.go (by omega) 0
  have T1 : TX x 0 (at1 m1 0) := ⟨hC.keep (by rw [at1, mset_k (by decide), q3 1 (by omega)]) (by rw [at1, mset_ne (by decide), q3 2 (by omega)]), mset_eq⟩
  obtain ⟨fl, cc, m2, r1, r2, r3, r4⟩ := (loop_c hX hs n D0.1 D0.2.1 0 true 0 (at1 m1 0) d0_ok (by decide) (by decide) C1 T1 h1 FU (Nat.lt_of_lt_of_le (by omega) FU_ge)).1 h2
  rw [show ((1 : Int32), (0 : Int32), mset m1 1 2 0) = (b2i true, nI 0, at1 m1 0) from rfl, r1]
  exact ⟨m2, rfl, r2, r3, ((GC.of (by omega) q3).tr GC.go).tr r4⟩
theorem into_flt (hX : XOK x) (hs : 3 ≤ s) (h : Flt x k) (hC : CX x mem) : ∃ m', f_X2_readInto s mem = some (nI k, m') ∧ GC s mem m' := by
  obtain ⟨n, S, P, g, h1, h2, h3⟩ := h
  have hn := (stn_ok hX n D0.1 D0.2.1 D0.2.2.1 D0.2.2.2 d0_ok (by decide) h1).2
  unfold f_X2_readInto
  obtain ⟨m1, q1, q2, q3⟩ := clear_e s mem
  rw [q1]
  simp only [ob, lt']
  have C1 := q2.go (by omega) 0
  have T1 : TX x 0 (at1 m1 0) := ⟨hC.keep (by rw [at1, mset_k (by decide), q3 1 (by omega)]) (by rw [at1, mset_ne (by decide), q3 2 (by omega)]), mset_eq⟩
  obtain ⟨m2, r1, r2⟩ := (loop_c hX hs n D0.1 D0.2.1 0 true 0 (at1 m1 0) d0_ok (by decide) (by decide) C1 T1 h1 FU (Nat.lt_of_lt_of_le (by omega) FU_ge)).2 h2 h3
  rw [show ((1 : Int32), (0 : Int32), mset m1 1 2 0) = (b2i true, nI 0, at1 m1 0) from rfl, r1]
  exact ⟨m2, rfl, ((GC.of (by omega) q3).tr GC.go).tr r2⟩
theorem of_done (hX : XOK x) (h : Done x S P) (hM : MX x mem) : ∃ m', f_X7_faultOf mem = some (-4, m') ∧ RR S P m' ∧ FR mem m' := by
  obtain ⟨n, j, g, h1, h2⟩ := h
  have hn := (stn_ok hX n D0.1 D0.2.1 D0.2.2.1 D0.2.2.2 d0_ok (by decide) h1).2
  unfold f_X7_faultOf
  obtain ⟨m1, q1, q2, q3, q4⟩ := anew_e mem
  rw [q1]
  simp only [ob, lt']
  have T1 : TM x 0 (at7 m1 0) := ⟨hM.keep (by rw [at7, mset_k (by decide), q4.2 0 (by decide)]) (by rw [at7, mset_ne (by decide), q4.1 63 (by decide) (by decide)]), mset_eq⟩
  obtain ⟨m2, r1, r2, r3⟩ := (loop_7 hX n D0.1 D0.2.1 0 true (at7 m1 0) d0_ok (by decide) (q2.go 0) T1 (by rw [at7, mset_k (by decide), q3]; rfl) h1 FU (Nat.lt_of_lt_of_le (by omega) FU_ge)).1 h2
  rw [show mset m1 62 2 0 = at7 m1 0 from rfl, r1]
  exact ⟨m2, rfl, r2, (q4.tr FR.go).tr r3⟩
theorem of_flt (hX : XOK x) (h : Flt x k) (hM : MX x mem) : ∃ m', f_X7_faultOf mem = some (nI k, m') ∧ FR mem m' := by
  obtain ⟨n, S, P, g, h1, h2, h3⟩ := h
  have hn := (stn_ok hX n D0.1 D0.2.1 D0.2.2.1 D0.2.2.2 d0_ok (by decide) h1).2
  unfold f_X7_faultOf
  obtain ⟨m1, q1, q2, q3, q4⟩ := anew_e mem
  rw [q1]
  simp only [ob, lt']
  have T1 : TM x 0 (at7 m1 0) := ⟨hM.keep (by rw [at7, mset_k (by decide), q4.2 0 (by decide)]) (by rw [at7, mset_ne (by decide), q4.1 63 (by decide) (by decide)]), mset_eq⟩
  obtain ⟨m2, r1, r2⟩ := (loop_7 hX n D0.1 D0.2.1 0 true (at7 m1 0) d0_ok (by decide) (q2.go 0) T1 (by rw [at7, mset_k (by decide), q3]; rfl) h1 FU (Nat.lt_of_lt_of_le (by omega) FU_ge)).2 h2 h3
  rw [show mset m1 62 2 0 = at7 m1 0 from rfl, r1]
  exact ⟨m2, rfl, (q4.tr FR.go).tr r2⟩
theorem done_ok (hX : XOK x) (h : Done x S P) : ∃ g, DOK S P g := by
  obtain ⟨n, j, g, h1, h2⟩ := h
  exact ⟨g, (stn_ok hX n D0.1 D0.2.1 D0.2.2.1 D0.2.2.2 d0_ok (by decide) h1).1⟩
end PRS
