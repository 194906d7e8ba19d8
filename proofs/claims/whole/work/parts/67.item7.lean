/-! the reference reads a grid, a black square, a letter, a solver, a word -/
theorem FR.of {mem m' : Mem} (h : ∀ a, a ≠ 62 → (a < 64 ∨ 69 < a) → m' a = mem a) (h62 : ∀ k, (k = 0 ∨ 14 ≤ k) → m' 62 k = mem 62 k) : FR mem m' := ⟨h, h62⟩
theorem FR.set {mem : Mem} {a k : Nat} {v : Int32} (ha : 64 ≤ a ∧ a ≤ 69) : FR mem (mset mem a k v) := ⟨fun b _ z => mset_ne (by omega), fun j _ => by rw [mset_ne (by omega)]⟩
theorem FR.fld {mem : Mem} {k : Nat} {v : Int32} (hk : 1 ≤ k ∧ k ≤ 13) : FR mem (mset mem 62 k v) := ⟨fun b z _ => mset_ne z, fun j _ => mset_k (by omega)⟩
section IT7
variable {x : Nat × (Nat → Nat)} {i j a n v : Nat} {mem m' m2 : Mem} {S : Sh} {P : Pa} {g : Bool} {f : Nat → Nat}
def tokG7 (x : Nat × (Nat → Nat)) (a : Nat) : Prop := inN x a 2 5 ∧ tk x (nuP x a) = 44 ∧ inN x (nuP x a + 1) 2 5
theorem e4 : (4 : Int32) = nI 5 - 1 := by decide
theorem e7 : (7 : Int32) = nI 8 - 1 := by decide
theorem inN_up {b : Nat} (h : inN x i 0 n) (hb : b ≤ nuV x i) : inN x i b n := ⟨h.1, hb, h.2.2⟩
theorem inN_0 {b : Nat} (h : inN x i b n) : inN x i 0 n := ⟨h.1, Nat.zero_le _, h.2.2⟩
theorem RR.grid {r c : Nat} (h : RR S P mem) : RR (DG S r c) P (mset (mset mem 62 3 (nI r)) 62 4 (nI c)) := by
  have f1 : ∀ b, b ≠ 62 → mset (mset mem 62 3 (nI r)) 62 4 (nI c) b = mem b := fun b z => by rw [mset_ne z, mset_ne z]
  refine ⟨⟨?_, mset_eq, ?_, ?_⟩, ?_, ?_, ?_⟩
  · rw [mset_k (by decide), mset_eq]; rfl
  · rw [mset_k (by decide), mset_k (by decide)]; exact h.1.2.2.1
  · rw [mset_k (by decide), mset_k (by decide)]; exact h.1.2.2.2
  · rw [f1 _ (by decide), f1 _ (by decide)]; exact h.2.1
  · rw [f1 _ (by decide), f1 _ (by decide)]; exact h.2.2.1
  · rw [f1 _ (by decide)]; exact h.2.2.2
theorem grid_7 (hX : XOK x) (hR : RR S P mem) (hT : TM x a mem) (ha : a < 300) (h7 : mem 62 7 = b2i (!g)) : (tokG7 x a ∧ g = true → ∃ m', f_X7_readsGrid mem = some (1, m') ∧ RR (DG S (nuV x a) (nuV x (nuP x a + 1))) P m' ∧ TM x (nuP x (nuP x a + 1)) m' ∧ FR mem m' ∧ m' 62 7 = mem 62 7) ∧ (¬ (tokG7 x a ∧ g = true) → ∃ m', f_X7_readsGrid mem = some (0, m') ∧ FR mem m') := by
  have p1 := nuP_le x a
  have p2 := nuP_le x (nuP x a + 1)
  have k1 := tk_le hX (nuP x a)
  have out : ∀ (l : Int32) (m1 : Mem), f_X7_readsGrid_j35 l m1 = some (0, m1) := by
    intro l m1
    unfold f_X7_readsGrid_j35 f_X7_readsGrid_j36 f_X7_readsGrid_j50
    rw [if_pos rfl, if_neg (by decide)]
  unfold f_X7_readsGrid
  rw [h7]
  by_cases hg : g = true
  · rw [hg, if_pos (by decide), e4]
    by_cases e : inN x a 0 5
    · have h9 := e.2.2
      rw [number_in hX hT (by omega) (by decide) e]
      simp only [ob2]
      unfold f_X7_readsGrid_j16
      by_cases e2 : 2 ≤ nuV x a
      · rw [if_neg (show ¬ nI (nuV x a) < 2 from nI_nlt (b := 2) e2 (by omega)), i_lit 44, sign_e hX (hT.go _) (by omega) 44 (by decide)]
        simp only [ob2]
        by_cases c : tk x (nuP x a) = 44
        · rw [if_pos c, c, if_neg (by decide), at7_at7]
          unfold f_X7_readsGrid_j36
          rw [if_neg (by decide), e4]
          by_cases e3 : inN x (nuP x a + 1) 0 5
          · have h8 := e3.2.2
            rw [number_in hX (hT.go _) (by omega) (by decide) e3]
            simp only [ob2]
            unfold f_X7_readsGrid_j50
            rw [at7_at7]
            by_cases e4 : 2 ≤ nuV x (nuP x a + 1)
            · rw [if_pos (show (2 : Int32) ≤ nI (nuV x (nuP x a + 1)) from nI_le (a := 2) e4 (by omega))]
              simp only [lt']
              refine ⟨fun _ => ⟨_, rfl, (hR.go _).grid, (hT.go _).keep ?_ ?_ ?_, FR.go.tr ((FR.fld (by decide)).tr (FR.fld (by decide))), ?_⟩, fun z => absurd ⟨⟨inN_up e e2, c, inN_up e3 e4⟩, trivial⟩ z⟩
              · rw [mset_k (by decide), mset_k (by decide)]
              · rw [mset_k (by decide), mset_k (by decide)]
              · rw [mset_ne (by decide), mset_ne (by decide)]
              · rw [mset_k (by decide), mset_k (by decide), at7, mset_k (by decide), h7, hg]
            · rw [if_neg (show ¬ (2 : Int32) ≤ nI (nuV x (nuP x a + 1)) from nI_ge (b := 2) (by omega) (by decide))]
              exact ⟨fun z => absurd z.1.2.2.2.1 e4, fun _ => ⟨_, rfl, FR.go⟩⟩
          · rw [number_out hX (hT.go _) (by omega) e3]
            simp only [ob2]
            unfold f_X7_readsGrid_j50
            rw [if_neg (by decide)]
            exact ⟨fun z => absurd (inN_0 z.1.2.2) e3, fun _ => ⟨_, rfl, FR.go.tr FR.go⟩⟩
        · rw [if_neg c, show (tk x (nuP x a) == 44) = false by simpa using c, if_pos (by decide), out]
          exact ⟨fun z => absurd z.1.2.1 c, fun _ => ⟨_, rfl, FR.go.tr FR.go⟩⟩
      · rw [if_pos (show nI (nuV x a) < 2 from nI_lt (b := 2) (by omega) (by decide)), out]
        exact ⟨fun z => absurd z.1.1.2.1 e2, fun _ => ⟨_, rfl, FR.go⟩⟩
    · rw [number_out hX hT (by omega) e]
      simp only [ob2]
      unfold f_X7_readsGrid_j16
      rw [if_pos (by decide), out]
      exact ⟨fun z => absurd (inN_0 z.1.1) e, fun _ => ⟨_, rfl, FR.go⟩⟩
  · have hg' : g = false := by simpa using hg
    rw [hg', if_neg (by decide)]
    unfold f_X7_readsGrid_j16
    rw [if_pos (by decide), out]
    exact ⟨fun z => absurd z.2 (by decide), fun _ => ⟨_, rfl, FR.rfl⟩⟩
theorem sq7 (hR : RR S P mem) : ((mem 62 3) * (mem 62 4)) - 1 = nI (sR S * sC S) - 1 := by rw [hR.1.1, hR.1.2.1, pk_mul]
theorem RR.black (h : RR S P mem) : RR (DB S v) P (mset mem 64 v 1) := by
  have f1 : ∀ b, b ≠ 64 → mset mem 64 v 1 b = mem b := fun b z => mset_ne z
  refine ⟨?_, ?_, ?_, ?_⟩
  · rw [f1 _ (by decide)]; exact h.1
  · intro y hy
    have c := h.2.1 y hy
    refine ⟨?_, by rw [f1 _ (by decide)]; exact c.2⟩
    rw [mset_at]
    show _ = nI (if y = v then 1 else sbl S y)
    by_cases e : y = v
    · rw [if_pos ⟨rfl, e⟩, if_pos e]; rfl
    · rw [if_neg (fun z => e z.2), if_neg e]; exact c.1
  · rw [f1 _ (by decide), f1 _ (by decide)]; exact h.2.2.1
  · rw [f1 _ (by decide)]; exact h.2.2.2
theorem RR.letter {l : Nat} (h : RR S P mem) : RR S (DL P v l) (mset mem 65 v (nI l)) := by
  have f1 : ∀ b, b ≠ 65 → mset mem 65 v (nI l) b = mem b := fun b z => mset_ne z
  refine ⟨?_, ?_, ?_, ?_⟩
  · rw [f1 _ (by decide)]; exact h.1
  · intro y hy
    have c := h.2.1 y hy
    refine ⟨by rw [f1 _ (by decide)]; exact c.1, ?_⟩
    rw [mset_at]
    show _ = nI (if y = v then l else P.1 y)
    by_cases e : y = v
    · rw [if_pos ⟨rfl, e⟩, if_pos e]
    · rw [if_neg (fun z => e z.2), if_neg e]; exact c.2
  · rw [f1 _ (by decide), f1 _ (by decide)]; exact h.2.2.1
  · rw [f1 _ (by decide)]; exact h.2.2.2
theorem black_7 (hX : XOK x) (hO : DOK S P g) (hR : RR S P mem) (hT : TM x a mem) (ha : a < 300) : (inN x a 0 (sR S * sC S) → ∃ m', f_X7_readsBlack mem = some (1, m') ∧ RR (DB S (nuV x a)) P m' ∧ TM x (nuP x a) m' ∧ FR mem m' ∧ m' 62 7 = mem 62 7) ∧ (¬ inN x a 0 (sR S * sC S) → ∃ m', f_X7_readsBlack mem = some (0, m') ∧ FR mem m') := by
  have hrc := hO.rc
  unfold f_X7_readsBlack
  rw [sq7 hR]
  by_cases e : inN x a 0 (sR S * sC S)
  · have h9 := e.2.2
    rw [number_in hX hT (by omega) (by omega) e]
    simp only [ob2]
    rw [if_pos (nI_pos' (by omega)), wr_nI (by omega) (by decide)]
    refine ⟨fun _ => ⟨_, rfl, (hR.go _).black, (hT.go _).keep ?_ ?_ ?_, FR.go.tr (FR.set (by decide)), ?_⟩, fun z => absurd e z⟩
    · rw [mset_ne (by decide)]
    · rw [mset_ne (by decide)]
    · rw [mset_ne (by decide)]
    · rw [mset_ne (by decide), at7, mset_k (by decide)]
  · rw [number_out hX hT (by omega) e]
    simp only [ob2]
    rw [if_neg (by decide)]
    exact ⟨fun z => absurd z e, fun _ => ⟨_, rfl, FR.go⟩⟩
theorem letter_7 (hX : XOK x) (hO : DOK S P g) (hR : RR S P mem) (hT : TM x a mem) (ha : a < 300) : (inN x a 0 (sR S * sC S) ∧ ltrB (tk x (nuP x a)) = true → ∃ m', f_X7_readsLetter mem = some (1, m') ∧ RR S (DL P (nuV x a) (tk x (nuP x a) - 96)) m' ∧ TM x (nuP x a + 1) m' ∧ FR mem m' ∧ m' 62 7 = mem 62 7) ∧ (¬ (inN x a 0 (sR S * sC S) ∧ ltrB (tk x (nuP x a)) = true) → ∃ m', f_X7_readsLetter mem = some (0, m') ∧ FR mem m') := by
  have hrc := hO.rc
  have p1 := nuP_le x a
  have k1 := tk_le hX (nuP x a)
  unfold f_X7_readsLetter
  rw [sq7 hR]
  by_cases e : inN x a 0 (sR S * sC S)
  · have h9 := e.2.2
    have T1 := hT.go (nuP x a)
    rw [number_in hX hT (by omega) (by omega) e]
    simp only [ob2]
    rw [if_neg (nI_pos (by omega)), here_e hX T1 (by omega)]
    simp only [ob]
    rw [ltr_7 _ (by omega)]
    by_cases c : ltrB (tk x (nuP x a)) = true
    · have c1 := ltrB_ge c
      simp only [c, b2i, if_true]
      rw [if_neg (by decide), wr_nI (by omega) (by decide), i_lit 97, i_sub (by omega), nI_1, show tk x (nuP x a) - 97 + 1 = tk x (nuP x a) - 96 by omega]
      simp only [lt']
      generalize hm : mset (at7 mem (nuP x a)) 65 (nuV x a) (nI (tk x (nuP x a) - 96)) = m1
      have R1 : RR S (DL P (nuV x a) (tk x (nuP x a) - 96)) m1 := by rw [← hm]; exact (hR.go _).letter
      have T2 : TM x (nuP x a) m1 := T1.keep (by rw [← hm, mset_ne (by decide)]) (by rw [← hm, mset_ne (by decide)]) (by rw [← hm, mset_ne (by decide)])
      rw [T2.2, nI_1]
      refine ⟨fun _ => ⟨_, rfl, R1.go _, T2.go _, (FR.go.tr (by rw [← hm]; exact FR.set (by decide))).tr FR.go, ?_⟩, fun z => absurd ⟨e, trivial⟩ z⟩
      rw [mset_k (by decide), ← hm, mset_ne (by decide), at7, mset_k (by decide)]
    · simp only [c, b2i, Bool.false_eq_true, if_false]
      rw [if_pos trivial]
      exact ⟨fun z => absurd z.2 (by decide), fun _ => ⟨_, rfl, FR.go⟩⟩
  · rw [number_out hX hT (by omega) e]
    simp only [ob2]
    rw [if_pos (by decide)]
    exact ⟨fun z => absurd z.1 e, fun _ => ⟨_, rfl, FR.go⟩⟩
theorem comes_7 {k p w : Nat} (hn : sN S < 6) (hR : RR S P mem) : ∃ m', f_X7_comes (nI k) (nI p) (nI w) mem = some m' ∧ RR (DS S k) (DV P (sN S) p w) m' ∧ (∀ b, b ≠ 62 → b ≠ 68 → m' b = mem b) ∧ ∀ j, j ≠ 6 → m' 62 j = mem 62 j := by
  unfold f_X7_comes
  rw [hR.1.2.2.2, wr_e (3 * sN S) (by rw [i_lit 3, pk_mul]) (by omega) (by decide)]
  generalize hm1 : mset mem 68 (3 * sN S) (nI k) = m1
  have g1 : ∀ b, b ≠ 68 → m1 b = mem b := fun b z => by rw [← hm1, mset_ne z]
  rw [show m1 62 6 = nI (sN S) by rw [g1 _ (by decide)]; exact hR.1.2.2.2, wr_e (3 * sN S + 1) (by rw [i_lit 3, pk_mul, nI_1]) (by omega) (by decide)]
  generalize hm2 : mset m1 68 (3 * sN S + 1) (nI p) = m2
  have g2 : ∀ b, b ≠ 68 → m2 b = mem b := fun b z => by rw [← hm2, mset_ne z, g1 b z]
  rw [show m2 62 6 = nI (sN S) by rw [g2 _ (by decide)]; exact hR.1.2.2.2, wr_e (3 * sN S + 2) (by rw [i_lit 3, pk_mul, i_lit 2, nI_add]) (by omega) (by decide)]
  generalize hm3 : mset m2 68 (3 * sN S + 2) (nI w) = m3
  have g3 : ∀ b, b ≠ 68 → m3 b = mem b := fun b z => by rw [← hm3, mset_ne z, g2 b z]
  rw [show m3 62 6 = nI (sN S) by rw [g3 _ (by decide)]; exact hR.1.2.2.2, nI_1]
  simp only [lt']
  have g4 : ∀ b, b ≠ 62 → mset m3 62 6 (nI (sN S + 1)) b = m3 b := fun b z => mset_ne z
  have h62 : ∀ j, j ≠ 6 → mset m3 62 6 (nI (sN S + 1)) 62 j = mem 62 j := fun j z => by rw [mset_k z, g3 _ (by decide)]
  refine ⟨_, rfl, ⟨⟨?_, ?_, ?_, mset_eq⟩, ?_, ?_, ?_⟩, fun b z1 z2 => by rw [g4 b z1, g3 b z2], h62⟩
  · rw [h62 _ (by decide)]; exact hR.1.1
  · rw [h62 _ (by decide)]; exact hR.1.2.1
  · rw [h62 _ (by decide)]; exact hR.1.2.2.1
  · rw [g4 _ (by decide), g3 _ (by decide), g4 _ (by decide), g3 _ (by decide)]; exact hR.2.1
  · rw [g4 _ (by decide), g3 _ (by decide), g4 _ (by decide), g3 _ (by decide)]; exact hR.2.2.1
  · rw [g4 _ (by decide)]
    intro i hi
    have hi' : i < sN S + 1 := hi
    show m3 68 (3 * i) = nI (if i = sN S then k else skd S i) ∧ m3 68 (3 * i + 1) = nI (if i = sN S then p else P.2.1 i) ∧ m3 68 (3 * i + 2) = nI (if i = sN S then w else P.2.2 i)
    have e : ∀ j, m3 68 j = if j = 3 * sN S + 2 then nI w else if j = 3 * sN S + 1 then nI p else if j = 3 * sN S then nI k else mem 68 j := by
      intro j
      rw [← hm3, mset_at, ← hm2, mset_at, ← hm1, mset_at]
      simp only [true_and]
    rw [e, e, e]
    by_cases c : i = sN S
    · subst c
      rw [if_pos rfl, if_pos rfl, if_pos rfl, if_pos rfl, if_neg (by omega), if_neg (by omega), if_pos rfl, if_neg (by omega), if_pos rfl]
      exact ⟨rfl, rfl, rfl⟩
    · rw [if_neg c, if_neg c, if_neg c, if_neg (by omega), if_neg (by omega), if_neg (by omega), if_neg (by omega), if_neg (by omega), if_neg (by omega), if_neg (by omega), if_neg (by omega), if_neg (by omega)]
      exact hR.2.2.2 i (by omega)
def tokS7 (x : Nat × (Nat → Nat)) (S : Sh) (a : Nat) : Prop := inN x a 0 5 ∧ tk x (nuP x a) = 44 ∧ inN x (nuP x a + 1) 0 8 ∧ tk x (q2P x a) = 44 ∧ inN x (q2P x a + 1) 0 (sW S) ∧ sN S < 6
theorem solver_7 (hX : XOK x) (hO : DOK S P g) (hR : RR S P mem) (hT : TM x a mem) (ha : a < 300) : (tokS7 x S a → ∃ m', f_X7_readsSolver mem = some (1, m') ∧ RR (DS S (nuV x a)) (DV P (sN S) (nuV x (nuP x a + 1)) (nuV x (q2P x a + 1))) m' ∧ TM x (q3P x a) m' ∧ FR mem m' ∧ m' 62 7 = mem 62 7) ∧ (¬ tokS7 x S a → ∃ m', f_X7_readsSolver mem = some (0, m') ∧ FR mem m') := by
  have h6 := hO.2.2.2.2.1
  have h9 := hO.2.2.2.1
  have p1 := nuP_le x a
  have p2 := nuP_le x (nuP x a + 1)
  have p3 := nuP_le x (q2P x a + 1)
  rw [show nuP x (nuP x a + 1) = q2P x a from rfl] at p2
  rw [show nuP x (q2P x a + 1) = q3P x a from rfl] at p3
  have o70 : ∀ (l1 l3 : Int32) (m1 : Mem), f_X7_readsSolver_j70 l1 l3 m1 = some (0, m1) := by
    intro l1 l3 m1
    unfold f_X7_readsSolver_j70 f_X7_readsSolver_j71 f_X7_readsSolver_j90
    rw [if_pos rfl, if_neg (by decide)]
  have o52 : ∀ (l1 : Int32) (m1 : Mem), f_X7_readsSolver_j52 l1 (-1) m1 = some (0, m1) := by
    intro l1 m1
    unfold f_X7_readsSolver_j52
    rw [if_pos (by decide), o70]
  have o36 : ∀ (l1 : Int32) (m1 : Mem), f_X7_readsSolver_j36 l1 m1 = some (0, m1) := by
    intro l1 m1
    unfold f_X7_readsSolver_j36 f_X7_readsSolver_j37
    rw [if_pos rfl, o52]
  have o18 : ∀ (m1 : Mem), f_X7_readsSolver_j18 (-1) m1 = some (0, m1) := by
    intro m1
    unfold f_X7_readsSolver_j18
    rw [if_pos (by decide), o36]
  unfold f_X7_readsSolver
  rw [hR.1.2.2.2]
  by_cases e0 : sN S < 6
  · rw [if_neg (show ¬ nI (sN S) = 6 from lit_ne (n := 6) (by omega) (by omega) (by decide)), e4]
    by_cases e1 : inN x a 0 5
    · have v1 := e1.2.2
      rw [number_in hX hT (by omega) (by decide) e1]
      simp only [ob2]
      unfold f_X7_readsSolver_j18
      rw [if_neg (nI_pos (by omega)), i_lit 44, sign_e hX (hT.go _) (by omega) 44 (by decide)]
      simp only [ob2]
      by_cases c1 : tk x (nuP x a) = 44
      · rw [if_pos c1, c1, if_neg (by decide), at7_at7]
        unfold f_X7_readsSolver_j37
        rw [if_neg (by decide), e7]
        by_cases e2 : inN x (nuP x a + 1) 0 8
        · have v2 := e2.2.2
          rw [number_in hX (hT.go _) (by omega) (by decide) e2, show nuP x (nuP x a + 1) = q2P x a from rfl]
          simp only [ob2]
          unfold f_X7_readsSolver_j52
          rw [at7_at7, if_neg (nI_pos (by omega)), i_lit 44, sign_e hX (hT.go _) (by omega) 44 (by decide)]
          simp only [ob2]
          by_cases c2 : tk x (q2P x a) = 44
          · rw [if_pos c2, c2, if_neg (by decide), at7_at7]
            unfold f_X7_readsSolver_j71
            rw [if_neg (by decide), (hR.go _).1.2.2.1]
            by_cases e3 : inN x (q2P x a + 1) 0 (sW S)
            · have v3 := e3.2.2
              rw [number_in hX (hT.go _) (by omega) (by omega) e3, show nuP x (q2P x a + 1) = q3P x a from rfl]
              simp only [ob2]
              unfold f_X7_readsSolver_j90
              rw [at7_at7, if_pos (nI_pos' (by omega))]
              obtain ⟨m1, q1, q2, q3, q4⟩ := comes_7 (k := nuV x a) (p := nuV x (nuP x a + 1)) (w := nuV x (q2P x a + 1)) e0 (hR.go (q3P x a))
              rw [q1]
              simp only [ob]
              refine ⟨fun _ => ⟨m1, rfl, q2, (hT.go _).keep (q4 0 (by decide)) (q4 2 (by decide)) (q3 63 (by decide) (by decide)), FR.go.tr ⟨fun b z1 z2 => q3 b z1 (by omega), fun j z => q4 j (by omega)⟩, ?_⟩, fun z => absurd ⟨e1, c1, e2, c2, e3, e0⟩ z⟩
              rw [q4 7 (by decide), at7, mset_k (by decide)]
            · rw [number_out hX (hT.go _) (by omega) e3]
              simp only [ob2]
              unfold f_X7_readsSolver_j90
              rw [if_neg (by decide)]
              exact ⟨fun z => absurd z.2.2.2.2.1 e3, fun _ => ⟨_, rfl, FR.go.tr FR.go⟩⟩
          · rw [if_neg c2, show (tk x (q2P x a) == 44) = false by simpa using c2, if_pos (by decide), o70]
            exact ⟨fun z => absurd z.2.2.2.1 c2, fun _ => ⟨_, rfl, FR.go.tr FR.go⟩⟩
        · rw [number_out hX (hT.go _) (by omega) e2]
          simp only [ob2]
          rw [o52]
          exact ⟨fun z => absurd z.2.2.1 e2, fun _ => ⟨_, rfl, FR.go.tr FR.go⟩⟩
      · rw [if_neg c1, show (tk x (nuP x a) == 44) = false by simpa using c1, if_pos (by decide), o36]
        exact ⟨fun z => absurd z.2.1 c1, fun _ => ⟨_, rfl, FR.go.tr FR.go⟩⟩
    · rw [number_out hX hT (by omega) e1]
      simp only [ob2]
      rw [o18]
      exact ⟨fun z => absurd z.1 e1, fun _ => ⟨_, rfl, FR.go⟩⟩
  · rw [if_pos (show nI (sN S) = 6 by rw [show sN S = 6 by omega]; rfl), o18]
    exact ⟨fun z => absurd z.2.2.2.2.2 e0, fun _ => ⟨_, rfl, FR.rfl⟩⟩
end IT7
