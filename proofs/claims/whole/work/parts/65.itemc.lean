/-! the class reads a black square, a letter, a solver -/
noncomputable def bC (s : Nat) (m1 : Mem) : Option (Int32 × Mem) := ob2 (f_X2_readNumber m1) fun r76 m76 => ob2 (f_X5_blacken s r76 m76) fun r79 m79 => if r79 = 0 then (some (0, m79)) else (ob2 (f_X2_next m79) fun r86 m86 => if r86 = 59 then (some (1, m86)) else (some (0, m86)))
noncomputable def lC (s : Nat) (m1 : Mem) : Option (Int32 × Mem) := ob2 (f_X2_readNumber m1) fun r108 m108 => ob2 (f_X2_readLetter m108) fun r112 m112 => ob2 (f_X5_putFirst s r108 r112 m112) fun r115 m115 => if r115 = 0 then (some (0, m115)) else (ob2 (f_X2_next m115) fun r122 m122 => if r122 = 59 then (some (1, m122)) else (some (0, m122)))
section ITD
variable {x : Nat × (Nat → Nat)} {i j a n s v : Nat} {mem m' m2 : Mem} {S : Sh} {P : Pa} {f : Bool}
theorem bad_of (hX : XOK x) (h : ¬ inN x i 0 n) : Bad (nu x i) n := by
  rcases inN_not hX h with q | ⟨v, h9, q, h2 | h2⟩
  · rw [q]; exact Or.inl (by decide)
  · exact absurd h2 (Nat.not_lt_zero _)
  · rw [q]; exact Or.inr ⟨nI_pos (by omega), nI_le h2 (by omega)⟩
theorem sqCR (hC : CR S P s mem) : f_X5_squareCount s mem = some (nI (sR S * sC S)) := sqC hC.1
theorem blacken_1 (hO : DOK S P f) (hC : CR S P s mem) (hv : v < sR S * sC S) : f_X5_blacken s (nI v) mem = some (1, mset mem (s + 1) v 1) := by
  have := hO.rc
  unfold f_X5_blacken
  rw [if_neg (nI_pos (by omega)), sqCR hC]
  simp only [ob]
  rw [if_pos (nI_lt hv (by omega)), wr_nI (by omega) (by decide), nar1]
theorem blacken_0 {l : Int32} (hC : CR S P s mem) (h : Bad l (sR S * sC S)) : f_X5_blacken s l mem = some (0, mem) := by
  unfold f_X5_blacken
  rcases h with h | ⟨h0, h⟩
  · rw [if_pos h]
  · rw [if_neg h0, sqCR hC]
    simp only [ob]
    rw [if_neg (by rw [Int32.not_lt]; exact h)]
theorem CR.black (hC : CR S P s mem) : CR (DB S v) P s (mset mem (s + 1) v 1) := by
  have f1 : ∀ a, a ≠ s + 1 → mset mem (s + 1) v 1 a = mem a := fun a z => mset_ne z
  refine ⟨⟨?_, ?_, ?_, ?_, ?_, ?_, ?_⟩, hC.2.keep (fun a _ _ => f1 a (by omega))⟩
  · rw [f1 s (by omega)]; exact hC.1.1
  · intro y hy
    rw [mset_at]
    show _ = nI (if y = v then 1 else sbl S y)
    by_cases e : y = v
    · rw [if_pos ⟨rfl, e⟩, if_pos e]; rfl
    · rw [if_neg (fun z => e z.2), if_neg e]; exact hC.1.2.1 y hy
  · rw [f1 _ (by omega), f1 _ (by omega), f1 _ (by omega)]; exact hC.1.2.2.1
  · rw [f1 _ (by omega), f1 _ (by omega)]; exact hC.1.2.2.2.1
  · rw [f1 _ (by omega)]; exact hC.1.2.2.2.2.1
  · rw [f1 _ (by omega)]; exact hC.1.2.2.2.2.2.1
  · rw [f1 _ (by omega)]; exact hC.1.2.2.2.2.2.2
def tokB (x : Nat × (Nat → Nat)) (S : Sh) (a : Nat) : Prop := inN x a 0 (sR S * sC S) ∧ tk x (nuP x a) = 59
theorem black_c (hX : XOK x) (hO : DOK S P f) (hs : 3 ≤ s) (hC : CR S P s mem) (hT : TX x a mem) (ha : a < 300) : (tokB x S a → ∃ m', bC s mem = some (1, m') ∧ CR (DB S (nuV x a)) P s m' ∧ TX x (nuP x a + 1) m' ∧ GC s mem m') ∧ (¬ tokB x S a → ∃ m', bC s mem = some (0, m') ∧ GC s mem m') := by
  have p1 := nuP_le x a
  have k1 := tk_le hX (nuP x a)
  have T1 := hT.go (nuP x a)
  have C1 := hC.go (by omega) (nuP x a)
  unfold bC
  rw [readNumber_e hX hT (by omega)]
  simp only [ob2]
  by_cases e : inN x a 0 (sR S * sC S)
  · have C2 := C1.black (v := nuV x a)
    rw [inN_is e, blacken_1 hO C1 e.2.2]
    generalize hm : mset (at1 mem (nuP x a)) (s + 1) (nuV x a) 1 = m1
    rw [hm] at C2
    have g1 : ∀ b, b ≠ s + 1 → m1 b = at1 mem (nuP x a) b := fun b z => by rw [← hm, mset_ne z]
    have T2 : TX x (nuP x a) m1 := T1.keep (g1 1 (by omega)) (g1 2 (by omega))
    have F2 : GC s mem m1 := GC.go.tr (GC.of (by omega) (fun b z => g1 b (by omega)))
    simp only
    rw [if_neg (by decide), next_e hX T2 (by omega)]
    simp only
    by_cases c : tk x (nuP x a) = 59
    · rw [if_pos (show nI (tk x (nuP x a)) = 59 by rw [c]; rfl)]
      exact ⟨fun _ => ⟨_, rfl, C2.go (by omega) _, T2.go _, F2.tr GC.go⟩, fun z => absurd ⟨e, c⟩ z⟩
    · rw [if_neg (show ¬ nI (tk x (nuP x a)) = 59 from lit_ne (n := 59) c (by omega) (by decide))]
      exact ⟨fun z => absurd z.2 c, fun _ => ⟨_, rfl, F2.tr GC.go⟩⟩
  · rw [blacken_0 C1 (bad_of hX e)]
    simp only
    rw [if_pos trivial]
    exact ⟨fun z => absurd z.1 e, fun _ => ⟨_, rfl, GC.go⟩⟩
theorem readLetter_1 (hX : XOK x) (h : TX x i mem) (hi : i < 900) (c : ltrB (tk x i) = true) : f_X2_readLetter mem = some (nI (tk x i - 96), at1 mem (i + 1)) := by
  have k0 := tk_le hX i
  have c1 := ltrB_ge c
  unfold f_X2_readLetter
  rw [peek_e hX h (by omega)]
  simp only [ob]
  rw [ltr_c _ (by omega), c]
  simp only
  rw [if_neg (by decide), next_e hX h (by omega)]
  simp only [ob2, lt']
  rw [i_lit 97, i_sub (by omega), nI_1, show tk x i - 97 + 1 = tk x i - 96 by omega]
theorem readLetter_0 (hX : XOK x) (h : TX x i mem) (hi : i < 900) (c : ¬ ltrB (tk x i) = true) : f_X2_readLetter mem = some (-1, mem) := by
  have k0 := tk_le hX i
  unfold f_X2_readLetter
  rw [peek_e hX h (by omega)]
  simp only [ob]
  rw [ltr_c _ (by omega)]
  simp only [c, b2i, Bool.false_eq_true, if_false]
  rw [if_pos (by decide)]
theorem putFirst_1 (hO : DOK S P f) (hC : CR S P s mem) (hv : v < sR S * sC S) {l : Nat} (h1 : 1 ≤ l) (h6 : l ≤ 6) : f_X5_putFirst s (nI v) (nI l) mem = some (1, mset mem (s + 10 + 1) v (nI l)) := by
  have := hO.rc
  unfold f_X5_putFirst
  rw [if_neg (nI_pos (by omega)), sqCR hC]
  simp only [ob]
  rw [if_neg (nI_ge hv (by omega)), if_neg (show ¬ nI l < 1 from nI_nlt (b := 1) h1 (by omega)), if_pos (show nI l ≤ 6 from nI_le (b := 6) h6 (by decide)), wr_nI (by omega) (by decide)]
theorem putFirst_0 {l l2 : Int32} (hC : CR S P s mem) (h : Bad l (sR S * sC S) ∨ l2 < 1) : f_X5_putFirst s l l2 mem = some (0, mem) := by
  unfold f_X5_putFirst
  by_cases h0 : l < 0
  · rw [if_pos h0]
  · rw [if_neg h0, sqCR hC]
    simp only [ob]
    by_cases h1 : nI (sR S * sC S) ≤ l
    · rw [if_pos h1]
    · rw [if_neg h1]
      rcases h with h | h
      · rcases h with h | h
        · exact absurd h h0
        · exact absurd h.2 h1
      · rw [if_pos h]
theorem CR.letter (hC : CR S P s mem) {l : Nat} : CR S (DL P v l) s (mset mem (s + 10 + 1) v (nI l)) := by
  have f1 : ∀ a, a ≠ s + 10 + 1 → mset mem (s + 10 + 1) v (nI l) a = mem a := fun a z => mset_ne z
  refine ⟨hC.1.keep (fun a _ _ => f1 a (by omega)), ?_, ?_⟩
  · intro y hy
    rw [mset_at]
    show _ = nI (if y = v then l else P.1 y)
    by_cases e : y = v
    · rw [if_pos ⟨rfl, e⟩, if_pos e]
    · rw [if_neg (fun z => e z.2), if_neg e]; exact hC.2.1 y hy
  · rw [f1 _ (by omega), f1 _ (by omega)]; exact hC.2.2
def tokL (x : Nat × (Nat → Nat)) (S : Sh) (a : Nat) : Prop := inN x a 0 (sR S * sC S) ∧ ltrB (tk x (nuP x a)) = true ∧ tk x (nuP x a + 1) = 59
theorem letter_c (hX : XOK x) (hO : DOK S P f) (hs : 3 ≤ s) (hC : CR S P s mem) (hT : TX x a mem) (ha : a < 300) : (tokL x S a → ∃ m', lC s mem = some (1, m') ∧ CR S (DL P (nuV x a) (tk x (nuP x a) - 96)) s m' ∧ TX x (nuP x a + 2) m' ∧ GC s mem m') ∧ (¬ tokL x S a → ∃ m', lC s mem = some (0, m') ∧ GC s mem m') := by
  have p1 := nuP_le x a
  have k1 := tk_le hX (nuP x a)
  have k2 := tk_le hX (nuP x a + 1)
  have T1 := hT.go (nuP x a)
  have T1' := hT.go (nuP x a + 1)
  have C1 := hC.go (by omega) (nuP x a)
  have C1' := hC.go (by omega) (nuP x a + 1)
  unfold lC
  rw [readNumber_e hX hT (by omega)]
  simp only [ob2]
  by_cases d : ltrB (tk x (nuP x a)) = true
  · have d1 := ltrB_ge d
    rw [readLetter_1 hX T1 (by omega) d]
    simp only
    rw [at1_at1]
    by_cases e : inN x a 0 (sR S * sC S)
    · have C2 := C1'.letter (v := nuV x a) (l := tk x (nuP x a) - 96)
      rw [inN_is e, putFirst_1 hO C1' e.2.2 (by omega) (by omega)]
      generalize hm : mset (at1 mem (nuP x a + 1)) (s + 10 + 1) (nuV x a) (nI (tk x (nuP x a) - 96)) = m1
      rw [hm] at C2
      have g1 : ∀ b, b ≠ s + 11 → m1 b = at1 mem (nuP x a + 1) b := fun b z => by rw [← hm, mset_ne z]
      have T2 : TX x (nuP x a + 1) m1 := T1'.keep (g1 1 (by omega)) (g1 2 (by omega))
      have F2 : GC s mem m1 := GC.go.tr (GC.of (by omega) (fun b z => g1 b (by omega)))
      simp only
      rw [if_neg (by decide), next_e hX T2 (by omega)]
      simp only
      by_cases c : tk x (nuP x a + 1) = 59
      · rw [if_pos (show nI (tk x (nuP x a + 1)) = 59 by rw [c]; rfl)]
        exact ⟨fun _ => ⟨_, rfl, C2.go (by omega) _, T2.go _, F2.tr GC.go⟩, fun z => absurd ⟨e, d, c⟩ z⟩
      · rw [if_neg (show ¬ nI (tk x (nuP x a + 1)) = 59 from lit_ne (n := 59) c (by omega) (by decide))]
        exact ⟨fun z => absurd z.2.2 c, fun _ => ⟨_, rfl, F2.tr GC.go⟩⟩
    · rw [putFirst_0 C1' (Or.inl (bad_of hX e))]
      simp only
      rw [if_pos trivial]
      exact ⟨fun z => absurd z.1 e, fun _ => ⟨_, rfl, GC.go⟩⟩
  · rw [readLetter_0 hX T1 (by omega) d]
    simp only
    rw [putFirst_0 C1 (Or.inr (by decide))]
    simp only
    rw [if_pos trivial]
    exact ⟨fun z => absurd z.2.1 d, fun _ => ⟨_, rfl, GC.go⟩⟩
theorem addSolver_0 {l1 l2 l3 : Int32} (h : Bad l1 5 ∨ Bad l2 8 ∨ Bad l3 (sW S) ∨ ¬ sN S < 6) (hO : DOK S P f) (hC : CR S P s mem) : f_X5_addSolver s l1 l2 l3 mem = some (0, mem) := by
  unfold f_X5_addSolver
  by_cases h1 : l1 < 0
  · rw [if_pos h1]
  · rw [if_neg h1]
    by_cases h2 : 4 < l1
    · rw [if_pos h2]
    · rw [if_neg h2]
      by_cases h3 : l2 < 0
      · rw [if_pos h3]
      · rw [if_neg h3]
        by_cases h4 : 8 ≤ l2
        · rw [if_pos h4]
        · rw [if_neg h4]
          by_cases h5 : l3 < 0
          · rw [if_pos h5]
          · rw [if_neg h5, hC.1.1.2.2.2.1]
            by_cases h6 : nI (sW S) ≤ l3
            · rw [if_pos h6]
            · rw [if_neg h6, hC.1.1.2.2.2.2]
              have h7 : ¬ sN S < 6 := by
                rcases h with h | h | h | h
                · rcases h with h | h
                  · exact absurd h h1
                  · refine absurd ?_ h2
                    obtain ⟨q, hq, rfl⟩ := nI_of h.1
                    exact nI_lt (a := 4) ((nI_leI (a := 5) (by decide) hq).mp h.2) hq
                · rcases h with h | h
                  · exact absurd h h3
                  · exact absurd h.2 h4
                · rcases h with h | h
                  · exact absurd h h5
                  · exact absurd h.2 h6
                · exact h
              rw [if_neg (show ¬ nI (sN S) < 6 from nI_nlt (b := 6) (by omega) (by have := hO.2.2.2.2.1; omega))]
theorem addSolver_1 {k p w : Nat} (hk : k < 5) (hp : p < 8) (hw : w < sW S) (hn : sN S < 6) (hO : DOK S P f) (hC : CR S P s mem) : ∃ m', f_X5_addSolver s (nI k) (nI p) (nI w) mem = some (1, m') ∧ CR (DS S k) (DV P (sN S) p w) s m' ∧ ∀ a, (a < s ∨ s + 13 < a) → m' a = mem a := by
  have h9 := hO.2.2.2.1
  unfold f_X5_addSolver f_X0_wish
  rw [if_neg (nI_pos (by omega)), if_neg (show ¬ (4 : Int32) < nI k from nI_nlt (a := 4) (by omega) (by decide)), if_neg (nI_pos (by omega)), if_neg (show ¬ (8 : Int32) ≤ nI p from nI_ge (b := 8) hp (by decide)), if_neg (nI_pos (by omega)), hC.1.1.2.2.2.1, if_neg (nI_ge hw (by omega)), hC.1.1.2.2.2.2, if_pos (show nI (sN S) < 6 from nI_lt (b := 6) hn (by decide)), wr_nI hn (by decide)]
  generalize hm1 : mset mem (s + 9) (sN S) (nI k) = m1
  have g1 : ∀ a, a ≠ s + 9 → m1 a = mem a := fun a z => by rw [← hm1, mset_ne z]
  rw [show m1 s 12 = nI (sN S) by rw [g1 s (by omega)]; exact hC.1.1.2.2.2.2, wr_nI hn (by decide), wr_nI hn (by decide)]
  simp only [ob, lt']
  generalize hm2 : mset (mset m1 (s + 10 + 2) (sN S) (nI p)) (s + 10 + 3) (sN S) (nI w) = m2
  have g2 : ∀ a, a ≠ s + 10 + 2 → a ≠ s + 10 + 3 → m2 a = m1 a := fun a z1 z2 => by rw [← hm2, mset_ne z2, mset_ne z1]
  rw [show m2 s 12 = nI (sN S) by rw [g2 s (by omega) (by omega), g1 s (by omega)]; exact hC.1.1.2.2.2.2, nI_1]
  have g3 : ∀ a, a ≠ s → mset m2 s 12 (nI (sN S + 1)) a = m2 a := fun a z => mset_ne z
  refine ⟨_, rfl, ⟨⟨⟨?_, ?_, ?_, ?_, mset_eq⟩, ?_, ?_, ?_, ?_, ?_, ?_⟩, ?_, ?_⟩, fun a z => by rw [g3 a (by omega), g2 a (by omega) (by omega), g1 a (by omega)]⟩
  · rw [mset_k (by decide), g2 s (by omega) (by omega), g1 s (by omega)]; exact hC.1.1.1
  · rw [mset_k (by decide), g2 s (by omega) (by omega), g1 s (by omega)]; exact hC.1.1.2.1
  · rw [mset_k (by decide), g2 s (by omega) (by omega), g1 s (by omega)]; exact hC.1.1.2.2.1
  · rw [mset_k (by decide), g2 s (by omega) (by omega), g1 s (by omega)]; exact hC.1.1.2.2.2.1
  · rw [g3 _ (by omega), g2 _ (by omega) (by omega), g1 _ (by omega)]; exact hC.1.2.1
  · rw [g3 _ (by omega), g2 _ (by omega) (by omega), g1 _ (by omega), g3 _ (by omega), g2 _ (by omega) (by omega), g1 _ (by omega), g3 _ (by omega), g2 _ (by omega) (by omega), g1 _ (by omega)]; exact hC.1.2.2.1
  · rw [g3 _ (by omega), g2 _ (by omega) (by omega), g1 _ (by omega), g3 _ (by omega), g2 _ (by omega) (by omega), g1 _ (by omega)]; exact hC.1.2.2.2.1
  · rw [g3 _ (by omega), g2 _ (by omega) (by omega), g1 _ (by omega)]; exact hC.1.2.2.2.2.1
  · rw [g3 _ (by omega), g2 _ (by omega) (by omega), g1 _ (by omega)]; exact hC.1.2.2.2.2.2.1
  · rw [g3 _ (by omega), g2 _ (by omega) (by omega)]
    intro i hi
    have hi' : i < sN S + 1 := hi
    show _ = nI (if i = sN S then k else skd S i)
    rw [← hm1, mset_at]
    by_cases e : i = sN S
    · rw [if_pos ⟨rfl, e⟩, if_pos e]
    · rw [if_neg (fun z => e z.2), if_neg e]; exact hC.1.2.2.2.2.2.2 i (by omega)
  · rw [g3 _ (by omega), g2 _ (by omega) (by omega), g1 _ (by omega)]; exact hC.2.1
  · rw [g3 _ (by omega), g3 _ (by omega)]
    intro i hi
    have c := hC.2.2 i hi
    constructor
    · show _ = nI (if i = sN S then p else P.2.1 i)
      rw [← hm2, mset_ne (by omega), mset_at, g1 _ (by omega), c.1]
      by_cases e : i = sN S
      · rw [if_pos ⟨rfl, e⟩, if_pos e]
      · rw [if_neg (fun z => e z.2), if_neg e]
    · show _ = nI (if i = sN S then w else P.2.2 i)
      rw [← hm2, mset_at, mset_ne (by omega), g1 _ (by omega), c.2]
      by_cases e : i = sN S
      · rw [if_pos ⟨rfl, e⟩, if_pos e]
      · rw [if_neg (fun z => e z.2), if_neg e]
def tokS' (x : Nat × (Nat → Nat)) (S : Sh) (a p2 p3 : Nat) : Prop := inN x a 0 5 ∧ tk x (nuP x a) = 44 ∧ inN x (nuP x a + 1) 0 8 ∧ tk x p2 = 44 ∧ inN x (p2 + 1) 0 (sW S) ∧ tk x p3 = 59 ∧ sN S < 6
def q2P (x : Nat × (Nat → Nat)) (a : Nat) : Nat := nuP x (nuP x a + 1)
def q3P (x : Nat × (Nat → Nat)) (a : Nat) : Nat := nuP x (q2P x a + 1)
def tokS (x : Nat × (Nat → Nat)) (S : Sh) (a : Nat) : Prop := tokS' x S a (q2P x a) (q3P x a)
theorem solver_c (hX : XOK x) (hO : DOK S P f) (hs : 3 ≤ s) (hC : CR S P s mem) (hT : TX x a mem) (ha : a < 300) : (tokS x S a → ∃ m', f_X2_readSolver s mem = some (1, m') ∧ CR (DS S (nuV x a)) (DV P (sN S) (nuV x (nuP x a + 1)) (nuV x (q2P x a + 1))) s m' ∧ TX x (q3P x a + 1) m' ∧ GC s mem m') ∧ (¬ tokS x S a → ∃ m', f_X2_readSolver s mem = some (0, m') ∧ GC s mem m') := by
  have p1 := nuP_le x a
  have p2 := nuP_le x (nuP x a + 1)
  have p3 := nuP_le x (q2P x a + 1)
  rw [show nuP x (nuP x a + 1) = q2P x a from rfl] at p2
  rw [show nuP x (q2P x a + 1) = q3P x a from rfl] at p3
  have k1 := tk_le hX (nuP x a)
  have k2 := tk_le hX (q2P x a)
  have k3 := tk_le hX (q3P x a)
  have fin : ∀ w0 : Int32, w0 = 0 → ∃ m', f_X2_readSolver_j44 s (nu x a) (nu x (nuP x a + 1)) w0 (at1 mem (q2P x a + 1)) = some (0, m') ∧ GC s mem m' := by
    intro w0 hw
    unfold f_X2_readSolver_j44
    rw [readNumber_e hX (hT.go _) (by omega)]
    simp only [ob2]
    rw [if_pos hw]
    exact ⟨_, rfl, GC.go.tr GC.go⟩
  unfold f_X2_readSolver
  rw [readNumber_e hX hT (by omega)]
  simp only [ob2]
  rw [next_e hX (hT.go _) (by omega)]
  simp only
  rw [at1_at1]
  by_cases c1 : tk x (nuP x a) = 44
  · rw [if_pos (show nI (tk x (nuP x a)) = 44 by rw [c1]; rfl)]
    unfold f_X2_readSolver_j19
    rw [readNumber_e hX (hT.go _) (by omega), show nuP x (nuP x a + 1) = q2P x a from rfl]
    simp only [ob2]
    rw [at1_at1, next_e hX (hT.go _) (by omega)]
    simp only
    rw [at1_at1]
    by_cases c2 : tk x (q2P x a) = 44
    · rw [if_pos (show nI (tk x (q2P x a)) = 44 by rw [c2]; rfl), if_neg (by decide)]
      unfold f_X2_readSolver_j44
      rw [readNumber_e hX (hT.go _) (by omega), show nuP x (q2P x a + 1) = q3P x a from rfl]
      simp only [ob2]
      rw [at1_at1, if_neg (by decide), next_e hX (hT.go _) (by omega)]
      simp only
      rw [at1_at1]
      by_cases c3 : tk x (q3P x a) = 59
      · rw [if_pos (show nI (tk x (q3P x a)) = 59 by rw [c3]; rfl)]
        have C4 := hC.go (by omega) (q3P x a + 1)
        by_cases e : inN x a 0 5 ∧ inN x (nuP x a + 1) 0 8 ∧ inN x (q2P x a + 1) 0 (sW S) ∧ sN S < 6
        · obtain ⟨e1, e2, e3, e4⟩ := e
          obtain ⟨m1, q1, q2, q3⟩ := addSolver_1 e1.2.2 e2.2.2 e3.2.2 e4 hO C4
          rw [inN_is e1, inN_is e2, inN_is e3, q1]
          simp only
          rw [if_neg (by decide)]
          exact ⟨fun _ => ⟨_, rfl, q2, (hT.go (q3P x a + 1)).keep (q3 1 (by omega)) (q3 2 (by omega)), GC.go.tr (GC.of (by omega) q3)⟩, fun z => absurd ⟨e1, c1, e2, c2, e3, c3, e4⟩ z⟩
        · have hb : Bad (nu x a) 5 ∨ Bad (nu x (nuP x a + 1)) 8 ∨ Bad (nu x (q2P x a + 1)) (sW S) ∨ ¬ sN S < 6 := by
            by_cases e1 : inN x a 0 5
            · by_cases e2 : inN x (nuP x a + 1) 0 8
              · by_cases e3 : inN x (q2P x a + 1) 0 (sW S)
                · exact Or.inr (Or.inr (Or.inr (fun z => e ⟨e1, e2, e3, z⟩)))
                · exact Or.inr (Or.inr (Or.inl (bad_of hX e3)))
              · exact Or.inr (Or.inl (bad_of hX e2))
            · exact Or.inl (bad_of hX e1)
          rw [addSolver_0 hb hO C4]
          simp only
          rw [if_pos trivial]
          exact ⟨fun z => absurd ⟨z.1, z.2.2.1, z.2.2.2.2.1, z.2.2.2.2.2.2⟩ e, fun _ => ⟨_, rfl, GC.go⟩⟩
      · rw [if_neg (show ¬ nI (tk x (q3P x a)) = 59 from lit_ne (n := 59) c3 (by omega) (by decide))]
        exact ⟨fun z => absurd z.2.2.2.2.2.1 c3, fun _ => ⟨_, rfl, GC.go⟩⟩
    · rw [if_neg (show ¬ nI (tk x (q2P x a)) = 44 from lit_ne (n := 44) c2 (by omega) (by decide))]
      unfold f_X2_readSolver_j43
      obtain ⟨m1, q1, q2⟩ := fin 0 rfl
      rw [q1]
      exact ⟨fun z => absurd z.2.2.2.1 c2, fun _ => ⟨_, rfl, q2⟩⟩
  · rw [if_neg (show ¬ nI (tk x (nuP x a)) = 44 from lit_ne (n := 44) c1 (by omega) (by decide))]
    unfold f_X2_readSolver_j19
    rw [readNumber_e hX (hT.go _) (by omega), show nuP x (nuP x a + 1) = q2P x a from rfl]
    simp only [ob2]
    rw [at1_at1, next_e hX (hT.go _) (by omega)]
    simp only
    rw [at1_at1]
    unfold f_X2_readSolver_j43
    obtain ⟨m1, q1, q2⟩ := fin 0 rfl
    rw [q1]
    refine ⟨fun z => absurd z.2.1 c1, fun _ => ⟨m1, ?_, q2⟩⟩
    by_cases c2 : nI (tk x (q2P x a)) = 44
    · rw [if_pos c2, if_pos trivial]
    · rw [if_neg c2]
end ITD
