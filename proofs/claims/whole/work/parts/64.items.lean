/-! what a text has told so far, and what an item adds -/
def DG (S : Sh) (r c : Nat) : Sh := ((r, c, S.1.2.2), S.2)
def DB (S : Sh) (q : Nat) : Sh := (S.1, (fun x => if x = q then 1 else sbl S x), S.2.2)
def DL (P : Pa) (q v : Nat) : Pa := ((fun x => if x = q then v else P.1 x), P.2)
def DW (S : Sh) (n : Nat) (f : Nat → Nat) : Sh := ((sR S, sC S, sP S, sW S + 1, sN S), sbl S, sfi S, spl S, sst S, (fun w => if w = sW S then n else swl S w), (fun w => if w = sW S then f else swd S w), skd S)
def DS (S : Sh) (k : Nat) : Sh := ((sR S, sC S, sP S, sW S, sN S + 1), sbl S, sfi S, spl S, sst S, swl S, swd S, fun i => if i = sN S then k else skd S i)
def DV (P : Pa) (m p w : Nat) : Pa := (P.1, (fun i => if i = m then p else P.2.1 i), fun i => if i = m then w else P.2.2 i)
def DOK (S : Sh) (P : Pa) (f : Bool) : Prop := (2 ≤ sR S ∧ sR S ≤ 4) ∧ (2 ≤ sC S ∧ sC S ≤ 4) ∧ sP S = 0 ∧ sW S ≤ 9 ∧ sN S ≤ 6 ∧ (∀ x, sbl S x ≤ 1) ∧
  (∀ w, w < sW S → (2 ≤ swl S w ∧ swl S w ≤ 4) ∧ (∀ k, k < swl S w → 1 ≤ swd S w k ∧ swd S w k ≤ 6) ∧ ∀ k, swl S w ≤ k → swd S w k = 0) ∧ (∀ i, i < sN S → skd S i ≤ 4) ∧
  (∀ x, x < 16 → P.1 x ≤ 6) ∧ (∀ x, x < 16 → sR S * sC S ≤ x → P.1 x = 0) ∧ (f = true → ∀ x, x < 16 → P.1 x = 0) ∧ ∀ i, i < 6 → P.2.1 i < 8 ∧ (i < sN S → P.2.2 i < sW S) ∧ (sN S ≤ i → P.2.1 i = 0 ∧ P.2.2 i = 0)
theorem DOK.rc {S : Sh} {P : Pa} {f : Bool} (h : DOK S P f) : sR S * sC S ≤ 16 := Nat.le_trans (Nat.mul_le_mul h.1.2 h.2.1.2) (by decide)
def CR (S : Sh) (P : Pa) (s : Nat) (mem : Mem) : Prop := CS S s mem ∧ CP P (s + 10) mem
def RR (S : Sh) (P : Pa) (mem : Mem) : Prop := (mem 62 3 = nI (sR S) ∧ mem 62 4 = nI (sC S) ∧ mem 62 5 = nI (sW S) ∧ mem 62 6 = nI (sN S)) ∧ (∀ x, x < 16 → mem 64 x = nI (sbl S x) ∧ mem 65 x = nI (P.1 x)) ∧
  (∀ w, w < sW S → mem 66 w = nI (swl S w) ∧ ∀ k, k < 4 → mem 67 (4 * w + k) = nI (swd S w k)) ∧ ∀ i, i < sN S → mem 68 (3 * i) = nI (skd S i) ∧ mem 68 (3 * i + 1) = nI (P.2.1 i) ∧ mem 68 (3 * i + 2) = nI (P.2.2 i)
def GC (s : Nat) (mem m' : Mem) : Prop := (∀ a, a ≠ 1 → (a < s ∨ s + 13 < a) → m' a = mem a) ∧ m' 1 1 = mem 1 1
def FR (mem m' : Mem) : Prop := (∀ a, a ≠ 62 → (a < 64 ∨ 69 < a) → m' a = mem a) ∧ ∀ k, (k = 0 ∨ 14 ≤ k) → m' 62 k = mem 62 k
/-- a number stands there, from a on and below n -/
def inN (x : Nat × (Nat → Nat)) (i a n : Nat) : Prop := figB (tk x i) = true ∧ a ≤ nuV x i ∧ nuV x i < n
def dec_inN (x : Nat × (Nat → Nat)) (i a n : Nat) : Decidable (inN x i a n) := inferInstanceAs (Decidable (_ ∧ _ ∧ _))
section ITC
variable {x : Nat × (Nat → Nat)} {i j a n s : Nat} {mem m' m2 : Mem} {S : Sh} {P : Pa}
theorem GC.rfl : GC s mem mem := ⟨fun _ _ _ => Eq.refl _, Eq.refl _⟩
theorem FR.rfl : FR mem mem := ⟨fun _ _ _ => Eq.refl _, fun _ _ => Eq.refl _⟩
theorem GC.tr (h1 : GC s mem m') (h2 : GC s m' m2) : GC s mem m2 := ⟨fun a z1 z2 => by rw [h2.1 a z1 z2, h1.1 a z1 z2], by rw [h2.2, h1.2]⟩
theorem FR.tr (h1 : FR mem m') (h2 : FR m' m2) : FR mem m2 := ⟨fun a z1 z2 => by rw [h2.1 a z1 z2, h1.1 a z1 z2], fun k z => by rw [h2.2 k z, h1.2 k z]⟩
theorem GC.go : GC s mem (at1 mem j) := ⟨fun _ z _ => mset_ne z, mset_k (by decide)⟩
theorem FR.go : FR mem (at7 mem j) := ⟨fun _ z _ => mset_ne z, fun _ z => mset_k (by omega)⟩
theorem GC.of (hs : 2 ≤ s) (h : ∀ a, (a < s ∨ s + 13 < a) → m' a = mem a) : GC s mem m' := ⟨fun a _ z => h a z, by rw [h 1 (by omega)]⟩
theorem TX.keep (h : TX x i mem) (h1 : m' 1 = mem 1) (h2 : m' 2 = mem 2) : TX x i m' := ⟨h.1.keep (by rw [h1]) h2, by rw [h1]; exact h.2⟩
theorem TM.keep (h : TM x i mem) (h1 : m' 62 0 = mem 62 0) (h2 : m' 62 2 = mem 62 2) (h3 : m' 63 = mem 63) : TM x i m' := ⟨h.1.keep h1 h3, by rw [h2]; exact h.2⟩
theorem CR.keep (h : CR S P s mem) (hk : ∀ a, s ≤ a → a ≤ s + 13 → m' a = mem a) : CR S P s m' := ⟨h.1.keep (fun a z1 z2 => hk a z1 (by omega)), h.2.keep (fun a z1 z2 => hk a (by omega) (by omega))⟩
theorem CR.go (h : CR S P s mem) (hs : 2 ≤ s) (j : Nat) : CR S P s (at1 mem j) := h.keep (fun a z _ => mset_ne (by omega))
theorem RR.keep (h : RR S P mem) (h62 : ∀ k, 3 ≤ k → k ≤ 6 → m' 62 k = mem 62 k) (hk : ∀ a, 64 ≤ a → a ≤ 68 → m' a = mem a) : RR S P m' := by
  rw [RR, h62 3 (by decide) (by decide), h62 4 (by decide) (by decide), h62 5 (by decide) (by decide), h62 6 (by decide) (by decide), hk 64 (by decide) (by decide), hk 65 (by decide) (by decide), hk 66 (by decide) (by decide), hk 67 (by decide) (by decide), hk 68 (by decide) (by decide)]
  exact h
theorem RR.go (h : RR S P mem) (j : Nat) : RR S P (at7 mem j) := h.keep (fun k _ _ => mset_k (by omega)) (fun a _ _ => mset_ne (by omega))
theorem nu_1 (h : figB (tk x i) = true) : nu x i = nI (nuV x i) := by rw [nu, if_pos h]
theorem nu_0 (h : ¬ figB (tk x i) = true) : nu x i = -1 := by rw [nu, if_neg h]
theorem inN_is (h : inN x i a n) : nu x i = nI (nuV x i) := nu_1 h.1
theorem inN_not (hX : XOK x) (h : ¬ inN x i a n) : nu x i = -1 ∨ ∃ v, v ≤ 99 ∧ nu x i = nI v ∧ (v < a ∨ n ≤ v) := by
  by_cases c : figB (tk x i) = true
  · refine Or.inr ⟨nuV x i, nuV_le hX i c, nu_1 c, ?_⟩
    rcases Nat.lt_or_ge (nuV x i) a with q | q
    · exact Or.inl q
    · rcases Nat.lt_or_ge (nuV x i) n with q2 | q2
      · exact absurd ⟨c, q, q2⟩ h
      · exact Or.inr q2
  · exact Or.inl (nu_0 c)
theorem prd_lt {n j : Nat} (h : n ≤ j) (hj : j < 2 ^ 30) : nI n - 1 < nI j := by
  rcases Nat.eq_zero_or_pos n with z | z
  · rw [z, Int32.lt_iff_toInt_lt]
    rw [nI_toInt (by omega)]
    have : (nI 0 - 1).toInt = -1 := by decide
    omega
  · obtain ⟨m, rfl⟩ : ∃ m, n = m + 1 := ⟨n - 1, by omega⟩
    rw [nI_pred]
    exact nI_lt (by omega) (by omega)
theorem prd_nlt {n j : Nat} (h : j < n) (hn : n < 2 ^ 30) : ¬ nI n - 1 < nI j := by
  obtain ⟨m, rfl⟩ : ∃ m, n = m + 1 := ⟨n - 1, by omega⟩
  rw [nI_pred]
  exact nI_nlt (by omega) (by omega)
theorem number_in (hX : XOK x) (h : TM x i mem) (hi : i < 900) (hn : n < 2 ^ 30) (c : inN x i 0 n) : f_X7_number (nI n - 1) mem = some (nI (nuV x i), at7 mem (nuP x i)) := by
  rw [number_e hX h hi, if_pos c.1, if_neg (prd_nlt c.2.2 hn)]
theorem number_out (hX : XOK x) (h : TM x i mem) (hi : i < 900) (c : ¬ inN x i 0 n) : f_X7_number (nI n - 1) mem = some (-1, at7 mem (nuP x i)) := by
  rw [number_e hX h hi]
  by_cases d : figB (tk x i) = true
  · rw [if_pos d]
    have h9 := nuV_le hX i d
    have : n ≤ nuV x i := by
      rcases Nat.lt_or_ge (nuV x i) n with q | q
      · exact absurd ⟨d, Nat.zero_le _, q⟩ c
      · exact q
    rw [if_pos (prd_lt this (by omega))]
  · rw [if_neg d]
theorem layGrid_c (hC : CR S P s mem) {r c : Nat} (hr : 2 ≤ r ∧ r < 5) (hc : 2 ≤ c ∧ c < 5) : ∃ m', f_X5_layGrid s (nI r) (nI c) mem = some (1, m') ∧ CR (DG S r c) P s m' ∧ ∀ a, a ≠ s → m' a = mem a := by
  unfold f_X5_layGrid
  rw [if_neg (show ¬ nI r < 2 from nI_nlt hr.1 (by omega)), if_neg (show ¬ (4 : Int32) < nI r from nI_nlt (a := 4) (by omega) (by decide)), if_neg (show ¬ nI c < 2 from nI_nlt hc.1 (by omega)), if_pos (show nI c ≤ 4 from nI_le (b := 4) (by omega) (by decide))]
  simp only [lt']
  have f1 : ∀ a, a ≠ s → mset (mset mem s 0 (nI r)) s 1 (nI c) a = mem a := fun a z => by rw [mset_ne z, mset_ne z]
  refine ⟨_, rfl, ⟨⟨⟨?_, mset_eq, ?_, ?_, ?_⟩, ?_, ?_, ?_, ?_, ?_, ?_⟩, hC.2.keep (fun a _ _ => f1 a (by omega))⟩, f1⟩
  · rw [mset_k (by decide), mset_eq]; rfl
  · rw [mset_k (by decide), mset_k (by decide)]; exact hC.1.1.2.2.1
  · rw [mset_k (by decide), mset_k (by decide)]; exact hC.1.1.2.2.2.1
  · rw [mset_k (by decide), mset_k (by decide)]; exact hC.1.1.2.2.2.2
  · rw [f1 _ (by omega)]; exact hC.1.2.1
  · rw [f1 _ (by omega), f1 _ (by omega), f1 _ (by omega)]; exact hC.1.2.2.1
  · rw [f1 _ (by omega), f1 _ (by omega)]; exact hC.1.2.2.2.1
  · rw [f1 _ (by omega)]; exact hC.1.2.2.2.2.1
  · rw [f1 _ (by omega)]; exact hC.1.2.2.2.2.2.1
  · rw [f1 _ (by omega)]; exact hC.1.2.2.2.2.2.2
theorem layGrid_0 {l l2 : Int32} (h : l < 2 ∨ 4 < l ∨ l2 < 2 ∨ ¬ l2 ≤ 4) : f_X5_layGrid s l l2 mem = some (0, mem) := by
  unfold f_X5_layGrid
  by_cases a : l < 2
  · rw [if_pos a]
  · rw [if_neg a]
    by_cases b : 4 < l
    · rw [if_pos b]
    · rw [if_neg b]
      by_cases c : l2 < 2
      · rw [if_pos c]
      · rw [if_neg c]
        by_cases d : l2 ≤ 4
        · rcases h with h | h | h | h
          · exact absurd h a
          · exact absurd h b
          · exact absurd h c
          · exact absurd d h
        · rw [if_neg d]
theorem bad25 (hX : XOK x) (h : ¬ inN x i 2 5) : nu x i < 2 ∨ 4 < nu x i := by
  rcases inN_not hX h with q | ⟨v, h9, q, h2 | h2⟩
  · rw [q]; exact Or.inl (by decide)
  · rw [q]; exact Or.inl (nI_lt (b := 2) h2 (by decide))
  · rw [q]; exact Or.inr (nI_lt (a := 4) (by omega) (by omega))
def tokG (x : Nat × (Nat → Nat)) (a : Nat) : Prop := inN x a 2 5 ∧ tk x (nuP x a) = 44 ∧ inN x (nuP x a + 1) 2 5 ∧ tk x (nuP x (nuP x a + 1)) = 59
theorem grid_c (hX : XOK x) (hs : 3 ≤ s) (hC : CR S P s mem) (hT : TX x a mem) (ha : a < 300) : (tokG x a → ∃ m', f_X2_readGrid s mem = some (1, m') ∧ CR (DG S (nuV x a) (nuV x (nuP x a + 1))) P s m' ∧ TX x (nuP x (nuP x a + 1) + 1) m' ∧ GC s mem m') ∧ (¬ tokG x a → ∃ m', f_X2_readGrid s mem = some (0, m') ∧ GC s mem m') := by
  have p1 := nuP_le x a
  have p2 := nuP_le x (nuP x a + 1)
  have k1 := tk_le hX (nuP x a)
  have k2 := tk_le hX (nuP x (nuP x a + 1))
  have T1 := hT.go (nuP x a)
  have T2 := hT.go (nuP x a + 1)
  have T3 := hT.go (nuP x (nuP x a + 1))
  have T4 := hT.go (nuP x (nuP x a + 1) + 1)
  have key : f_X2_readGrid s mem = if tk x (nuP x a) = 44 then (if tk x (nuP x (nuP x a + 1)) = 59 then f_X5_layGrid s (nu x a) (nu x (nuP x a + 1)) (at1 mem (nuP x (nuP x a + 1) + 1)) else some (0, at1 mem (nuP x (nuP x a + 1) + 1))) else some (0, at1 mem (nuP x (nuP x a + 1))) := by
    unfold f_X2_readGrid
    rw [readNumber_e hX hT (by omega)]
    simp only [ob2]
    rw [next_e hX T1 (by omega)]
    simp only
    rw [at1_at1]
    by_cases c : tk x (nuP x a) = 44
    · rw [if_pos (show nI (tk x (nuP x a)) = 44 by rw [c]; rfl), if_pos c]
      unfold f_X2_readGrid_j19
      rw [readNumber_e hX T2 (by omega)]
      simp only [ob2]
      rw [if_neg (by decide), at1_at1, next_e hX T3 (by omega)]
      simp only
      rw [at1_at1]
      by_cases d : tk x (nuP x (nuP x a + 1)) = 59
      · rw [if_pos (show nI (tk x (nuP x (nuP x a + 1))) = 59 by rw [d]; rfl), if_pos d]
        by_cases e : (nu x a < 2 ∨ 4 < nu x a ∨ nu x (nuP x a + 1) < 2 ∨ ¬ nu x (nuP x a + 1) ≤ 4)
        · rw [layGrid_0 e]
          rfl
        · have e1 : inN x a 2 5 := by
            refine Classical.byContradiction fun z => e ?_
            rcases bad25 hX z with q | q
            · exact Or.inl q
            · exact Or.inr (Or.inl q)
          have e2 : inN x (nuP x a + 1) 2 5 := by
            refine Classical.byContradiction fun z => e ?_
            rcases bad25 hX z with q | q
            · exact Or.inr (Or.inr (Or.inl q))
            · exact Or.inr (Or.inr (Or.inr (by rw [Int32.not_le]; exact q)))
          obtain ⟨m1, q, _⟩ := layGrid_c (hC.go (by omega) (nuP x (nuP x a + 1) + 1)) ⟨e1.2.1, e1.2.2⟩ ⟨e2.2.1, e2.2.2⟩
          rw [inN_is e1, inN_is e2, q]
          rfl
      · rw [if_neg (show ¬ nI (tk x (nuP x (nuP x a + 1))) = 59 from lit_ne (n := 59) d (by omega) (by decide)), if_neg d]
    · rw [if_neg (show ¬ nI (tk x (nuP x a)) = 44 from lit_ne (n := 44) c (by omega) (by decide)), if_neg c]
      unfold f_X2_readGrid_j19
      rw [readNumber_e hX T2 (by omega)]
      simp only [ob2]
      rw [if_pos (by decide), at1_at1]
  rw [key]
  constructor
  · rintro ⟨e1, c, e2, d⟩
    rw [if_pos c, if_pos d, inN_is e1, inN_is e2]
    obtain ⟨m1, q, q2, q3⟩ := layGrid_c (hC.go (by omega) (nuP x (nuP x a + 1) + 1)) ⟨e1.2.1, e1.2.2⟩ ⟨e2.2.1, e2.2.2⟩
    exact ⟨m1, q, q2, T4.keep (q3 1 (by omega)) (q3 2 (by omega)), GC.go.tr (GC.of (by omega) (fun a z => q3 a (by omega)))⟩
  · intro h
    by_cases c : tk x (nuP x a) = 44
    · rw [if_pos c]
      by_cases d : tk x (nuP x (nuP x a + 1)) = 59
      · rw [if_pos d]
        refine ⟨_, layGrid_0 ?_, GC.go⟩
        by_cases e1 : inN x a 2 5
        · by_cases e2 : inN x (nuP x a + 1) 2 5
          · exact absurd ⟨e1, c, e2, d⟩ h
          · rcases bad25 hX e2 with q | q
            · exact Or.inr (Or.inr (Or.inl q))
            · exact Or.inr (Or.inr (Or.inr (by rw [Int32.not_le]; exact q)))
        · rcases bad25 hX e1 with q | q
          · exact Or.inl q
          · exact Or.inr (Or.inl q)
      · rw [if_neg d]
        exact ⟨_, rfl, GC.go⟩
    · rw [if_neg c]
      exact ⟨_, rfl, GC.go⟩
end ITC
