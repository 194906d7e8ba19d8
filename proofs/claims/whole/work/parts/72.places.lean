/-! the places of a grid -/
def AP (S : Sh) (fi le st : Nat) : Sh := ((sR S, sC S, sP S + 1, sW S, sN S), sbl S, (fun p => if p = sP S then fi else sfi S p), (fun p => if p = sP S then le else spl S p), (fun p => if p = sP S then st else sst S p), swl S, swd S, skd S)
/-- along a line of n squares from a on: the run that ends before square i, and the places so far -/
def lnN (S : Sh) (a st n : Nat) : Nat → Nat × Sh
  | 0 => (0, S)
  | i + 1 => if i < n ∧ sbl S (a + i * st) = 0 then ((lnN S a st n i).1 + 1, (lnN S a st n i).2) else (0, if 2 ≤ (lnN S a st n i).1 then AP (lnN S a st n i).2 (a + (i - (lnN S a st n i).1) * st) (lnN S a st n i).1 st else (lnN S a st n i).2)
def FOK (S : Sh) : Prop := (2 ≤ sR S ∧ sR S ≤ 4) ∧ (2 ≤ sC S ∧ sC S ≤ 4) ∧ sW S ≤ 9 ∧ sN S ≤ 6 ∧ (∀ x, sbl S x ≤ 1) ∧
  (∀ p, p < sP S → (2 ≤ spl S p ∧ spl S p ≤ 4) ∧ 1 ≤ sst S p ∧ ∀ k, k < spl S p → ssq S p k < sR S * sC S ∧ sbl S (ssq S p k) = 0) ∧
  (∀ w, w < sW S → (2 ≤ swl S w ∧ swl S w ≤ 4) ∧ (∀ k, k < swl S w → 1 ≤ swd S w k ∧ swd S w k ≤ 6) ∧ ∀ k, swl S w ≤ k → swd S w k = 0) ∧ (∀ i, i < sN S → skd S i ≤ 4)
def Bs (S S' : Sh) : Prop := sR S' = sR S ∧ sC S' = sC S ∧ sbl S' = sbl S ∧ sW S' = sW S ∧ sN S' = sN S
theorem FOK.sok {S : Sh} (h : FOK S) (h8 : sP S ≤ 8) (h1 : 1 ≤ sW S) : SOK S := ⟨h.1, h.2.1, h8, ⟨h1, h.2.2.1⟩, h.2.2.2.1, h.2.2.2.2.1, h.2.2.2.2.2.1, h.2.2.2.2.2.2.1, h.2.2.2.2.2.2.2⟩
theorem DOK.fok {S : Sh} {P : Pa} {g : Bool} (h : DOK S P g) : FOK S := ⟨h.1, h.2.1, h.2.2.2.1, h.2.2.2.2.1, h.2.2.2.2.2.1, fun p hp => absurd hp (by rw [h.2.2.1]; exact Nat.not_lt_zero _), h.2.2.2.2.2.2.1, h.2.2.2.2.2.2.2.1⟩
theorem FOK.rc {S : Sh} (h : FOK S) : sR S * sC S ≤ 16 := Nat.le_trans (Nat.mul_le_mul h.1.2 h.2.1.2) (by decide)
section PLC
variable {S S' S2 : Sh} {a st n i le fi s : Nat} {mem m' : Mem}
theorem Bs.rfl : Bs S S := ⟨Eq.refl _, Eq.refl _, Eq.refl _, Eq.refl _, Eq.refl _⟩
theorem Bs.tr (h1 : Bs S S') (h2 : Bs S' S2) : Bs S S2 := ⟨h2.1.trans h1.1, h2.2.1.trans h1.2.1, h2.2.2.1.trans h1.2.2.1, h2.2.2.2.1.trans h1.2.2.2.1, h2.2.2.2.2.trans h1.2.2.2.2⟩
theorem Bs.ap : Bs S (AP S fi le st) := ⟨Eq.refl _, Eq.refl _, Eq.refl _, Eq.refl _, Eq.refl _⟩
theorem FOK.ap (h : FOK S) (hl : 2 ≤ le ∧ le ≤ 4) (hs : 1 ≤ st) (hq : ∀ k, k < le → fi + k * st < sR S * sC S ∧ sbl S (fi + k * st) = 0) : FOK (AP S fi le st) := by
  refine ⟨h.1, h.2.1, h.2.2.1, h.2.2.2.1, h.2.2.2.2.1, fun p hp => ?_, h.2.2.2.2.2.2.1, h.2.2.2.2.2.2.2⟩
  have hp' : p < sP S + 1 := hp
  show (2 ≤ (if p = sP S then le else spl S p) ∧ (if p = sP S then le else spl S p) ≤ 4) ∧ 1 ≤ (if p = sP S then st else sst S p) ∧ ∀ k, k < (if p = sP S then le else spl S p) → (if p = sP S then fi else sfi S p) + k * (if p = sP S then st else sst S p) < sR S * sC S ∧ sbl S ((if p = sP S then fi else sfi S p) + k * (if p = sP S then st else sst S p)) = 0
  by_cases e : p = sP S
  · rw [if_pos e, if_pos e, if_pos e]
    exact ⟨hl, hs, hq⟩
  · rw [if_neg e, if_neg e, if_neg e]
    exact h.2.2.2.2.2.1 p (by omega)
theorem lnN_in (h : i < n ∧ sbl S (a + i * st) = 0) : lnN S a st n (i + 1) = ((lnN S a st n i).1 + 1, (lnN S a st n i).2) := by rw [lnN, if_pos h]
theorem lnN_out (h : ¬ (i < n ∧ sbl S (a + i * st) = 0)) : lnN S a st n (i + 1) = (0, if 2 ≤ (lnN S a st n i).1 then AP (lnN S a st n i).2 (a + (i - (lnN S a st n i).1) * st) (lnN S a st n i).1 st else (lnN S a st n i).2) := by rw [lnN, if_neg h]
/-- what is known along the line -/
def LI (S : Sh) (a st n i : Nat) (q : Nat × Sh) : Prop := q.1 ≤ i ∧ q.1 ≤ n ∧ (∀ j, i - q.1 ≤ j → j < i → j < n ∧ sbl S (a + j * st) = 0) ∧ FOK q.2 ∧ Bs S q.2 ∧ sP S ≤ sP q.2 ∧ 3 * (sP q.2 - sP S) + q.1 ≤ i
theorem line_i (hF : FOK S) (hn : n ≤ 4) (hst : 1 ≤ st) (hsq : ∀ j, j < n → a + j * st < sR S * sC S) : ∀ i, i ≤ n + 1 → LI S a st n i (lnN S a st n i) := by
  intro i
  induction i with
  | zero =>
    intro _
    exact ⟨Nat.le_refl _, Nat.zero_le _, fun j _ hj => absurd hj (Nat.not_lt_zero _), hF, Bs.rfl, Nat.le_refl _, by show 3 * (sP S - sP S) + 0 ≤ 0; omega⟩
  | succ i ih =>
    intro hi
    obtain ⟨h1, h2, h3, h4, h5, h6, h7⟩ := ih (by omega)
    generalize hq : lnN S a st n i = q at h1 h2 h3 h4 h5 h6 h7
    by_cases c : i < n ∧ sbl S (a + i * st) = 0
    · rw [lnN_in c, hq]
      refine ⟨?_, ?_, fun j hj1 hj2 => ?_, h4, h5, h6, ?_⟩
      · show q.1 + 1 ≤ i + 1
        omega
      · show q.1 + 1 ≤ n
        omega
      · have hj1' : i + 1 - (q.1 + 1) ≤ j := hj1
        by_cases e : j = i
        · rw [e]; exact c
        · exact h3 j (by omega) (by omega)
      · show 3 * (sP q.2 - sP S) + (q.1 + 1) ≤ i + 1
        omega
    · rw [lnN_out c, hq]
      by_cases d : 2 ≤ q.1
      · rw [if_pos d]
        have hap : FOK (AP q.2 (a + (i - q.1) * st) q.1 st) := by
          refine h4.ap ⟨d, by omega⟩ hst (fun k hk => ?_)
          have hj := h3 (i - q.1 + k) (by omega) (by omega)
          have e : a + (i - q.1) * st + k * st = a + (i - q.1 + k) * st := by rw [Nat.add_mul, Nat.add_assoc]
          rw [e, h5.1, h5.2.1, h5.2.2.1]
          exact ⟨hsq _ hj.1, hj.2⟩
        refine ⟨Nat.zero_le _, Nat.zero_le _, fun j hj1 hj2 => ?_, hap, h5.tr Bs.ap, ?_, ?_⟩
        · have : i + 1 - 0 ≤ j := hj1
          omega
        · show sP S ≤ sP q.2 + 1
          omega
        · show 3 * (sP q.2 + 1 - sP S) + 0 ≤ i + 1
          omega
      · rw [if_neg d]
        refine ⟨Nat.zero_le _, Nat.zero_le _, fun j hj1 hj2 => ?_, h4, h5, h6, ?_⟩
        · have : i + 1 - 0 ≤ j := hj1
          omega
        · show 3 * (sP q.2 - sP S) + 0 ≤ i + 1
          omega
theorem CS.ap (hF : FOK S) (hC : CS S s mem) (hp : sP S < 8) (hl : 2 ≤ le ∧ le ≤ 4) {d : Int32} (hd : d = nI (if st = 1 then 0 else 1)) : ∃ m', f_X5_addPlace s (nI fi) (nI st) (nI le) d mem = some m' ∧ CS (AP S fi le st) s m' ∧ ∀ b, b ≠ s → b ≠ s + 2 → b ≠ s + 3 → b ≠ s + 4 → m' b = mem b := by
  unfold f_X5_addPlace
  rw [if_neg (show ¬ nI le < 2 from nI_nlt (b := 2) hl.1 (by omega)), hC.1.2.2.1, if_pos (show nI (sP S) < 8 from nI_lt (b := 8) hp (by decide))]
  obtain ⟨r, hr, r1, r2, r3⟩ := lp_invF (body := f_X5_addPlace_b18 s (nI fi) (nI st) (nI le) d) (fun k q => q.1 = nI k ∧ (∀ b, b ≠ s + 3 → q.2 b = mem b) ∧ (∀ j, j < sP S * 4 → q.2 (s + 3) j = mem (s + 3) j) ∧ ∀ j, j < k → q.2 (s + 3) (sP S * 4 + j) = nI (fi + j * st)) le (fun r => (∀ b, b ≠ s + 3 → r.2 b = mem b) ∧ (∀ j, j < sP S * 4 → r.2 (s + 3) j = mem (s + 3) j) ∧ ∀ j, j < le → r.2 (s + 3) (sP S * 4 + j) = nI (fi + j * st)) (by omega) (q := (0, mem)) ⟨rfl, fun _ _ => rfl, fun _ _ => rfl, fun j hj => absurd hj (Nat.not_lt_zero _)⟩ (fun k q hk hq => by
    left
    obtain ⟨q1, q2, q3, q4⟩ := hq
    unfold f_X5_addPlace_b18
    rw [q1, if_neg (nI_ge hk (by omega)), show q.2 s 3 = nI (sP S) by rw [q2 s (by omega)]; exact hC.1.2.2.1, wr_e (sP S * 4 + k) (by rw [i_lit 4, pk_mul, nI_add]) (by omega) (by decide), pk_mul, nI_add]
    simp only [lt', nI_1]
    refine ⟨_, rfl, rfl, fun b z => ?_, fun j hj => ?_, fun j hj => ?_⟩
    · show mset q.2 (s + 3) (sP S * 4 + k) (nI (fi + k * st)) b = _
      rw [mset_ne z, q2 b z]
    · show mset q.2 (s + 3) (sP S * 4 + k) (nI (fi + k * st)) (s + 3) j = _
      rw [mset_k (by omega), q3 j hj]
    · show mset q.2 (s + 3) (sP S * 4 + k) (nI (fi + k * st)) (s + 3) (sP S * 4 + j) = _
      rw [mset_at]
      by_cases e : j = k
      · rw [if_pos ⟨rfl, by rw [e]⟩, e]
      · rw [if_neg (fun z => e (by omega)), q4 j (by omega)]) (fun q hq => by
    obtain ⟨q1, q2, q3, q4⟩ := hq
    unfold f_X5_addPlace_b18
    rw [q1, if_pos (nI_le (Nat.le_refl _) (by omega))]
    exact ⟨_, rfl, q2, q3, q4⟩)
  rw [hr]
  simp only [ob]
  generalize hm0 : r.2 = m0 at r1 r2 r3
  have h3 : m0 s 3 = nI (sP S) := by rw [r1 s (by omega)]; exact hC.1.2.2.1
  have hnd : vp_nar .boolean d = d := by
    rw [hd]
    split
    · exact nar0
    · exact nar1
  rw [h3, wr_nI hp (by decide)]
  generalize hm1 : mset m0 (s + 2) (sP S) (nI le) = m1
  have g1 : ∀ b, b ≠ s + 2 → m1 b = m0 b := fun b z => by rw [← hm1, mset_ne z]
  rw [show m1 s 3 = nI (sP S) by rw [g1 s (by omega), h3], wr_nI hp (by decide), hnd]
  generalize hm2 : mset m1 (s + 4) (sP S) d = m2
  have g2 : ∀ b, b ≠ s + 4 → m2 b = m1 b := fun b z => by rw [← hm2, mset_ne z]
  rw [show m2 s 3 = nI (sP S) by rw [g2 s (by omega), g1 s (by omega), h3], nI_1]
  simp only [lt']
  have g3 : ∀ b, b ≠ s → mset m2 s 3 (nI (sP S + 1)) b = m2 b := fun b z => mset_ne z
  have g4 : ∀ b, b ≠ s → b ≠ s + 2 → b ≠ s + 3 → b ≠ s + 4 → mset m2 s 3 (nI (sP S + 1)) b = mem b := fun b z1 z2 z3 z4 => by rw [g3 b z1, g2 b z4, g1 b z2, r1 b z3]
  have hs2 : m2 s = mem s := by rw [g2 s (by omega), g1 s (by omega), r1 s (by omega)]
  refine ⟨_, rfl, ⟨⟨?_, ?_, mset_eq, ?_, ?_⟩, ?_, fun p hp2 => ?_, ?_, ?_, ?_, ?_⟩, g4⟩
  · rw [mset_k (by decide), hs2]; exact hC.1.1
  · rw [mset_k (by decide), hs2]; exact hC.1.2.1
  · rw [mset_k (by decide), hs2]; exact hC.1.2.2.2.1
  · rw [mset_k (by decide), hs2]; exact hC.1.2.2.2.2
  · rw [g4 _ (by omega) (by omega) (by omega) (by omega)]; exact hC.2.1
  · have hp' : p < sP S + 1 := hp2
    show mset m2 s 3 (nI (sP S + 1)) (s + 2) p = nI (if p = sP S then le else spl S p) ∧ mset m2 s 3 (nI (sP S + 1)) (s + 4) p = nI (if (if p = sP S then st else sst S p) = 1 then 0 else 1) ∧ ∀ k, k < (if p = sP S then le else spl S p) → mset m2 s 3 (nI (sP S + 1)) (s + 3) (p * 4 + k) = nI ((if p = sP S then fi else sfi S p) + k * (if p = sP S then st else sst S p))
    rw [g3 _ (by omega), g3 _ (by omega), g3 _ (by omega), g2 (s + 2) (by omega), g2 (s + 3) (by omega), g1 (s + 3) (by omega)]
    by_cases e : p = sP S
    · rw [if_pos e, if_pos e, if_pos e, e]
      exact ⟨by rw [← hm1, mset_eq], by rw [← hm2, mset_eq, hd], fun k hk => r3 k hk⟩
    · rw [if_neg e, if_neg e, if_neg e]
      have c := hC.2.2.1 p (by omega)
      have f := hF.2.2.2.2.2.1 p (by omega)
      refine ⟨?_, ?_, fun k hk => ?_⟩
      · rw [← hm1, mset_k e, r1 _ (by omega)]; exact c.1
      · rw [← hm2, mset_k e, g1 _ (by omega), r1 _ (by omega)]; exact c.2.1
      · rw [r2 _ (by omega)]; exact c.2.2 k hk
  · rw [g4 _ (by omega) (by omega) (by omega) (by omega), g4 _ (by omega) (by omega) (by omega) (by omega)]; exact hC.2.2.2.1
  · rw [g4 _ (by omega) (by omega) (by omega) (by omega)]; exact hC.2.2.2.2.1
  · rw [g4 _ (by omega) (by omega) (by omega) (by omega)]; exact hC.2.2.2.2.2.1
  · rw [g4 _ (by omega) (by omega) (by omega) (by omega)]; exact hC.2.2.2.2.2.2
theorem line_c (hF : FOK S) (hC : CS S s mem) (hn : n ≤ 4) (hst : 1 ≤ st) (hsq : ∀ j, j < n → a + j * st < sR S * sC S) (hp : sP S < 8) {d : Int32} (hd : d = nI (if st = 1 then 0 else 1)) : ∃ m', f_X5_findPlaces s (nI a) (nI st) (nI n) d mem = some m' ∧ CS (lnN S a st n (n + 1)).2 s m' ∧ ∀ b, b ≠ s → b ≠ s + 2 → b ≠ s + 3 → b ≠ s + 4 → m' b = mem b := by
  have hrc := hF.rc
  have hL := line_i hF hn hst hsq
  have j38 : ∀ i, i ≤ n → ¬ (i < n ∧ sbl S (a + i * st) = 0) → ∀ q3 : Mem, CS (lnN S a st n i).2 s q3 → ∃ m', f_X5_findPlaces_j38 s (nI a) (nI st) (nI n) d (nI (lnN S a st n i).1) (nI i) q3 = some (.inl (0, nI (i + 1), m')) ∧ CS (lnN S a st n (i + 1)).2 s m' ∧ ∀ b, b ≠ s → b ≠ s + 2 → b ≠ s + 3 → b ≠ s + 4 → m' b = q3 b := by
    intro i hi hc q3 hq
    obtain ⟨h1, h2, h3, h4, h5, h6, h7⟩ := hL i (by omega)
    unfold f_X5_findPlaces_j38
    rw [i_sub h1, pk_mul, nI_add, lnN_out hc]
    generalize lnN S a st n i = q at h1 h2 h3 h4 h5 h6 h7 hq
    by_cases c : 2 ≤ q.1
    · rw [if_pos c]
      obtain ⟨m1, q1, q2, q3⟩ := CS.ap (fi := a + (i - q.1) * st) h4 hq (show sP q.2 < 8 by omega) ⟨c, by omega⟩ hd
      rw [q1]
      simp only [ob, lt', nI_1]
      exact ⟨m1, rfl, q2, q3⟩
    · rw [if_neg c]
      unfold f_X5_addPlace
      rw [if_pos (show nI q.1 < 2 from nI_lt (b := 2) (by omega) (by decide))]
      simp only [ob, lt', nI_1]
      exact ⟨_, rfl, hq, fun _ _ _ _ _ => rfl⟩
  unfold f_X5_findPlaces
  obtain ⟨r, hr, r1, r2⟩ := lp_invF (body := f_X5_findPlaces_b6 s (nI a) (nI st) (nI n) d) (fun i q => q.1 = nI (lnN S a st n i).1 ∧ q.2.1 = nI i ∧ CS (lnN S a st n i).2 s q.2.2 ∧ ∀ b, b ≠ s → b ≠ s + 2 → b ≠ s + 3 → b ≠ s + 4 → q.2.2 b = mem b) (n + 1) (fun r => CS (lnN S a st n (n + 1)).2 s r.2.2 ∧ ∀ b, b ≠ s → b ≠ s + 2 → b ≠ s + 3 → b ≠ s + 4 → r.2.2 b = mem b) (by omega) (q := (0, 0, mem)) ⟨rfl, rfl, hC, fun _ _ _ _ _ => rfl⟩ (fun i q hi hq => by
    left
    obtain ⟨q1, q2, q3, q4⟩ := hq
    unfold f_X5_findPlaces_b6
    rw [q1, q2, if_neg (nI_nlt (by omega) (by omega))]
    by_cases e : i < n
    · have hb := hsq i e
      have h5 := (hL i (by omega)).2.2.2.2.1
      have hbl : sbl (lnN S a st n i).2 (a + i * st) = sbl S (a + i * st) := by rw [h5.2.2.1]
      have hle := hF.2.2.2.2.1 (a + i * st)
      rw [if_neg (nI_ge e (by omega)), rd_e (a + i * st) (by rw [pk_mul, nI_add]) (by omega) (by decide) (q3.2.1 (a + i * st) (by omega)), hbl]
      by_cases c : sbl S (a + i * st) = 0
      · rw [if_pos (by rw [c]; rfl)]
        simp only [lt', nI_1]
        refine ⟨_, rfl, ?_, rfl, ?_, q4⟩
        · rw [lnN_in ⟨e, c⟩]
        · rw [lnN_in ⟨e, c⟩]; exact q3
      · rw [if_neg (nI_ne0 (by omega) (by omega))]
        obtain ⟨m1, t1, t2, t3⟩ := j38 i (by omega) (fun z => c z.2) q.2.2 q3
        rw [t1]
        refine ⟨_, rfl, ?_, rfl, t2, fun b z1 z2 z3 z4 => ?_⟩
        · rw [lnN_out (fun z => c z.2)]; rfl
        · show m1 b = _
          rw [t3 b z1 z2 z3 z4, q4 b z1 z2 z3 z4]
    · rw [if_pos (nI_le (by omega) (by omega))]
      obtain ⟨m1, t1, t2, t3⟩ := j38 i (by omega) (fun z => e z.1) q.2.2 q3
      rw [t1]
      refine ⟨_, rfl, ?_, rfl, t2, fun b z1 z2 z3 z4 => ?_⟩
      · rw [lnN_out (fun z => e z.1)]; rfl
      · show m1 b = _
        rw [t3 b z1 z2 z3 z4, q4 b z1 z2 z3 z4]) (fun q hq => by
    obtain ⟨q1, q2, q3, q4⟩ := hq
    unfold f_X5_findPlaces_b6
    rw [q2, if_pos (nI_lt (by omega) (by omega))]
    exact ⟨_, rfl, q3, q4⟩)
  rw [hr]
  exact ⟨_, rfl, r1, r2⟩
end PLC
/-- rows, then columns -/
def rwN (S : Sh) : Nat → Sh
  | 0 => S
  | r + 1 => (lnN (rwN S r) (r * sC S) 1 (sC S) (sC S + 1)).2
def clN (S : Sh) : Nat → Sh
  | 0 => rwN S (sR S)
  | c + 1 => (lnN (clN S c) c (sC S) (sR S) (sR S + 1)).2
def fsN (S : Sh) : Sh := clN S (sC S)
def FP (S : Sh) (P : Pa) : Pa := ((fun x => if sbl S x = 1 then 0 else P.1 x), P.2)
section FIN
variable {S : Sh} {P : Pa} {s : Nat} {mem : Mem} {g : Bool}
theorem row_sq {R C r j : Nat} (hr : r < R) (hj : j < C) : r * C + j * 1 < R * C := by
  have h : (r + 1) * C ≤ R * C := Nat.mul_le_mul_right C hr
  rw [Nat.add_mul] at h
  omega
theorem col_sq {R C c j : Nat} (hc : c < C) (hj : j < R) : c + j * C < R * C := by
  have h : (j + 1) * C ≤ R * C := Nat.mul_le_mul_right C hj
  rw [Nat.add_mul] at h
  omega
theorem line_p (hF : FOK S) {a st n : Nat} (hn : n ≤ 4) (hst : 1 ≤ st) (hsq : ∀ j, j < n → a + j * st < sR S * sC S) : FOK (lnN S a st n (n + 1)).2 ∧ Bs S (lnN S a st n (n + 1)).2 ∧ sP (lnN S a st n (n + 1)).2 ≤ sP S + 1 := by
  obtain ⟨h1, h2, h3, h4, h5, h6, h7⟩ := line_i hF hn hst hsq (n + 1) (Nat.le_refl _)
  exact ⟨h4, h5, by omega⟩
theorem rw_ok (hF : FOK S) (h0 : sP S = 0) : ∀ r, r ≤ sR S → FOK (rwN S r) ∧ Bs S (rwN S r) ∧ sP (rwN S r) ≤ r := by
  intro r
  induction r with
  | zero => intro _; exact ⟨hF, Bs.rfl, by show sP S ≤ 0; omega⟩
  | succ r ih =>
    intro hr
    obtain ⟨h1, h2, h3⟩ := ih (by omega)
    have := line_p h1 (a := r * sC S) (st := 1) (n := sC S) hF.2.1.2 (Nat.le_refl _) (fun j hj => by rw [h2.1, h2.2.1]; exact row_sq (by omega) hj)
    exact ⟨this.1, h2.tr this.2.1, by show sP (lnN (rwN S r) (r * sC S) 1 (sC S) (sC S + 1)).2 ≤ r + 1; omega⟩
theorem cl_ok (hF : FOK S) (h0 : sP S = 0) : ∀ c, c ≤ sC S → FOK (clN S c) ∧ Bs S (clN S c) ∧ sP (clN S c) ≤ sR S + c := by
  intro c
  induction c with
  | zero => intro _; exact rw_ok hF h0 (sR S) (Nat.le_refl _)
  | succ c ih =>
    intro hc
    obtain ⟨h1, h2, h3⟩ := ih (by omega)
    have := line_p h1 (a := c) (st := sC S) (n := sR S) hF.1.2 (by have := hF.2.1.1; omega) (fun j hj => by rw [h2.1, h2.2.1]; exact col_sq (by omega) hj)
    exact ⟨this.1, h2.tr this.2.1, by show sP (lnN (clN S c) c (sC S) (sR S) (sR S + 1)).2 ≤ sR S + (c + 1); omega⟩
theorem fs_ok (hF : FOK S) (h0 : sP S = 0) : FOK (fsN S) ∧ Bs S (fsN S) ∧ sP (fsN S) ≤ 8 := by
  have h := cl_ok hF h0 (sC S) (Nat.le_refl _)
  have h1 := hF.1.2
  have h2 := hF.2.1.2
  exact ⟨h.1, h.2.1, Nat.le_trans h.2.2 (by omega)⟩
theorem finish_c (hO : DOK S P g) (hC : CR S P s mem) : ∃ m', f_X5_finish s mem = some m' ∧ CR (fsN S) (FP S P) s m' ∧ ∀ b, (b < s ∨ s + 13 < b) → m' b = mem b := by
  have hF := hO.fok
  have h0 := hO.2.2.1
  have hR4 := hF.1
  have hC4 := hF.2.1
  unfold f_X5_finish
  obtain ⟨r, hr, r1, r2⟩ := lp_invF (body := f_X5_finish_b2 s) (fun i q => q.1 = nI i ∧ (∀ b, b ≠ s + 10 + 1 → q.2 b = mem b) ∧ ∀ y, y < 16 → q.2 (s + 10 + 1) y = nI (if y < i ∧ sbl S y = 1 then 0 else P.1 y)) 16 (fun r => (∀ b, b ≠ s + 10 + 1 → r.2 b = mem b) ∧ ∀ y, y < 16 → r.2 (s + 10 + 1) y = nI (if y < 16 ∧ sbl S y = 1 then 0 else P.1 y)) (by decide) (q := (0, mem)) ⟨rfl, fun _ _ => rfl, fun y hy => by
      rw [if_neg (fun z => absurd z.1 (Nat.not_lt_zero _))]
      exact hC.2.1 y hy⟩ (fun i q hi hq => by
    left
    obtain ⟨q1, q2, q3⟩ := hq
    have hle := hF.2.2.2.2.1 i
    unfold f_X5_finish_b2
    rw [q1, if_neg (show ¬ (16 : Int32) ≤ nI i from nI_ge (b := 16) hi (by decide)), rd_e i rfl hi (by decide) (show q.2 (s + 1) i = nI (sbl S i) by rw [q2 _ (by omega)]; exact hC.1.2.1 i hi)]
    by_cases c : sbl S i = 0
    · rw [if_pos (by rw [c]; rfl)]
      simp only [lt', nI_1]
      refine ⟨_, rfl, rfl, q2, fun y hy => ?_⟩
      show q.2 (s + 10 + 1) y = _
      rw [q3 y hy]
      by_cases e : y = i
      · rw [e, if_neg (by omega), if_neg (by omega)]
      · by_cases e2 : y < i ∧ sbl S y = 1
        · rw [if_pos e2, if_pos ⟨by omega, e2.2⟩]
        · rw [if_neg e2, if_neg (fun z => e2 ⟨by omega, z.2⟩)]
    · rw [if_neg (nI_ne0 (by omega) (by omega)), wr_nI hi (by decide)]
      simp only [lt', nI_1]
      refine ⟨_, rfl, rfl, fun b z => ?_, fun y hy => ?_⟩
      · show mset q.2 (s + 10 + 1) i 0 b = _
        rw [mset_ne z, q2 b z]
      · show mset q.2 (s + 10 + 1) i 0 (s + 10 + 1) y = _
        rw [mset_at]
        by_cases e : y = i
        · rw [if_pos ⟨rfl, e⟩, e, if_pos ⟨by omega, by omega⟩]
          rfl
        · rw [if_neg (fun z => e z.2), q3 y hy]
          by_cases e2 : y < i ∧ sbl S y = 1
          · rw [if_pos e2, if_pos ⟨by omega, e2.2⟩]
          · rw [if_neg e2, if_neg (fun z => e2 ⟨by omega, z.2⟩)]) (fun q hq => by
    obtain ⟨q1, q2, q3⟩ := hq
    unfold f_X5_finish_b2
    rw [q1, if_pos (show (16 : Int32) ≤ nI 16 from nI_le (Nat.le_refl 16) (by decide))]
    exact ⟨_, rfl, q2, q3⟩)
  rw [hr]
  simp only [ob]
  have C1 : CS S s r.2 := hC.1.keep (fun b _ _ => r1 b (by omega))
  have P1 : CP (FP S P) (s + 10) r.2 := by
    refine ⟨fun y hy => ?_, ?_⟩
    · rw [r2 y hy]
      show _ = nI (if sbl S y = 1 then 0 else P.1 y)
      by_cases e : sbl S y = 1
      · rw [if_pos e, if_pos ⟨hy, e⟩]
      · rw [if_neg e, if_neg (fun z => e z.2)]
    · rw [r1 _ (by omega), r1 _ (by omega)]; exact hC.2.2
  obtain ⟨t, ht, t1, t2⟩ := lp_invF (body := f_X5_finish_b35 s) (fun i q => q.1 = nI i ∧ CS (rwN S i) s q.2 ∧ ∀ b, b ≠ s → b ≠ s + 2 → b ≠ s + 3 → b ≠ s + 4 → q.2 b = r.2 b) (sR S) (fun t => CS (rwN S (sR S)) s t.2 ∧ ∀ b, b ≠ s → b ≠ s + 2 → b ≠ s + 3 → b ≠ s + 4 → t.2 b = r.2 b) (by omega) (q := (0, r.2)) ⟨rfl, C1, fun _ _ _ _ _ => rfl⟩ (fun i q hi hq => by
    left
    obtain ⟨q1, q2, q3⟩ := hq
    obtain ⟨w1, w2, w3⟩ := rw_ok hF h0 i (by omega)
    unfold f_X5_finish_b35
    rw [q1, q2.1.1, w2.1, if_neg (nI_ge hi (by omega)), q2.1.2.1, w2.2.1, pk_mul]
    obtain ⟨m1, u1, u2, u3⟩ := line_c (a := i * sC S) (st := 1) (n := sC S) (d := 0) w1 q2 hC4.2 (Nat.le_refl _) (fun j hj => by rw [w2.1, w2.2.1]; exact row_sq hi hj) (by omega) rfl
    rw [show (1 : Int32) = nI 1 from rfl, u1]
    simp only [ob, lt']
    exact ⟨_, rfl, nI_1 i, u2, fun b z1 z2 z3 z4 => by rw [← q3 b z1 z2 z3 z4]; exact u3 b z1 z2 z3 z4⟩) (fun q hq => by
    obtain ⟨q1, q2, q3⟩ := hq
    obtain ⟨w1, w2, w3⟩ := rw_ok hF h0 (sR S) (Nat.le_refl _)
    unfold f_X5_finish_b35
    rw [q1, q2.1.1, w2.1, if_pos (nI_le (Nat.le_refl _) (by omega))]
    exact ⟨_, rfl, q2, q3⟩)
  rw [ht]
  simp only
  obtain ⟨v, hv, v1, v2⟩ := lp_invF (body := f_X5_finish_b67 s) (fun i q => q.1 = nI i ∧ CS (clN S i) s q.2 ∧ ∀ b, b ≠ s → b ≠ s + 2 → b ≠ s + 3 → b ≠ s + 4 → q.2 b = t.2 b) (sC S) (fun v => CS (clN S (sC S)) s v.2 ∧ ∀ b, b ≠ s → b ≠ s + 2 → b ≠ s + 3 → b ≠ s + 4 → v.2 b = t.2 b) (by omega) (q := (0, t.2)) ⟨rfl, t1, fun _ _ _ _ _ => rfl⟩ (fun i q hi hq => by
    left
    obtain ⟨q1, q2, q3⟩ := hq
    obtain ⟨w1, w2, w3⟩ := cl_ok hF h0 i (by omega)
    unfold f_X5_finish_b67
    rw [q1, q2.1.2.1, w2.2.1, if_neg (nI_ge hi (by omega)), q2.1.1, w2.1]
    obtain ⟨m1, u1, u2, u3⟩ := line_c (a := i) (st := sC S) (n := sR S) (d := 1) w1 q2 hR4.2 (by omega) (fun j hj => by rw [w2.1, w2.2.1]; exact col_sq hi hj) (by omega) (by rw [if_neg (by omega)]; rfl)
    rw [u1]
    simp only [ob, lt']
    exact ⟨_, rfl, nI_1 i, u2, fun b z1 z2 z3 z4 => by rw [← q3 b z1 z2 z3 z4]; exact u3 b z1 z2 z3 z4⟩) (fun q hq => by
    obtain ⟨q1, q2, q3⟩ := hq
    obtain ⟨w1, w2, w3⟩ := cl_ok hF h0 (sC S) (Nat.le_refl _)
    unfold f_X5_finish_b67
    rw [q1, q2.1.2.1, w2.2.1, if_pos (nI_le (Nat.le_refl _) (by omega))]
    exact ⟨_, rfl, q2, q3⟩)
  rw [hv]
  refine ⟨_, rfl, ⟨v1, P1.keep (fun b _ _ => ?_)⟩, fun b z => ?_⟩
  · rw [v2 b (by omega) (by omega) (by omega) (by omega), t2 b (by omega) (by omega) (by omega) (by omega)]
  · show v.2 b = _
    rw [v2 b (by omega) (by omega) (by omega) (by omega), t2 b (by omega) (by omega) (by omega) (by omega), r1 b (by omega)]
end FIN
