/-- the first below n, or n -/
def fstB (f : Nat → Bool) : Nat → Nat
  | 0 => 0
  | n + 1 => if fstB f n < n then fstB f n else if f n then n else n + 1
theorem fstB_spec (f : Nat → Bool) (n : Nat) : fstB f n ≤ n ∧ (∀ j, j < fstB f n → f j = false) ∧ (fstB f n < n → f (fstB f n) = true) := by
  induction n with
  | zero => exact ⟨Nat.le_refl _, fun j h => absurd h (Nat.not_lt_zero _), fun h => absurd h (Nat.lt_irrefl _)⟩
  | succ n ih =>
    obtain ⟨h1, h2, h3⟩ := ih
    unfold fstB
    by_cases hc : fstB f n < n
    · rw [if_pos hc]
      exact ⟨by omega, h2, fun _ => h3 hc⟩
    · rw [if_neg hc]
      have he : fstB f n = n := by omega
      by_cases hf : f n = true
      · rw [if_pos hf]
        exact ⟨by omega, fun j hj => h2 j (by omega), fun _ => hf⟩
      · rw [if_neg hf]
        refine ⟨by omega, fun j hj => ?_, fun h => absurd h (by omega)⟩
        rcases Nat.lt_or_ge j n with q | q
        · exact h2 j (by omega)
        · have : j = n := by omega
          subst this
          simpa using hf
theorem fstB_le {f : Nat → Bool} {n i : Nat} (hi : i < n) (hf : f i = true) : fstB f n ≤ i := by
  obtain ⟨h1, h2, h3⟩ := fstB_spec f n
  rcases Nat.lt_or_ge i (fstB f n) with q | q
  · rw [h2 i q] at hf; cases hf
  · exact q
theorem fstB_is {f : Nat → Bool} {n i : Nat} (hi : i < n) (hf : f i = true) (hn : ∀ j, j < i → f j = false) : fstB f n = i := by
  have h1 := fstB_le hi hf
  obtain ⟨g1, g2, g3⟩ := fstB_spec f n
  rcases Nat.lt_or_ge (fstB f n) i with q | q
  · have h4 := g3 (by omega)
    rw [hn _ q] at h4
    cases h4
  · omega
def lowP (S : Sh) (L : Nat → Nat) : Nat := fstB (fun p => !fullB S L p) (sP S)
def sendB (S : Sh) (P : Pa) (i : Nat) : Bool := decide (P.2.1 i < sP S) && fitB S P.1 (P.2.1 i) (P.2.2 i) && (skd S i != 3 || P.2.1 i == lowP S P.1)
def vowN (S : Sh) (w : Nat) : Nat := cnt (fun k => swd S w k == 1 || swd S w k == 5) (swl S w)
/-- writing along a place -/
def wrN (L : Nat → Nat) (sq v : Nat → Nat) : Nat → Nat → Nat
  | 0 => L
  | i + 1 => fun x => if x = sq i then v i else wrN L sq v i x
def wrK (mem : Mem) (a : Nat) (sq : Nat → Nat) (v : Nat → Nat) : Nat → Mem
  | 0 => mem
  | i + 1 => mset (wrK mem a sq v i) a (sq i) (nI (v i))
theorem wrK_ne {mem : Mem} {a a' : Nat} {sq v : Nat → Nat} (h : a' ≠ a) : ∀ i, wrK mem a sq v i a' = mem a' := by
  intro i
  induction i with
  | zero => rfl
  | succ i ih => unfold wrK; rw [mset_ne h, ih]
theorem wrK_at {mem : Mem} {a : Nat} {sq v L : Nat → Nat} {x : Nat} (h : mem a x = nI (L x)) : ∀ i, wrK mem a sq v i a x = nI (wrN L sq v i x) := by
  intro i
  induction i with
  | zero => exact h
  | succ i ih =>
    unfold wrK wrN
    rw [mset_at]
    by_cases hx : x = sq i
    · simp [hx]
    · simp [hx, ih]
theorem wrK_out {mem : Mem} {a : Nat} {sq v : Nat → Nat} {x : Nat} : ∀ i, (∀ k, k < i → sq k ≠ x) → wrK mem a sq v i a x = mem a x := by
  intro i
  induction i with
  | zero => intro _; rfl
  | succ i ih =>
    intro h
    unfold wrK
    rw [mset_at, if_neg (by intro z; exact h i (by omega) z.2.symm), ih (fun k hk => h k (by omega))]
theorem wrN_out {L sq v : Nat → Nat} {x : Nat} : ∀ i, (∀ k, k < i → sq k ≠ x) → wrN L sq v i x = L x := by
  intro i
  induction i with
  | zero => intro _; rfl
  | succ i ih =>
    intro h
    unfold wrN
    rw [if_neg (fun z => h i (by omega) z.symm), ih (fun k hk => h k (by omega))]
theorem wrN_in {L sq v : Nat → Nat} {k : Nat} : ∀ i, (∀ a b, a < i → b < i → sq a = sq b → a = b) → k < i → wrN L sq v i (sq k) = v k := by
  intro i
  induction i with
  | zero => intro _ h; exact absurd h (Nat.not_lt_zero _)
  | succ i ih =>
    intro hinj hk
    unfold wrN
    by_cases hx : k = i
    · subst hx; simp
    · rw [if_neg (fun z => hx (hinj k i (by omega) (by omega) z)), ih (fun a b ha hb => hinj a b (by omega) (by omega)) (by omega)]
theorem cd_dig {a b c d k : Nat} (ha : a < 8) (hb : b < 8) (hc : c < 8) (hd : d < 8) (hk : k < 4) (v : Nat → Nat) (h0 : v 0 = a) (h1 : v 1 = b) (h2 : v 2 = c) (h3 : v 3 = d) : (a + 8 * b + 64 * c + 512 * d) / 2 ^ (3 * k) % 8 = v k := by
  rcases (show k = 0 ∨ k = 1 ∨ k = 2 ∨ k = 3 by omega) with rfl | rfl | rfl | rfl
  · rw [h0]; omega
  · rw [h1]; omega
  · rw [h2]; omega
  · rw [h3]; omega
theorem scd_dig {S : Sh} (hO : SOK S) {w k : Nat} (hw : w < sW S) (hk : k < 4) : scd S w / 2 ^ (3 * k) % 8 = swd S w k := by
  have h := hO.wd6 hw
  have h0 := h 0
  have h1 := h 1
  have h2 := h 2
  have h3 := h 3
  exact cd_dig (by omega) (by omega) (by omega) (by omega) hk (swd S w) rfl rfl rfl rfl
theorem scd_lt {S : Sh} (hO : SOK S) {w : Nat} (hw : w < sW S) : scd S w < 4096 := by
  have h := hO.wd6 hw
  have h0 := h 0
  have h1 := h 1
  have h2 := h 2
  have h3 := h 3
  unfold scd
  omega
theorem letterOf_e {c k : Nat} (hc : c < 2 ^ 31) (hk : k < 10) : f_X5_letterOf (nI c) (nI k) = some (nI (c / 2 ^ (3 * k) % 8)) := by
  unfold f_X5_letterOf
  simp only [lt']
  rw [i_lit 3, pk_mul, i_shr hc (by omega), i_lit 7, i_and, show (7 : Nat) = 2 ^ 3 - 1 from rfl, Nat.and_two_pow_sub_one_eq_mod]
section RDS2
variable {S : Sh} {s t : Nat} {mem : Mem} {L : Nat → Nat} {p w : Nat}
def agB (S : Sh) (L : Nat → Nat) (p n w : Nat) : Bool := (swl S w == spl S p) && allB (fun k => L (ssq S p k) == 0 || (decide (k < swl S w) && swd S w k == L (ssq S p k))) n
theorem agB_like (S : Sh) (L : Nat → Nat) (p w : Nat) : agB S L p (spl S p) w = likeB S L p w := by
  unfold agB likeB
  by_cases h : swl S w = spl S p
  · rw [allB_congr (g := fun k => L (ssq S p k) == 0 || L (ssq S p k) == swd S w k)]
    intro k hk
    have : k < swl S w := by omega
    simp only [this, decide_true, Bool.true_and]
    rw [Bool.beq_comm (a := swd S w k)]
  · have : (swl S w == spl S p) = false := by simpa using h
    rw [this]
    rfl
theorem agreeing_e (hO : SOK S) (hC : CS S s mem) (hL : ∀ x, x < 16 → mem (t + 1) x = nI (L x)) (hL6 : ∀ x, x < 16 → L x ≤ 6) (hp : p < sP S) : f_X5_agreeing s t (nI p) mem = some (nI (bm (fun w => likeB S L p w) (sW S))) := by
  have hp8 := hO.p8
  have hw9 := hO.w9
  have hpl := hO.pl hp
  obtain ⟨c1, c2, c3⟩ := hC.2.2.1 p hp
  have c5 := hC.2.2.2.2.1
  have c6 := hC.2.2.2.2.2.1
  unfold f_X5_agreeing
  rw [rd_e p rfl (by omega) (by decide) c1, rd_e (spl S p) rfl (by omega) (by decide) (c5 _ (by omega))]
  have e0 : (nI (bm (fun w => swl S w == spl S p) (sW S)), (0 : Int32)) = (fun i => (nI (bm (agB S L p i) (sW S)), nI i)) 0 := by
    show _ = (nI (bm (agB S L p 0) (sW S)), nI 0)
    rw [bm_congr (f := agB S L p 0) (g := fun w => swl S w == spl S p) (fun i _ => by simp [agB, allB]), nI_0]
  rw [e0, lp_FU (fun i => (nI (bm (agB S L p i) (sW S)), nI i)) (spl S p) (r := (nI (bm (agB S L p (spl S p)) (sW S)), nI (spl S p))) (by omega)]
  · show some (nI (bm (agB S L p (spl S p)) (sW S))) = _
    rw [bm_congr (fun w _ => agB_like S L p w)]
  · intro k hk
    have hsq := hO.sq hp hk
    have h6 := hL6 _ hsq
    unfold f_X5_agreeing_b18
    rw [if_neg (nI_ge hk (by omega)), rd_e (p * 4 + k) (by rw [i_lit 4, pk_mul, nI_add]) (by omega) (by decide) (c3 k hk), rd_e (ssq S p k) rfl hsq (by decide) (hL _ hsq)]
    by_cases h0 : L (ssq S p k) = 0
    · rw [h0, if_pos nI_0]
      simp only [lt', nI_1]
      rw [bm_congr (f := agB S L p (k + 1)) (g := agB S L p k)]
      intro w _
      unfold agB
      rw [allB, h0]
      simp
    · rw [if_neg (nI_ne0 (by omega) (by omega)), rd_e (k * 7 + L (ssq S p k)) (by rw [i_lit 7, pk_mul, nI_add]) (by omega) (by decide) (c6 k _ (by omega) (by omega))]
      simp only [lt', nI_1]
      rw [i_and, bm_and, bm_congr (f := agB S L p (k + 1)) (g := fun w => agB S L p k w && (decide (k < swl S w) && swd S w k == L (ssq S p k)))]
      intro w _
      unfold agB
      rw [allB]
      have : (L (ssq S p k) == 0) = false := by simpa using h0
      rw [this, Bool.false_or, Bool.and_assoc]
  · unfold f_X5_agreeing_b18
    rw [if_pos (nI_le (Nat.le_refl _) (by omega))]
theorem bmW {S : Sh} (hO : SOK S) (f : Nat → Bool) : bm f (sW S) < 2 ^ 31 := Nat.lt_of_lt_of_le (bm_lt f _) (Nat.pow_le_pow_right (by decide) (by have := hO.w9; omega))
theorem fits_e (hO : SOK S) (hC : CS S s mem) (hL : ∀ x, x < 16 → mem (t + 1) x = nI (L x)) (hL6 : ∀ x, x < 16 → L x ≤ 6) (hp : p < 8) (hw : w < sW S) : f_X5_fits s t (nI p) (nI w) mem = some (b2i (decide (p < sP S) && fitB S L p w)) := by
  have hw9 := hO.w9
  have hp8 := hO.p8
  unfold f_X5_fits
  rw [hC.1.2.2.1]
  by_cases hpp : p < sP S
  · rw [if_neg (nI_ge hpp (by omega)), isFilled_e hO hC hL hL6 hpp]
    simp only [ob]
    unfold fitB
    cases hf : fullB S L p with
    | true => simp [b2i]
    | false =>
      rw [if_pos (by rfl), agreeing_e hO hC hL hL6 hpp]
      simp only
      rw [i_bit (by omega) (by omega)]
      by_cases hl : likeB S L p w = true
      · rw [show (if w < sW S ∧ likeB S L p w = true then 1 else 0) = 1 from if_pos ⟨hw, hl⟩, if_neg (show ¬ nI 1 = 0 by decide), hl, decide_eq_true hpp]
        rfl
      · rw [show (if w < sW S ∧ likeB S L p w = true then 1 else 0) = 0 from if_neg (fun z => hl z.2), if_pos nI_0]
        have : likeB S L p w = false := by simpa using hl
        rw [this, decide_eq_true hpp]
        rfl
  · rw [if_pos (nI_le (by omega) (by omega)), decide_eq_false hpp]
    rfl
theorem fitting_e (hO : SOK S) (hC : CS S s mem) (hL : ∀ x, x < 16 → mem (t + 1) x = nI (L x)) (hL6 : ∀ x, x < 16 → L x ≤ 6) (hp : p < sP S) : f_X5_fitting s t (nI p) mem = some (nI (bm (fun w => fitB S L p w) (sW S))) := by
  unfold f_X5_fitting
  rw [isFilled_e hO hC hL hL6 hp]
  simp only [ob]
  cases hf : fullB S L p with
  | true =>
    rw [if_neg (by decide), bm_zero.mpr (fun w _ => by simp [fitB, hf])]
    rfl
  | false =>
    rw [if_pos (by rfl), agreeing_e hO hC hL hL6 hp]
    simp only
    rw [bm_congr (f := fun w => fitB S L p w) (g := fun w => likeB S L p w) (fun w _ => by simp [fitB, hf])]
theorem lowestOpen_e (hO : SOK S) (hC : CS S s mem) (hL : ∀ x, x < 16 → mem (t + 1) x = nI (L x)) (hL6 : ∀ x, x < 16 → L x ≤ 6) : f_X5_lowestOpen s t mem = some (if lowP S L < sP S then nI (lowP S L) else -4) := by
  have hp8 := hO.p8
  obtain ⟨h1, h2, h3⟩ := fstB_spec (fun p => !fullB S L p) (sP S)
  have h1 : lowP S L ≤ sP S := h1
  have h2 : ∀ j, j < lowP S L → (!fullB S L j) = false := h2
  have h3 : lowP S L < sP S → (!fullB S L (lowP S L)) = true := h3
  unfold f_X5_lowestOpen
  have step : ∀ i, i < lowP S L → f_X5_lowestOpen_b2 s t mem (nI i) = some (.inl (nI (i + 1))) := by
    intro i hi
    unfold f_X5_lowestOpen_b2
    rw [hC.1.2.2.1, if_neg (nI_ge (by omega) (by omega)), isFilled_e hO hC hL hL6 (by omega)]
    have hf : fullB S L i = true := by simpa using h2 i hi
    rw [hf]
    simp only [ob, lt', nI_1]
    rw [if_neg (by decide)]
  by_cases hm : lowP S L < sP S
  · rw [if_pos hm]
    have e : lp (f_X5_lowestOpen_b2 s t mem) FU 0 = some (.inr (nI (lowP S L))) := by
      refine lp_FU (fun i => nI i) (lowP S L) (by omega) step ?_
      unfold f_X5_lowestOpen_b2
      rw [hC.1.2.2.1, if_neg (nI_ge hm (by omega)), isFilled_e hO hC hL hL6 hm]
      have hf : fullB S L (lowP S L) = false := by simpa using h3 hm
      rw [hf]
      simp only [ob]
      rw [if_pos (by rfl)]
    rw [e]
    rfl
  · rw [if_neg hm]
    have e : lp (f_X5_lowestOpen_b2 s t mem) FU 0 = some (.inl (nI (lowP S L))) := by
      refine lp_FU (fun i => nI i) (lowP S L) (by omega) step ?_
      unfold f_X5_lowestOpen_b2
      rw [hC.1.2.2.1, if_pos (nI_le (by omega) (by omega))]
    rw [e]
    rfl
theorem fit_open {S : Sh} {L : Nat → Nat} {p w : Nat} (hp : p < sP S) (h : fitB S L p w = true) : lowP S L ≤ p := by
  unfold fitB at h
  rw [Bool.and_eq_true] at h
  exact fstB_le hp h.2
theorem sends_e {P : Pa} (hO : SOK S) (hC : CS S s mem) (hP : POK S P) (hT : CP P t mem) {i : Nat} (hi : i < sN S) : f_X5_sends s t (nI i) mem = some (b2i (sendB S P i)) := by
  have hn := hO.n6
  have hp8 := hO.p8
  obtain ⟨b1, b2⟩ := hP.2.2 i (by omega)
  obtain ⟨t1, t2⟩ := hT.2 i (by omega)
  have hk := hO.2.2.2.2.2.2.2.2 i hi
  unfold f_X5_sends
  rw [rd_e i rfl (by omega) (by decide) t1, rd_e i rfl (by omega) (by decide) t2, fits_e hO hC hT.1 hP.1 b1 b2]
  simp only [ob]
  unfold sendB
  cases hf : (decide (P.2.1 i < sP S) && fitB S P.1 (P.2.1 i) (P.2.2 i)) with
  | false => simp [b2i]
  | true =>
    rw [if_neg (by decide), rd_e i rfl (by omega) (by decide) (hC.2.2.2.2.2.2 i hi)]
    rw [Bool.and_eq_true, decide_eq_true_iff] at hf
    have hlow := fit_open hf.1 hf.2
    by_cases h3 : skd S i = 3
    · rw [h3, if_pos (show nI 3 = 3 from rfl), lowestOpen_e hO hC hT.1 hP.1, if_pos (by omega)]
      simp only
      by_cases he : P.2.1 i = lowP S P.1
      · rw [if_pos (by rw [he])]
        simp [he, b2i]
      · rw [if_neg (fun z => he ((nI_eq (by omega) (by omega)).mp z))]
        simp [he, b2i]
    · rw [if_neg (show ¬ nI (skd S i) = 3 from fun z => h3 ((nI_eq (by omega) (by decide)).mp z))]
      simp [h3, b2i]
theorem vowelsIn_e (hO : SOK S) (hC : CS S s mem) (hw : w < sW S) : f_X5_vowelsIn s (nI w) mem = some (nI (vowN S w)) := by
  have hw9 := hO.w9
  have hwl := hO.wl hw
  obtain ⟨c1, c2⟩ := hC.2.2.2.1 w hw
  have hlt := scd_lt hO hw
  unfold f_X5_vowelsIn
  rw [show ((0 : Int32), (0 : Int32)) = (fun i => (nI (cnt (fun k => swd S w k == 1 || swd S w k == 5) i), nI i)) 0 from rfl, lp_FU (fun i => (nI (cnt (fun k => swd S w k == 1 || swd S w k == 5) i), nI i)) (swl S w) (r := (nI (vowN S w), nI (swl S w))) (by omega)]
  · rfl
  · intro k hk
    have h6 := hO.wd6 hw k
    unfold f_X5_vowelsIn_b4
    rw [rd_e w rfl (by omega) (by decide) c1, if_neg (nI_ge hk (by omega)), rd_e w rfl (by omega) (by decide) c2, letterOf_e (by omega) (by omega), scd_dig hO hw (by omega)]
    simp only [ob, lt', nI_1, cnt]
    by_cases h1 : swd S w k = 1
    · rw [if_pos (by rw [h1]; rfl), if_pos (by simp [h1])]
    · rw [if_neg (show ¬ nI (swd S w k) = 1 from fun z => h1 ((nI_eq (by omega) (by decide)).mp z))]
      by_cases h5 : swd S w k = 5
      · rw [if_pos (by rw [h5]; rfl), if_pos (by simp [h5])]
      · rw [if_neg (show ¬ nI (swd S w k) = 5 from fun z => h5 ((nI_eq (by omega) (by decide)).mp z)), if_neg (by simp [h1, h5])]
        rfl
  · unfold f_X5_vowelsIn_b4 vowN
    rw [rd_e w rfl (by omega) (by decide) c1, if_pos (nI_le (Nat.le_refl _) (by omega))]
/-- the letters of a code are written along a place -/
theorem put_e (hO : SOK S) (hC : CS S s mem) (hne : s + 2 ≠ t + 1 ∧ s + 3 ≠ t + 1) {c : Nat} (hc : c < 2 ^ 31) {v : Nat → Nat} (hv : ∀ k, k < 4 → c / 2 ^ (3 * k) % 8 = v k) (hp : p < sP S) : f_X5_put s t (nI p) (nI c) mem = some (wrK mem (t + 1) (ssq S p) v (spl S p)) := by
  have hp8 := hO.p8
  have hpl := hO.pl hp
  obtain ⟨c1, c2, c3⟩ := hC.2.2.1 p hp
  unfold f_X5_put
  have e0 : ((0 : Int32), mem) = (fun i => (nI i, wrK mem (t + 1) (ssq S p) v i)) 0 := rfl
  rw [e0, lp_FU (fun i => (nI i, wrK mem (t + 1) (ssq S p) v i)) (spl S p) (r := (nI (spl S p), wrK mem (t + 1) (ssq S p) v (spl S p))) (by omega)]
  · rfl
  · intro k hk
    have hsq := hO.sq hp hk
    unfold f_X5_put_b3
    simp only
    rw [wrK_ne hne.1, wrK_ne hne.2, rd_e p rfl (by omega) (by decide) c1, if_neg (nI_ge hk (by omega)), rd_e (p * 4 + k) (by rw [i_lit 4, pk_mul, nI_add]) (by omega) (by decide) (c3 k hk), letterOf_e hc (by omega), hv k (by omega)]
    simp only [ob]
    rw [wr_nI hsq (by decide)]
    simp only [lt', nI_1]
    rfl
  · unfold f_X5_put_b3
    simp only
    rw [wrK_ne hne.1, rd_e p rfl (by omega) (by decide) c1, if_pos (nI_le (Nat.le_refl _) (by omega))]
end RDS2
