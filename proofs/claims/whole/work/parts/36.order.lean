/-! doing things in the order of their keys: by looking for the next one, or by going through all keys -/
section ORD
variable {σ : Type} (tr : σ → Nat → σ)
/-- all keys below n in turn, those that are meant -/
def scan (f : Nat → Bool) (q : σ) : Nat → σ
  | 0 => q
  | n + 1 => if f n then tr (scan f q n) n else scan f q n
theorem scan_congr {f g : Nat → Bool} {q : σ} {n : Nat} (h : ∀ t, t < n → f t = g t) : scan tr f q n = scan tr g q n := by
  induction n with
  | zero => rfl
  | succ n ih => rw [scan, scan, ih (fun t ht => h t (by omega)), h n (by omega)]
theorem scan_none {f : Nat → Bool} {q : σ} {n : Nat} (h : ∀ t, t < n → f t = false) : scan tr f q n = q := by
  induction n with
  | zero => rfl
  | succ n ih => rw [scan, ih (fun t ht => h t (by omega)), h n (by omega)]; rfl
/-- the first key is done ahead -/
theorem scan_first {f g : Nat → Bool} {q : σ} {k T : Nat} (hid : ∀ q, tr (tr q k) k = tr q k) (hk : k < T) (hf : f k = true) (h1 : ∀ t, t < k → f t = false) (h2 : ∀ t, t < T → t ≠ k → g t = f t) : scan tr f q T = scan tr g (tr q k) T := by
  have key : ∀ n, k < n → n ≤ T → scan tr f q n = scan tr g (tr q k) n := by
    intro n
    induction n with
    | zero => intro h; exact absurd h (Nat.not_lt_zero _)
    | succ n ih =>
      intro hn hT
      by_cases hkn : k = n
      · subst hkn
        rw [scan, scan, hf, scan_none tr h1, scan_none tr (fun t ht => by rw [h2 t (by omega) (by omega)]; exact h1 t ht)]
        cases g k with
        | true => rw [if_pos rfl, if_pos rfl, hid]
        | false => rfl
      · rw [scan, scan, ih (by omega) (by omega), h2 n (by omega) (fun z => hkn z.symm)]
  exact key T hk (Nat.le_refl _)
/-- one of n has the key t -/
def anyK (W : Nat → Bool) (K : Nat → Nat) (n : Nat) (t : Nat) : Bool := !allB (fun i => !(W i && K i == t)) n
theorem anyK_iff {W : Nat → Bool} {K : Nat → Nat} {n t : Nat} : anyK W K n t = true ↔ ∃ i, i < n ∧ W i = true ∧ K i = t := by
  unfold anyK
  constructor
  · intro h
    rw [Bool.not_eq_true'] at h
    have h2 : ¬ ∀ i, i < n → (!(W i && K i == t)) = true := fun z => by rw [allB_iff.mpr z] at h; cases h
    have h3 : ∃ i, ¬ (i < n → (!(W i && K i == t)) = true) := by
      apply Classical.byContradiction
      intro z
      exact h2 (fun i hi => Classical.byContradiction fun y => z ⟨i, fun x => y (x hi)⟩)
    obtain ⟨i, hi⟩ := h3
    have h4 : i < n := Classical.byContradiction fun y => hi (fun x => absurd x y)
    have h5 : ¬ (!(W i && K i == t)) = true := fun y => hi (fun _ => y)
    simp at h5
    exact ⟨i, h4, h5.1, h5.2⟩
  · rintro ⟨i, h1, h2, h3⟩
    rw [Bool.not_eq_true']
    cases hc : allB (fun i => !(W i && K i == t)) n with
    | false => rfl
    | true =>
      have := allB_iff.mp hc i h1
      simp [h2, h3] at this
/-- the waiting one with the lowest key, the first of such: the loop's own way -/
def pick (W : Nat → Bool) (K : Nat → Nat) : Nat → Option Nat
  | 0 => none
  | n + 1 => if W n then (match pick W K n with
    | none => some n
    | some m => if K n < K m then some n else some m) else pick W K n
theorem pick_none {W : Nat → Bool} {K : Nat → Nat} : ∀ n, pick W K n = none → ∀ i, i < n → W i = false := by
  intro n
  induction n with
  | zero => intro _ i h; exact absurd h (Nat.not_lt_zero _)
  | succ n ih =>
    intro h i hi
    unfold pick at h
    cases hw : W n with
    | true =>
      rw [hw, if_pos rfl] at h
      cases hp : pick W K n with
      | none => rw [hp] at h; cases h
      | some m =>
        rw [hp] at h
        simp only at h
        split at h <;> cases h
    | false =>
      rw [hw] at h
      have h : pick W K n = none := by simpa using h
      rcases Nat.lt_or_ge i n with q | q
      · exact ih h i q
      · have : i = n := by omega
        subst this
        exact hw
theorem pick_some {W : Nat → Bool} {K : Nat → Nat} : ∀ n m, pick W K n = some m → m < n ∧ W m = true ∧ ∀ i, i < n → W i = true → K m ≤ K i := by
  intro n
  induction n with
  | zero => intro m h; cases h
  | succ n ih =>
    intro m h
    unfold pick at h
    cases hw : W n with
    | true =>
      rw [hw, if_pos rfl] at h
      cases hp : pick W K n with
      | none =>
        rw [hp] at h
        cases h
        refine ⟨by omega, hw, fun i hi hi2 => ?_⟩
        rcases Nat.lt_or_ge i n with q | q
        · rw [pick_none n hp i q] at hi2; cases hi2
        · have : i = n := by omega
          subst this
          exact Nat.le_refl _
      | some m0 =>
        rw [hp] at h
        simp only at h
        obtain ⟨g1, g2, g3⟩ := ih m0 hp
        by_cases hc : K n < K m0
        · rw [if_pos hc] at h
          cases h
          refine ⟨by omega, hw, fun i hi hi2 => ?_⟩
          rcases Nat.lt_or_ge i n with q | q
          · have := g3 i q hi2
            omega
          · have : i = n := by omega
            subst this
            exact Nat.le_refl _
        · rw [if_neg hc] at h
          cases h
          refine ⟨by omega, g2, fun i hi hi2 => ?_⟩
          rcases Nat.lt_or_ge i n with q | q
          · exact g3 i q hi2
          · have : i = n := by omega
            subst this
            omega
    | false =>
      rw [hw] at h
      have h : pick W K n = some m := by simpa using h
      obtain ⟨g1, g2, g3⟩ := ih m h
      refine ⟨by omega, g2, fun i hi hi2 => ?_⟩
      rcases Nat.lt_or_ge i n with q | q
      · exact g3 i q hi2
      · have : i = n := by omega
        subst this
        rw [hw] at hi2
        cases hi2
/-- so many turns, each the next one -/
def turns (K : Nat → Nat) (n : Nat) : Nat → (Nat → Bool) → σ → (Nat → Bool) × σ
  | 0, W, q => (W, q)
  | j + 1, W, q => match pick W K n with
    | none => turns K n j W q
    | some m => turns K n j (fun i => if i = m then false else W i) (tr q (K m))
theorem cnt_drop {W : Nat → Bool} {m : Nat} : ∀ n, m < n → W m = true → cnt (fun i => if i = m then false else W i) n + 1 = cnt W n := by
  intro n
  induction n with
  | zero => intro h; exact absurd h (Nat.not_lt_zero _)
  | succ n ih =>
    intro h hm
    rw [cnt, cnt]
    by_cases he : n = m
    · subst he
      rw [cnt_congr (f := fun i => if i = n then false else W i) (g := W) (fun i hi => by rw [if_neg (by omega)])]
      simp [hm]
    · have := ih (by omega) hm
      rw [if_neg he]
      omega
theorem turns_scan {K : Nat → Nat} {n T : Nat} : ∀ j W q, cnt W n ≤ j → (∀ i, i < n → W i = true → K i < T ∧ ∀ q, tr (tr q (K i)) (K i) = tr q (K i)) → (turns tr K n j W q).2 = scan tr (anyK W K n) q T := by
  intro j
  induction j with
  | zero =>
    intro W q hc hT
    have hn := cnt_pos.mp (show cnt W n = 0 by omega)
    refine (scan_none tr (fun t _ => ?_)).symm
    cases ha : anyK W K n t with
    | false => rfl
    | true =>
      obtain ⟨i, h1, h2, -⟩ := anyK_iff.mp ha
      rw [hn i h1] at h2
      cases h2
  | succ j ih =>
    intro W q hc hT
    unfold turns
    cases hp : pick W K n with
    | none =>
      have hn := pick_none n hp
      have h0 : cnt W n = 0 := cnt_pos.mpr hn
      exact ih W q (by omega) hT
    | some m =>
      obtain ⟨g1, g2, g3⟩ := pick_some n m hp
      simp only
      have hd := cnt_drop n g1 g2
      rw [ih _ _ (by omega) (fun i hi hw => by
        by_cases he : i = m
        · rw [if_pos he] at hw; cases hw
        · rw [if_neg he] at hw; exact hT i hi hw)]
      refine (scan_first tr (hT m g1 g2).2 (hT m g1 g2).1 (anyK_iff.mpr ⟨m, g1, g2, rfl⟩) (fun t ht => ?_) (fun t ht hne => ?_)).symm
      · cases ha : anyK W K n t with
        | false => rfl
        | true =>
          obtain ⟨i, h1, h2, h3⟩ := anyK_iff.mp ha
          have := g3 i h1 h2
          omega
      · rw [Bool.eq_iff_iff, anyK_iff, anyK_iff]
        constructor
        · rintro ⟨i, h1, h2, h3⟩
          by_cases he : i = m
          · rw [if_pos he] at h2; cases h2
          · rw [if_neg he] at h2; exact ⟨i, h1, h2, h3⟩
        · rintro ⟨i, h1, h2, h3⟩
          refine ⟨i, h1, ?_, h3⟩
          rw [if_neg (fun he => hne (by rw [← h3, he])), h2]
end ORD
