/-! stage 2: plain facts on numbers, loops and memory -/
theorem i_lit (n : Nat) : (OfNat.ofNat n : Int32) = nI n := rfl
theorem i_and (a b : Nat) : nI a &&& nI b = nI (a &&& b) := by
  apply Int32.toBitVec_inj.1
  show BitVec.ofNat 32 a &&& BitVec.ofNat 32 b = BitVec.ofNat 32 (a &&& b)
  apply BitVec.eq_of_getLsbD_eq
  intro i hi
  simp [hi]
theorem i_or (a b : Nat) : nI a ||| nI b = nI (a ||| b) := by
  apply Int32.toBitVec_inj.1
  show BitVec.ofNat 32 a ||| BitVec.ofNat 32 b = BitVec.ofNat 32 (a ||| b)
  apply BitVec.eq_of_getLsbD_eq
  intro i hi
  simp [hi]
theorem i_shl1 : ∀ k, k < 31 → (1 : Int32) <<< (nI k &&& 31) = nI (2 ^ k) := by decide +kernel
theorem i_sm : ∀ k, k < 32 → ((nI k &&& 31).toBitVec.smod 32).toNat = k := by decide +kernel
theorem i_shr {a k : Nat} (ha : a < 2 ^ 31) (hk : k < 32) : nI a >>> (nI k &&& 31) = nI (a / 2 ^ k) := pk_shrN ha _ k (i_sm k hk)
theorem i_shl {a k : Nat} (hk : k < 32) (ha : a * 2 ^ k < 2 ^ 32) : nI a <<< (nI k &&& 31) = nI (a * 2 ^ k) := pk_shlN _ k (i_sm k hk) ha
theorem i_sub {a b : Nat} (h : b ≤ a) : nI a - nI b = nI (a - b) := pk_sub h
theorem i_dv {a d : Nat} (ha : a < 2 ^ 31) (h0 : 0 < d) (hd : d < 2 ^ 31) : nI a / nI d = nI (a / d) := pk_div ha h0 hd
theorem i_rm {a d : Nat} (ha : a < 2 ^ 31) (h0 : 0 < d) (hd : d < 2 ^ 31) : irm (nI a) (nI d) = nI (a % d) := pk_rem ha h0 hd
theorem rd_nI {α : Type} {f : Nat → Int32} {n j : Nat} {k : Int32 → Option α} (hj : j < n) (hn : n < 2 ^ 31) : rd f n (nI j) k = k (f j) := by
  unfold rd
  rw [if_pos (nI_in hj hn), nI_clamp (by omega)]
theorem wr_nI {α : Type} {mem : Mem} {a n j : Nat} {v : Int32} {k : Mem → Option α} (hj : j < n) (hn : n < 2 ^ 31) : wr mem a n (nI j) v k = k (mset mem a j v) := by
  unfold wr
  rw [if_pos (nI_in hj hn), nI_clamp (by omega)]
theorem rd_e {α : Type} {f : Nat → Int32} {n : Nat} {i : Int32} {k : Int32 → Option α} (j : Nat) {v : Int32} (hi : i = nI j) (hj : j < n) (hn : n < 2 ^ 31) (hv : f j = v) : rd f n i k = k v := by
  subst hi hv
  exact rd_nI hj hn
theorem wr_e {α : Type} {mem : Mem} {a n : Nat} {i v : Int32} {k : Mem → Option α} (j : Nat) (hi : i = nI j) (hj : j < n) (hn : n < 2 ^ 31) : wr mem a n i v k = k (mset mem a j v) := by
  subst hi
  exact wr_nI hj hn
theorem mset_at (m : Mem) (a k : Nat) (v : Int32) (a' k' : Nat) : mset m a k v a' k' = if a' = a ∧ k' = k then v else m a' k' := by
  unfold mset va_up upd
  by_cases h : a' = a
  · subst h
    by_cases h2 : k' = k <;> simp [h2]
  · simp [h]
theorem mset_ne {m : Mem} {a k : Nat} {v : Int32} {a' : Nat} (h : a' ≠ a) : mset m a k v a' = m a' := by
  unfold mset va_up
  simp [h]
theorem mset_eq {m : Mem} {a k : Nat} {v : Int32} : mset m a k v a k = v := by simp [mset_at]
theorem mset_k {m : Mem} {a k k' : Nat} {v : Int32} (h : k' ≠ k) : mset m a k v a k' = m a k' := by simp [mset_at, h]
theorem upa_ne {m : Mem} {a a' : Nat} {f : Nat → Int32} (h : a' ≠ a) : va_up m a f a' = m a' := by simp [va_up, h]
theorem upa_eq {m : Mem} {a : Nat} {f : Nat → Int32} : va_up m a f a = f := by simp [va_up]
section LPS
variable {S R : Type} {body : S → Option (S ⊕ R)}
theorem lp_more {n : Nat} {q q' : S} (h : body q = some (.inl q')) : lp body (n + 1) q = lp body n q' := by
  rw [lp, h]
theorem lp_done {n : Nat} {q : S} {r : R} (h : body q = some (.inr r)) : lp body (n + 1) q = some r := by
  rw [lp, h]
theorem lp_exact (st : Nat → S) (N : Nat) {r : R} (h : ∀ i, i < N → body (st i) = some (.inl (st (i + 1)))) (hN : body (st N) = some (.inr r)) : ∀ d n i, N - i = d → i ≤ N → d < n → lp body n (st i) = some r := by
  intro d
  induction d with
  | zero =>
    intro n i hd hi hn
    have : i = N := by omega
    subst this
    obtain ⟨m, rfl⟩ : ∃ m, n = m + 1 := ⟨n - 1, by omega⟩
    exact lp_done hN
  | succ d ih =>
    intro n i hd hi hn
    obtain ⟨m, rfl⟩ : ∃ m, n = m + 1 := ⟨n - 1, by omega⟩
    rw [lp_more (h i (by omega))]
    exact ih m (i + 1) (by omega) (by omega) (by omega)
/-- a loop that goes through the states st 0, st 1, .. st N, and ends there with r -/
theorem lp_FU (st : Nat → S) (N : Nat) {r : R} (hb : N < 10 ^ 12) (h : ∀ i, i < N → body (st i) = some (.inl (st (i + 1)))) (hN : body (st N) = some (.inr r)) : lp body FU (st 0) = some r :=
  lp_exact st N h hN N FU 0 (by omega) (by omega) (Nat.lt_of_lt_of_le hb FU_ge)
/-- a loop with an invariant: it comes to its end -/
theorem lp_inv (I : Nat → S → Prop) (N : Nat) (P : R → Prop) (h : ∀ i q, i < N → I i q → (∃ q', body q = some (.inl q') ∧ I (i + 1) q') ∨ ∃ r, body q = some (.inr r) ∧ P r) (hN : ∀ q, I N q → ∃ r, body q = some (.inr r) ∧ P r) : ∀ d n i q, N - i = d → i ≤ N → d < n → I i q → ∃ r, lp body n q = some r ∧ P r := by
  intro d
  induction d with
  | zero =>
    intro n i q hd hi hn hI
    have : i = N := by omega
    subst this
    obtain ⟨m, rfl⟩ : ∃ m, n = m + 1 := ⟨n - 1, by omega⟩
    obtain ⟨r, h1, h2⟩ := hN q hI
    exact ⟨r, lp_done h1, h2⟩
  | succ d ih =>
    intro n i q hd hi hn hI
    obtain ⟨m, rfl⟩ : ∃ m, n = m + 1 := ⟨n - 1, by omega⟩
    rcases h i q (by omega) hI with ⟨q', h1, h2⟩ | ⟨r, h1, h2⟩
    · rw [lp_more h1]
      exact ih m (i + 1) q' (by omega) (by omega) (by omega) h2
    · exact ⟨r, lp_done h1, h2⟩
theorem lp_invF (I : Nat → S → Prop) (N : Nat) (P : R → Prop) (hb : N < 10 ^ 12) {q : S} (h0 : I 0 q) (h : ∀ i q, i < N → I i q → (∃ q', body q = some (.inl q') ∧ I (i + 1) q') ∨ ∃ r, body q = some (.inr r) ∧ P r) (hN : ∀ q, I N q → ∃ r, body q = some (.inr r) ∧ P r) : ∃ r, lp body FU q = some r ∧ P r :=
  lp_inv I N P h hN N FU 0 q (by omega) (by omega) (Nat.lt_of_lt_of_le hb FU_ge) h0
end LPS
/-- how many below n -/
def cnt (f : Nat → Bool) : Nat → Nat
  | 0 => 0
  | n + 1 => cnt f n + (if f n then 1 else 0)
def allB (f : Nat → Bool) : Nat → Bool
  | 0 => true
  | n + 1 => allB f n && f n
/-- the set of those below n, as bits -/
def bm (f : Nat → Bool) : Nat → Nat
  | 0 => 0
  | n + 1 => bm f n + (if f n then 2 ^ n else 0)
theorem cnt_le (f : Nat → Bool) (n : Nat) : cnt f n ≤ n := by
  induction n with
  | zero => exact Nat.le_refl _
  | succ n ih => unfold cnt; split <;> omega
theorem cnt_pos {f : Nat → Bool} {n : Nat} : cnt f n = 0 ↔ ∀ i, i < n → f i = false := by
  induction n with
  | zero => simp [cnt]
  | succ n ih =>
    unfold cnt
    constructor
    · intro h i hi
      by_cases hf : f n = true
      · simp [hf] at h
      · have h0 : cnt f n = 0 := by omega
        rcases Nat.lt_or_ge i n with q | q
        · exact ih.mp h0 i q
        · have : i = n := by omega
          subst this
          simpa using hf
    · intro h
      rw [ih.mpr (fun i hi => h i (by omega)), h n (by omega)]
      simp
theorem allB_iff {f : Nat → Bool} {n : Nat} : allB f n = true ↔ ∀ i, i < n → f i = true := by
  induction n with
  | zero => simp [allB]
  | succ n ih =>
    unfold allB
    rw [Bool.and_eq_true, ih]
    constructor
    · rintro ⟨h1, h2⟩ i hi
      rcases Nat.lt_or_ge i n with q | q
      · exact h1 i q
      · have : i = n := by omega
        subst this
        exact h2
    · intro h
      exact ⟨fun i hi => h i (by omega), h n (by omega)⟩
theorem allB_cnt {f : Nat → Bool} {n : Nat} : allB f n = decide (cnt (fun i => !f i) n = 0) := by
  rw [Bool.eq_iff_iff, allB_iff, decide_eq_true_iff, cnt_pos]
  simp
theorem cnt_congr {f g : Nat → Bool} {n : Nat} (h : ∀ i, i < n → f i = g i) : cnt f n = cnt g n := by
  induction n with
  | zero => rfl
  | succ n ih => unfold cnt; rw [ih (fun i hi => h i (by omega)), h n (by omega)]
theorem allB_congr {f g : Nat → Bool} {n : Nat} (h : ∀ i, i < n → f i = g i) : allB f n = allB g n := by
  induction n with
  | zero => rfl
  | succ n ih => unfold allB; rw [ih (fun i hi => h i (by omega)), h n (by omega)]
theorem bm_congr {f g : Nat → Bool} {n : Nat} (h : ∀ i, i < n → f i = g i) : bm f n = bm g n := by
  induction n with
  | zero => rfl
  | succ n ih => unfold bm; rw [ih (fun i hi => h i (by omega)), h n (by omega)]
theorem bm_lt (f : Nat → Bool) (n : Nat) : bm f n < 2 ^ n := by
  induction n with
  | zero => simp [bm]
  | succ n ih =>
    unfold bm
    rw [Nat.pow_succ]
    split <;> omega
theorem bm_or (f : Nat → Bool) (n : Nat) : bm f n ||| 2 ^ n = bm f n + 2 ^ n := by
  have h := Nat.two_pow_add_eq_or_of_lt (bm_lt f n) 1
  rw [Nat.mul_one] at h
  rw [Nat.or_comm, ← h, Nat.add_comm]
theorem bm_bit (f : Nat → Bool) (n w : Nat) : (bm f n).testBit w = (decide (w < n) && f w) := by
  induction n with
  | zero => simp [bm]
  | succ n ih =>
    unfold bm
    by_cases hf : f n = true
    · rw [if_pos hf, ← bm_or, Nat.testBit_or, ih, Nat.testBit_two_pow]
      by_cases h1 : w = n
      · subst h1; simp [hf]
      · have h2 : (n = w) = False := by simp; omega
        have h3 : (w < n + 1) = (w < n) := by apply propext; omega
        simp [h2, h3]
    · rw [if_neg hf, Nat.add_zero, ih]
      by_cases h1 : w = n
      · subst h1; simp at hf; simp [hf]
      · have h3 : (w < n + 1) = (w < n) := by apply propext; omega
        simp [h3]
theorem bm_and (f g : Nat → Bool) (n : Nat) : bm f n &&& bm g n = bm (fun w => f w && g w) n := by
  apply Nat.eq_of_testBit_eq
  intro w
  rw [Nat.testBit_and, bm_bit, bm_bit, bm_bit]
  cases decide (w < n) <;> cases f w <;> cases g w <;> rfl
theorem bm_zero {f : Nat → Bool} {n : Nat} : bm f n = 0 ↔ ∀ i, i < n → f i = false := by
  induction n with
  | zero => simp [bm]
  | succ n ih =>
    unfold bm
    have h2 : 0 < 2 ^ n := Nat.two_pow_pos n
    constructor
    · intro h i hi
      by_cases hf : f n = true
      · simp [hf] at h
      · have h0 : bm f n = 0 := by omega
        rcases Nat.lt_or_ge i n with q | q
        · exact ih.mp h0 i q
        · have : i = n := by omega
          subst this
          simpa using hf
    · intro h
      rw [ih.mpr (fun i hi => h i (by omega)), h n (by omega)]
      simp
/-- one bit of a set -/
theorem i_bit {f : Nat → Bool} {n w : Nat} (hn : n ≤ 30) (hw : w < 31) : (nI (bm f n) >>> (nI w &&& 31)) &&& 1 = nI (if w < n ∧ f w = true then 1 else 0) := by
  have hb : bm f n < 2 ^ 31 := Nat.lt_of_lt_of_le (bm_lt f n) (Nat.pow_le_pow_right (by decide) (by omega))
  rw [i_shr hb (by omega), show (1 : Int32) = nI 1 from rfl, i_and, Nat.and_one_is_mod]
  congr 1
  have h := bm_bit f n w
  rw [Nat.testBit_eq_decide_div_mod_eq] at h
  have h2 : (bm f n / 2 ^ w) % 2 < 2 := Nat.mod_lt _ (by decide)
  by_cases hc : w < n ∧ f w = true
  · rw [if_pos hc]
    rw [hc.2, decide_eq_true hc.1] at h
    simpa using h
  · rw [if_neg hc]
    have h3 : (decide (w < n) && f w) = false := by
      by_cases h4 : w < n
      · have : f w = false := by
          cases h5 : f w
          · rfl
          · exact absurd ⟨h4, h5⟩ hc
        simp [this]
      · simp [h4]
    rw [h3] at h
    have h6 : ¬ bm f n / 2 ^ w % 2 = 1 := by simpa using h
    omega
theorem i_orb {f : Nat → Bool} {n : Nat} (hn : n < 31) : nI (bm f n) ||| ((1 : Int32) <<< (nI n &&& 31)) = nI (bm f n + 2 ^ n) := by
  rw [i_shl1 n hn, i_or, bm_or]
def b2i (b : Bool) : Int32 := if b then 1 else 0
def b2n (b : Bool) : Nat := if b then 1 else 0
theorem b2i_n (b : Bool) : b2i b = nI (b2n b) := by cases b <;> rfl
theorem b2i_0 {b : Bool} : b2i b = 0 ↔ b = false := by cases b <;> simp [b2i]
theorem b2i_1 {b : Bool} : b2i b = 1 ↔ b = true := by cases b <;> simp [b2i]
theorem nar0 : vp_nar .boolean 0 = 0 := by decide +kernel
theorem nar1 : vp_nar .boolean 1 = 1 := by decide +kernel
/-- a loop that looks at k = 0, 1, .. N - 1, and ends early at the first one that fails -/
theorem lp_all {ρ : Type} {body : Int32 → Option (Int32 ⊕ (Int32 ⊕ ρ))} (c : Nat → Bool) (N : Nat) (r : ρ) (hb : N < 10 ^ 12) (h : ∀ k, k < N → body (nI k) = if c k then some (.inl (nI (k + 1))) else some (.inr (.inr r))) (hN : body (nI N) = some (.inr (.inl (nI N)))) : lp body FU 0 = some (if allB c N then .inl (nI N) else .inr r) := by
  have key : ∀ M, M ≤ N → allB c M = true → ∀ i, i < M → body (nI i) = some (.inl (nI (i + 1))) := by
    intro M hM ha i hi
    rw [h i (by omega), allB_iff.mp ha i hi]
    rfl
  by_cases ha : allB c N = true
  · rw [if_pos ha]
    exact lp_FU (fun i => nI i) N hb (key N (Nat.le_refl _) ha) hN
  · rw [if_neg ha]
    -- the first that fails
    have : ∃ M, M < N ∧ allB c M = true ∧ c M = false := by
      clear h hN key hb
      induction N with
      | zero => simp [allB] at ha
      | succ n ih =>
        by_cases h1 : allB c n = true
        · refine ⟨n, by omega, h1, ?_⟩
          unfold allB at ha
          rw [h1] at ha
          simpa using ha
        · obtain ⟨M, q1, q2, q3⟩ := ih h1
          exact ⟨M, by omega, q2, q3⟩
    obtain ⟨M, q1, q2, q3⟩ := this
    refine lp_FU (fun i => nI i) M (by omega) (key M (by omega) q2) ?_
    rw [h M q1, q3]
    rfl
