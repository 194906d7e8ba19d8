/-! sets of solvers, as numbers -/
def bitB (s i : Nat) : Bool := s / 2 ^ i % 2 == 1
def popN (s : Nat) : Nat := cnt (bitB s) 6
theorem bit_e {s i : Nat} (hs : s < 2 ^ 31) (hi : i < 31) : (nI s >>> (nI i &&& 31)) &&& 1 = b2i (bitB s i) := by
  rw [i_shr hs (by omega), i_lit 1, i_and, Nat.and_one_is_mod, b2i_n]
  congr 1
  unfold bitB b2n
  have : s / 2 ^ i % 2 < 2 := Nat.mod_lt _ (by decide)
  by_cases h : s / 2 ^ i % 2 = 1
  · simp [h]
  · have h0 : s / 2 ^ i % 2 = 0 := by omega
    simp [h0]
theorem bitCount_e : ∀ s, s < 64 → f_J6_bitCount_0f7a4 (nI s) = some (nI (popN s)) := by decide +kernel
theorem pop_step : ∀ s, s < 64 → s ≠ 0 → (s &&& (s - 1)) < 64 ∧ popN s = popN (s &&& (s - 1)) + 1 := by decide +kernel
theorem pop_le (s : Nat) : popN s ≤ 6 := cnt_le _ _
theorem bits_lp : ∀ n s c f, s < 64 → popN s = n → n < f → lp f_X7_bits_b4 f (nI c, nI s) = some (nI (c + n), 0) := by
  intro n
  induction n with
  | zero =>
    intro s c f hs hp hf
    obtain ⟨g, rfl⟩ : ∃ g, f = g + 1 := ⟨f - 1, by omega⟩
    have h0 : s = 0 := by
      apply Classical.byContradiction
      intro h
      have := (pop_step s hs h).2
      omega
    subst h0
    exact lp_done (by unfold f_X7_bits_b4; rw [if_pos nI_0]; rfl)
  | succ n ih =>
    intro s c f hs hp hf
    obtain ⟨g, rfl⟩ : ∃ g, f = g + 1 := ⟨f - 1, by omega⟩
    have h0 : s ≠ 0 := by
      rintro rfl
      have : popN 0 = 0 := by decide
      omega
    obtain ⟨h1, h2⟩ := pop_step s hs h0
    rw [lp_more (q' := (nI (c + 1), nI (s &&& (s - 1))))]
    · rw [ih _ (c + 1) g h1 (by omega) (by omega), show c + 1 + n = c + (n + 1) by omega]
    · unfold f_X7_bits_b4
      rw [if_neg (nI_ne0 (by omega) (by omega))]
      simp only [lt', nI_1]
      rw [show nI s - 1 = nI (s - 1) by rw [i_lit 1]; exact i_sub (by omega), i_and]
theorem bits_e {s : Nat} (hs : s < 64) : f_X7_bits (nI s) = some (nI (popN s)) := by
  have h := bits_lp (popN s) s 0 FU hs rfl (Nat.lt_of_le_of_lt (pop_le s) (Nat.lt_of_lt_of_le (by decide) FU_ge))
  unfold f_X7_bits
  rw [show ((0 : Int32), nI s) = (nI 0, nI s) from rfl, h, Nat.zero_add]
  rfl
theorem bk_b {α : Type} {b : Bool} {k : Option α} : bk (b2i b) k = k := by
  unfold bk
  rw [if_pos (by cases b <;> simp [b2i])]
theorem mset_self (m : Mem) (a i : Nat) : mset m a i (m a i) = m := by
  funext a' i'
  rw [mset_at]
  by_cases h : a' = a ∧ i' = i
  · rw [if_pos h, h.1, h.2]
  · rw [if_neg h]
/-- those of the set s send w for p -/
def wins (P : Pa) (s p w : Nat) : Nat → Pa
  | 0 => P
  | n + 1 => if bitB s n then wshP (wins P s p w n) n p w else wins P s p w n
theorem winsOK {S : Sh} {P : Pa} (hP : POK S P) {s p w : Nat} (hp : p < 8) (hw : w < sW S) : ∀ n, POK S (wins P s p w n) := by
  intro n
  induction n with
  | zero => exact hP
  | succ n ih =>
    unfold wins
    split
    · exact wshOK ih hp hw
    · exact ih
def winB (S : Sh) (P : Pa) (p w s : Nat) : Bool := (eveN S (wins P s p w (sN S)) (fun _ => true)).2.1 (9 * p + w)
section WIN
variable {S : Sh} {P : Pa} {sh : Nat} {mem : Mem} {s p w : Nat}
theorem byWinning_e (hs : sh + 9 < 31) (hO : SOK S) (hC : CS S sh mem) (hP : POK S P) (hT : CP P 31 mem) (hs64 : s < 64) (hp : p < sP S) (hw : w < sW S) : ∃ m', f_X6_isPrintedByWinning sh (nI s) (nI p) (nI w) mem = some (b2i (winB S P p w s), m') ∧ ∀ a, a < 36 ∨ 43 < a → m' a = mem a := by
  have hn := hO.n6
  have hp8 := hO.p8
  have hw9 := hO.w9
  obtain ⟨m1, e1, t1, f1⟩ := copy_e (t := 35) hT (by decide)
  have hC1 := hC.keep (mem' := m1) (fun a _ _ => f1 a (by omega) (by omega) (by omega))
  obtain ⟨r2, e2, m2, rfl, t2, f2⟩ := lp_invF (body := f_X6_isPrintedByWinning_b14 sh (nI s) (nI p) (nI w)) (fun i q => ∃ m, q = (nI i, m) ∧ CP (wins P s p w i) 35 m ∧ ∀ a, a < 36 ∨ 43 < a → m a = m1 a) (sN S) (fun r => ∃ m, r = (nI (sN S), m) ∧ CP (wins P s p w (sN S)) 35 m ∧ ∀ a, a < 36 ∨ 43 < a → m a = m1 a) (by omega) (q := (0, m1)) ⟨m1, rfl, t1, fun _ _ => rfl⟩
    (fun i q hi hI => by
      obtain ⟨m, rfl, t, f⟩ := hI
      refine Or.inl ?_
      unfold f_X6_isPrintedByWinning_b14
      simp only
      rw [f sh (by omega), hC1.1.2.2.2.2, if_neg (nI_ge hi (by omega)), bit_e (by omega) (by omega)]
      cases hb : bitB s i with
      | false =>
        rw [if_pos (by rfl)]
        simp only [lt', nI_1]
        exact ⟨_, rfl, m, rfl, by rw [wins, hb]; exact t, f⟩
      | true =>
        obtain ⟨m', e', t', f'⟩ := wishC (a := p) (b := w) t (show i < 6 by omega)
        rw [if_neg (by decide), e']
        simp only [lt', nI_1, ob]
        exact ⟨_, rfl, m', rfl, by rw [wins, hb]; exact t', fun a ha => by rw [f' a (by omega) (by omega), f a ha]⟩)
    (fun q hI => by
      obtain ⟨m, rfl, t, f⟩ := hI
      unfold f_X6_isPrintedByWinning_b14
      simp only
      rw [f sh (by omega), hC1.1.2.2.2.2, if_pos (nI_le (Nat.le_refl _) (by omega))]
      exact ⟨_, rfl, m, rfl, t, f⟩)
  obtain ⟨m3, e3, c3, t3, p3, a3, f3⟩ := trialC (by omega) hO (hC1.keep (mem' := m2) (fun a _ _ => f2 a (by omega))) (winsOK hP (show p < 8 by omega) hw (sN S)) t2 may63
  refine ⟨m3, ?_, fun a ha => by rw [f3 a ha, f2 a ha, f1 a (by omega) (by omega) (by omega)]⟩
  unfold f_X6_isPrintedByWinning
  rw [e1]
  simp only [ob]
  rw [e2]
  simp only
  rw [e3]
  simp only [ob2]
  rw [(a3 p w (by omega) (by omega)).2]
  simp only
  rw [bk_b]
  rfl
/-- the reference's turn for one set -/
theorem win7_e (hO : SOK S) (hM : MS S mem) (hP : POK S P) (hT : MP P 77 mem) (hs64 : s < 64) (hp : p < sP S) (hw : w < sW S) {b : Int32} : ∃ m', f_X7_win_j53 (nI p) (nI w) b (nI s) mem = some (.inl (if winB S P p w s then nI s else b, nI (s + 1), m')) ∧ ∀ a, a ≠ 78 → a ≠ 79 → a ≠ 80 → a ≠ 81 → m' a = mem a := by
  have hn := hO.n6
  have hp8 := hO.p8
  have hw9 := hO.w9
  obtain ⟨m1, e1, t1, f1⟩ := copyNow_e hT
  have hM1 := hM.keep (mem' := m1) (fun a _ _ => by rw [f1 62 (by decide)]) (fun a _ _ => f1 a (by omega))
  obtain ⟨r2, e2, m2, rfl, t2, f2⟩ := lp_invF (body := f_X7_win_b60 (nI p) (nI w) b (nI s)) (fun i q => ∃ m, q = (nI i, m) ∧ MP (wins P s p w i) 78 m ∧ ∀ a, a ≠ 78 → m a = m1 a) (sN S) (fun r => ∃ m, r = (nI (sN S), m) ∧ MP (wins P s p w (sN S)) 78 m ∧ ∀ a, a ≠ 78 → m a = m1 a) (by omega) (q := (0, m1)) ⟨m1, rfl, t1, fun _ _ => rfl⟩
    (fun i q hi hI => by
      obtain ⟨m, rfl, t, f⟩ := hI
      refine Or.inl ?_
      unfold f_X7_win_b60
      simp only
      rw [f 62 (by decide), hM1.1.2.2.2.2, if_neg (nI_ge hi (by omega)), has_e (bit_e (s := s) (i := i) (by omega) (by omega))]
      simp only [ob]
      cases hb : bitB s i with
      | false =>
        rw [if_pos (by rfl), rd_e (16 + 2 * i) (by rw [i_lit 16, i_lit 2, pk_mul, nI_add]) (by omega) (by decide) rfl]
        unfold f_X7_win_j106
        rw [wr_e (16 + 2 * i) (by rw [i_lit 16, i_lit 2, pk_mul, nI_add]) (by omega) (by decide), mset_self, has_e (bit_e (s := s) (i := i) (by omega) (by omega)), hb]
        simp only [ob]
        rw [if_pos (by rfl), rd_e (16 + 2 * i + 1) (by rw [i_lit 16, i_lit 2, pk_mul, nI_add, nI_1]) (by omega) (by decide) rfl, wr_e (16 + 2 * i + 1) (by rw [i_lit 16, i_lit 2, pk_mul, nI_add, nI_1]) (by omega) (by decide), mset_self]
        simp only [lt', nI_1]
        exact ⟨_, rfl, m, rfl, by rw [wins, hb]; exact t, f⟩
      | true =>
        rw [if_neg (by decide)]
        unfold f_X7_win_j106
        rw [wr_e (16 + 2 * i) (by rw [i_lit 16, i_lit 2, pk_mul, nI_add]) (by omega) (by decide), has_e (bit_e (s := s) (i := i) (by omega) (by omega)), hb]
        simp only [ob]
        rw [if_neg (by decide), wr_e (16 + 2 * i + 1) (by rw [i_lit 16, i_lit 2, pk_mul, nI_add, nI_1]) (by omega) (by decide)]
        simp only [lt', nI_1]
        exact ⟨_, rfl, _, rfl, by rw [wins, hb]; exact wishM t (by omega), fun a ha => by rw [mset_ne ha, mset_ne ha, f a ha]⟩)
    (fun q hI => by
      obtain ⟨m, rfl, t, f⟩ := hI
      unfold f_X7_win_b60
      simp only
      rw [f 62 (by decide), hM1.1.2.2.2.2, if_pos (nI_le (Nat.le_refl _) (by omega))]
      exact ⟨_, rfl, m, rfl, t, f⟩)
  obtain ⟨m3, e3, c3, t3, p3, a3, f3⟩ := trialM hO (hM1.keep (mem' := m2) (fun a _ _ => by rw [f2 62 (by decide)]) (fun a _ _ => f2 a (by omega))) (winsOK hP (show p < 8 by omega) hw (sN S)) t2 mayAll
  refine ⟨m3, ?_, fun a z1 z2 z3 z4 => by rw [f3 a z1 z2 z3 z4, f2 a z1, f1 a z1]⟩
  unfold f_X7_win_j53
  rw [e1]
  simp only [ob]
  rw [e2]
  simp only
  rw [e3]
  simp only [ob2]
  rw [rd_e (9 * p + w) (by rw [i_lit 9, pk_mul, nI_add]) (by omega) (by decide) (a3 p w (by omega) (by omega)).2]
  simp only [lt', nI_1]
  rw [show (eveN S (wins P s p w (sN S)) fun _ => true).2.1 (9 * p + w) = winB S P p w s from rfl]
  cases winB S P p w s <;> rfl
/-- the best set below s -/
def bst (S : Sh) (P : Pa) (p w : Nat) : Nat → Option Nat
  | 0 => none
  | s + 1 => if (match bst S P p w s with
    | none => true
    | some t => decide (popN s < popN t)) && winB S P p w s then some s else bst S P p w s
theorem bst_lt : ∀ s t, bst S P p w s = some t → t < s := by
  intro s
  induction s with
  | zero => intro t h; cases h
  | succ s ih =>
    intro t h
    have h : (if (match bst S P p w s with
      | none => true
      | some t => decide (popN s < popN t)) && winB S P p w s then some s else bst S P p w s) = some t := h
    generalize ((match bst S P p w s with
      | none => true
      | some t => decide (popN s < popN t)) && winB S P p w s) = c at h
    cases c with
    | true =>
      have : s = t := by simpa using h
      omega
    | false =>
      have := ih t (by simpa using h)
      omega
def o4 : Option Nat → Int32
  | none => -4
  | some t => nI t
def o7 : Option Nat → Int32
  | none => 7
  | some t => nI (popN t)
theorem ne4 {t : Nat} (h : t < 2 ^ 31) : ¬ nI t = -4 := by
  intro e
  have := nI_pos h
  rw [e] at this
  exact this (by decide)
end WIN
section WIN2
variable {S : Sh} {P : Pa} {u k : Nat × (Nat → Pa)} {w : Nat × (Nat → Nat) × (Nat → Bool)} {x : Nat × (Nat → Nat)} {sh sp : Nat} {mem : Mem} {l l2 l3 : Int32}
theorem two_le {n : Nat} (h : n ≤ 6) : 2 ^ n ≤ 64 := Nat.pow_le_pow_right (n := 2) (by decide) h
theorem win_a (hs : Two sh sp) (hA : AOK S P u k w x) (hC : CI S P u k w x sh mem) (hM : MI S P u k w x mem) : Agree sh sp (f_X6_win sh l l2) (f_X7_win l l2) mem := by
  have hs' := hs
  unfold Two at hs'
  have hO := hA.1
  have hp8 := hO.p8
  have hw9 := hO.w9
  have hn := hO.n6
  have h64 := two_le hn
  rcases ixs l (sP S) with ⟨p, hp, rfl⟩ | hl
  · rcases ixs l2 (sW S) with ⟨v, hv, rfl⟩ | hl2
    · obtain ⟨r1, e1, m1, z1, rfl, f1⟩ := lp_invF (body := f_X6_win_b28 sh (nI p) (nI v)) (fun s q => ∃ m, q = (o7 (bst S P p v s), o4 (bst S P p v s), nI s, m) ∧ ∀ a, a < 36 ∨ 43 < a → m a = mem a) (2 ^ sN S) (fun r => ∃ m z, r = (z, o4 (bst S P p v (2 ^ sN S)), nI (2 ^ sN S), m) ∧ ∀ a, a < 36 ∨ 43 < a → m a = mem a) (by omega) (q := (7, -4, 0, mem)) ⟨mem, rfl, fun _ _ => rfl⟩
        (fun s q hi hI => by
          obtain ⟨m, rfl, f⟩ := hI
          have hC' := hC.1.keep (mem' := m) (fun a _ _ => f a (by omega))
          have hpop := pop_le s
          refine Or.inl ?_
          unfold f_X6_win_b28
          simp only
          rw [hC'.1.2.2.2.2, i_shl1 _ (by omega), if_neg (nI_ge hi (by omega)), bitCount_e s (by omega)]
          simp only [ob]
          obtain ⟨m', e', f'⟩ := byWinning_e (by omega) hO hC' hA.2.1 (hC.2.1.keep (mem' := m) (fun a _ _ => f a (by omega))) (show s < 64 by omega) hp hv
          have step : bst S P p v (s + 1) = if (match bst S P p v s with
            | none => true
            | some t => decide (popN s < popN t)) && winB S P p v s then some s else bst S P p v s := rfl
          cases hb : bst S P p v s with
          | none =>
            rw [hb] at step
            simp only [Bool.true_and] at step
            rw [if_neg (show ¬ o7 none ≤ nI (popN s) from nI_ge (b := 7) (by omega) (by decide)), e']
            simp only [ob2, lt', nI_1]
            cases hw : winB S P p v s with
            | false =>
              rw [hw] at step
              rw [if_pos (by rfl), step]
              exact ⟨_, rfl, m', rfl, fun a ha => by rw [f' a ha, f a ha]⟩
            | true =>
              rw [hw] at step
              rw [if_neg (by decide), step]
              exact ⟨_, rfl, m', rfl, fun a ha => by rw [f' a ha, f a ha]⟩
          | some t =>
            rw [hb] at step
            have ht := pop_le t
            by_cases hc : popN s < popN t
            · simp only [decide_eq_true hc, Bool.true_and] at step
              rw [if_neg (show ¬ o7 (some t) ≤ nI (popN s) from nI_ge hc (by omega)), e']
              simp only [ob2, lt', nI_1]
              cases hw : winB S P p v s with
              | false =>
                rw [hw] at step
                rw [if_pos (by rfl), step]
                exact ⟨_, rfl, m', rfl, fun a ha => by rw [f' a ha, f a ha]⟩
              | true =>
                rw [hw] at step
                rw [if_neg (by decide), step]
                exact ⟨_, rfl, m', rfl, fun a ha => by rw [f' a ha, f a ha]⟩
            · simp only [decide_eq_false hc, Bool.false_and] at step
              rw [if_pos (show o7 (some t) ≤ nI (popN s) from nI_le (by omega) (by omega)), step]
              simp only [lt', nI_1]
              exact ⟨_, rfl, m, rfl, f⟩)
        (fun q hI => by
          obtain ⟨m, rfl, f⟩ := hI
          have hC' := hC.1.keep (mem' := m) (fun a _ _ => f a (by omega))
          unfold f_X6_win_b28
          simp only
          rw [hC'.1.2.2.2.2, i_shl1 _ (by omega), if_pos (nI_le (Nat.le_refl _) (by omega))]
          exact ⟨_, rfl, m, _, rfl, f⟩)
      have hM1 := hM.up (mem' := m1) (fun a ha => f1 a (by omega))
      obtain ⟨r2, e2, m2, rfl, f2⟩ := lp_invF (body := f_X7_win_b24 (nI p) (nI v)) (fun s q => ∃ m, q = (o4 (bst S P p v s), nI s, m) ∧ ∀ a, a ≠ 78 → a ≠ 79 → a ≠ 80 → a ≠ 81 → m a = m1 a) (2 ^ sN S) (fun r => ∃ m, r = (o4 (bst S P p v (2 ^ sN S)), nI (2 ^ sN S), m) ∧ ∀ a, a ≠ 78 → a ≠ 79 → a ≠ 80 → a ≠ 81 → m a = m1 a) (by omega) (q := (-4, 0, m1)) ⟨m1, rfl, fun _ _ _ _ _ => rfl⟩
        (fun s q hi hI => by
          obtain ⟨m, rfl, f⟩ := hI
          have hM' := hM1.1.keep (mem' := m) (fun a _ _ => by rw [f 62 (by decide) (by decide) (by decide) (by decide)]) (fun a _ _ => f a (by omega) (by omega) (by omega) (by omega))
          have hpop := pop_le s
          refine Or.inl ?_
          obtain ⟨m', e', f'⟩ := win7_e (b := o4 (bst S P p v s)) hO hM' hA.2.1 (hM1.2.1.keep (mem' := m) (f 77 (by decide) (by decide) (by decide) (by decide))) (show s < 64 by omega) hp hv
          unfold f_X7_win_b24
          simp only
          rw [hM'.1.2.2.2.2, i_shl1 _ (by omega), if_neg (nI_ge hi (by omega)), e', bits_e (show s < 64 by omega)]
          have step : bst S P p v (s + 1) = if (match bst S P p v s with
            | none => true
            | some t => decide (popN s < popN t)) && winB S P p v s then some s else bst S P p v s := rfl
          have fr : ∀ a, a ≠ 78 → a ≠ 79 → a ≠ 80 → a ≠ 81 → m' a = m1 a := fun a z1 z2 z3 z4 => by rw [f' a z1 z2 z3 z4, f a z1 z2 z3 z4]
          cases hb : bst S P p v s with
          | none =>
            rw [hb] at step
            simp only [Bool.true_and] at step
            rw [if_pos (show o4 none = -4 from rfl)]
            refine ⟨_, rfl, m', ?_, fr⟩
            rw [step]
            cases winB S P p v s <;> rfl
          | some t =>
            rw [hb] at step
            have ht := pop_le t
            have htl := bst_lt s t hb
            rw [if_neg (show ¬ o4 (some t) = -4 from ne4 (by omega)), show o4 (some t) = nI t from rfl, bits_e (show t < 64 by omega)]
            simp only [ob, lt', nI_1]
            by_cases hc : popN s < popN t
            · simp only [decide_eq_true hc, Bool.true_and] at step
              rw [if_neg (nI_ge hc (by omega))]
              refine ⟨_, rfl, m', ?_, fr⟩
              rw [step]
              cases winB S P p v s <;> rfl
            · simp only [decide_eq_false hc, Bool.false_and] at step
              rw [if_pos (nI_le (by omega) (by omega)), step]
              exact ⟨_, rfl, m, rfl, f⟩)
        (fun q hI => by
          obtain ⟨m, rfl, f⟩ := hI
          have hM' := hM1.1.keep (mem' := m) (fun a _ _ => by rw [f 62 (by decide) (by decide) (by decide) (by decide)]) (fun a _ _ => f a (by omega) (by omega) (by omega) (by omega))
          unfold f_X7_win_b24
          simp only
          rw [hM'.1.2.2.2.2, i_shl1 _ (by omega), if_pos (nI_le (Nat.le_refl _) (by omega))]
          exact ⟨_, rfl, m, rfl, f⟩)
      refine agree_q (m1 := m1) (m2 := m2) (r := o4 (bst S P p v (2 ^ sN S))) hs hA hC hM ?_ (QC.of hs (fun a ha => f1 a (by omega))) ?_ (QM.of f2) (fun a ha => f2 a (by omega) (by omega) (by omega) (by omega))
      · unfold f_X6_win
        rw [placec_1 hO hC.1 hp, wordc_1 hO hC.1 hv]
        simp only [ob]
        rw [if_neg (by decide), if_neg (by decide), e1]
      · unfold f_X7_win
        rw [place7_1 hO hM1.1 hp, word7_1 hO hM1.1 hv]
        simp only [ob]
        rw [if_neg (by decide), if_neg (by decide), e2]
    · refine agree_0 hs hA hC hM (r := -1) ?_ ?_
      · unfold f_X6_win
        rw [placec_1 hO hC.1 hp, wordc_0 hO hC.1 hl2]
        rfl
      · unfold f_X7_win
        rw [place7_1 hO hM.1 hp, word7_0 hO hM.1 hl2]
        rfl
  · refine agree_0 hs hA hC hM (r := -1) ?_ ?_
    · unfold f_X6_win
      rw [placec_0 hO hC.1 hl]
      rfl
    · unfold f_X7_win
      rw [place7_0 hO hM.1 hl]
      rfl
end WIN2
