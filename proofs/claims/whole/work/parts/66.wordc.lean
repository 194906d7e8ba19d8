/-! the class reads a word -/
def nl (x : Nat × (Nat → Nat)) (a : Nat) : Nat := fstB (fun k => !ltrB (tk x (a + k))) 5
def wf (x : Nat × (Nat → Nat)) (a n : Nat) : Nat → Nat := fun k => if k < n then tk x (a + k) - 96 else 0
def codeN (f : Nat → Nat) : Nat → Nat
  | 0 => 0
  | k + 1 => codeN f k + f k * 2 ^ (3 * k)
def cdf (f : Nat → Nat) : Nat := f 0 + 8 * f 1 + 64 * f 2 + 512 * f 3
def sameB (f g : Nat → Nat) : Bool := allB (fun k => f k == g k) 4
def listB (S : Sh) (f : Nat → Nat) : Bool := !allB (fun w => !sameB (swd S w) f) (sW S)
/-- letters of a word of n -/
def WOK (n : Nat) (f : Nat → Nat) : Prop := (∀ k, k < n → 1 ≤ f k ∧ f k ≤ 6) ∧ ∀ k, n ≤ k → f k = 0
theorem WOK.le {n : Nat} {f : Nat → Nat} (h : WOK n f) (k : Nat) : f k ≤ 6 := by
  rcases Nat.lt_or_ge k n with q | q
  · exact (h.1 k q).2
  · rw [h.2 k q]; decide
theorem same_iff {f g : Nat → Nat} (hf : ∀ k, f k ≤ 6) (hg : ∀ k, g k ≤ 6) : sameB f g = true ↔ cdf f = cdf g := by
  unfold sameB
  rw [allB_iff]
  have a0 := hf 0
  have a1 := hf 1
  have a2 := hf 2
  have a3 := hf 3
  have b0 := hg 0
  have b1 := hg 1
  have b2 := hg 2
  have b3 := hg 3
  constructor
  · intro h
    have h0 := h 0 (by decide)
    have h1 := h 1 (by decide)
    have h2 := h 2 (by decide)
    have h3 := h 3 (by decide)
    simp only [beq_iff_eq] at h0 h1 h2 h3
    unfold cdf
    omega
  · intro h k hk
    unfold cdf at h
    simp only [beq_iff_eq]
    rcases (show k = 0 ∨ k = 1 ∨ k = 2 ∨ k = 3 by omega) with rfl | rfl | rfl | rfl <;> omega
theorem codeN_lt {f : Nat → Nat} (hf : ∀ k, f k < 8) : ∀ k, codeN f k < 2 ^ (3 * k) := by
  intro k
  induction k with
  | zero => simp [codeN]
  | succ k ih =>
    have h := hf k
    unfold codeN
    rw [show 3 * (k + 1) = 3 * k + 3 by omega, Nat.pow_add]
    have : f k * 2 ^ (3 * k) ≤ 7 * 2 ^ (3 * k) := Nat.mul_le_mul_right _ (by omega)
    omega
section WDC
variable {x : Nat × (Nat → Nat)} {i j a n s v : Nat} {mem m' m2 : Mem} {S : Sh} {P : Pa} {g : Bool} {f : Nat → Nat}
theorem nl_le : nl x a ≤ 5 := (fstB_spec _ 5).1
theorem nl_in {k : Nat} (h : k < nl x a) : ltrB (tk x (a + k)) = true := by
  have := (fstB_spec (fun k => !ltrB (tk x (a + k))) 5).2.1 k h
  simpa using this
theorem nl_out (h : nl x a < 5) : ¬ ltrB (tk x (a + nl x a)) = true := by
  have := (fstB_spec (fun k => !ltrB (tk x (a + k))) 5).2.2 h
  intro z
  rw [show fstB (fun k => !ltrB (tk x (a + k))) 5 = nl x a from rfl, z] at this
  cases this
def lg (x : Nat × (Nat → Nat)) (a : Nat) : Nat → Nat := fun k => if ltrB (tk x (a + k)) = true then tk x (a + k) - 96 else 0
theorem lg_lt (k : Nat) : lg x a k < 8 := by
  unfold lg
  split
  · rename_i h
    have := ltrB_ge h
    omega
  · decide
theorem readWord_lp (hX : XOK x) (hT : TX x a mem) (ha : a < 300) : lp (f_X2_readWord_b7 s) FU (0, 0, 0, mem) = some (nI (codeN (lg x a) (nl x a)), nI (nl x a), nI (nl x a), at1 mem (a + nl x a)) := by
  have hn := nl_le (x := x) (a := a)
  have e0 : ((0 : Int32), (0 : Int32), (0 : Int32), mem) = (fun i => (nI (codeN (lg x a) i), nI i, nI i, at1 mem (a + i))) 0 := by
    show _ = (nI 0, nI 0, nI 0, at1 mem a)
    rw [hT.is]
    rfl
  rw [e0]
  refine lp_FU (fun i => (nI (codeN (lg x a) i), nI i, nI i, at1 mem (a + i))) (nl x a) (by omega) ?_ ?_
  · intro i hi
    have k1 := tk_le hX (a + i)
    have c := nl_in hi
    unfold f_X2_readWord_b7
    simp only
    rw [if_neg (show ¬ (4 : Int32) < nI i from nI_nlt (a := 4) (by omega) (by decide)), peek_e hX (hT.go _) (by omega)]
    simp only [ob]
    rw [ltr_c _ (by omega), c]
    simp only
    rw [if_neg (by decide), readLetter_1 hX (hT.go _) (by omega) c]
    simp only [ob2, lt']
    have hl : lg x a i = tk x (a + i) - 96 := by
      unfold lg
      rw [if_pos c]
    have h8 := lg_lt (x := x) (a := a) i
    have hc := codeN_lt (f := lg x a) lg_lt i
    rw [at1_at1, nI_1, i_lit 3, pk_mul, ← hl]
    have hb : lg x a i * 2 ^ (3 * i) < 2 ^ 32 := by
      have h1 : 2 ^ (3 * i) ≤ 2 ^ 12 := Nat.pow_le_pow_right (by decide) (by omega)
      have : lg x a i * 2 ^ (3 * i) ≤ 7 * 2 ^ 12 := Nat.mul_le_mul (by omega) h1
      omega
    rw [i_shl (by omega) hb, i_or]
    have e1 : codeN (lg x a) i ||| lg x a i * 2 ^ (3 * i) = codeN (lg x a) (i + 1) := by
      have := Nat.two_pow_add_eq_or_of_lt hc (lg x a i)
      rw [Nat.or_comm, Nat.mul_comm, ← this, Nat.mul_comm, Nat.add_comm]
      rfl
    rw [e1, show a + i + 1 = a + (i + 1) by omega]
  · have k1 := tk_le hX (a + nl x a)
    unfold f_X2_readWord_b7
    simp only
    rcases Nat.lt_or_ge (nl x a) 5 with q | q
    · rw [if_neg (show ¬ (4 : Int32) < nI (nl x a) from nI_nlt (a := 4) (by omega) (by decide)), peek_e hX (hT.go _) (by omega)]
      simp only [ob]
      rw [ltr_c _ (by omega)]
      simp only [nl_out q, b2i, Bool.false_eq_true, if_false]
      rw [if_pos (by decide)]
    · rw [if_pos (show (4 : Int32) < nI (nl x a) from nI_lt (a := 4) (by omega) (by omega))]
theorem code_cdf (h : nl x a ≤ 4) : codeN (lg x a) (nl x a) = cdf (wf x a (nl x a)) := by
  have key : ∀ k, k < nl x a → lg x a k = tk x (a + k) - 96 := fun k hk => by rw [lg, if_pos (nl_in hk)]
  generalize nl x a = m at *
  unfold cdf wf
  rcases (show m = 0 ∨ m = 1 ∨ m = 2 ∨ m = 3 ∨ m = 4 by omega) with rfl | rfl | rfl | rfl | rfl
  · rfl
  · rw [← key 0 (by decide)]; simp [codeN]
  · rw [← key 0 (by decide), ← key 1 (by decide)]; simp [codeN]; omega
  · rw [← key 0 (by decide), ← key 1 (by decide), ← key 2 (by decide)]; simp [codeN]; omega
  · rw [← key 0 (by decide), ← key 1 (by decide), ← key 2 (by decide), ← key 3 (by decide)]; simp [codeN]; omega
theorem wf_ok : WOK (nl x a) (wf x a (nl x a)) := by
  refine ⟨fun k hk => ?_, fun k hk => ?_⟩
  · have := ltrB_ge (nl_in hk)
    unfold wf
    rw [if_pos hk]
    omega
  · unfold wf
    rw [if_neg (by omega)]
theorem DOK.wd6 (hO : DOK S P g) {w : Nat} (hw : w < sW S) (k : Nat) : swd S w k ≤ 6 := by
  have h := hO.2.2.2.2.2.2.1 w hw
  rcases Nat.lt_or_ge k (swl S w) with q | q
  · exact (h.2.1 k q).2
  · rw [h.2.2 k q]; decide
theorem cdf_lt (hf : ∀ k, f k ≤ 6) : cdf f < 4096 := by
  have h0 := hf 0
  have h1 := hf 1
  have h2 := hf 2
  have h3 := hf 3
  unfold cdf
  omega
theorem isListed_e (hO : DOK S P g) (hC : CR S P s mem) (hf : ∀ k, f k ≤ 6) : f_X5_isListed s (nI (cdf f)) mem = some (b2i (listB S f)) := by
  have h9 := hO.2.2.2.1
  have hb := cdf_lt hf
  unfold f_X5_isListed
  rw [lp_all (fun w => !sameB (swd S w) f) (sW S) 1 (by omega)]
  · unfold listB
    cases allB (fun w => !sameB (swd S w) f) (sW S) <;> rfl
  · intro w hw
    unfold f_X5_isListed_b2
    have hb2 := cdf_lt (hO.wd6 hw)
    rw [hC.1.1.2.2.2.1, if_neg (nI_ge hw (by omega)), rd_e w rfl (by omega) (by decide) (hC.1.2.2.2.1 w hw).2]
    have hi := same_iff (hO.wd6 hw) hf
    by_cases c : sameB (swd S w) f = true
    · rw [if_pos (show nI (scd S w) = nI (cdf f) from congrArg nI (hi.mp c)), c]
      rfl
    · rw [if_neg (show ¬ nI (scd S w) = nI (cdf f) from fun z => c (hi.mpr ((nI_eq (show scd S w < 2 ^ 31 from Nat.lt_trans hb2 (by decide)) (by omega)).mp z)))]
      simp only [lt', nI_1, c]
      rfl
  · unfold f_X5_isListed_b2
    rw [hC.1.1.2.2.2.1, if_pos (nI_le (Nat.le_refl _) (by omega))]
theorem addWord_0 {l l2 : Int32} (h : l2 < 2 ∨ 4 < l2) : f_X5_addWord s l l2 mem = some (0, mem) := by
  unfold f_X5_addWord
  by_cases a : l2 < 2
  · rw [if_pos a]
  · rw [if_neg a, if_pos (h.resolve_left a)]
theorem addWord_n (hO : DOK S P g) (hC : CR S P s mem) (h2 : 2 ≤ n) (h4 : n ≤ 4) (hf : ∀ k, f k ≤ 6) (h : ¬ sW S < 9 ∨ listB S f = true) : f_X5_addWord s (nI (cdf f)) (nI n) mem = some (0, mem) := by
  have h9 := hO.2.2.2.1
  unfold f_X5_addWord
  rw [if_neg (show ¬ nI n < 2 from nI_nlt (b := 2) h2 (by omega)), if_neg (show ¬ (4 : Int32) < nI n from nI_nlt (a := 4) h4 (by decide)), hC.1.1.2.2.2.1]
  by_cases c : sW S < 9
  · rw [if_neg (show ¬ (9 : Int32) ≤ nI (sW S) from nI_ge (b := 9) c (by decide)), isListed_e hO hC hf, h.resolve_left (fun z => z c)]
    simp only [ob]
    rw [if_neg (by decide)]
  · rw [if_pos (show (9 : Int32) ≤ nI (sW S) from nI_le (a := 9) (by omega) (by omega))]
theorem dw_E (W : Nat) (u : Nat → Nat) (v : Nat → Nat → Nat) (n : Nat) (f : Nat → Nat) (k l : Nat) : bm (fun w => decide (k < (if w = W then n else u w)) && (if w = W then f else v w) k == l) W = bm (fun w => decide (k < u w) && v w k == l) W := by
  refine bm_congr (fun w hw => ?_)
  have : ¬ w = W := by omega
  simp only [this, if_false]
theorem addWord_1 (hO : DOK S P g) (hC : CR S P s mem) (h2 : 2 ≤ n) (h4 : n ≤ 4) (hf : WOK n f) (h9 : sW S < 9) (hl : ¬ listB S f = true) : ∃ m', f_X5_addWord s (nI (cdf f)) (nI n) mem = some (1, m') ∧ CR (DW S n f) P s m' ∧ ∀ a, (a < s ∨ s + 13 < a) → m' a = mem a := by
  have hcl := cdf_lt hf.le
  have hl' : listB S f = false := by simpa using hl
  have E1 : ∀ k l, swl (DW S n f) k = (if k = sW S then n else swl S k) ∧ swd (DW S n f) k l = (if k = sW S then f else swd S k) l := fun k l => ⟨rfl, rfl⟩
  unfold f_X5_addWord
  rw [if_neg (show ¬ nI n < 2 from nI_nlt (b := 2) h2 (by omega)), if_neg (show ¬ (4 : Int32) < nI n from nI_nlt (a := 4) h4 (by decide)), hC.1.1.2.2.2.1, if_neg (show ¬ (9 : Int32) ≤ nI (sW S) from nI_ge (b := 9) h9 (by decide)), isListed_e hO hC hf.le, hl']
  simp only [ob]
  rw [if_pos (by decide), wr_nI h9 (by decide)]
  generalize hm1 : mset mem (s + 6) (sW S) (nI (cdf f)) = m1
  have g1 : ∀ a, a ≠ s + 6 → m1 a = mem a := fun a z => by rw [← hm1, mset_ne z]
  rw [show m1 s 7 = nI (sW S) by rw [g1 s (by omega)]; exact hC.1.1.2.2.2.1, wr_nI h9 (by decide)]
  generalize hm2 : mset m1 (s + 5) (sW S) (nI n) = m2
  have g2 : ∀ a, a ≠ s + 5 → m2 a = m1 a := fun a z => by rw [← hm2, mset_ne z]
  rw [rd_e n rfl (by omega) (by decide) (show m2 (s + 7) n = nI (bm (fun w => swl S w == n) (sW S)) by rw [g2 _ (by omega), g1 _ (by omega)]; exact hC.1.2.2.2.2.1 n (by omega)), wr_nI (by omega) (by decide), show m2 s 7 = nI (sW S) by rw [g2 s (by omega), g1 s (by omega)]; exact hC.1.1.2.2.2.1, i_orb (by omega)]
  generalize hm3 : mset m2 (s + 7) n (nI (bm (fun w => swl S w == n) (sW S) + 2 ^ sW S)) = m3
  have g3 : ∀ a, a ≠ s + 7 → m3 a = m2 a := fun a z => by rw [← hm3, mset_ne z]
  have g03 : ∀ a, a ≠ s + 5 → a ≠ s + 6 → a ≠ s + 7 → m3 a = mem a := fun a z1 z2 z3 => by rw [g3 a z3, g2 a z1, g1 a z2]
  obtain ⟨r, hr, ⟨hr0, hr1⟩⟩ := lp_invF (body := f_X5_addWord_b66 s (nI (cdf f)) (nI n)) (fun k q => q.1 = nI k ∧ (∀ a, a ≠ s + 8 → q.2 a = m3 a) ∧ ∀ k' l, k' < 4 → l < 7 → q.2 (s + 8) (k' * 7 + l) = nI (bm (fun w => decide (k' < (if w = sW S then n else swl S w)) && (if w = sW S then f else swd S w) k' == l) (if k' < k then sW S + 1 else sW S))) n (fun r => (∀ a, a ≠ s + 8 → r.2 a = m3 a) ∧ ∀ k' l, k' < 4 → l < 7 → r.2 (s + 8) (k' * 7 + l) = nI (bm (fun w => decide (k' < (if w = sW S then n else swl S w)) && (if w = sW S then f else swd S w) k' == l) (if k' < n then sW S + 1 else sW S))) (by omega) (q := (0, m3)) ⟨rfl, fun _ _ => rfl, fun k' l hk hl => by
      rw [if_neg (Nat.not_lt_zero _), dw_E]
      show m3 _ _ = _
      rw [g03 _ (by omega) (by omega) (by omega)]
      exact hC.1.2.2.2.2.2.1 k' l hk hl⟩ (fun k q hk hq => by
      left
      obtain ⟨q1, q2, q3⟩ := hq
      have hfk := hf.le k
      have hdig := cd_dig (v := f) (k := k) (a := f 0) (b := f 1) (c := f 2) (d := f 3) (by have := hf.le 0; omega) (by have := hf.le 1; omega) (by have := hf.le 2; omega) (by have := hf.le 3; omega) (by omega) rfl rfl rfl rfl
      unfold f_X5_addWord_b66
      rw [q1, if_neg (nI_ge hk (by omega)), letterOf_e (by omega) (by omega), show cdf f / 2 ^ (3 * k) % 8 = f k from hdig]
      simp only [ob]
      rw [rd_e (k * 7 + f k) (by rw [i_lit 7, pk_mul, nI_add]) (by omega) (by decide) (q3 k (f k) (by omega) (by omega)), wr_e (k * 7 + f k) (by rw [i_lit 7, pk_mul, nI_add]) (by omega) (by decide), show q.2 s 7 = nI (sW S) by rw [q2 s (by omega), g03 s (by omega) (by omega) (by omega)]; exact hC.1.1.2.2.2.1, if_neg (Nat.lt_irrefl k), i_orb (by omega)]
      simp only [lt']
      rw [nI_1]
      refine ⟨_, rfl, rfl, fun a z => by rw [show ∀ (u : Int32) (v : Mem), (u, v).2 a = v a from fun _ _ => rfl, mset_ne z, q2 a z], fun k' l hk' hl => ?_⟩
      show mset q.2 (s + 8) (k * 7 + f k) _ (s + 8) (k' * 7 + l) = _
      rw [mset_at]
      by_cases e : k' = k
      · subst e
        rw [if_pos (show k' < k' + 1 by omega)]
        by_cases e2 : l = f k'
        · subst e2
          rw [if_pos ⟨rfl, rfl⟩]
          congr 1
          show _ = _ + _
          rw [if_pos]
          simp [hk]
        · rw [if_neg (by intro z; apply e2; omega), q3 k' l hk' hl, if_neg (Nat.lt_irrefl _)]
          congr 1
          show _ = _ + _
          rw [if_neg]
          · rfl
          · simp
            intro _ z
            exact e2 z.symm
      · rw [if_neg (by intro z; apply e; omega), q3 k' l hk' hl]
        by_cases e3 : k' < k
        · rw [if_pos e3, if_pos (by omega)]
        · rw [if_neg e3, if_neg (by omega)]) (fun q hq => by
      obtain ⟨q1, q2, q3⟩ := hq
      unfold f_X5_addWord_b66
      rw [q1, if_pos (nI_le (Nat.le_refl _) (by omega))]
      exact ⟨_, rfl, q2, q3⟩)
  rw [hr]
  simp only [lt']
  generalize hm4 : r.2 = m4 at hr0 hr1
  have g4 : ∀ a, a ≠ s + 5 → a ≠ s + 6 → a ≠ s + 7 → a ≠ s + 8 → m4 a = mem a := fun a z1 z2 z3 z4 => by rw [hr0 a z4, g03 a z1 z2 z3]
  have s4 : m4 s = mem s := g4 s (by omega) (by omega) (by omega) (by omega)
  rw [s4, hC.1.1.2.2.2.1, nI_1]
  have g5 : ∀ a, a ≠ s → mset m4 s 7 (nI (sW S + 1)) a = m4 a := fun a z => mset_ne z
  refine ⟨_, rfl, ⟨⟨⟨?_, ?_, ?_, mset_eq, ?_⟩, ?_, ?_, ?_, ?_, ?_, ?_⟩, hC.2.keep (fun a _ _ => by rw [g5 a (by omega), g4 a (by omega) (by omega) (by omega) (by omega)])⟩, fun a z => by rw [g5 a (by omega), g4 a (by omega) (by omega) (by omega) (by omega)]⟩
  · rw [mset_k (by decide), s4]; exact hC.1.1.1
  · rw [mset_k (by decide), s4]; exact hC.1.1.2.1
  · rw [mset_k (by decide), s4]; exact hC.1.1.2.2.1
  · rw [mset_k (by decide), s4]; exact hC.1.1.2.2.2.2
  · rw [g5 _ (by omega), g4 _ (by omega) (by omega) (by omega) (by omega)]; exact hC.1.2.1
  · rw [g5 _ (by omega), g4 _ (by omega) (by omega) (by omega) (by omega), g5 _ (by omega), g4 _ (by omega) (by omega) (by omega) (by omega), g5 _ (by omega), g4 _ (by omega) (by omega) (by omega) (by omega)]; exact hC.1.2.2.1
  · intro w hw
    have hw' : w < sW S + 1 := hw
    rw [g5 _ (by omega), g5 _ (by omega), hr0 _ (by omega), hr0 _ (by omega), g3 _ (by omega), g3 _ (by omega), g2 (s + 6) (by omega)]
    by_cases e : w = sW S
    · subst e
      constructor
      · rw [← hm2, mset_eq]
        show _ = nI (if sW S = sW S then n else swl S (sW S))
        rw [if_pos rfl]
      · rw [← hm1, mset_eq]
        show _ = nI (cdf (if sW S = sW S then f else swd S (sW S)))
        rw [if_pos rfl]
    · have hc := hC.1.2.2.2.1 w (by omega)
      constructor
      · rw [← hm2, mset_k e, g1 _ (by omega), hc.1]
        show _ = nI (if w = sW S then n else swl S w)
        rw [if_neg e]
      · rw [← hm1, mset_k e, hc.2]
        show _ = nI (cdf (if w = sW S then f else swd S w))
        rw [if_neg e]
        rfl
  · intro m hm
    rw [g5 _ (by omega), hr0 _ (by omega)]
    show _ = nI (bm (fun w => (if w = sW S then n else swl S w) == m) (sW S + 1))
    have e0 : bm (fun w => (if w = sW S then n else swl S w) == m) (sW S) = bm (fun w => swl S w == m) (sW S) := by
      refine bm_congr (fun w hw => ?_)
      have : ¬ w = sW S := by omega
      simp only [this, if_false]
    rw [← hm3, mset_at]
    by_cases e : m = n
    · rw [if_pos ⟨rfl, e⟩]
      congr 1
      show _ = _ + _
      rw [e0, if_pos (by simp [e]), e]
    · rw [if_neg (fun z => e z.2), g2 _ (by omega), g1 _ (by omega), hC.1.2.2.2.2.1 m hm]
      congr 1
      show _ = _ + _
      rw [e0, if_neg]
      · rfl
      · simp
        exact fun z => e z.symm
  · intro k l hk hl
    rw [g5 _ (by omega), hr1 k l hk hl]
    show _ = nI (bm (fun w => decide (k < (if w = sW S then n else swl S w)) && (if w = sW S then f else swd S w) k == l) (sW S + 1))
    by_cases e : k < n
    · rw [if_pos e]
    · rw [if_neg e]
      congr 1
      show _ = _ + _
      rw [if_neg]
      · rfl
      · simp
        intro z
        omega
  · intro i hi
    rw [g5 _ (by omega), g4 _ (by omega) (by omega) (by omega) (by omega)]
    exact hC.1.2.2.2.2.2.2 i hi
def tokW (x : Nat × (Nat → Nat)) (S : Sh) (a : Nat) : Prop := 2 ≤ nl x a ∧ nl x a ≤ 4 ∧ tk x (a + nl x a) = 59 ∧ sW S < 9 ∧ listB S (wf x a (nl x a)) = false
theorem word_c (hX : XOK x) (hO : DOK S P g) (hs : 3 ≤ s) (hC : CR S P s mem) (hT : TX x a mem) (ha : a < 300) : (tokW x S a → ∃ m', f_X2_readWord s mem = some (1, m') ∧ CR (DW S (nl x a) (wf x a (nl x a))) P s m' ∧ TX x (a + nl x a + 1) m' ∧ GC s mem m') ∧ (¬ tokW x S a → ∃ m', f_X2_readWord s mem = some (0, m') ∧ GC s mem m') := by
  have hn := nl_le (x := x) (a := a)
  have k1 := tk_le hX (a + nl x a)
  unfold f_X2_readWord
  rw [readWord_lp hX hT ha]
  simp only [ob]
  unfold f_X2_readWord_j44
  rw [next_e hX (hT.go _) (by omega)]
  simp only [ob2]
  rw [at1_at1]
  by_cases c : tk x (a + nl x a) = 59
  · rw [if_pos (show nI (tk x (a + nl x a)) = 59 by rw [c]; rfl)]
    have C4 := hC.go (by omega) (a + nl x a + 1)
    by_cases e : 2 ≤ nl x a ∧ nl x a ≤ 4
    · rw [code_cdf e.2]
      by_cases e2 : sW S < 9 ∧ ¬ listB S (wf x a (nl x a)) = true
      · obtain ⟨m1, q1, q2, q3⟩ := addWord_1 hO C4 e.1 e.2 wf_ok e2.1 e2.2
        rw [q1]
        simp only
        rw [if_neg (by decide)]
        exact ⟨fun _ => ⟨_, rfl, q2, (hT.go (a + nl x a + 1)).keep (q3 1 (by omega)) (q3 2 (by omega)), GC.go.tr (GC.of (by omega) q3)⟩, fun z => absurd ⟨e.1, e.2, c, e2.1, by simpa using e2.2⟩ z⟩
      · rw [addWord_n hO C4 e.1 e.2 wf_ok.le (by
          by_cases q : sW S < 9
          · exact Or.inr (Classical.byContradiction fun z => e2 ⟨q, z⟩)
          · exact Or.inl q)]
        simp only
        rw [if_pos trivial]
        exact ⟨fun z => absurd ⟨z.2.2.2.1, by rw [z.2.2.2.2]; decide⟩ e2, fun _ => ⟨_, rfl, GC.go⟩⟩
    · rw [addWord_0 (by
        rcases Nat.lt_or_ge (nl x a) 2 with q | q
        · exact Or.inl (nI_lt (b := 2) q (by decide))
        · exact Or.inr (nI_lt (a := 4) (by omega) (by omega)))]
      simp only
      rw [if_pos trivial]
      exact ⟨fun z => absurd ⟨z.1, z.2.1⟩ e, fun _ => ⟨_, rfl, GC.go⟩⟩
  · rw [if_neg (show ¬ nI (tk x (a + nl x a)) = 59 from lit_ne (n := 59) c (by omega) (by decide))]
    exact ⟨fun z => absurd z.2.2.1 c, fun _ => ⟨_, rfl, GC.go⟩⟩
end WDC
