/-! the class's search as a whole -/
section FLC
variable {S : Sh} {s : Nat}
theorem put6 (hO : SOK S) {L : Nat → Nat} (hL6 : ∀ x, x < 16 → L x ≤ 6) {p w : Nat} (hp : p < sP S) (hw : w < sW S) : ∀ x, x < 16 → putW S L p w x ≤ 6 := by
  intro x hx
  unfold putW
  by_cases h : ∃ k, k < spl S p ∧ ssq S p k = x
  · obtain ⟨k, hk, rfl⟩ := h
    rw [wrN_in _ (fun a b _ _ e => hO.inj hp e) hk]
    exact hO.wd6 hw k
  · rw [wrN_out _ (fun k hk e => h ⟨k, hk, e⟩)]
    exact hL6 x hx
/-- over the same squares it matters not what stood there -/
theorem wrN_over (hO : SOK S) {L L1 v : Nat → Nat} {p : Nat} (hp : p < sP S) (h : ∀ x, x < 16 → (∀ k, k < spl S p → ssq S p k ≠ x) → L1 x = L x) : ∀ x, x < 16 → wrN L1 (ssq S p) v (spl S p) x = wrN L (ssq S p) v (spl S p) x := by
  intro x hx
  by_cases hk : ∃ k, k < spl S p ∧ ssq S p k = x
  · obtain ⟨k, hk, rfl⟩ := hk
    rw [wrN_in _ (fun a b _ _ e => hO.inj hp e) hk, wrN_in _ (fun a b _ _ e => hO.inj hp e) hk]
  · have hn : ∀ k, k < spl S p → ssq S p k ≠ x := fun k h1 e => hk ⟨k, h1, e⟩
    rw [wrN_out _ hn, wrN_out _ hn]
    exact h x hx hn
theorem QB_fold {f : Nat → FSt → FSt} : ∀ k q, (∀ w q, w < k → QB q → QB (f w q)) → QB q → QB (foldW f k q) := by
  intro k
  induction k with
  | zero => intro q _ h; exact h
  | succ k ih => intro q hf h; exact hf k _ (by omega) (ih q (fun w q hw => hf w q (by omega)) h)
theorem QB_dfs (hO : SOK S) : ∀ n p L c q, p + n = sP S → (∀ x, x < 16 → L x ≤ 6) → QB q → QB (dfs S n p L c q) := by
  intro n
  induction n with
  | zero => intro p L c q _ hL h; exact QB_rcd h hL
  | succ n ih =>
    intro p L c q hp hL h
    rw [dfs]
    refine QB_fold _ _ (fun w q hw hq => ?_) h
    split
    · exact ih _ _ _ _ (by omega) (put6 hO hL (by omega) hw) hq
    · exact hq
theorem fill_e (hO : SOK S) (hs : s + 9 < 44) : ∀ n p f q L c m, p + n = sP S → n < f → CS S s m → (∀ x, x < 16 → m 46 x = nI (L x)) → (∀ x, x < 16 → L x ≤ 6) → (∀ j, j < p → m 49 j = nI (c j)) → FC S q m → q.1 + 9 ^ n < 2 ^ 30 → QB q →
    ∃ m', f_X4_fill s f (nI p) m = some m' ∧ FC S (dfs S n p L c q) m' ∧ (∀ x, x < 16 → m' 46 x = nI (L x)) ∧ (∀ j, j < p → m' 49 j = nI (c j)) ∧ ∀ a, a < 44 ∨ 51 < a → m' a = m a := by
  have hp8 := hO.p8
  have hw9 := hO.w9
  intro n
  induction n with
  | zero =>
    intro p f q L c m hp hf hC hL hL6 hc hF hq hB
    obtain ⟨g, rfl⟩ : ∃ g, f = g + 1 := ⟨f - 1, by omega⟩
    have hp' : p = sP S := by omega
    subst hp'
    obtain ⟨m', e, h1, h2⟩ := record_e hO hL hL6 hc hF (by omega) hB
    refine ⟨m', ?_, h1, fun x hx => by rw [h2 46 (by decide) (by decide) (by decide)]; exact hL x hx, fun j hj => by rw [h2 49 (by decide) (by decide) (by decide)]; exact hc j hj, fun a ha => h2 a (by omega) (by omega) (by omega)⟩
    rw [f_X4_fill]
    unfold f_X4_fill_body
    rw [hC.1.2.2.1, if_neg (nI_nlt (Nat.le_refl _) (by omega)), e]
    rfl
  | succ n ih =>
    intro p f q L c m hp hf hC hL hL6 hc hF hq hB
    obtain ⟨g, rfl⟩ : ∃ g, f = g + 1 := ⟨f - 1, by omega⟩
    have hps : p < sP S := by omega
    have hpl := hO.pl hps
    generalize hFd : (fun (w : Nat) (q : FSt) => if likeB S L p w then dfs S n (p + 1) (putW S L p w) (chs c p w) q else q) = F
    have hFw : ∀ w q, F w q = if likeB S L p w then dfs S n (p + 1) (putW S L p w) (chs c p w) q else q := fun w q => by rw [← hFd]
    have hdf : dfs S (n + 1) p L c q = foldW F (sW S) q := by rw [dfs, hFd]
    have hcnt : ∀ w, (foldW F w q).1 ≤ q.1 + w * 9 ^ n := fun w => foldW_cnt w q (fun w q _ => by
      rw [hFw]
      split
      · exact dfs_cnt hO _ _ _ _ _
      · exact Nat.le_add_right _ _)
    have hQB : ∀ w, w ≤ sW S → QB (foldW F w q) := fun w hw => QB_fold _ _ (fun v q hv hq => by
      rw [hFw]
      split
      · exact QB_dfs hO _ _ _ _ _ (by omega) (put6 hO hL6 hps (by omega)) hq
      · exact hq) hB
    obtain ⟨r, er, m1, L1, rfl, h1, h2, h3, h4, h5⟩ := lp_invF (body := f_X4_fill_b37 s (f_X4_fill s g) (nI p) (nI (codN S L p (spl S p))) (nI (bm (fun w => likeB S L p w) (sW S)))) (fun w st => ∃ (m1 : Mem) (L1 : Nat → Nat), st = (nI w, m1) ∧ FC S (foldW F w q) m1 ∧ (∀ x, x < 16 → m1 46 x = nI (L1 x)) ∧ (∀ x, x < 16 → (∀ k, k < spl S p → ssq S p k ≠ x) → L1 x = L x) ∧ (∀ j, j < p → m1 49 j = nI (c j)) ∧ ∀ a, a < 44 ∨ 51 < a → m1 a = m a) (sW S) (fun r => ∃ (m1 : Mem) (L1 : Nat → Nat), r = (nI (sW S), m1) ∧ FC S (foldW F (sW S) q) m1 ∧ (∀ x, x < 16 → m1 46 x = nI (L1 x)) ∧ (∀ x, x < 16 → (∀ k, k < spl S p → ssq S p k ≠ x) → L1 x = L x) ∧ (∀ j, j < p → m1 49 j = nI (c j)) ∧ ∀ a, a < 44 ∨ 51 < a → m1 a = m a) (by omega) (q := (0, m)) ⟨m, L, rfl, hF, hL, fun _ _ _ => rfl, hc, fun _ _ => rfl⟩
      (fun w st hw hI => by
        obtain ⟨m1, L1, rfl, h1, h2, h3, h4, h5⟩ := hI
        have hC1 := hC.keep (mem' := m1) (fun a _ _ => h5 a (by omega))
        have hst : foldW F (w + 1) q = if likeB S L p w then dfs S n (p + 1) (putW S L p w) (chs c p w) (foldW F w q) else foldW F w q := by rw [foldW, hFw]
        refine Or.inl ?_
        unfold f_X4_fill_b37
        simp only
        rw [hC1.1.2.2.2.1, if_neg (nI_ge hw (by omega)), i_bit (by omega) (by omega)]
        cases hl : likeB S L p w with
        | false =>
          rw [hl] at hst
          rw [if_neg (show ¬ (w < sW S ∧ false = true) from fun z => by cases z.2), if_pos nI_0, hst]
          simp only [lt', nI_1]
          exact ⟨_, rfl, m1, L1, rfl, h1, h2, h3, h4, h5⟩
        | true =>
          rw [hl, if_pos rfl] at hst
          rw [if_pos (show (w < sW S ∧ true = true) from ⟨hw, rfl⟩), if_neg (show ¬ nI 1 = 0 by decide), wr_nI (show p < 8 by omega) (by decide)]
          generalize hm2 : mset m1 49 p (nI w) = m2
          have f2 : ∀ a, a ≠ 49 → m2 a = m1 a := fun a h => by rw [← hm2, mset_ne h]
          have hC2 := hC1.keep (mem' := m2) (fun a _ _ => f2 a (by omega))
          rw [rd_e w rfl (by omega) (by decide) (hC2.2.2.2.1 w hw).2, put_e (t := 45) hO hC2 ⟨by omega, by omega⟩ (Nat.lt_trans (scd_lt hO hw) (by decide)) (fun j hj => scd_dig hO hw hj) hps]
          simp only [ob]
          generalize hm3 : wrK m2 (45 + 1) (ssq S p) (swd S w) (spl S p) = m3
          have f3 : ∀ a, a ≠ 46 → m3 a = m2 a := fun a h => by rw [← hm3, wrK_ne h]
          have hL3 : ∀ x, x < 16 → m3 46 x = nI (putW S L p w x) := fun x hx => by
            rw [← hm3]
            show wrK m2 46 (ssq S p) (swd S w) (spl S p) 46 x = _
            rw [wrK_at (L := L1) (by rw [f2 46 (by decide)]; exact h2 x hx), wrN_over hO hps h3 x hx]
            rfl
          have hC3 := hC2.keep (mem' := m3) (fun a _ _ => f3 a (by omega))
          have h46 : ∀ x, x < 16 → (∀ k, k < spl S p → ssq S p k ≠ x) → putW S L p w x = L x := fun x _ hn => wrN_out _ hn
          have hc3 : ∀ j, j < p + 1 → m3 49 j = nI (chs c p w j) := fun j hj => by
            rw [f3 49 (by decide), ← hm2, mset_at]
            unfold chs
            by_cases he : j = p
            · rw [if_pos ⟨rfl, he⟩, if_pos he]
            · rw [if_neg (fun z => he z.2), if_neg he]
              exact h4 j (by omega)
          have hc3' : ∀ j, j < p → m3 49 j = nI (c j) := fun j hj => by
            rw [hc3 j (by omega)]
            unfold chs
            rw [if_neg (by omega)]
          have hF3 : FC S (foldW F w q) m3 := h1.keep (by rw [f3 44 (by decide), f2 44 (by decide)]) (by rw [f3 50 (by decide), f2 50 (by decide)]) (by rw [f3 51 (by decide), f2 51 (by decide)])
          have fr3 : ∀ a, a < 44 ∨ 51 < a → m3 a = m a := fun a ha => by rw [f3 a (by omega), f2 a (by omega), h5 a ha]
          rw [nI_1]
          rcases canGoOn_e (p := p + 1) hO hC3 hL3 (put6 hO hL6 hps hw) (by omega) with hg | ⟨hg, hd⟩
          · have hcw := hcnt w
            have hmul : (w + 1) * 9 ^ n ≤ 9 * 9 ^ n := Nat.mul_le_mul_right _ (by omega)
            rw [Nat.succ_mul] at hmul
            rw [Nat.pow_succ, Nat.mul_comm] at hq
            obtain ⟨m4, e4, k1, k2, k3, k4⟩ := ih (p + 1) g (foldW F w q) (putW S L p w) (chs c p w) m3 (by omega) (by omega) hC3 hL3 (put6 hO hL6 hps hw) hc3 hF3 (by omega) (hQB w (by omega))
            rw [hg]
            simp only
            rw [if_neg (by decide), e4]
            simp only [lt', nI_1]
            refine ⟨_, rfl, m4, putW S L p w, rfl, by rw [hst]; exact k1, k2, h46, fun j hj => ?_, fun a ha => by rw [k4 a ha, fr3 a ha]⟩
            rw [k3 j (by omega)]
            unfold chs
            rw [if_neg (by omega)]
          · rw [hg]
            simp only [lt', nI_1]
            rw [if_pos trivial]
            refine ⟨_, rfl, m3, putW S L p w, rfl, ?_, hL3, h46, hc3', fr3⟩
            rw [hst, dfs_dead hO _ _ _ _ _ (by omega) hd]
            exact hF3)
      (fun st hI => by
        obtain ⟨m1, L1, rfl, h⟩ := hI
        have hC1 := hC.keep (mem' := m1) (fun a _ _ => h.2.2.2.2 a (by omega))
        unfold f_X4_fill_b37
        simp only
        rw [hC1.1.2.2.2.1, if_pos (nI_le (Nat.le_refl _) (by omega))]
        exact ⟨_, rfl, m1, L1, rfl, h⟩)
    have hC1 := hC.keep (mem' := m1) (fun a _ _ => h5 a (by omega))
    have hcl := cod_lt hO hps hL6 (spl S p) (Nat.le_refl _)
    have hc12 : 2 ^ (3 * spl S p) ≤ 2 ^ 12 := Nat.pow_le_pow_right (by decide) (by omega)
    have ep := put_e (t := 45) hO hC1 ⟨by omega, by omega⟩ (show codN S L p (spl S p) < 2 ^ 31 by omega) (fun k hk => cod_dig hO hL6 hps hk) hps
    refine ⟨wrK m1 (45 + 1) (ssq S p) (fun k => if k < spl S p then L (ssq S p k) else 0) (spl S p), ?_, ?_, fun x hx => ?_, fun j hj => ?_, fun a ha => ?_⟩
    · rw [f_X4_fill]
      unfold f_X4_fill_body
      rw [hC.1.2.2.1, if_pos (nI_lt hps (by omega)), codeOf_e (t := 45) hO hC hL hL6 hps, agreeing_e (t := 45) hO hC hL hL6 hps]
      simp only [ob]
      rw [er]
      simp only
      rw [ep]
    · rw [hdf]
      exact h1.keep (wrK_ne (by decide) _) (wrK_ne (by decide) _) (wrK_ne (by decide) _)
    · show wrK m1 46 (ssq S p) (fun k => if k < spl S p then L (ssq S p k) else 0) (spl S p) 46 x = _
      rw [wrK_at (h2 x hx), wrN_over hO hps h3 x hx]
      congr 1
      by_cases hk : ∃ k, k < spl S p ∧ ssq S p k = x
      · obtain ⟨k, hk, rfl⟩ := hk
        rw [wrN_in _ (fun a b _ _ e => hO.inj hps e) hk, if_pos hk]
      · exact wrN_out _ (fun k h1 e => hk ⟨k, h1, e⟩)
    · rw [wrK_ne (by decide)]
      exact h4 j hj
    · rw [wrK_ne (by omega)]
      exact h5 a ha
end FLC
