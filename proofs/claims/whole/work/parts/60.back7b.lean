section BK7
variable {S : Sh}
def ZM (q : FSt) : Prop := q.1 = 0 → q.2.2.1 = 0
theorem ZM_fold {f : Nat → FSt → FSt} : ∀ k q, (∀ w q, ZM q → ZM (f w q)) → ZM q → ZM (foldW f k q) := by
  intro k
  induction k with
  | zero => intro q _ h; exact h
  | succ k ih => intro q hf h; exact hf k _ (ih q hf h)
theorem ZM_dfs : ∀ n p L c q, ZM q → ZM (dfs S n p L c q) := by
  intro n
  induction n with
  | zero => intro p L c q _ h; exact absurd h (Nat.succ_ne_zero _)
  | succ n ih =>
    intro p L c q h
    rw [dfs]
    refine ZM_fold _ _ (fun w q hq => ?_) h
    split
    · exact ih _ _ _ _ hq
    · exact hq
theorem put0 (hO : SOK S) {L : Nat → Nat} (hL0 : ∀ x, x < 16 → sR S * sC S ≤ x → L x = 0) {p w : Nat} (hp : p < sP S) : ∀ x, x < 16 → sR S * sC S ≤ x → putW S L p w x = 0 := by
  intro x hx h
  unfold putW
  rw [wrN_out _ (fun k hk e => by have := ((hO.2.2.2.2.2.2.1 p hp).2.2 k hk).1; omega)]
  exact hL0 x hx h
/-- what stays while places from p on are tried -/
def BK (S : Sh) (p : Nat) (c : Nat → Nat) (m m' : Mem) : Prop := (∀ y, y < 16 * (p + 1) → m' 83 y = m 83 y) ∧ (∀ j, j < p → m' 84 j = nI (c j)) ∧ (∀ a, a ≠ 62 → (a < 83 ∨ 86 < a) → m' a = m a) ∧ ∀ k, k ≠ 38 → k ≠ 39 → m' 62 k = m 62 k
theorem BK.ms {p : Nat} {c : Nat → Nat} {m m' : Mem} (h : BK S p c m m') (hM : MS S m) : MS S m' := hM.keep (fun a _ _ => h.2.2.2 a (by omega) (by omega)) (fun a _ _ => h.2.2.1 a (by omega) (by omega))
theorem back_e (hO : SOK S) : ∀ n p L c q m, p + (n + 1) = sP S → MS S m → (∀ x, x < 16 → m 83 (16 * p + x) = nI (L x)) → (∀ x, x < 16 → L x ≤ 6) → (∀ x, x < 16 → sR S * sC S ≤ x → L x = 0) → (∀ j, j < p → m 84 j = nI (c j)) → m 84 p = -1 → FM S q m → q.1 + 9 ^ (n + 1) < 2 ^ 30 → QB q → ZM q →
    ∃ N m', N ≤ Tn (n + 1) ∧ Rch f_X7_layFillings_b64 N (nI p, m) (nI p + -1, m') ∧ FM S (dfs S (n + 1) p L c q) m' ∧ BK S p c m m' := by
  have hp8 := hO.p8
  have hw9 := hO.w9
  intro n
  induction n using Nat.strongRecOn with
  | ind n ihn =>
    intro p L c q m hp hM hL hL6 hL0 hc hm1 hF hq hB hZ
    have hps : p < sP S := by omega
    generalize hFd : (fun (w : Nat) (q : FSt) => if likeB S L p w then dfs S n (p + 1) (putW S L p w) (chs c p w) q else q) = F
    have hFw : ∀ w q, F w q = if likeB S L p w then dfs S n (p + 1) (putW S L p w) (chs c p w) q else q := fun w q => by rw [← hFd]
    have hdf : dfs S (n + 1) p L c q = foldW F (sW S) q := by rw [dfs, hFd]
    have hcnt : ∀ w, (foldW F w q).1 ≤ q.1 + w * 9 ^ n := fun w => foldW_cnt w q (fun w q _ => by
      rw [hFw]
      split
      · exact dfs_cnt hO _ _ _ _ _
      · exact Nat.le_add_right _ _)
    have hQB : ∀ w, w ≤ sW S → QB (foldW F w q) := fun w hw => QB_fold _ _ (fun v q hv hq => by
      rw [hFw]
      split
      · exact QB_dfs hO _ _ _ _ _ (by omega) (put6 hO hL6 hps (by omega)) hq
      · exact hq) hB
    have hZM : ∀ w, ZM (foldW F w q) := fun w => ZM_fold _ _ (fun v q hq => by
      rw [hFw]
      split
      · exact ZM_dfs _ _ _ _ _ hq
      · exact hq) hZ
    have key : ∀ d w m1, w + d = sW S → m1 84 p = pw w → FM S (foldW F w q) m1 → BK S p c m m1 → ∃ N m', N ≤ 1 + d * (1 + Tn n) ∧ Rch f_X7_layFillings_b64 N (nI p, m1) (nI p + -1, m') ∧ FM S (foldW F (sW S) q) m' ∧ BK S p c m m' := by
      intro d
      induction d with
      | zero =>
        intro w m1 hw h84 hF1 hK
        have hw' : w = sW S := by omega
        subst hw'
        have hM1 := hK.ms hM
        refine ⟨1, mset m1 84 p (nI (sW S)), by omega, Rch.one ?_, hF1.keep (mset_ne (by decide)) (mset_ne (by decide)) (mset_ne (by decide)), fun y hy => by rw [mset_ne (by decide)]; exact hK.1 y hy, fun j hj => by rw [mset_k (by omega)]; exact hK.2.1 j hj, fun a z1 z2 => by rw [mset_ne (by omega)]; exact hK.2.2.1 a z1 z2, fun k z1 z2 => by rw [mset_ne (by decide)]; exact hK.2.2.2 k z1 z2⟩
        unfold f_X7_layFillings_b64
        simp only
        rw [if_neg (nI_pos (by omega)), rd_e p rfl (by omega) (by decide) h84, wr_nI (by omega) (by decide), pw_1, rd_e p rfl (by omega) (by decide) mset_eq, mset_ne (by decide), hM1.1.2.2.2.1, if_pos rfl]
        rfl
      | succ d ihd =>
        intro w m1 hw h84 hF1 hK
        have hws : w < sW S := by omega
        have hM1 := hK.ms hM
        have hst : foldW F (w + 1) q = if likeB S L p w then dfs S n (p + 1) (putW S L p w) (chs c p w) (foldW F w q) else foldW F w q := by rw [foldW, hFw]
        generalize hm2 : mset m1 84 p (nI w) = m2
        have f2 : ∀ a, a ≠ 84 → m2 a = m1 a := fun a h => by rw [← hm2, mset_ne h]
        have h84' : m2 84 p = nI w := by rw [← hm2, mset_eq]
        have hK2 : BK S p c m m2 := ⟨fun y hy => by rw [f2 83 (by decide)]; exact hK.1 y hy, fun j hj => by rw [← hm2, mset_k (by omega)]; exact hK.2.1 j hj, fun a z1 z2 => by rw [f2 a (by omega)]; exact hK.2.2.1 a z1 z2, fun k z1 z2 => by rw [f2 62 (by decide)]; exact hK.2.2.2 k z1 z2⟩
        have hM2 := hK2.ms hM
        have hF2 : FM S (foldW F w q) m2 := hF1.keep (f2 62 (by decide)) (f2 85 (by decide)) (f2 86 (by decide))
        obtain ⟨m3, e3, g1, g2, g3⟩ := fills_e (m := m2) hO hM2 (fun x hx => by rw [hK2.1 _ (by omega)]; exact hL x hx) hL6 hps hws
        have h84'' : m3 84 p = pw (w + 1) := by rw [g3 84 (by decide), h84']; rfl
        have hK3 : BK S p c m m3 := ⟨fun y hy => by rw [g2 y hy]; exact hK2.1 y hy, fun j hj => by rw [g3 84 (by decide)]; exact hK2.2.1 j hj, fun a z1 z2 => by rw [g3 a (by omega)]; exact hK2.2.2.1 a z1 z2, fun k z1 z2 => by rw [g3 62 (by decide)]; exact hK2.2.2.2 k z1 z2⟩
        have hM3 := hK3.ms hM
        have hF3 : FM S (foldW F w q) m3 := hF2.keep (g3 62 (by decide)) (g3 85 (by decide)) (g3 86 (by decide))
        have pre : ∀ R, (if b2i (likeB S L p w) = 0 then (some (.inl (nI p, m3))) else (if nI p = nI (sP S) - 1 then (ob (f_X7_filled m3) fun m122 => some (.inl (nI p, m122))) else (lt' (nI p + 1) fun v128 => wr m3 84 8 v128 (-1) fun m137 => some (.inl (v128, m137))))) = R → f_X7_layFillings_b64 (nI p, m1) = R := by
          intro R hR
          unfold f_X7_layFillings_b64
          simp only
          rw [if_neg (nI_pos (by omega)), rd_e p rfl (by omega) (by decide) h84, wr_nI (by omega) (by decide), pw_1, hm2, rd_e p rfl (by omega) (by decide) h84', hM2.1.2.2.2.1, if_neg (lit_ne (by omega) (by omega) (by omega)), rd_e p rfl (by omega) (by decide) h84', e3]
          simp only [ob2]
          rw [hM3.1.2.2.1]
          exact hR
        have hmul : (d + 1) * (1 + Tn n) = d * (1 + Tn n) + (1 + Tn n) := Nat.succ_mul _ _
        cases hl : likeB S L p w with
        | false =>
          rw [hl] at hst
          obtain ⟨N, m', hN, hR, hX, hY⟩ := ihd (w + 1) m3 (by omega) h84'' (by rw [hst]; exact hF3) hK3
          exact ⟨1 + N, m', by omega, (Rch.one (pre _ (by rw [hl]; rfl))).tr hR, hX, hY⟩
        | true =>
          rw [hl, if_pos rfl] at hst
          have hcw := hcnt w
          have hmul9 : (w + 1) * 9 ^ n ≤ 9 * 9 ^ n := Nat.mul_le_mul_right _ (by omega)
          rw [Nat.succ_mul] at hmul9
          have hq9 : q.1 + 9 * 9 ^ n < 2 ^ 30 := by rw [Nat.pow_succ, Nat.mul_comm] at hq; exact hq
          have hc3 : ∀ j, j < p + 1 → m3 84 j = nI (chs c p w j) := fun j hj => by
            unfold chs
            by_cases he : j = p
            · rw [if_pos he, he, g3 84 (by decide), h84']
            · rw [if_neg he]
              exact hK3.2.1 j (by omega)
          have hpe : nI (sP S) - 1 = nI (p + n) := by rw [show sP S = (p + n) + 1 by omega, nI_pred]
          by_cases hn : n = 0
          · subst hn
            have hsp : sP S = p + 1 := by omega
            obtain ⟨m4, e4, k1, k2, k3⟩ := filled_e (L := putW S L p w) (c := chs c p w) hO hM3 (fun x hx => by rw [hsp]; exact g1 hl x hx) (put6 hO hL6 hps hws) (put0 hO hL0 hps) (fun j hj => hc3 j (by omega)) hF3 (by omega) (hQB w (by omega)) (hZM w)
            have hK4 : BK S p c m m4 := ⟨fun y hy => by rw [k2 83 (by decide) (by decide) (by decide)]; exact hK3.1 y hy, fun j hj => by rw [k2 84 (by decide) (by decide) (by decide)]; exact hK3.2.1 j hj, fun a z1 z2 => by rw [k2 a z1 (by omega) (by omega)]; exact hK3.2.2.1 a z1 z2, fun k z1 z2 => by rw [k3 k z1 z2]; exact hK3.2.2.2 k z1 z2⟩
            obtain ⟨N, m', hN, hR, hX, hY⟩ := ihd (w + 1) m4 (by omega) (by rw [k2 84 (by decide) (by decide) (by decide)]; exact h84'') (by rw [hst]; exact k1) hK4
            refine ⟨1 + N, m', by omega, (Rch.one (pre _ ?_)).tr hR, hX, hY⟩
            rw [hl, if_neg (by decide), hpe, if_pos (show nI p = nI (p + 0) from rfl), e4]
            rfl
          · obtain ⟨n', rfl⟩ : ∃ n', n = n' + 1 := ⟨n - 1, by omega⟩
            generalize hm4 : mset m3 84 (p + 1) (-1) = m4
            have f4 : ∀ a, a ≠ 84 → m4 a = m3 a := fun a h => by rw [← hm4, mset_ne h]
            obtain ⟨N1, m5, hN1, hR1, hX1, hY1⟩ := ihn n' (by omega) (p + 1) (putW S L p w) (chs c p w) (foldW F w q) m4 (by omega) (hM3.keep (fun a _ _ => by rw [f4 62 (by decide)]) (fun a _ _ => f4 a (by omega))) (fun x hx => by rw [f4 83 (by decide)]; exact g1 hl x hx) (put6 hO hL6 hps hws) (put0 hO hL0 hps) (fun j hj => by rw [← hm4, mset_k (by omega)]; exact hc3 j hj) (by rw [← hm4, mset_eq]) (hF3.keep (f4 62 (by decide)) (f4 85 (by decide)) (f4 86 (by decide))) (by omega) (hQB w (by omega)) (hZM w)
            have hK5 : BK S p c m m5 := ⟨fun y hy => by rw [hY1.1 y (by omega), f4 83 (by decide)]; exact hK3.1 y hy, fun j hj => by rw [hY1.2.1 j (by omega)]; unfold chs; rw [if_neg (by omega)], fun a z1 z2 => by rw [hY1.2.2.1 a z1 z2, f4 a (by omega)]; exact hK3.2.2.1 a z1 z2, fun k z1 z2 => by rw [hY1.2.2.2 k z1 z2, f4 62 (by decide)]; exact hK3.2.2.2 k z1 z2⟩
            obtain ⟨N, m', hN, hR, hX, hY⟩ := ihd (w + 1) m5 (by omega) (by rw [hY1.2.1 p (by omega)]; unfold chs; rw [if_pos rfl]; rfl) (by rw [hst]; exact hX1) hK5
            have eb : nI (p + 1) + -1 = nI p := by rw [← Int32.sub_eq_add_neg, nI_pred]
            rw [eb] at hR1
            refine ⟨1 + (N1 + N), m', by omega, (Rch.one (pre _ ?_)).tr (hR1.tr hR), hX, hY⟩
            rw [hl, if_neg (by decide), hpe, if_neg (lit_ne (by omega) (by omega) (by omega))]
            simp only [lt', nI_1]
            rw [wr_nI (by omega) (by decide), hm4]
    obtain ⟨N, m', hN, hR, hX, hY⟩ := key (sW S) 0 m (by omega) hm1 hF ⟨fun _ _ => rfl, hc, fun _ _ _ => rfl, fun _ _ _ => rfl⟩
    refine ⟨N, m', ?_, hR, by rw [hdf]; exact hX, hY⟩
    have h1 : sW S * (1 + Tn n) ≤ 9 * (1 + Tn n) := Nat.mul_le_mul_right _ hw9
    rw [Tn]
    omega
end BK7
