/-! the reference's evening -/
theorem scan_ext {σ : Type} (tr : σ → Nat → σ) {f : Nat → Bool} {q : σ} {n : Nat} : ∀ m, (∀ t, n ≤ t → t < n + m → f t = false) → scan tr f q (n + m) = scan tr f q n := by
  intro m
  induction m with
  | zero => intro _; rfl
  | succ m ih =>
    intro h
    rw [show n + (m + 1) = (n + m) + 1 from rfl, scan, h (n + m) (by omega) (by omega), ih (fun t h1 h2 => h t h1 (by omega))]
    rfl
section PAS
variable {S : Sh} {o : Nat} {P : Pa}
/-- what is sent for a place and a word, by their number -/
def tA (P : Pa) (a : Nat → Nat) (n x : Nat) : Nat := sumN (fun j => if atN P j == x then a j else 0) n
theorem tA_tot (hO : SOK S) (hP : POK S P) (a : Nat → Nat) {p w : Nat} (hw : w < 9) : totN S P a p w = tA P a (sN S) (9 * p + w) := by
  have hw9 := hO.w9
  have hn := hO.n6
  unfold totN tA
  refine sumN_congr (fun j hj => ?_)
  obtain ⟨b1, b2⟩ := hP.2.2 j (by omega)
  have : (P.2.1 j == p && P.2.2 j == w) = (atN P j == 9 * p + w) := by
    rw [Bool.eq_iff_iff, Bool.and_eq_true, beq_iff_eq, beq_iff_eq, beq_iff_eq]
    unfold atN
    omega
  rw [this]
theorem tA_le (hO : SOK S) (hP : POK S P) (may : Nat → Bool) (n x : Nat) (hn : n ≤ 6) : tA P (amt S P may) n x ≤ 60 := by
  have h := sumN_le (f := fun j => if atN P j == x then amt S P may j else 0) (b := 10) (n := n) (fun i hi => by
    have := amt_le hO hP (may := may) (show i < 6 by omega)
    split <;> omega)
  unfold tA
  omega
theorem sumN_pos {f : Nat → Nat} {n : Nat} (h : 0 < sumN f n) : ∃ i, i < n ∧ 0 < f i := by
  induction n with
  | zero => exact absurd h (Nat.lt_irrefl _)
  | succ n ih =>
    rw [sumN] at h
    by_cases h1 : 0 < f n
    · exact ⟨n, by omega, h1⟩
    · obtain ⟨i, h2, h3⟩ := ih (by omega)
      exact ⟨i, by omega, h3⟩
theorem tA_snd {may : Nat → Bool} {n x : Nat} (h : 0 < tA P (amt S P may) n x) : ∃ i, i < n ∧ (may i && sendB S P i) = true ∧ atN P i = x := by
  obtain ⟨i, h1, h2⟩ := sumN_pos h
  by_cases he : atN P i = x
  · rw [if_pos (by simpa using he)] at h2
    exact ⟨i, h1, amt_pos.mp h2, he⟩
  · rw [if_neg (by simpa using he)] at h2
    exact absurd h2 (Nat.lt_irrefl _)
/-- a key is meant where that much is sent -/
theorem any_tA (hO : SOK S) (hP : POK S P) (may : Nat → Bool) {c x : Nat} (hc : 1 ≤ c) (hc2 : c ≤ 100) (hx : x < 72) : anyK (fun i => may i && sendB S P i) (keyN S P (amt S P may)) (sN S) ((100 - c) * 72 + x) = decide (tA P (amt S P may) (sN S) x = c) := by
  have hw9 := hO.w9
  have hn := hO.n6
  rw [Bool.eq_iff_iff, anyK_iff, decide_eq_true_iff]
  constructor
  · rintro ⟨i, h1, h2, h3⟩
    obtain ⟨b1, b2⟩ := hP.2.2 i (by omega)
    have ht := tot_le hO hP may (P.2.1 i) (P.2.2 i)
    have e := tA_tot hO hP (amt S P may) (p := P.2.1 i) (w := P.2.2 i) (by omega)
    unfold keyN at h3
    have hx2 : atN P i < 72 := by unfold atN; omega
    have : atN P i = x := by omega
    have h5 : totN S P (amt S P may) (P.2.1 i) (P.2.2 i) = c := by omega
    rw [← h5, e, ← this]
    rfl
  · intro h
    obtain ⟨i, h1, h2, h3⟩ := tA_snd (S := S) (P := P) (may := may) (n := sN S) (x := x) (by omega)
    obtain ⟨b1, b2⟩ := hP.2.2 i (by omega)
    refine ⟨i, h1, h2, ?_⟩
    have e := tA_tot hO hP (amt S P may) (p := P.2.1 i) (w := P.2.2 i) (by omega)
    unfold keyN
    rw [e, show 9 * P.2.1 i + P.2.2 i = x from h3, h, h3]
def PI (S : Sh) (o : Nat) (P : Pa) (may : Nat → Bool) (mem0 : Mem) (q : Ev) (m : Mem) : Prop := MS S m ∧ MP (q.1, P.2.1, P.2.2) o m ∧ POK S (q.1, P.2.1, P.2.2) ∧ (∀ x, x < 72 → m 80 x = nI (tA P (amt S P may) (sN S) x)) ∧ (∀ x, x < 72 → m 81 x = b2i (q.2.1 x)) ∧ ∀ a, a ≠ 79 → a ≠ 80 → a ≠ 81 → a ≠ o → m a = mem0 a
theorem passes_b8_e {mem : Mem} : ∃ m', lp (f_X7_passes_b8 o) FU (0, mem) = some (nI 72, m') ∧ (∀ x, x < 72 → m' 80 x = 0 ∧ m' 81 x = 0) ∧ ∀ a, a ≠ 80 → a ≠ 81 → m' a = mem a := by
  obtain ⟨r, hr, m', rfl, h1, h2⟩ := lp_invF (body := f_X7_passes_b8 o) (fun i q => ∃ m, q = (nI i, m) ∧ (∀ x, x < i → m 80 x = 0 ∧ m 81 x = 0) ∧ ∀ a, a ≠ 80 → a ≠ 81 → m a = mem a) 72 (fun r => ∃ m, r = (nI 72, m) ∧ (∀ x, x < 72 → m 80 x = 0 ∧ m 81 x = 0) ∧ ∀ a, a ≠ 80 → a ≠ 81 → m a = mem a) (by decide) (q := (0, mem)) ⟨mem, rfl, fun x h => absurd h (Nat.not_lt_zero _), fun a _ _ => rfl⟩
    (fun i q hi hI => by
      obtain ⟨m, rfl, h1, h2⟩ := hI
      refine Or.inl ?_
      unfold f_X7_passes_b8
      simp only
      rw [if_neg (show ¬ (72 : Int32) ≤ nI i from nI_ge hi (by decide)), wr_nI hi (by decide), wr_nI hi (by decide), nar0]
      simp only [lt', nI_1]
      refine ⟨_, rfl, _, rfl, fun x hx => ?_, fun a z1 z2 => ?_⟩
      · by_cases he : x = i
        · subst he
          exact ⟨by rw [mset_ne (by decide), mset_eq], by rw [mset_eq]⟩
        · obtain ⟨c1, c2⟩ := h1 x (by omega)
          exact ⟨by rw [mset_ne (by decide), mset_k he]; exact c1, by rw [mset_k he, mset_ne (by decide)]; exact c2⟩
      · rw [mset_ne z2, mset_ne z1]
        exact h2 a z1 z2)
    (fun q hI => by
      obtain ⟨m, rfl, h1, h2⟩ := hI
      unfold f_X7_passes_b8
      simp only
      rw [if_pos (show (72 : Int32) ≤ nI 72 from nI_le (Nat.le_refl 72) (by decide))]
      exact ⟨_, rfl, m, rfl, h1, h2⟩)
  exact ⟨m', hr, h1, h2⟩
theorem passes_b39_e (hO : SOK S) (hP : POK S P) (ho : o = 77 ∨ o = 78) {mem : Mem} (hM : MS S mem) (hT : MP P o mem) {may : Nat → Bool} (hA : ∀ j, j < sN S → mem 79 j = nI (amt S P may j)) (hz : ∀ x, x < 72 → mem 80 x = 0) :
    ∃ m' mo, lp (f_X7_passes_b39 o) FU (0, 0, mem) = some (nI mo, nI (sN S), m') ∧ mo ≤ 60 ∧ (∀ x, x < 72 → m' 80 x = nI (tA P (amt S P may) (sN S) x) ∧ tA P (amt S P may) (sN S) x ≤ mo) ∧ ∀ a, a ≠ 80 → m' a = mem a := by
  have hn := hO.n6
  have hw9 := hO.w9
  obtain ⟨r, hr, m', mo, rfl, h0, h1, h2⟩ := lp_invF (body := f_X7_passes_b39 o) (fun i q => ∃ m mo, q = (nI mo, nI i, m) ∧ mo ≤ 60 ∧ (∀ x, x < 72 → m 80 x = nI (tA P (amt S P may) i x) ∧ tA P (amt S P may) i x ≤ mo) ∧ ∀ a, a ≠ 80 → m a = mem a) (sN S) (fun r => ∃ m mo, r = (nI mo, nI (sN S), m) ∧ mo ≤ 60 ∧ (∀ x, x < 72 → m 80 x = nI (tA P (amt S P may) (sN S) x) ∧ tA P (amt S P may) (sN S) x ≤ mo) ∧ ∀ a, a ≠ 80 → m a = mem a) (by omega) (q := (0, 0, mem)) ⟨mem, 0, rfl, by decide, fun x hx => ⟨by rw [hz x hx]; rfl, Nat.le_refl _⟩, fun a _ => rfl⟩
    (fun i q hi hI => by
      obtain ⟨m, mo, rfl, h0, h1, h2⟩ := hI
      obtain ⟨b1, b2⟩ := hP.2.2 i (by omega)
      obtain ⟨t1, t2⟩ := hT.2 i (by omega)
      have ha := amt_le hO hP (may := may) (show i < 6 by omega)
      have u79 : m 79 i = nI (amt S P may i) := by rw [h2 79 (by decide)]; exact hA i hi
      rw [← h2 o (by omega)] at t1 t2
      refine Or.inl ?_
      unfold f_X7_passes_b39
      simp only
      rw [h2 62 (by decide), hM.1.2.2.2.2, if_neg (nI_ge hi (by omega)), rd_e i rfl (by omega) (by decide) u79]
      by_cases hpos : amt S P may i = 0
      · rw [hpos, if_pos (by decide)]
        simp only [lt', nI_1]
        have e : ∀ x, tA P (amt S P may) (i + 1) x = tA P (amt S P may) i x := fun x => by
          unfold tA
          rw [sumN, hpos]
          simp
        exact ⟨_, rfl, m, mo, rfl, h0, fun x hx => by rw [e]; exact h1 x hx, h2⟩
      · have hat : 9 * P.2.1 i + P.2.2 i < 72 := by omega
        obtain ⟨c1, c2⟩ := h1 _ hat
        have hle := tA_le hO hP may (i + 1) (9 * P.2.1 i + P.2.2 i) (by omega)
        have e1 : tA P (amt S P may) (i + 1) (9 * P.2.1 i + P.2.2 i) = tA P (amt S P may) i (9 * P.2.1 i + P.2.2 i) + amt S P may i := by
          unfold tA
          rw [sumN, if_pos (by simp [atN])]
        have e2 : ∀ x, x ≠ 9 * P.2.1 i + P.2.2 i → tA P (amt S P may) (i + 1) x = tA P (amt S P may) i x := fun x hx => by
          unfold tA
          rw [sumN, if_neg (by simp [atN]; omega)]
          rfl
        rw [if_neg (nI_nle (by omega) (by omega)), rd_e (16 + 2 * i) (by rw [i_lit 16, i_lit 2, pk_mul, nI_add]) (by omega) (by decide) t1, rd_e (16 + 2 * i + 1) (by rw [i_lit 16, i_lit 2, pk_mul, nI_add, nI_1]) (by omega) (by decide) t2]
        simp only [lt']
        rw [i_lit 9, pk_mul, nI_add, rd_e _ rfl hat (by decide) c1, rd_e i rfl (by omega) (by decide) u79, wr_nI hat (by decide), nI_add, ← e1]
        generalize hm1 : mset m 80 (9 * P.2.1 i + P.2.2 i) (nI (tA P (amt S P may) (i + 1) (9 * P.2.1 i + P.2.2 i))) = m1
        have hm80 : ∀ x, x < 72 → m1 80 x = nI (tA P (amt S P may) (i + 1) x) := fun x hx => by
          rw [← hm1]
          by_cases he : x = 9 * P.2.1 i + P.2.2 i
          · rw [he, mset_eq]
          · rw [mset_k he, e2 x he]
            exact (h1 x hx).1
        have hfr : ∀ a, a ≠ 80 → m1 a = mem a := fun a h => by rw [← hm1, mset_ne h]; exact h2 a h
        rw [rd_e _ rfl hat (by decide) (hm80 _ hat)]
        by_cases hc : tA P (amt S P may) (i + 1) (9 * P.2.1 i + P.2.2 i) ≤ mo
        · rw [if_pos (nI_le hc (by omega)), nI_1]
          refine ⟨_, rfl, m1, mo, rfl, h0, fun x hx => ⟨hm80 x hx, ?_⟩, hfr⟩
          by_cases he : x = 9 * P.2.1 i + P.2.2 i
          · rw [he]; exact hc
          · rw [e2 x he]; exact (h1 x hx).2
        · rw [if_neg (nI_ge (by omega) (by omega)), rd_e _ rfl hat (by decide) (hm80 _ hat), nI_1]
          refine ⟨_, rfl, m1, _, rfl, hle, fun x hx => ⟨hm80 x hx, ?_⟩, hfr⟩
          by_cases he : x = 9 * P.2.1 i + P.2.2 i
          · rw [he]; exact Nat.le_refl _
          · rw [e2 x he]
            have := (h1 x hx).2
            omega)
    (fun q hI => by
      obtain ⟨m, mo, rfl, h0, h1, h2⟩ := hI
      unfold f_X7_passes_b39
      simp only
      rw [h2 62 (by decide), hM.1.2.2.2.2, if_pos (nI_le (Nat.le_refl _) (by omega))]
      exact ⟨_, rfl, m, mo, rfl, h0, h1, h2⟩)
  exact ⟨m', mo, hr, h0, h1, h2⟩
/-- what the evening has come to before the key t -/
def evAt (S : Sh) (P : Pa) (may : Nat → Bool) (t : Nat) : Ev := scan (evT S) (anyK (fun i => may i && sendB S P i) (keyN S P (amt S P may)) (sN S)) (P.1, fun _ => false, 0) t
theorem passes_b144_e (hO : SOK S) (hP0 : POK S P) (ho : o = 77 ∨ o = 78) {mem0 mem : Mem} {may : Nat → Bool} {c t0 t1 : Nat} (hc : 1 ≤ c) (hc2 : c ≤ 60) (ht0 : t0 = (100 - c) * 72) (ht1 : t1 = (100 - c + 1) * 72) (h : PI S o P may mem0 (evAt S P may t0) mem) :
    ∃ m' z, lp (f_X7_passes_b144 o (nI c)) FU (nI (evAt S P may t0).2.2, 0, mem) = some (nI (evAt S P may t1).2.2, z, m') ∧ PI S o P may mem0 (evAt S P may t1) m' := by
  have hn := hO.n6
  have hw9 := hO.w9
  have hp8 := hO.p8
  have hend : evAt S P may t1 = evAt S P may (t0 + 9 * sP S) := by
    unfold evAt
    rw [show t1 = t0 + 9 * sP S + (72 - 9 * sP S) by omega]
    refine scan_ext _ _ (fun t h1 h2 => ?_)
    obtain ⟨x, rfl⟩ : ∃ x, t = t0 + x := ⟨t - t0, by omega⟩
    rw [ht0, any_tA hO hP0 may hc (by omega) (by omega), decide_eq_false_iff_not]
    intro e
    obtain ⟨i, g1, g2, g3⟩ := tA_snd (S := S) (P := P) (may := may) (n := sN S) (x := x) (by omega)
    have g4 := send_np g2
    obtain ⟨b1, b2⟩ := hP0.2.2 i (by omega)
    unfold atN at g3
    omega
  obtain ⟨r, hr, m', z, rfl, h'⟩ := lp_invF (body := f_X7_passes_b144 o (nI c)) (fun i q => ∃ m, q = (nI (evAt S P may (t0 + i)).2.2, nI i, m) ∧ PI S o P may mem0 (evAt S P may (t0 + i)) m) (9 * sP S) (fun r => ∃ m z, r = (nI (evAt S P may t1).2.2, z, m) ∧ PI S o P may mem0 (evAt S P may t1) m) (by omega) (q := (nI (evAt S P may t0).2.2, 0, mem)) ⟨mem, rfl, h⟩
    (fun i q hi hI => by
      obtain ⟨m, rfl, hM, hT, hP, h80, h81, hfr⟩ := hI
      have hx : i < 72 := by omega
      have hst : evAt S P may (t0 + (i + 1)) = if tA P (amt S P may) (sN S) i = c then evT S (evAt S P may (t0 + i)) (t0 + i) else evAt S P may (t0 + i) := by
        unfold evAt
        rw [show t0 + (i + 1) = (t0 + i) + 1 from rfl, scan, show anyK (fun i => may i && sendB S P i) (keyN S P (amt S P may)) (sN S) (t0 + i) = decide (tA P (amt S P may) (sN S) i = c) by rw [ht0]; exact any_tA hO hP0 may hc (by omega) hx]
        simp only [decide_eq_true_eq]
      generalize evAt S P may (t0 + i) = q at *
      rw [hst]
      refine Or.inl ?_
      have hta := tA_le hO hP0 may (sN S) i hn
      unfold f_X7_passes_b144
      simp only
      rw [hM.1.2.2.1, i_lit 9, pk_mul, if_neg (nI_ge hi (by omega)), rd_e i rfl hx (by decide) (h80 i hx)]
      by_cases he : tA P (amt S P may) (sN S) i = c
      · obtain ⟨j, g1, g2, g3⟩ := tA_snd (S := S) (P := P) (may := may) (n := sN S) (x := i) (by omega)
        have g4 := send_np g2
        obtain ⟨b1, b2⟩ := hP0.2.2 j (by omega)
        unfold atN at g3
        have d1 : i / 9 = P.2.1 j := by omega
        have d2 : i % 9 = P.2.2 j := by omega
        have d3 : (t0 + i) % 72 = i := by omega
        rw [if_pos (by rw [he]), if_pos he, i_dv (by omega) (by decide) (by decide), i_rm (by omega) (by decide) (by decide), d1, d2, isFit_e hO hM hT.1 hP.1 g4 b2]
        simp only [ob]
        unfold evT
        rw [d3, d1, d2]
        cases hf : fitB S q.1 (P.2.1 j) (P.2.2 j) with
        | false =>
          rw [if_pos (by rfl), if_neg (by decide)]
          simp only [lt', nI_1]
          exact ⟨_, rfl, m, rfl, hM, hT, hP, h80, h81, hfr⟩
        | true =>
          rw [if_neg (by decide), if_pos rfl, prints_e hO hM ho g4 b2]
          simp only
          rw [wr_nI hx (by decide), nar1]
          simp only [lt', nI_1]
          generalize hm1 : wrK m o (ssq S (P.2.1 j)) (swd S (P.2.2 j)) (spl S (P.2.1 j)) = m1
          have hne1 : ∀ a, a ≠ o → m1 a = m a := fun a h => by rw [← hm1, wrK_ne h]
          generalize hm2 : mset m1 81 i 1 = m2
          have hne2 : ∀ a, a ≠ 81 → m2 a = m1 a := fun a h => by rw [← hm2, mset_ne h]
          refine ⟨_, rfl, m2, rfl, hM.keep (fun k _ _ => by rw [hne2 62 (by decide), hne1 62 (by omega)]) (fun a _ _ => by rw [hne2 a (by omega), hne1 a (by omega)]), ⟨fun x hx => ?_, fun k hk => ?_⟩, ?_, fun x hx => ?_, fun x hx => ?_, fun a z1 z2 z3 z4 => ?_⟩
          · rw [hne2 o (by omega), ← hm1]
            exact wrK_at (hT.1 x hx) _
          · rw [hne2 o (by omega), ← hm1, wrK_out _ (fun k' hk' => by have := hO.sq g4 hk'; omega), wrK_out _ (fun k' hk' => by have := hO.sq g4 hk'; omega)]
            exact hT.2 k hk
          · exact POK.wr hO hP g4 (fun k hk => hO.wd6 b2 k)
          · rw [hne2 80 (by decide), hne1 80 (by omega)]
            exact h80 x hx
          · rw [← hm2, mset_at]
            by_cases hxi : x = i
            · rw [if_pos ⟨rfl, hxi⟩]
              simp only
              rw [if_pos hxi]
              rfl
            · rw [if_neg (fun z => hxi z.2), hne1 81 (by omega), h81 x hx]
              simp only
              rw [if_neg hxi]
          · rw [hne2 a z3, hne1 a z4]
            exact hfr a z1 z2 z3 z4
      · rw [if_neg (lit_ne he (by omega) (by omega)), if_neg he]
        simp only [lt', nI_1]
        exact ⟨_, rfl, m, rfl, hM, hT, hP, h80, h81, hfr⟩)
    (fun q hI => by
      obtain ⟨m, rfl, hM, hT, hP, h80, h81, hfr⟩ := hI
      unfold f_X7_passes_b144
      simp only
      rw [hM.1.2.2.1, i_lit 9, pk_mul, if_pos (nI_le (Nat.le_refl _) (by omega))]
      rw [hend]
      exact ⟨_, rfl, m, _, rfl, hM, hT, hP, h80, h81, hfr⟩)
  exact ⟨m', z, hr, h'⟩
/-- an evening of the reference: what it leaves behind -/
theorem passes_e (hO : SOK S) (hP : POK S P) (ho : o = 77 ∨ o = 78) {mem : Mem} (hM : MS S mem) (hT : MP P o mem) {l : Int32} {may : Nat → Bool} (hl : ∀ i, i < 6 → (l >>> (nI i &&& 31)) &&& 1 = b2i (may i)) :
    ∃ m', f_X7_passes o l mem = some (nI (eveN S P may).2.2, m') ∧ PI S o P may mem (eveN S P may) m' := by
  have hn := hO.n6
  unfold f_X7_passes
  rw [layCounted_e hO hM hP ho hT hl]
  simp only [ob]
  generalize hm1 : wrK mem 79 (fun k => k) (amt S P may) (sN S) = m1
  have hne1 : ∀ a, a ≠ 79 → m1 a = mem a := fun a h => by rw [← hm1, wrK_ne h]
  have hA1 : ∀ j, j < sN S → m1 79 j = nI (amt S P may j) := fun j hj => by rw [← hm1]; exact wrK_id _ hj
  obtain ⟨m2, e2, z2, f2⟩ := passes_b8_e (o := o) (mem := m1)
  rw [e2]
  simp only
  have hne2 : ∀ a, a ≠ 79 → a ≠ 80 → a ≠ 81 → m2 a = mem a := fun a h1 h2 h3 => by rw [f2 a h2 h3, hne1 a h1]
  have hM2 := hM.keep (mem' := m2) (fun k _ _ => by rw [hne2 62 (by decide) (by decide) (by decide)]) (fun a _ _ => hne2 a (by omega) (by omega) (by omega))
  have hT2 := hT.keep (mem' := m2) (hne2 o (by omega) (by omega) (by omega))
  obtain ⟨m3, mo, e3, hmo, z3, f3⟩ := passes_b39_e hO hP ho hM2 hT2 (fun j hj => by rw [f2 79 (by decide) (by decide)]; exact hA1 j hj) (fun x hx => (z2 x hx).1)
  rw [e3]
  simp only
  have hst : evAt S P may ((100 - mo) * 72) = (P.1, (fun _ => false), 0) := by
    unfold evAt
    refine scan_none _ (fun t ht => ?_)
    obtain ⟨c, x, hx, hc, rfl⟩ : ∃ c x, x < 72 ∧ (mo < c ∧ c ≤ 100) ∧ t = (100 - c) * 72 + x := ⟨100 - t / 72, t % 72, by omega, by omega, by omega⟩
    rw [any_tA hO hP may (by omega) hc.2 hx, decide_eq_false_iff_not]
    have := (z3 x hx).2
    omega
  have hen : evAt S P may 7200 = eveN S P may := by unfold evAt eveN; rfl
  have h0 : PI S o P may mem (evAt S P may ((100 - mo) * 72)) m3 := by
    rw [hst]
    refine ⟨hM2.keep (fun k _ _ => by rw [f3 62 (by decide)]) (fun a _ _ => f3 a (by omega)), hT2.keep (f3 o (by omega)), hP, fun x hx => (z3 x hx).1, fun x hx => ?_, fun a h1 h2 h3 h4 => ?_⟩
    · rw [f3 81 (by decide), (z2 x hx).2]
      rfl
    · rw [f3 a h2, hne2 a h1 h2 h3]
  obtain ⟨r, hr, m', z, rfl, h'⟩ := lp_invF (body := f_X7_passes_b136 o) (fun i q => ∃ m, q = (nI (evAt S P may ((100 - (mo - i)) * 72)).2.2, nI (mo - i), m) ∧ PI S o P may mem (evAt S P may ((100 - (mo - i)) * 72)) m) mo (fun r => ∃ m z, r = (nI (eveN S P may).2.2, z, m) ∧ PI S o P may mem (eveN S P may) m) (by omega) (q := (0, nI mo, m3)) ⟨m3, by rw [Nat.sub_zero, hst]; rfl, h0⟩
    (fun i q hi hI => by
      obtain ⟨m, rfl, h⟩ := hI
      obtain ⟨m', z, e, h'⟩ := passes_b144_e hO hP ho (c := mo - i) (t1 := (100 - (mo - i) + 1) * 72) (by omega) (by omega) rfl rfl h
      refine Or.inl ?_
      unfold f_X7_passes_b136
      simp only
      rw [if_neg (nI_nle (by omega) (by omega)), e]
      simp only [ob, lt']
      obtain ⟨d, hd⟩ : ∃ d, mo - i = d + 1 := ⟨mo - i - 1, by omega⟩
      have hd2 : mo - (i + 1) = d := by omega
      rw [hd2, show 100 - d = 100 - (mo - i) + 1 by omega]
      refine ⟨_, rfl, m', ?_, h'⟩
      rw [hd, ← Int32.sub_eq_add_neg, nI_pred])
    (fun q hI => by
      obtain ⟨m, rfl, h⟩ := hI
      rw [show (100 - (mo - mo)) * 72 = 7200 by omega, hen] at h
      unfold f_X7_passes_b136
      simp only
      rw [show (100 - (mo - mo)) * 72 = 7200 by omega, hen, Nat.sub_self]
      rw [if_pos (by decide)]
      exact ⟨_, rfl, m, _, rfl, h⟩)
  rw [hr]
  exact ⟨m', rfl, h'⟩
end PAS
