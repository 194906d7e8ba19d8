/-- a wish on a paper, here and there -/
def wshP (P : Pa) (i a b : Nat) : Pa := (P.1, (fun j => if j = i then a else P.2.1 j), fun j => if j = i then b else P.2.2 j)
theorem wshOK {S : Sh} {P : Pa} (hP : POK S P) {i a b : Nat} (ha : a < 8) (hb : b < sW S) : POK S (wshP P i a b) := by
  refine ⟨hP.1, hP.2.1, fun j hj => ?_⟩
  unfold wshP
  simp only
  by_cases he : j = i
  · rw [if_pos he, if_pos he]
    exact ⟨ha, hb⟩
  · rw [if_neg he, if_neg he]
    exact hP.2.2 j hj
theorem wishC {P : Pa} {t i a b : Nat} {mem : Mem} (hT : CP P t mem) (hi : i < 6) : ∃ m', f_X0_wish t (nI i) (nI a) (nI b) mem = some m' ∧ CP (wshP P i a b) t m' ∧ ∀ c, c ≠ t + 2 → c ≠ t + 3 → m' c = mem c := by
  unfold f_X0_wish
  rw [wr_nI hi (by decide), wr_nI hi (by decide)]
  refine ⟨_, rfl, ⟨fun x hx => ?_, fun j hj => ?_⟩, fun c z1 z2 => by rw [mset_ne z2, mset_ne z1]⟩
  · rw [mset_ne (by omega), mset_ne (by omega)]
    exact hT.1 x hx
  · unfold wshP
    simp only
    by_cases he : j = i
    · rw [if_pos he, if_pos he, he, mset_eq, mset_ne (by omega), mset_eq]
      exact ⟨rfl, rfl⟩
    · rw [if_neg he, if_neg he, mset_k he, mset_ne (by omega), mset_k he, mset_ne (by omega)]
      exact hT.2 j hj
theorem wishM {P : Pa} {o i a b : Nat} {mem : Mem} (hT : MP P o mem) (hi : i < 6) : MP (wshP P i a b) o (mset (mset mem o (16 + 2 * i) (nI a)) o (16 + 2 * i + 1) (nI b)) := by
  refine ⟨fun x hx => ?_, fun j hj => ?_⟩
  · rw [mset_k (by omega), mset_k (by omega)]
    exact hT.1 x hx
  · unfold wshP
    simp only
    by_cases he : j = i
    · rw [if_pos he, if_pos he, he, mset_eq, mset_k (by omega), mset_eq]
      exact ⟨rfl, rfl⟩
    · rw [if_neg he, if_neg he, mset_k (by omega), mset_k (by omega), mset_k (by omega), mset_k (by omega)]
      exact hT.2 j hj
section ACT2
variable {S : Sh} {P P' : Pa} {u u' k : Nat × (Nat → Pa)} {w : Nat × (Nat → Nat) × (Nat → Bool)} {x : Nat × (Nat → Nat)} {sh sp : Nat} {mem m' : Mem} {l l2 l3 : Int32}
theorem want_a (hs : Two sh sp) (hA : AOK S P u k w x) (hC : CI S P u k w x sh mem) (hM : MI S P u k w x mem) : Agree sh sp (f_X6_want sh l l2 l3) (f_X7_want l l2 l3) mem := by
  have hs' := hs
  unfold Two at hs'
  have hO := hA.1
  have hn := hO.n6
  rcases ixs l (sN S) with ⟨i, hi, rfl⟩ | hl
  · rcases ixs l2 8 with ⟨p, hp, rfl⟩ | hl2
    · rcases ixs l3 (sW S) with ⟨v, hv, rfl⟩ | hl3
      · obtain ⟨m1, e1, g1, f1⟩ := pushU_e hC.2.1 (by decide) hC.2.2.1 hA.2.2.1.1
        have hT1 := hC.2.1.keep (mem' := m1) (fun a _ _ => f1 a (by omega))
        obtain ⟨m2, e2, g2, f2⟩ := wishC (a := p) (b := v) hT1 (show i < 6 by omega)
        have hM2 := hM.up (mem' := m2) (fun a ha => by rw [f2 a (by omega) (by omega), f1 a (by omega)])
        obtain ⟨m3, e3, g3, f3, h3⟩ := remember_e hM2.2.1 hA.2.2.1.1 hM2.2.2.1
        have hT3 := hM2.2.1.keep (mem' := m3) (f3 77 (by decide) (by decide))
        have g4 := wishM (a := p) (b := v) hT3 (show i < 6 by omega)
        generalize hm4 : mset (mset m3 77 (16 + 2 * i) (nI p)) 77 (16 + 2 * i + 1) (nI v) = m4 at g4
        have f4 : ∀ a, a ≠ 77 → m4 a = m3 a := fun a h => by rw [← hm4, mset_ne h, mset_ne h]
        refine agree_of (P' := wshP P i p v) (u' := (pushN 8 u.1, pushF 8 u.1 u.2 P)) (r := nI (P.2.2 i)) (m1 := m2) (m2 := m4) hs ?_ ?_ ⟨hO, wshOK hA.2.1 hp hv, pushOK hA.2.2.1 hA.2.1, hA.2.2.2⟩ (hC.pu hs (fun a ha => by rw [f2 a (by omega) (by omega), f1 a (by omega)]) g2 (g1.keep (fun a _ _ => f2 a (by omega) (by omega)))) (fun a ha => by rw [f4 a (by omega), f3 a (by omega) (by omega)]) (hM2.pu (fun a z1 z2 => by rw [f4 a (by omega), f3 a (by omega) (by omega)]) (fun i z1 z2 => by rw [f4 62 (by decide), h3 i z1 z2]) g4 (g3.keep (by rw [f4 62 (by decide)]) (by rw [f4 62 (by decide)]) (f4 82 (by decide))))
        · unfold f_X6_want
          rw [solverc_1 hO hC.1 hi, wordc_1 hO hC.1 hv]
          simp only [ob]
          rw [if_neg (by decide), if_neg (nI_pos (by omega)), if_neg (show ¬ (8 : Int32) ≤ nI p from nI_ge hp (by decide)), if_neg (by decide), rd_e i rfl (by omega) (by decide) (hC.2.1.2 i (by omega)).2, e1]
          simp only
          rw [e2]
        · unfold f_X7_want
          rw [solver7_1 hO hM2.1 hi, show f_X7_in (nI p) 0 7 = some 1 from in7_l1 (m := 7) hp (by decide), word7_1 hO hM2.1 hv]
          simp only [ob]
          rw [if_neg (by decide), if_neg (by decide), if_neg (by decide), e3]
          simp only
          rw [rd_e (16 + 2 * i + 1) (by rw [i_lit 16, i_lit 2, pk_mul, nI_add, nI_1]) (by omega) (by decide) (hT3.2 i (by omega)).2, wr_e (16 + 2 * i) (by rw [i_lit 16, i_lit 2, pk_mul, nI_add]) (by omega) (by decide), wr_e (16 + 2 * i + 1) (by rw [i_lit 16, i_lit 2, pk_mul, nI_add, nI_1]) (by omega) (by decide), hm4]
      · refine agree_0 hs hA hC hM (r := -1) ?_ ?_
        · unfold f_X6_want
          rw [solverc_1 hO hC.1 hi, wordc_0 hO hC.1 hl3]
          simp only [ob]
          rw [if_neg (by decide), if_neg (nI_pos (by omega)), if_neg (show ¬ (8 : Int32) ≤ nI p from nI_ge hp (by decide))]
          rfl
        · unfold f_X7_want
          rw [solver7_1 hO hM.1 hi, show f_X7_in (nI p) 0 7 = some 1 from in7_l1 (m := 7) hp (by decide), word7_0 hO hM.1 hl3]
          rfl
    · refine agree_0 hs hA hC hM (r := -1) ?_ ?_
      · unfold f_X6_want
        rw [solverc_1 hO hC.1 hi]
        simp only [ob]
        rw [if_neg (by decide)]
        rcases hl2 with h | ⟨h0, h⟩
        · rw [if_pos h]
        · rw [if_neg h0, if_pos (show (8 : Int32) ≤ l2 from h)]
      · unfold f_X7_want
        rw [solver7_1 hO hM.1 hi, show f_X7_in l2 0 7 = some 0 from in7_l0 (m := 7) hl2 (by decide)]
        rfl
  · refine agree_0 hs hA hC hM (r := -1) ?_ ?_
    · unfold f_X6_want
      rw [solverc_0 hO hC.1 hl]
      rfl
    · unfold f_X7_want
      rw [solver7_0 hO hM.1 hl]
      rfl
theorem undo_a (hs : Two sh sp) (hA : AOK S P u k w x) (hC : CI S P u k w x sh mem) (hM : MI S P u k w x mem) : Agree sh sp f_X6_undo f_X7_undo mem := by
  obtain ⟨n, U⟩ := u
  cases n with
  | zero =>
    refine agree_0 hs hA hC hM (r := -2) ?_ (undo7_0 hM.2.2.1)
    unfold f_X6_undo
    rw [popU_0 hC.2.2.1]
    rfl
  | succ n =>
    have hn := hA.2.2.1.1
    simp only at hn
    obtain ⟨m1, e1, g1, t1, f1⟩ := popU_e (t := 31) (by decide) hC.2.2.1 hn
    have hM1 := hM.up (mem' := m1) (fun a ha => f1 a (by omega) (by omega) (by omega) (by omega))
    obtain ⟨m2, e2, g2, t2, f2, h2⟩ := undo7_e hn hM1.2.2.1
    refine agree_of (P' := U n) (u' := (n, U)) (r := nI n) (m1 := m1) (m2 := m2) hs ?_ e2 ⟨hA.1, hA.2.2.1.2 n (Nat.lt_succ_self n), ⟨by simp only; omega, fun j hj => hA.2.2.1.2 j (Nat.lt_succ_of_lt hj)⟩, hA.2.2.2⟩ (hC.pu hs (fun a ha => f1 a (by omega) (by omega) (by omega) (by omega)) t1 g1) (fun a ha => f2 a (by omega) (by omega)) (hM1.pu (fun a z1 z2 => f2 a z1 (by omega)) h2 t2 g2)
    unfold f_X6_undo
    rw [e1]
    simp only [ob2, lt']
    rw [if_neg (by decide), g1.2.1]
theorem keep_a (hs : Two sh sp) (hA : AOK S P u k w x) (hC : CI S P u k w x sh mem) (hM : MI S P u k w x mem) : Agree sh sp f_X6_keep f_X7_keep mem := by
  have hs' := hs
  unfold Two at hs'
  have hn := hA.2.2.2.1.1
  by_cases hc : k.1 < 2
  · obtain ⟨m1, e1, g1, f1⟩ := pushK_e hC.2.1 (by decide) hC.2.2.2.1 hn
    have hM1 := hM.up (mem' := m1) (fun a ha => f1 a (by omega))
    obtain ⟨m2, e2, g2, f2, h2⟩ := keep7_e hM1.2.1 hc hM1.2.2.2.1
    have q1 : pushN 2 k.1 = k.1 + 1 := if_pos hc
    have q2 : pushF 2 k.1 k.2 P = (fun j => if j = k.1 then P else k.2 j) := by funext j; unfold pushF; rw [if_pos hc]
    refine agree_of (P' := P) (k' := (pushN 2 k.1, pushF 2 k.1 k.2 P)) (r := nI (k.1 + 1)) (m1 := m1) (m2 := m2) hs ?_ e2 ⟨hA.1, hA.2.1, hA.2.2.1, pushOK hA.2.2.2.1 hA.2.1, hA.2.2.2.2⟩ ⟨hC.1.keep (fun a _ _ => f1 a (by omega)), hC.2.1.keep (fun a _ _ => f1 a (by omega)), hC.2.2.1.keep (fun a _ _ => f1 a (by omega)), g1, hC.2.2.2.2.1.keep (by rw [f1 0 (by decide)]) (f1 60 (by decide)) (f1 61 (by decide)), hC.2.2.2.2.2.keep (by rw [f1 1 (by decide)]) (f1 2 (by decide))⟩ (fun a ha => f2 a (by omega) (by omega)) ⟨hM1.1.keep (fun a _ _ => h2 a (by omega)) (fun a _ _ => f2 a (by omega) (by omega)), hM1.2.1.keep (f2 77 (by decide) (by decide)), hM1.2.2.1.keep (h2 31 (by decide)) (h2 32 (by decide)) (f2 82 (by decide) (by decide)), by rw [q1, q2]; exact g2, hM1.2.2.2.2.1.keep (h2 40 (by decide)) (f2 87 (by decide) (by decide)) (f2 88 (by decide) (by decide)), hM1.2.2.2.2.2.keep (h2 0 (by decide)) (f2 63 (by decide) (by decide))⟩
    unfold f_X6_keep
    rw [hC.2.2.2.1.2.1, if_pos (show nI k.1 < 2 from nI_lt (b := 2) hc (by decide)), e1]
    simp only [ob, lt']
    rw [g1.2.1, q1]
  · have h2 : k.1 = 2 := by omega
    have hK := hM.2.2.2.1
    rw [h2] at hK
    refine agree_0 hs hA hC hM (r := -3) ?_ (keep7_2 hK)
    unfold f_X6_keep
    rw [hC.2.2.2.1.2.1, h2, if_neg (by decide)]
theorem back_a (hs : Two sh sp) (hA : AOK S P u k w x) (hC : CI S P u k w x sh mem) (hM : MI S P u k w x mem) : Agree sh sp f_X6_back f_X7_back mem := by
  have hs' := hs
  unfold Two at hs'
  obtain ⟨n, K⟩ := k
  cases n with
  | zero =>
    refine agree_0 hs hA hC hM (r := -2) ?_ (back7_0 hM.2.2.2.1)
    unfold f_X6_back
    rw [popK_0 hC.2.2.2.1]
    rfl
  | succ n =>
    have hn := hA.2.2.2.1.1
    simp only at hn
    obtain ⟨m1, e1, g1, t1, f1⟩ := popK_e (t := 31) (by decide) hC.2.2.2.1 hn
    have hU1 := (hC.2.2.1.keep (mem' := m1) (fun a _ _ => f1 a (by omega) (by omega) (by omega) (by omega))).less
    generalize hm2 : mset m1 52 4 0 = m2 at hU1
    have f2 : ∀ a, a ≠ 52 → m2 a = m1 a := fun a h => by rw [← hm2, mset_ne h]
    have hM2 := hM.up (mem' := m2) (fun a ha => by rw [f2 a (by omega), f1 a (by omega) (by omega) (by omega) (by omega)])
    obtain ⟨m3, e3, g3, u3, t3, f3, h3⟩ := back7_e hn hM2.2.2.2.1 hM2.2.2.1
    refine agree_of (P' := K n) (u' := (0, u.2)) (k' := (n, K)) (r := nI n) (m1 := m2) (m2 := m3) hs ?_ e3 ⟨hA.1, hA.2.2.2.1.2 n (Nat.lt_succ_self n), ⟨Nat.zero_le _, fun j hj => absurd hj (Nat.not_lt_zero _)⟩, ⟨by simp only; omega, fun j hj => hA.2.2.2.1.2 j (Nat.lt_succ_of_lt hj)⟩, hA.2.2.2.2⟩ ⟨hC.1.keep (fun a _ _ => by rw [f2 a (by omega), f1 a (by omega) (by omega) (by omega) (by omega)]), t1.keep (fun a _ _ => f2 a (by omega)), hU1, g1.keep (fun a _ _ => f2 a (by omega)), hC.2.2.2.2.1.keep (by rw [f2 0 (by decide), f1 0 (by decide) (by decide) (by decide) (by decide)]) (by rw [f2 60 (by decide), f1 60 (by decide) (by decide) (by decide) (by decide)]) (by rw [f2 61 (by decide), f1 61 (by decide) (by decide) (by decide) (by decide)]), hC.2.2.2.2.2.keep (by rw [f2 1 (by decide), f1 1 (by decide) (by decide) (by decide) (by decide)]) (by rw [f2 2 (by decide), f1 2 (by decide) (by decide) (by decide) (by decide)])⟩ (fun a ha => f3 a (by omega) (by omega)) ⟨hM2.1.keep (fun a _ _ => h3 a (by omega) (by omega)) (fun a _ _ => f3 a (by omega) (by omega)), t3, u3, g3, hM2.2.2.2.2.1.keep (h3 40 (by decide) (by decide)) (f3 87 (by decide) (by decide)) (f3 88 (by decide) (by decide)), hM2.2.2.2.2.2.keep (h3 0 (by decide) (by decide)) (f3 63 (by decide) (by decide))⟩
    unfold f_X6_back
    rw [e1]
    simp only [ob2, lt']
    rw [if_neg (by decide), hm2, f2 56 (by decide), g1.2.1]
theorem sent_a (hs : Two sh sp) (hA : AOK S P u k w x) (hC : CI S P u k w x sh mem) (hM : MI S P u k w x mem) (b : Bool) : Agree sh sp (f_X6_sent sh l (b2i b)) (f_X7_sent l (b2i b)) mem := by
  have hs' := hs
  unfold Two at hs'
  have hO := hA.1
  have hn := hA.2.2.2.2.1.1
  have hnar : vp_nar .boolean (b2i b) = b2i b := by cases b; exact nar0; exact nar1
  obtain ⟨n, T, D⟩ := w
  simp only at hn
  have c0 := hC.2.2.2.2.1.1
  have m0 := hM.2.2.2.2.1.1
  simp only at c0 m0
  rcases ixs l (sN S) with ⟨i, hi, rfl⟩ | hl
  · by_cases hc : n < 6
    · generalize hm1 : mset (mset (mset mem 60 n (nI i)) 61 n (b2i b)) 0 11 (nI (n + 1)) = m1
      have f1 : ∀ a, a ≠ 60 → a ≠ 61 → a ≠ 0 → m1 a = mem a := fun a z1 z2 z3 => by rw [← hm1, mset_ne z3, mset_ne z2, mset_ne z1]
      generalize hm2 : mset (mset (mset m1 87 n (nI i)) 88 n (b2i b)) 62 40 (nI (n + 1)) = m2
      have f2 : ∀ a, a ≠ 87 → a ≠ 88 → a ≠ 62 → m2 a = m1 a := fun a z1 z2 z3 => by rw [← hm2, mset_ne z3, mset_ne z2, mset_ne z1]
      have h2 : ∀ i, i ≠ 40 → m2 62 i = m1 62 i := fun i z => by rw [← hm2, mset_k z, mset_ne (by decide), mset_ne (by decide)]
      have hM1 := hM.up (mem' := m1) (fun a ha => f1 a (by omega) (by omega) (by omega))
      have gC : CT (n + 1, (fun j => if j = n then i else T j), fun j => if j = n then b else D j) m1 := by
        refine ⟨by rw [← hm1, mset_eq], fun j hj => ?_⟩
        simp only at hj ⊢
        by_cases he : j = n
        · rw [if_pos he, if_pos he, ← hm1, he, mset_ne (by decide), mset_ne (by decide), mset_eq, mset_ne (by decide), mset_eq]
          exact ⟨rfl, rfl⟩
        · rw [if_neg he, if_neg he, ← hm1, mset_ne (by decide), mset_ne (by decide), mset_k he, mset_ne (by decide), mset_k he, mset_ne (by decide)]
          exact hC.2.2.2.2.1.2 j (by simp only; omega)
      have gM : MT (n + 1, (fun j => if j = n then i else T j), fun j => if j = n then b else D j) m2 := by
        refine ⟨by rw [← hm2, mset_eq], fun j hj => ?_⟩
        simp only at hj ⊢
        by_cases he : j = n
        · rw [if_pos he, if_pos he, ← hm2, he, mset_ne (by decide), mset_ne (by decide), mset_eq, mset_ne (by decide), mset_eq]
          exact ⟨rfl, rfl⟩
        · rw [if_neg he, if_neg he, ← hm2, mset_ne (by decide), mset_ne (by decide), mset_k he, mset_ne (by decide), mset_k he, mset_ne (by decide)]
          exact hM1.2.2.2.2.1.2 j (by simp only; omega)
      refine agree_of (P' := P) (w' := (n + 1, (fun j => if j = n then i else T j), fun j => if j = n then b else D j)) (r := nI (n + 1)) (m1 := m1) (m2 := m2) hs ?_ ?_ ⟨hA.1, hA.2.1, hA.2.2.1, hA.2.2.2.1, ⟨by simp only; omega, fun j hj => ?_⟩, hA.2.2.2.2.2⟩ ⟨hC.1.keep (fun a _ _ => f1 a (by omega) (by omega) (by omega)), hC.2.1.keep (fun a _ _ => f1 a (by omega) (by omega) (by omega)), hC.2.2.1.keep (fun a _ _ => f1 a (by omega) (by omega) (by omega)), hC.2.2.2.1.keep (fun a _ _ => f1 a (by omega) (by omega) (by omega)), gC, hC.2.2.2.2.2.keep (by rw [f1 1 (by decide) (by decide) (by decide)]) (f1 2 (by decide) (by decide) (by decide))⟩ (fun a ha => f2 a (by omega) (by omega) (by omega)) ⟨hM1.1.keep (fun a _ _ => h2 a (by omega)) (fun a _ _ => f2 a (by omega) (by omega) (by omega)), hM1.2.1.keep (f2 77 (by decide) (by decide) (by decide)), hM1.2.2.1.keep (h2 31 (by decide)) (h2 32 (by decide)) (f2 82 (by decide) (by decide) (by decide)), hM1.2.2.2.1.keep (h2 43 (by decide)) (f2 89 (by decide) (by decide) (by decide)), gM, hM1.2.2.2.2.2.keep (h2 0 (by decide)) (f2 63 (by decide) (by decide) (by decide))⟩
      · unfold f_X6_sent
        rw [solverc_1 hO hC.1 hi, c0]
        simp only [ob]
        rw [if_neg (by decide), if_pos (show nI n < 6 from nI_lt (b := 6) hc (by decide)), wr_nI hc (by decide), mset_ne (by decide), c0, wr_nI hc (by decide), hnar]
        simp only [lt']
        rw [show mset (mset mem 60 n (nI i)) 61 n (b2i b) 0 11 = nI n by rw [mset_ne (by decide), mset_ne (by decide), c0], nI_1, hm1, gC.1]
      · have m01 := hM1.2.2.2.2.1.1
        simp only at m01
        unfold f_X7_sent
        rw [solver7_1 hO hM1.1 hi, m01]
        simp only [ob]
        rw [if_neg (by decide), if_neg (show ¬ nI n = 6 from lit_ne (n := 6) (by omega) (by omega) (by decide)), wr_nI hc (by decide), mset_ne (by decide), m01, wr_nI hc (by decide), hnar]
        simp only [lt']
        rw [show mset (mset m1 87 n (nI i)) 88 n (b2i b) 62 40 = nI n by rw [mset_ne (by decide), mset_ne (by decide), m01], nI_1, hm2, gM.1]
      · simp only at hj ⊢
        by_cases he : j = n
        · rw [if_pos he]; exact hi
        · rw [if_neg he]; exact hA.2.2.2.2.1.2 j (by simp only; omega)
    · have h6 : n = 6 := by omega
      refine agree_0 hs hA hC hM (r := -3) ?_ ?_
      · unfold f_X6_sent
        rw [solverc_1 hO hC.1 hi, c0, h6]
        rfl
      · unfold f_X7_sent
        rw [solver7_1 hO hM.1 hi, m0, h6]
        rfl
  · refine agree_0 hs hA hC hM (r := -1) ?_ ?_
    · unfold f_X6_sent
      rw [solverc_0 hO hC.1 hl]
      rfl
    · unfold f_X7_sent
      rw [solver7_0 hO hM.1 hl]
      rfl
theorem forget_a (hs : Two sh sp) (hA : AOK S P u k w x) (hC : CI S P u k w x sh mem) (hM : MI S P u k w x mem) : Agree sh sp f_X6_forget f_X7_forget mem := by
  have hs' := hs
  unfold Two at hs'
  generalize hm1 : mset mem 0 11 0 = m1
  have f1 : ∀ a, a ≠ 0 → m1 a = mem a := fun a z => by rw [← hm1, mset_ne z]
  generalize hm2 : mset m1 62 40 0 = m2
  have f2 : ∀ a, a ≠ 62 → m2 a = m1 a := fun a z => by rw [← hm2, mset_ne z]
  have h2 : ∀ i, i ≠ 40 → m2 62 i = m1 62 i := fun i z => by rw [← hm2, mset_k z]
  have hM1 := hM.up (mem' := m1) (fun a ha => f1 a (by omega))
  refine agree_of (P' := P) (w' := (0, w.2)) (r := nI w.1) (m1 := m1) (m2 := m2) hs ?_ ?_ ⟨hA.1, hA.2.1, hA.2.2.1, hA.2.2.2.1, ⟨Nat.zero_le _, fun j hj => absurd hj (Nat.not_lt_zero _)⟩, hA.2.2.2.2.2⟩ ⟨hC.1.keep (fun a _ _ => f1 a (by omega)), hC.2.1.keep (fun a _ _ => f1 a (by omega)), hC.2.2.1.keep (fun a _ _ => f1 a (by omega)), hC.2.2.2.1.keep (fun a _ _ => f1 a (by omega)), ⟨by rw [← hm1, mset_eq]; rfl, fun j hj => absurd hj (Nat.not_lt_zero _)⟩, hC.2.2.2.2.2.keep (by rw [f1 1 (by decide)]) (f1 2 (by decide))⟩ (fun a ha => f2 a (by omega)) ⟨hM1.1.keep (fun a _ _ => h2 a (by omega)) (fun a _ _ => f2 a (by omega)), hM1.2.1.keep (f2 77 (by decide)), hM1.2.2.1.keep (h2 31 (by decide)) (h2 32 (by decide)) (f2 82 (by decide)), hM1.2.2.2.1.keep (h2 43 (by decide)) (f2 89 (by decide)), ⟨by rw [← hm2, mset_eq]; rfl, fun j hj => absurd hj (Nat.not_lt_zero _)⟩, hM1.2.2.2.2.2.keep (h2 0 (by decide)) (f2 63 (by decide))⟩
  · unfold f_X6_forget
    simp only [lt']
    rw [hC.2.2.2.2.1.1, hm1]
  · unfold f_X7_forget
    simp only [lt']
    rw [hM1.2.2.2.2.1.1, hm2]
/-- the text alone changes -/
theorem text_of {x' : Nat × (Nat → Nat)} {fc fr : Mem → Option (Int32 × Mem)} {r : Int32} {m1 m2 : Mem} (hs : Two sh sp) (hA : AOK S P u k w x) (hC : CI S P u k w x sh mem) (hM : MI S P u k w x mem) (h1 : fc mem = some (r, m1)) (h2 : fr m1 = some (r, m2)) (hx : x'.1 ≤ 200 ∧ ∀ j, j < x'.1 → 32 ≤ x'.2 j ∧ x'.2 j ≤ 126) (f1 : ∀ a, a ≠ 1 → a ≠ 2 → m1 a = mem a) (f2 : ∀ a, a ≠ 62 → a ≠ 63 → m2 a = m1 a) (h62 : ∀ i, i ≠ 0 → m2 62 i = m1 62 i) (gC : CX x' m1) (gM : MX x' m2) : Agree sh sp fc fr mem := by
  have hs' := hs
  unfold Two at hs'
  have hM1 := hM.up (mem' := m1) (fun a ha => f1 a (by omega) (by omega))
  exact agree_of hs h1 h2 ⟨hA.1, hA.2.1, hA.2.2.1, hA.2.2.2.1, hA.2.2.2.2.1, hx⟩ ⟨hC.1.keep (fun a _ _ => f1 a (by omega) (by omega)), hC.2.1.keep (fun a _ _ => f1 a (by omega) (by omega)), hC.2.2.1.keep (fun a _ _ => f1 a (by omega) (by omega)), hC.2.2.2.1.keep (fun a _ _ => f1 a (by omega) (by omega)), hC.2.2.2.2.1.keep (by rw [f1 0 (by decide) (by decide)]) (f1 60 (by decide) (by decide)) (f1 61 (by decide) (by decide)), gC⟩ (fun a ha => f2 a (by omega) (by omega)) ⟨hM1.1.keep (fun a _ _ => h62 a (by omega)) (fun a _ _ => f2 a (by omega) (by omega)), hM1.2.1.keep (f2 77 (by decide) (by decide)), hM1.2.2.1.keep (h62 31 (by decide)) (h62 32 (by decide)) (f2 82 (by decide) (by decide)), hM1.2.2.2.1.keep (h62 43 (by decide)) (f2 89 (by decide) (by decide)), hM1.2.2.2.2.1.keep (h62 40 (by decide)) (f2 87 (by decide) (by decide)) (f2 88 (by decide) (by decide)), gM⟩
theorem wipe_a (hs : Two sh sp) (hA : AOK S P u k w x) (hC : CI S P u k w x sh mem) (hM : MI S P u k w x mem) : Agree sh sp f_X6_wipe f_X7_wipe mem := by
  refine text_of (x' := (0, x.2)) (r := nI x.1) (m1 := mset mem 1 1 0) (m2 := mset (mset mem 1 1 0) 62 0 0) hs hA hC hM ?_ ?_ ⟨Nat.zero_le _, fun j hj => absurd hj (Nat.not_lt_zero _)⟩ (fun a z _ => mset_ne z) (fun a z _ => mset_ne z) (fun i z => mset_k z) ⟨mset_eq, fun j hj => absurd hj (Nat.not_lt_zero _)⟩ ⟨mset_eq, fun j hj => absurd hj (Nat.not_lt_zero _)⟩
  · unfold f_X6_wipe
    simp only [lt']
    rw [hC.2.2.2.2.2.1]
  · unfold f_X7_wipe
    simp only [lt']
    rw [mset_ne (by decide), hM.2.2.2.2.2.1]
theorem write_a (hs : Two sh sp) (hA : AOK S P u k w x) (hC : CI S P u k w x sh mem) (hM : MI S P u k w x mem) : Agree sh sp (f_X6_write l) (f_X7_write l) mem := by
  have hn := hA.2.2.2.2.2.1
  have c0 := hC.2.2.2.2.2.1
  have m0 := hM.2.2.2.2.2.1
  by_cases h1 : l < 32
  · refine agree_0 hs hA hC hM (r := -1) ?_ ?_
    · unfold f_X6_write
      rw [if_pos h1]
    · unfold f_X7_write f_X7_in
      rw [if_pos h1]
      rfl
  · by_cases h2 : l ≤ 126
    · have h0 : ¬ l < 0 := by
        intro z
        apply h1
        rw [Int32.lt_iff_toInt_lt] at z ⊢
        have e0 : (0 : Int32).toInt = 0 := by decide
        have e1 : (32 : Int32).toInt = 32 := by decide
        omega
      obtain ⟨c, hc, rfl⟩ := nI_of h0
      have h3 : 32 ≤ c := by
        rcases Nat.lt_or_ge c 32 with z | z
        · exact absurd (nI_lt (b := 32) z (by decide)) h1
        · exact z
      have h4 : c ≤ 126 := by
        rcases Nat.lt_or_ge 126 c with z | z
        · exact absurd h2 (nI_ge z hc)
        · exact z
      have hin : f_X7_in (nI c) 32 126 = some 1 := by
        unfold f_X7_in
        rw [if_neg h1, if_neg (show ¬ (126 : Int32) < nI c from nI_nlt (a := 126) h4 (by decide))]
      by_cases h5 : x.1 < 200
      · have gx : ∀ (f : Nat → Int32), (∀ j, j < x.1 → f j = nI (x.2 j)) → ∀ j, j < x.1 + 1 → (if j = x.1 then nI c else f j) = nI (if j = x.1 then c else x.2 j) := by
          intro f hf j hj
          by_cases he : j = x.1
          · rw [if_pos he, if_pos he]
          · rw [if_neg he, if_neg he]; exact hf j (by omega)
        generalize hm1 : mset (mset mem 2 x.1 (nI c)) 1 1 (nI (x.1 + 1)) = m1
        have f1 : ∀ a, a ≠ 1 → a ≠ 2 → m1 a = mem a := fun a z1 z2 => by rw [← hm1, mset_ne z1, mset_ne z2]
        generalize hm2 : mset (mset m1 63 x.1 (nI c)) 62 0 (nI (x.1 + 1)) = m2
        have m01 : m1 62 0 = nI x.1 := by rw [f1 62 (by decide) (by decide)]; exact m0
        refine text_of (x' := (x.1 + 1, fun j => if j = x.1 then c else x.2 j)) (r := nI (x.1 + 1)) (m1 := m1) (m2 := m2) hs hA hC hM ?_ ?_ ⟨by simp only; omega, fun j hj => ?_⟩ f1 (fun a z1 z2 => by rw [← hm2, mset_ne z1, mset_ne z2]) (fun i z => by rw [← hm2, mset_k z, mset_ne (by decide)]) ⟨by rw [← hm1, mset_eq], fun j hj => ?_⟩ ⟨by rw [← hm2, mset_eq], fun j hj => ?_⟩
        · unfold f_X6_write f_X2_append
          rw [if_neg h1, if_pos h2, c0, if_pos (show nI x.1 < 200 from nI_lt (b := 200) h5 (by decide)), wr_nI h5 (by decide)]
          simp only [lt', ob2]
          rw [if_neg (by decide), show mset mem 2 x.1 (nI c) 1 1 = nI x.1 by rw [mset_ne (by decide), c0], nI_1, hm1, show m1 1 1 = nI (x.1 + 1) by rw [← hm1, mset_eq]]
        · unfold f_X7_write
          rw [hin, m01]
          simp only [ob]
          rw [if_neg (by decide), if_neg (show ¬ nI x.1 = 200 from lit_ne (n := 200) (by omega) (by omega) (by decide)), wr_nI h5 (by decide)]
          simp only [lt']
          rw [show mset m1 63 x.1 (nI c) 62 0 = nI x.1 by rw [mset_ne (by decide), m01], nI_1, hm2, show m2 62 0 = nI (x.1 + 1) by rw [← hm2, mset_eq]]
        · simp only at hj ⊢
          by_cases he : j = x.1
          · rw [if_pos he]; omega
          · rw [if_neg he]; exact hA.2.2.2.2.2.2 j (by omega)
        · simp only at hj ⊢
          rw [← hm1, mset_ne (by decide), ← gx (mem 2) hC.2.2.2.2.2.2 j hj, mset_at]
          simp only [true_and]
        · simp only at hj ⊢
          rw [← hm2, mset_ne (by decide), ← gx (m1 63) (fun j hj => by rw [f1 63 (by decide) (by decide)]; exact hM.2.2.2.2.2.2 j hj) j hj, mset_at]
          simp only [true_and]
      · have h6 : x.1 = 200 := by omega
        refine agree_0 hs hA hC hM (r := -3) ?_ ?_
        · unfold f_X6_write f_X2_append
          rw [if_neg h1, if_pos h2, c0, h6, if_neg (by decide)]
          rfl
        · unfold f_X7_write
          rw [hin, m0, h6]
          rfl
    · refine agree_0 hs hA hC hM (r := -1) ?_ ?_
      · unfold f_X6_write
        rw [if_neg h1, if_neg h2]
      · unfold f_X7_write f_X7_in
        rw [if_neg h1, if_pos (show (126 : Int32) < l by rw [Int32.lt_iff_toInt_lt]; rw [Int32.le_iff_toInt_le] at h2; omega)]
        rfl
end ACT2
