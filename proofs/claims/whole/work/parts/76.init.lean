/-! the first text, and the first sheet of both -/
def tx0 (j : Nat) : Nat := [103, 51, 44, 52, 59, 98, 53, 59, 119, 97, 99, 101, 59, 119, 98, 97, 100, 59, 119, 102, 97, 100, 101, 59, 119, 99, 97, 102, 101, 59, 119, 100, 101, 59, 119, 97, 98, 101, 59, 119, 102, 101, 100, 59, 108, 48, 102, 59, 115, 48, 44, 48, 44, 50, 59, 115, 49, 44, 48, 44, 51, 59, 115, 50, 44, 49, 44, 52, 59, 115, 51, 44, 50, 44, 54, 59, 115, 52, 44, 48, 44, 51, 59, 115, 48, 44, 51, 44, 49, 59].getD j 0
def x0 : Nat × (Nat → Nat) := (90, tx0)
theorem chr_0 : ∀ j, j < 90 → chr j = nI (tx0 j) := by decide +kernel
theorem x0_ok : XOK x0 := ⟨by decide, by decide +kernel⟩
theorem stG {S : Sh} {P : Pa} {i p1 p3 r c : Nat} (hi : i < 90) (h1 : tk x0 i = 103) (f1 : figB (tk x0 (i + 1)) = true) (v1 : nuV x0 (i + 1) = r) (hr : 2 ≤ r ∧ r < 5) (e1 : nuP x0 (i + 1) = p1) (k1 : tk x0 p1 = 44) (f2 : figB (tk x0 (p1 + 1)) = true) (v2 : nuV x0 (p1 + 1) = c) (hc : 2 ≤ c ∧ c < 5) (e2 : nuP x0 (p1 + 1) = p3) (k2 : tk x0 p3 = 59) : Step x0 (S, P, i, true) (DG S r c, P, p3 + 1, true) := by
  subst v1 v2 e2 e1
  exact ⟨hi, Or.inr (Or.inl ⟨h1, rfl, ⟨⟨f1, hr⟩, k1, ⟨f2, hc⟩, k2⟩, rfl⟩)⟩
theorem stB {S : Sh} {P : Pa} {g : Bool} {i p v : Nat} (hi : i < 90) (h1 : tk x0 i = 98) (f1 : figB (tk x0 (i + 1)) = true) (v1 : nuV x0 (i + 1) = v) (hv : v < sR S * sC S) (e1 : nuP x0 (i + 1) = p) (k1 : tk x0 p = 59) : Step x0 (S, P, i, g) (DB S v, P, p + 1, false) := by
  subst v1 e1
  exact ⟨hi, Or.inl ⟨h1, ⟨⟨f1, Nat.zero_le _, hv⟩, k1⟩, rfl⟩⟩
theorem stL {S : Sh} {P : Pa} {g : Bool} {i p v l : Nat} (hi : i < 90) (h1 : tk x0 i = 108) (f1 : figB (tk x0 (i + 1)) = true) (v1 : nuV x0 (i + 1) = v) (hv : v < sR S * sC S) (e1 : nuP x0 (i + 1) = p) (hl : ltrB (tk x0 p) = true) (el : tk x0 p - 96 = l) (k1 : tk x0 (p + 1) = 59) : Step x0 (S, P, i, g) (S, DL P v l, p + 2, false) := by
  subst v1 el e1
  exact ⟨hi, Or.inr (Or.inr (Or.inl ⟨h1, ⟨⟨f1, Nat.zero_le _, hv⟩, hl, k1⟩, rfl⟩))⟩
theorem stW {S : Sh} {P : Pa} {g : Bool} {i n : Nat} (hi : i < 90) (h1 : tk x0 i = 119) (hn : nl x0 (i + 1) = n) (h2 : 2 ≤ n) (h4 : n ≤ 4) (k1 : tk x0 (i + 1 + n) = 59) (h9 : sW S < 9) (hl : listB S (wf x0 (i + 1) n) = false) : Step x0 (S, P, i, g) (DW S n (wf x0 (i + 1) n), P, i + 1 + n + 1, false) := by
  subst hn
  exact ⟨hi, Or.inr (Or.inr (Or.inr (Or.inr ⟨h1, ⟨h2, h4, k1, h9, hl⟩, rfl⟩)))⟩
theorem stS {S : Sh} {P : Pa} {g : Bool} {i k p w p1 p2 p3 m : Nat} (hi : i < 90) (h1 : tk x0 i = 115) (f1 : figB (tk x0 (i + 1)) = true) (v1 : nuV x0 (i + 1) = k) (hk : k < 5) (e1 : nuP x0 (i + 1) = p1) (k1 : tk x0 p1 = 44) (f2 : figB (tk x0 (p1 + 1)) = true) (v2 : nuV x0 (p1 + 1) = p) (hp : p < 8) (e2 : q2P x0 (i + 1) = p2) (k2 : tk x0 p2 = 44) (f3 : figB (tk x0 (p2 + 1)) = true) (v3 : nuV x0 (p2 + 1) = w) (hw : w < sW S) (e3 : q3P x0 (i + 1) = p3) (k3 : tk x0 p3 = 59) (h6 : sN S < 6) (hm : sN S = m) : Step x0 (S, P, i, g) (DS S k, DV P m p w, p3 + 1, false) := by
  subst v1 v2 v3 hm e1 e2 e3
  exact ⟨hi, Or.inr (Or.inr (Or.inr (Or.inl ⟨h1, ⟨⟨f1, Nat.zero_le _, hk⟩, k1, ⟨f2, Nat.zero_le _, hp⟩, k2, ⟨f3, Nat.zero_le _, hw⟩, k3, h6⟩, rfl⟩)))⟩
def T1 : Sh := DG D0.1 3 4
def T2 : Sh := DB T1 5
def T3 : Sh := DW T2 3 (wf x0 9 3)
def T4 : Sh := DW T3 3 (wf x0 14 3)
def T5 : Sh := DW T4 4 (wf x0 19 4)
def T6 : Sh := DW T5 4 (wf x0 25 4)
def T7 : Sh := DW T6 2 (wf x0 31 2)
def T8 : Sh := DW T7 3 (wf x0 35 3)
def T9 : Sh := DW T8 3 (wf x0 40 3)
def Q1 : Pa := DL D0.2.1 0 6
def T10 : Sh := DS T9 0
def Q2 : Pa := DV Q1 0 0 2
def T11 : Sh := DS T10 1
def Q3 : Pa := DV Q2 1 0 3
def T12 : Sh := DS T11 2
def Q4 : Pa := DV Q3 2 1 4
def T13 : Sh := DS T12 3
def Q5 : Pa := DV Q4 3 2 6
def T14 : Sh := DS T13 4
def Q6 : Pa := DV Q5 4 0 3
def T15 : Sh := DS T14 0
def Q7 : Pa := DV Q6 5 3 1
theorem st0 : Step x0 (D0.1, D0.2.1, 0, true) (T1, D0.2.1, 5, true) := stG (r := 3) (c := 4) (p1 := 2) (p3 := 4) (by decide) (by decide +kernel) (by decide +kernel) (by decide +kernel) (by decide) (by decide +kernel) (by decide +kernel) (by decide +kernel) (by decide +kernel) (by decide) (by decide +kernel) (by decide +kernel)
theorem st1 : Step x0 (T1, D0.2.1, 5, true) (T2, D0.2.1, 8, false) := stB (v := 5) (p := 7) (by decide) (by decide +kernel) (by decide +kernel) (by decide +kernel) (by decide) (by decide +kernel) (by decide +kernel)
theorem st2 : Step x0 (T2, D0.2.1, 8, false) (T3, D0.2.1, 13, false) := stW (n := 3) (by decide) (by decide +kernel) (by decide +kernel) (by decide) (by decide) (by decide +kernel) (by decide +kernel) (by decide +kernel)
theorem st3 : Step x0 (T3, D0.2.1, 13, false) (T4, D0.2.1, 18, false) := stW (n := 3) (by decide) (by decide +kernel) (by decide +kernel) (by decide) (by decide) (by decide +kernel) (by decide +kernel) (by decide +kernel)
theorem st4 : Step x0 (T4, D0.2.1, 18, false) (T5, D0.2.1, 24, false) := stW (n := 4) (by decide) (by decide +kernel) (by decide +kernel) (by decide) (by decide) (by decide +kernel) (by decide +kernel) (by decide +kernel)
theorem st5 : Step x0 (T5, D0.2.1, 24, false) (T6, D0.2.1, 30, false) := stW (n := 4) (by decide) (by decide +kernel) (by decide +kernel) (by decide) (by decide) (by decide +kernel) (by decide +kernel) (by decide +kernel)
theorem st6 : Step x0 (T6, D0.2.1, 30, false) (T7, D0.2.1, 34, false) := stW (n := 2) (by decide) (by decide +kernel) (by decide +kernel) (by decide) (by decide) (by decide +kernel) (by decide +kernel) (by decide +kernel)
theorem st7 : Step x0 (T7, D0.2.1, 34, false) (T8, D0.2.1, 39, false) := stW (n := 3) (by decide) (by decide +kernel) (by decide +kernel) (by decide) (by decide) (by decide +kernel) (by decide +kernel) (by decide +kernel)
theorem st8 : Step x0 (T8, D0.2.1, 39, false) (T9, D0.2.1, 44, false) := stW (n := 3) (by decide) (by decide +kernel) (by decide +kernel) (by decide) (by decide) (by decide +kernel) (by decide +kernel) (by decide +kernel)
theorem st9 : Step x0 (T9, D0.2.1, 44, false) (T9, Q1, 48, false) := stL (v := 0) (p := 46) (l := 6) (by decide) (by decide +kernel) (by decide +kernel) (by decide +kernel) (by decide +kernel) (by decide +kernel) (by decide +kernel) (by decide +kernel) (by decide +kernel)
theorem st10 : Step x0 (T9, Q1, 48, false) (T10, Q2, 55, false) := stS (k := 0) (p := 0) (w := 2) (p1 := 50) (p2 := 52) (p3 := 54) (m := 0) (by decide) (by decide +kernel) (by decide +kernel) (by decide +kernel) (by decide) (by decide +kernel) (by decide +kernel) (by decide +kernel) (by decide +kernel) (by decide) (by decide +kernel) (by decide +kernel) (by decide +kernel) (by decide +kernel) (by decide +kernel) (by decide +kernel) (by decide +kernel) (by decide +kernel) (by decide +kernel)
theorem st11 : Step x0 (T10, Q2, 55, false) (T11, Q3, 62, false) := stS (k := 1) (p := 0) (w := 3) (p1 := 57) (p2 := 59) (p3 := 61) (m := 1) (by decide) (by decide +kernel) (by decide +kernel) (by decide +kernel) (by decide) (by decide +kernel) (by decide +kernel) (by decide +kernel) (by decide +kernel) (by decide) (by decide +kernel) (by decide +kernel) (by decide +kernel) (by decide +kernel) (by decide +kernel) (by decide +kernel) (by decide +kernel) (by decide +kernel) (by decide +kernel)
theorem st12 : Step x0 (T11, Q3, 62, false) (T12, Q4, 69, false) := stS (k := 2) (p := 1) (w := 4) (p1 := 64) (p2 := 66) (p3 := 68) (m := 2) (by decide) (by decide +kernel) (by decide +kernel) (by decide +kernel) (by decide) (by decide +kernel) (by decide +kernel) (by decide +kernel) (by decide +kernel) (by decide) (by decide +kernel) (by decide +kernel) (by decide +kernel) (by decide +kernel) (by decide +kernel) (by decide +kernel) (by decide +kernel) (by decide +kernel) (by decide +kernel)
theorem st13 : Step x0 (T12, Q4, 69, false) (T13, Q5, 76, false) := stS (k := 3) (p := 2) (w := 6) (p1 := 71) (p2 := 73) (p3 := 75) (m := 3) (by decide) (by decide +kernel) (by decide +kernel) (by decide +kernel) (by decide) (by decide +kernel) (by decide +kernel) (by decide +kernel) (by decide +kernel) (by decide) (by decide +kernel) (by decide +kernel) (by decide +kernel) (by decide +kernel) (by decide +kernel) (by decide +kernel) (by decide +kernel) (by decide +kernel) (by decide +kernel)
theorem st14 : Step x0 (T13, Q5, 76, false) (T14, Q6, 83, false) := stS (k := 4) (p := 0) (w := 3) (p1 := 78) (p2 := 80) (p3 := 82) (m := 4) (by decide) (by decide +kernel) (by decide +kernel) (by decide +kernel) (by decide) (by decide +kernel) (by decide +kernel) (by decide +kernel) (by decide +kernel) (by decide) (by decide +kernel) (by decide +kernel) (by decide +kernel) (by decide +kernel) (by decide +kernel) (by decide +kernel) (by decide +kernel) (by decide +kernel) (by decide +kernel)
theorem st15 : Step x0 (T14, Q6, 83, false) (T15, Q7, 90, false) := stS (k := 0) (p := 3) (w := 1) (p1 := 85) (p2 := 87) (p3 := 89) (m := 5) (by decide) (by decide +kernel) (by decide +kernel) (by decide +kernel) (by decide) (by decide +kernel) (by decide +kernel) (by decide +kernel) (by decide +kernel) (by decide) (by decide +kernel) (by decide +kernel) (by decide +kernel) (by decide +kernel) (by decide +kernel) (by decide +kernel) (by decide +kernel) (by decide +kernel) (by decide +kernel)
theorem done0 : Done x0 T15 Q7 := ⟨16, 90, false, ⟨_, st0, ⟨_, st1, ⟨_, st2, ⟨_, st3, ⟨_, st4, ⟨_, st5, ⟨_, st6, ⟨_, st7, ⟨_, st8, ⟨_, st9, ⟨_, st10, ⟨_, st11, ⟨_, st12, ⟨_, st13, ⟨_, st14, ⟨_, st15, rfl⟩⟩⟩⟩⟩⟩⟩⟩⟩⟩⟩⟩⟩⟩⟩⟩, Nat.le_refl _⟩
theorem spl0 {S : Sh} {P : Pa} {m : Mem} {a n c0 c1 c2 c3 : Nat} (hn : nl x0 a = n) (h2 : 2 ≤ n) (h4 : n ≤ 4) (h9 : sW S < 9) (e0 : wf x0 a n 0 = c0) (e1 : wf x0 a n 1 = c1) (e2 : wf x0 a n 2 = c2) (e3 : wf x0 a n 3 = c3) (hR : RR S P m) : ∃ m', f_X7_spells (nI c0) (nI c1) (nI c2) (nI c3) m = some m' ∧ RR (DW S n (wf x0 a n)) P m' ∧ FR m m' := by
  have hw : WOK n (wf x0 a n) := by rw [← hn]; exact wf_ok
  obtain ⟨m1, q1, q2, q3, q4⟩ := spells_7 hR h9 h2 h4 hw
  rw [e0, e1, e2, e3] at q1
  exact ⟨m1, q1, q2, ⟨fun b z1 z2 => q3 b z1 (by omega) (by omega), fun j z => q4 j (by omega)⟩⟩
theorem com0 {S : Sh} {P : Pa} {m : Mem} {k p w i : Nat} (hi : sN S = i) (h6 : i < 6) (hR : RR S P m) : ∃ m', f_X7_comes (nI k) (nI p) (nI w) m = some m' ∧ RR (DS S k) (DV P i p w) m' ∧ FR m m' := by
  subst hi
  obtain ⟨m1, q1, q2, q3, q4⟩ := comes_7 (k := k) (p := p) (w := w) h6 hR
  exact ⟨m1, q1, q2, ⟨fun b z1 z2 => q3 b z1 (by omega), fun j z => q4 j (by omega)⟩⟩
theorem init6_lp (mem : Mem) (h0 : mem 1 1 = 0) : ∃ r, lp f_init6_b FU (0, mem) = some r ∧ CX x0 r.2 ∧ ∀ b, b ≠ 1 → b ≠ 2 → r.2 b = mem b := by
  refine lp_invF (body := f_init6_b) (fun i q => q.1 = nI i ∧ (q.2 1 1 = nI i ∧ ∀ j, j < i → q.2 2 j = nI (tx0 j)) ∧ ∀ b, b ≠ 1 → b ≠ 2 → q.2 b = mem b) 90 (fun r => CX x0 r.2 ∧ ∀ b, b ≠ 1 → b ≠ 2 → r.2 b = mem b) (by decide) ⟨rfl, ⟨h0, fun j hj => absurd hj (Nat.not_lt_zero _)⟩, fun _ _ _ => rfl⟩ (fun i q hi hq => ?_) (fun q hq => ?_)
  · left
    obtain ⟨q1, ⟨q2, q3⟩, q4⟩ := hq
    unfold f_init6_b
    rw [q1, if_neg (show ¬ (90 : Int32) ≤ nI i from nI_ge (b := 90) hi (by decide)), rd_e i rfl hi (by decide) (chr_0 i hi)]
    unfold f_X2_append
    rw [q2, if_pos (show nI i < 200 from nI_lt (b := 200) (by omega) (by decide)), wr_nI (by omega) (by decide)]
    simp only [lt', ob2]
    rw [show mset q.2 2 i (nI (tx0 i)) 1 1 = nI i by rw [mset_ne (by decide)]; exact q2, nI_1]
    refine ⟨_, rfl, rfl, ⟨show mset (mset q.2 2 i (nI (tx0 i))) 1 1 (nI (i + 1)) 1 1 = nI (i + 1) from mset_eq, fun j hj => ?_⟩, fun b z1 z2 => ?_⟩
    · show mset (mset q.2 2 i (nI (tx0 i))) 1 1 (nI (i + 1)) 2 j = _
      rw [mset_ne (by decide)]
      by_cases e : j = i
      · rw [e, mset_eq]
      · rw [mset_k e]; exact q3 j (by omega)
    · show mset (mset q.2 2 i (nI (tx0 i))) 1 1 (nI (i + 1)) b = _
      rw [mset_ne z1, mset_ne z2, q4 b z1 z2]
  · obtain ⟨q1, ⟨q2, q3⟩, q4⟩ := hq
    unfold f_init6_b
    rw [q1, if_pos (show (90 : Int32) ≤ nI 90 from nI_le (Nat.le_refl 90) (by decide))]
    exact ⟨_, rfl, ⟨q2, q3⟩, q4⟩
theorem init7_e {mem : Mem} : ∃ m', f_init7 mem = some m' ∧ MS (fsN T15) m' ∧ MP (FP T15 Q7) 77 m' ∧ (m' 62 31 = 0 ∧ m' 62 40 = 0 ∧ m' 62 43 = 0) ∧ (∀ b, b < 62 → m' b = mem b) ∧ m' 62 0 = mem 62 0 ∧ m' 62 32 = mem 62 32 := by
  obtain ⟨g, hO⟩ := done_ok x0_ok done0
  unfold f_init7
  obtain ⟨m0, q0, R0, _, F0⟩ := anew_e mem
  rw [q0]
  simp only [ob]
  have R0' : RR T1 D0.2.1 m0 := R0
  rw [wr_e (i := 5) (n := 16) 5 rfl (by decide) (by decide)]
  have R1 : RR T2 D0.2.1 (mset m0 64 5 1) := RR.black R0'
  have F1 : FR mem (mset m0 64 5 1) := F0.tr (FR.set (by decide))
  generalize mset m0 64 5 1 = m1 at R1 F1 ⊢
  obtain ⟨m2, q2, R2, G2⟩ := spl0 (a := 9) (n := 3) (c0 := 1) (c1 := 3) (c2 := 5) (c3 := 0) (by decide +kernel) (by decide) (by decide) (by decide +kernel) (by decide +kernel) (by decide +kernel) (by decide +kernel) (by decide +kernel) R1
  rw [show f_X7_spells 1 3 5 0 m1 = some m2 from q2]
  simp only
  have F2 := F1.tr G2
  obtain ⟨m3, q3, R3, G3⟩ := spl0 (a := 14) (n := 3) (c0 := 2) (c1 := 1) (c2 := 4) (c3 := 0) (by decide +kernel) (by decide) (by decide) (by decide +kernel) (by decide +kernel) (by decide +kernel) (by decide +kernel) (by decide +kernel) R2
  rw [show f_X7_spells 2 1 4 0 m2 = some m3 from q3]
  simp only
  have F3 := F2.tr G3
  obtain ⟨m4, q4, R4, G4⟩ := spl0 (a := 19) (n := 4) (c0 := 6) (c1 := 1) (c2 := 4) (c3 := 5) (by decide +kernel) (by decide) (by decide) (by decide +kernel) (by decide +kernel) (by decide +kernel) (by decide +kernel) (by decide +kernel) R3
  rw [show f_X7_spells 6 1 4 5 m3 = some m4 from q4]
  simp only
  have F4 := F3.tr G4
  obtain ⟨m5, q5, R5, G5⟩ := spl0 (a := 25) (n := 4) (c0 := 3) (c1 := 1) (c2 := 6) (c3 := 5) (by decide +kernel) (by decide) (by decide) (by decide +kernel) (by decide +kernel) (by decide +kernel) (by decide +kernel) (by decide +kernel) R4
  rw [show f_X7_spells 3 1 6 5 m4 = some m5 from q5]
  simp only
  have F5 := F4.tr G5
  obtain ⟨m6, q6, R6, G6⟩ := spl0 (a := 31) (n := 2) (c0 := 4) (c1 := 5) (c2 := 0) (c3 := 0) (by decide +kernel) (by decide) (by decide) (by decide +kernel) (by decide +kernel) (by decide +kernel) (by decide +kernel) (by decide +kernel) R5
  rw [show f_X7_spells 4 5 0 0 m5 = some m6 from q6]
  simp only
  have F6 := F5.tr G6
  obtain ⟨m7, q7, R7, G7⟩ := spl0 (a := 35) (n := 3) (c0 := 1) (c1 := 2) (c2 := 5) (c3 := 0) (by decide +kernel) (by decide) (by decide) (by decide +kernel) (by decide +kernel) (by decide +kernel) (by decide +kernel) (by decide +kernel) R6
  rw [show f_X7_spells 1 2 5 0 m6 = some m7 from q7]
  simp only
  have F7 := F6.tr G7
  obtain ⟨m8, q8, R8, G8⟩ := spl0 (a := 40) (n := 3) (c0 := 6) (c1 := 5) (c2 := 4) (c3 := 0) (by decide +kernel) (by decide) (by decide) (by decide +kernel) (by decide +kernel) (by decide +kernel) (by decide +kernel) (by decide +kernel) R7
  rw [show f_X7_spells 6 5 4 0 m7 = some m8 from q8]
  simp only
  have F8 := F7.tr G8
  rw [wr_e (i := 0) (n := 16) 0 rfl (by decide) (by decide)]
  have R9 : RR T9 Q1 (mset m8 65 0 (nI 6)) := RR.letter R8
  have F9 : FR mem (mset m8 65 0 (nI 6)) := F8.tr (FR.set (by decide))
  rw [show mset m8 65 0 6 = mset m8 65 0 (nI 6) from rfl]
  generalize mset m8 65 0 (nI 6) = m9 at R9 F9 ⊢
  obtain ⟨m10, q10, R10, G10⟩ := com0 (k := 0) (p := 0) (w := 2) (i := 0) (by decide +kernel) (by decide) R9
  rw [show f_X7_comes 0 0 2 m9 = some m10 from q10]
  simp only
  have F10 := F9.tr G10
  obtain ⟨m11, q11, R11, G11⟩ := com0 (k := 1) (p := 0) (w := 3) (i := 1) (by decide +kernel) (by decide) R10
  rw [show f_X7_comes 1 0 3 m10 = some m11 from q11]
  simp only
  have F11 := F10.tr G11
  obtain ⟨m12, q12, R12, G12⟩ := com0 (k := 2) (p := 1) (w := 4) (i := 2) (by decide +kernel) (by decide) R11
  rw [show f_X7_comes 2 1 4 m11 = some m12 from q12]
  simp only
  have F12 := F11.tr G12
  obtain ⟨m13, q13, R13, G13⟩ := com0 (k := 3) (p := 2) (w := 6) (i := 3) (by decide +kernel) (by decide) R12
  rw [show f_X7_comes 3 2 6 m12 = some m13 from q13]
  simp only
  have F13 := F12.tr G13
  obtain ⟨m14, q14, R14, G14⟩ := com0 (k := 4) (p := 0) (w := 3) (i := 4) (by decide +kernel) (by decide) R13
  rw [show f_X7_comes 4 0 3 m13 = some m14 from q14]
  simp only
  have F14 := F13.tr G14
  obtain ⟨m15, q15, R15, G15⟩ := com0 (k := 0) (p := 3) (w := 1) (i := 5) (by decide +kernel) (by decide) R14
  rw [show f_X7_comes 0 3 1 m14 = some m15 from q15]
  simp only
  have F15 := F14.tr G15
  have RZ : RR T15 Q7 m15 := R15
  obtain ⟨mz, z1, z2, z3, z4, z5, z6⟩ := laid_7 hO RZ
  rw [z1]
  exact ⟨mz, rfl, z2, z3, z4, fun b hb => by rw [z5 b (by omega) (by omega), F15.1 b (by omega) (by omega)], by rw [z6 0 (by decide) (by decide) (by decide) (by decide), F15.2 0 (by decide)], by rw [z6 32 (by decide) (by decide) (by decide) (by decide), F15.2 32 (by decide)]⟩
theorem pure_ex : ∃ mem6 mem7, Pure mem6 mem7 := by
  obtain ⟨g, hO⟩ := done_ok x0_ok done0
  obtain ⟨r, hr, r1, r2⟩ := init6_lp (mset (mset MZ 52 0 8) 56 0 2) rfl
  have hz : ∀ a, 62 ≤ a → r.2 a = fun _ => 0 := fun a ha => by
    rw [r2 a (by omega) (by omega), mset_ne (by omega), mset_ne (by omega)]
    rfl
  have hU : CU 0 (fun _ => ((fun _ => 0), (fun _ => 0), fun _ => 0)) r.2 := ⟨by rw [r2 52 (by decide) (by decide), mset_ne (by decide), mset_eq]; rfl, by rw [r2 52 (by decide) (by decide), mset_ne (by decide), mset_k (by decide)]; rfl, fun j hj => absurd hj (Nat.not_lt_zero _)⟩
  have hK : CK 0 (fun _ => ((fun _ => 0), (fun _ => 0), fun _ => 0)) r.2 := ⟨by rw [r2 56 (by decide) (by decide), mset_eq]; rfl, by rw [r2 56 (by decide) (by decide), mset_k (by decide), mset_ne (by decide)]; rfl, fun j hj => absurd hj (Nat.not_lt_zero _)⟩
  have hs0 : Two 3 17 := Or.inl ⟨rfl, rfl⟩
  have hs1 : Two 17 3 := Or.inr ⟨rfl, rfl⟩
  have h1 : 1 ≤ sW T15 := by decide +kernel
  obtain ⟨m1, t1, t2, t3⟩ := layText_1 (w := (0, (fun _ => 0), fun _ => false)) x0_ok hs0 done0 h1 r1 hU hK
  have h62 : ∀ a, 62 ≤ a → mset m1 1 1 0 a = fun _ => 0 := fun a ha => by rw [mset_ne (by omega), t3 a ha, hz a ha]
  obtain ⟨m7, z1, z2, z3, z4, z5, z6, z7⟩ := init7_e (mem := mset m1 1 1 0)
  obtain ⟨o1, o2⟩ := pok_fs hO h1
  have hI : Inv 17 3 m7 := by
    refine ⟨hs1, fsN T15, FP T15 Q7, (0, fun _ => ((fun _ => 0), (fun _ => 0), fun _ => 0)), (0, fun _ => ((fun _ => 0), (fun _ => 0), fun _ => 0)), (0, (fun _ => 0), fun _ => false), (0, tx0), ⟨o1, o2, ⟨Nat.zero_le _, fun j hj => absurd hj (Nat.not_lt_zero _)⟩, ⟨Nat.zero_le _, fun j hj => absurd hj (Nat.not_lt_zero _)⟩, ⟨Nat.zero_le _, fun j hj => absurd hj (Nat.not_lt_zero _)⟩, Nat.zero_le _, fun j hj => absurd hj (Nat.not_lt_zero _)⟩, ?_, z2, z3, ⟨0, by decide, z4.1, by rw [z7, h62 62 (by decide)]; rfl, fun j hj => absurd hj (Nat.not_lt_zero _)⟩, ⟨z4.2.2, fun j hj => absurd hj (Nat.not_lt_zero _)⟩, ⟨z4.2.1, fun j hj => absurd hj (Nat.not_lt_zero _)⟩, by rw [z6, h62 62 (by decide)]; rfl, fun j hj => absurd hj (Nat.not_lt_zero _)⟩
    have f1 : ∀ a, a ≠ 1 → a < 62 → m7 a = m1 a := fun a z hz => by rw [z5 a hz, mset_ne z]
    exact ⟨t2.1.keep (fun a _ _ => f1 a (by omega) (by omega)), t2.2.1.keep (fun a _ _ => f1 a (by omega) (by omega)), t2.2.2.1.keep (fun a _ _ => f1 a (by omega) (by omega)), t2.2.2.2.1.keep (fun a _ _ => f1 a (by omega) (by omega)), t2.2.2.2.2.1.keep (by rw [f1 0 (by decide) (by decide)]) (f1 60 (by decide) (by decide)) (f1 61 (by decide) (by decide)), by rw [z5 1 (by decide), mset_eq]; rfl, fun j hj => absurd hj (Nat.not_lt_zero _)⟩
  refine ⟨mset m1 1 1 0, m7, ?_, h62, z1, fun L xs hL => law_runs hI hL⟩
  unfold f_init6
  rw [hr]
  simp only [ob]
  rw [t1]
  rfl
