/-! fault and lay -/
section LAY
variable {S : Sh} {P : Pa} {u k : Nat × (Nat → Pa)} {w : Nat × (Nat → Nat) × (Nat → Bool)} {x : Nat × (Nat → Nat)} {sh sp : Nat} {mem m' : Mem}
theorem GC.q (h : GC sp mem m') : QC sp mem m' := ⟨fun a z1 _ z3 => h.1 a z1 z3, h.2⟩
theorem FR.q (h : FR mem m') : QM mem m' := ⟨fun a z1 z2 _ _ => h.1 a z1 z2, fun j z _ _ => h.2 j z⟩
theorem nI_nm4 {j : Nat} (h : j < 2 ^ 31) : ¬ nI j = -4 := fun z => nI_pos h (by rw [z]; decide)
theorem finish_j (hX : XOK x) {S0 : Sh} {P0 : Pa} (hs : 3 ≤ sp) (hD : Done x S0 P0) (hC : CX x mem) : ∃ m', f_X2_readInto sp mem = some (-4, m') ∧ CR (fsN S0) (FP S0 P0) sp m' ∧ CX x m' ∧ GC sp mem m' := by
  obtain ⟨g, hO⟩ := done_ok hX hD
  obtain ⟨m1, q1, q2, q3, q4⟩ := into_done hX hs hD hC
  obtain ⟨m2, r1, r2, r3⟩ := finish_c hO q2
  refine ⟨m2, ?_, r2, q3.keep (by rw [r3 1 (by omega)]) (r3 2 (by omega)), q4.tr (GC.of (by omega) r3)⟩
  rw [q1]
  unfold f_X2_readInto_j77
  rw [r1]
  rfl
theorem fault_a (hs : Two sh sp) (hA : AOK S P u k w x) (hC : CI S P u k w x sh mem) (hM : MI S P u k w x mem) : Agree sh sp (f_X6_fault sp) f_X7_fault mem := by
  have hX : XOK x := hA.2.2.2.2.2
  have hs3 : 3 ≤ sp := by unfold Two at hs; omega
  have hCX : CX x mem := hC.2.2.2.2.2
  have hMX : ∀ m1, GC sp mem m1 → MX x m1 := fun m1 h => hM.2.2.2.2.2.keep (by rw [h.1 62 (by decide) (by unfold Two at hs; omega)]) (h.1 63 (by decide) (by unfold Two at hs; omega))
  rcases parse hX with ⟨S0, P0, hD⟩ | ⟨j, hF⟩
  · obtain ⟨m1, q1, q2, q3, q4⟩ := finish_j hX hs3 hD hCX
    obtain ⟨m2, r1, r2, r3⟩ := of_done hX hD (hMX m1 q4)
    refine agree_q hs hA hC hM (r := -4) ?_ q4.q ?_ r3.q (fun a ha => r3.1 a (by omega) (by omega))
    · unfold f_X6_fault
      rw [q1]
      rfl
    · unfold f_X7_fault
      rw [r1]
      rfl
  · obtain ⟨m1, q1, q2⟩ := into_flt hX hs3 hF hCX
    obtain ⟨m2, r1, r2⟩ := of_flt hX hF (hMX m1 q2)
    refine agree_q hs hA hC hM (r := nI j) ?_ q2.q ?_ r2.q (fun a ha => r2.1 a (by omega) (by omega))
    · unfold f_X6_fault
      rw [q1]
      rfl
    · unfold f_X7_fault
      rw [r1]
      rfl
theorem pok_fs {S0 : Sh} {P0 : Pa} {g : Bool} (hO : DOK S0 P0 g) (h1 : 1 ≤ sW S0) : SOK (fsN S0) ∧ POK (fsN S0) (FP S0 P0) := by
  obtain ⟨f1, f2, f3⟩ := fs_ok hO.fok hO.2.2.1
  refine ⟨f1.sok f3 (by rw [f2.2.2.2.1]; exact h1), fun y hy => ?_, fun y hy hb => ?_, fun i hi => ?_⟩
  · show (if sbl S0 y = 1 then 0 else P0.1 y) ≤ 6
    split
    · decide
    · exact hO.2.2.2.2.2.2.2.2.1 y hy
  · rw [f2.1, f2.2.1, f2.2.2.1] at hb
    show (if sbl S0 y = 1 then 0 else P0.1 y) = 0
    split
    · rfl
    · rename_i e
      exact hO.2.2.2.2.2.2.2.2.2.1 y hy (hb.resolve_right e)
  · rw [f2.2.2.2.1]
    have o := hO.2.2.2.2.2.2.2.2.2.2.2 i hi
    refine ⟨o.1, ?_⟩
    show P0.2.2 i < sW S0
    rcases Nat.lt_or_ge i (sN S0) with q | q
    · exact o.2.1 q
    · rw [(o.2.2 q).2]; omega
theorem layText_1 (hX : XOK x) {S0 : Sh} {P0 : Pa} (hs : Two sh sp) (hD : Done x S0 P0) (h1 : 1 ≤ sW S0) {n1 n2 : Nat} {U K : Nat → Pa} (hC : CX x mem) (hU : CU n1 U mem) (hK : CK n2 K mem) : ∃ m', f_X6_layText sh sp mem = some (1, sp, sh, m') ∧ CI (fsN S0) (FP S0 P0) (0, U) (0, K) (0, w.2) x sp m' ∧ ∀ a, 62 ≤ a → m' a = mem a := by
  obtain ⟨g, hO⟩ := done_ok hX hD
  have hs3 : 3 ≤ sp := by unfold Two at hs; omega
  have hs' := hs
  unfold Two at hs'
  obtain ⟨m1, q1, q2, q3, q4⟩ := finish_j hX hs3 hD hC
  have f2 := (fs_ok hO.fok hO.2.2.1).2.1
  have h9 := hO.2.2.2.1
  obtain ⟨m2, r1, r2, r3⟩ := copy_e (t := 31) q2.2 (by omega)
  unfold f_X6_layText
  rw [q1]
  simp only [ob2]
  rw [if_pos trivial, q2.1.1.2.2.2.1, f2.2.2.2.1, if_neg (nI_ne0 (by omega) (by omega)), r1]
  simp only [ob, lt']
  have f1 : ∀ b, b ≠ 52 → b ≠ 56 → b ≠ 0 → mset (mset (mset m2 52 4 0) 56 4 0) 0 11 0 b = m2 b := fun b z1 z2 z3 => by rw [mset_ne z3, mset_ne z2, mset_ne z1]
  refine ⟨_, rfl, ⟨?_, ?_, ?_, ?_, ⟨mset_eq, fun j hj => absurd hj (Nat.not_lt_zero _)⟩, ?_⟩, fun a ha => ?_⟩
  · exact q2.1.keep (fun b _ _ => by rw [f1 b (by omega) (by omega) (by omega), r3 b (by omega) (by omega) (by omega)])
  · exact r2.keep (fun b _ _ => f1 b (by omega) (by omega) (by omega))
  · exact (CU.less (hU.keep (mem' := m2) (fun b _ _ => by rw [r3 b (by omega) (by omega) (by omega), q4.1 b (by omega) (by omega)]))).keep (fun b _ _ => by rw [mset_ne (by omega), mset_ne (by omega)])
  · refine (CK.less (hK.keep (mem' := mset m2 52 4 0) (fun b _ _ => ?_))).keep (fun b _ _ => by rw [mset_ne (by omega)])
    rw [mset_ne (by omega), r3 b (by omega) (by omega) (by omega), q4.1 b (by omega) (by omega)]
  · exact q3.keep (by rw [f1 1 (by decide) (by decide) (by decide), r3 1 (by decide) (by decide) (by decide)]) (by rw [f1 2 (by decide) (by decide) (by decide), r3 2 (by decide) (by decide) (by decide)])
  · rw [f1 a (by omega) (by omega) (by omega), r3 a (by omega) (by omega) (by omega), q4.1 a (by omega) (by omega)]
theorem lay_a (hs : Two sh sp) (hA : AOK S P u k w x) (hC : CI S P u k w x sh mem) (hM : MI S P u k w x mem) : ∃ r sh' sp' m1 m2, f_X6_lay sh sp mem = some (r, sh', sp', m1) ∧ f_X7_lay m1 = some (r, m2) ∧ Inv sh' sp' m2 := by
  have hX : XOK x := hA.2.2.2.2.2
  have hs3 : 3 ≤ sp := by unfold Two at hs; omega
  have hCX : CX x mem := hC.2.2.2.2.2
  have hMX : ∀ m1, GC sp mem m1 → MX x m1 := fun m1 h => hM.2.2.2.2.2.keep (by rw [h.1 62 (by decide) (by unfold Two at hs; omega)]) (h.1 63 (by decide) (by unfold Two at hs; omega))
  have stay : ∀ m1 m2, GC sp mem m1 → FR m1 m2 → Inv sh sp m2 := by
    intro m1 m2 h1 h2
    refine ⟨hs, S, P, u, k, w, x, hA, (hC.q hs h1.q).up hs (fun a ha => h2.1 a (by omega) (by omega)), MI.q (MI.up hM (fun a ha => h1.1 a (by omega) (by unfold Two at hs; omega))) h2.q⟩
  rcases parse hX with ⟨S0, P0, hD⟩ | ⟨j, hF⟩
  · obtain ⟨g, hO⟩ := done_ok hX hD
    have f2 := (fs_ok hO.fok hO.2.2.1).2.1
    have h9 := hO.2.2.2.1
    by_cases h1 : 1 ≤ sW S0
    · obtain ⟨m1, q1, q2, q3⟩ := layText_1 (w := w) hX hs hD h1 hCX hC.2.2.1 hC.2.2.2.1
      have hM1 := hM.up q3
      obtain ⟨m2, r1, r2, r3⟩ := of_done hX hD hM1.2.2.2.2.2
      obtain ⟨m3, t1, t2, t3, t4, t5, t6⟩ := laid_7 hO r2
      obtain ⟨o1, o2⟩ := pok_fs hO h1
      have hs2 : Two sp sh := by unfold Two at hs ⊢; omega
      refine ⟨nI (sP (fsN S0)), sp, sh, m1, m3, ?_, ?_, hs2, fsN S0, FP S0 P0, (0, u.2), (0, k.2), (0, w.2), x, ⟨o1, o2, ⟨Nat.zero_le _, fun j hj => absurd hj (Nat.not_lt_zero _)⟩, ⟨Nat.zero_le _, fun j hj => absurd hj (Nat.not_lt_zero _)⟩, ⟨Nat.zero_le _, fun j hj => absurd hj (Nat.not_lt_zero _)⟩, hX⟩, q2.up hs2 (fun a ha => by rw [t5 a (by omega) (by omega), r3.1 a (by omega) (by omega)]), t2, t3, ?_, ⟨t4.2.2, fun j hj => absurd hj (Nat.not_lt_zero _)⟩, ⟨t4.2.1, fun j hj => absurd hj (Nat.not_lt_zero _)⟩, ?_⟩
      · unfold f_X6_lay
        rw [q1]
        simp only [ob2]
        rw [if_neg (by decide)]
        simp only [lt']
        rw [q2.1.1.2.2.1]
      · unfold f_X7_lay
        rw [r1]
        simp only [ob2]
        rw [if_pos trivial, r2.1.2.2.1, if_neg (nI_ne0 (by omega) (by omega)), t1]
        simp only [ob, lt']
        rw [t2.1.2.2.1]
      · obtain ⟨a, ha, _, h32, _⟩ := hM1.2.2.1
        exact ⟨a, ha, t4.1, by rw [t6 32 (by decide) (by decide) (by decide) (by decide), r3.2 32 (by decide)]; exact h32, fun j hj => absurd hj (Nat.not_lt_zero _)⟩
      · exact hM1.2.2.2.2.2.keep (by rw [t6 0 (by decide) (by decide) (by decide) (by decide), r3.2 0 (by decide)]) (by rw [t5 63 (by decide) (by decide), r3.1 63 (by decide) (by decide)])
    · obtain ⟨m1, q1, q2, q3, q4⟩ := finish_j hX hs3 hD hCX
      obtain ⟨m2, r1, r2, r3⟩ := of_done hX hD (hMX m1 q4)
      refine ⟨-2, sh, sp, m1, m2, ?_, ?_, stay m1 m2 q4 r3⟩
      · unfold f_X6_lay f_X6_layText
        rw [q1]
        simp only [ob2]
        rw [if_pos trivial, q2.1.1.2.2.2.1, f2.2.2.2.1, if_pos (show nI (sW S0) = 0 by rw [show sW S0 = 0 by omega]; rfl)]
        simp only
        rw [if_pos trivial]
      · unfold f_X7_lay
        rw [r1]
        simp only [ob2]
        rw [if_pos trivial, r2.1.2.2.1, if_pos (show nI (sW S0) = 0 by rw [show sW S0 = 0 by omega]; rfl)]
  · obtain ⟨m1, q1, q2⟩ := into_flt hX hs3 hF hCX
    obtain ⟨m2, r1, r2⟩ := of_flt hX hF (hMX m1 q2)
    have hj : j < 2 ^ 31 := by
      obtain ⟨n, _, _, _, _, h, _⟩ := hF
      have := hX.1
      omega
    refine ⟨-2, sh, sp, m1, m2, ?_, ?_, stay m1 m2 q2 r2⟩
    · unfold f_X6_lay f_X6_layText
      rw [q1]
      simp only [ob2]
      rw [if_neg (nI_nm4 hj)]
      simp only
      rw [if_pos trivial]
    · unfold f_X7_lay
      rw [r1]
      simp only [ob2]
      rw [if_neg (nI_nm4 hj)]
end LAY
