/-! one item, the reference's side -/
section ST7
variable {x : Nat × (Nat → Nat)} {i j a n v s : Nat} {mem m' m2 : Mem} {S S' : Sh} {P P' : Pa} {g g' : Bool} {f : Nat → Nat}
theorem j108_0 (l : Int32) (m : Mem) : ∃ m', f_X7_readsItem_j108 l 0 m = some (0, m') ∧ FR m m' := by
  have o : ∀ w : Int32, w = 0 ∨ w = 1 → f_X7_readsItem_j127 0 w m = some (0, mset m 62 7 w) := by
    intro w hw
    unfold f_X7_readsItem_j127
    rw [bk, if_pos hw]
    simp only [lt']
    rw [if_pos trivial]
  unfold f_X7_readsItem_j108 f_X7_readsItem_j122
  rw [o 0 (Or.inl rfl), o 1 (Or.inr rfl)]
  by_cases e : m 62 7 = 0
  · rw [if_pos e]
    by_cases e2 : l = 103
    · rw [if_pos e2]
      exact ⟨_, rfl, FR.fld (by decide)⟩
    · rw [if_neg e2]
      exact ⟨_, rfl, FR.fld (by decide)⟩
  · rw [if_neg e]
    exact ⟨_, rfl, FR.fld (by decide)⟩
theorem fin7 (hX : XOK x) {c p : Nat} (hc : c < 127) (hp : p < 800) (hR : RR S P mem) (hT : TM x p mem) (h7 : mem 62 7 = b2i (!g)) : (tk x p = 59 → ∃ m', f_X7_readsItem_j108 (nI c) 1 mem = some (1, m') ∧ RR S P m' ∧ TM x (p + 1) m' ∧ m' 62 7 = b2i (!(g && c == 103)) ∧ FR mem m') ∧ (¬ tk x p = 59 → ∃ m', f_X7_readsItem_j108 (nI c) 1 mem = some (0, m') ∧ FR mem m') := by
  have e1 : f_X7_readsItem_j108 (nI c) 1 mem = f_X7_readsItem_j127 1 (b2i (!(g && c == 103))) mem := by
    unfold f_X7_readsItem_j108 f_X7_readsItem_j122
    rw [h7]
    by_cases hg : g = true
    · rw [hg, if_pos (by decide)]
      by_cases hc2 : c = 103
      · rw [hc2, if_pos (by decide)]
        rfl
      · rw [if_neg (show ¬ nI c = 103 from lit_ne (n := 103) hc2 (by omega) (by decide)), show (c == 103) = false by simpa using hc2]
        rfl
    · have hg' : g = false := by simpa using hg
      rw [hg', if_neg (by decide)]
      rfl
  have hb : b2i (!(g && c == 103)) = 0 ∨ b2i (!(g && c == 103)) = 1 := by
    cases (!(g && c == 103))
    · exact Or.inl rfl
    · exact Or.inr rfl
  rw [e1]
  unfold f_X7_readsItem_j127
  rw [bk, if_pos hb]
  generalize b2i (!(g && c == 103)) = w
  simp only [lt']
  rw [if_neg (by decide)]
  have T1 : TM x p (mset mem 62 7 w) := hT.keep (mset_k (by decide)) (mset_k (by decide)) (mset_ne (by decide))
  have R1 : RR S P (mset mem 62 7 w) := hR.keep (fun k _ _ => mset_k (by omega)) (fun b _ _ => mset_ne (by omega))
  rw [i_lit 59, sign_e hX T1 (by omega) 59 (by decide)]
  simp only [ob2]
  by_cases e : tk x p = 59
  · rw [if_pos e, e, if_neg (by decide)]
    refine ⟨fun _ => ⟨_, rfl, R1.go _, T1.go _, ?_, (FR.fld (by decide)).tr FR.go⟩, fun z => absurd rfl z⟩
    rw [at7, mset_k (by decide), mset_eq]
  · rw [if_neg e, show (tk x p == 59) = false by simpa using e, if_pos (by decide)]
    exact ⟨fun z => absurd z e, fun _ => ⟨_, rfl, (FR.fld (by decide)).tr FR.go⟩⟩
theorem readsItem_e (hX : XOK x) (hT : TM x i mem) (hi : i < 300) : f_X7_readsItem mem = if tk x i = 98 then (ob2 (f_X7_readsBlack (at7 mem (i + 1))) fun r m => f_X7_readsItem_j108 (nI (tk x i)) r m) else if tk x i = 103 then (ob2 (f_X7_readsGrid (at7 mem (i + 1))) fun r m => f_X7_readsItem_j108 (nI (tk x i)) r m) else if tk x i = 108 then (ob2 (f_X7_readsLetter (at7 mem (i + 1))) fun r m => f_X7_readsItem_j108 (nI (tk x i)) r m) else if tk x i = 115 then (ob2 (f_X7_readsSolver (at7 mem (i + 1))) fun r m => f_X7_readsItem_j108 (nI (tk x i)) r m) else if tk x i = 119 then (ob2 (f_X7_readsWord (at7 mem (i + 1))) fun r m => f_X7_readsItem_j108 (nI (tk x i)) r m) else f_X7_readsItem_j108 (nI (tk x i)) 0 (at7 mem (i + 1)) := by
  have k0 := tk_le hX i
  have key : ∀ (c : Nat) (A B : Option (Int32 × Mem)), c < 127 → (if nI (tk x i) = nI c then A else B) = if tk x i = c then A else B := by
    intro c A B hc
    by_cases e : tk x i = c
    · rw [if_pos e, if_pos (by rw [e])]
    · rw [if_neg e, if_neg (lit_ne e (by omega) (by omega))]
  unfold f_X7_readsItem
  rw [here_e hX hT (by omega)]
  simp only [ob]
  rw [hT.2, nI_1]
  simp only [lt']
  rw [i_lit 98, key 98 _ _ (by decide), i_lit 103, key 103 _ _ (by decide), i_lit 108, key 108 _ _ (by decide), i_lit 115, key 115 _ _ (by decide), i_lit 119, key 119 _ _ (by decide)]
  rfl
/-- what a body and the sign behind it give -/
theorem both7 (hX : XOK x) {c p : Nat} (hc : c < 127) (hp : p < 800) (h7 : mem 62 7 = b2i (!g)) {o : Option (Int32 × Mem)} {tok tok7 : Prop} (ht : tok ↔ tok7 ∧ tk x p = 59) (H : (tok7 → ∃ m', o = some (1, m') ∧ RR S P m' ∧ TM x p m' ∧ FR mem m' ∧ m' 62 7 = mem 62 7) ∧ (¬ tok7 → ∃ m', o = some (0, m') ∧ FR mem m')) : (tok → ∃ m', (ob2 o fun r m => f_X7_readsItem_j108 (nI c) r m) = some (1, m') ∧ RR S P m' ∧ TM x (p + 1) m' ∧ m' 62 7 = b2i (!(g && c == 103)) ∧ FR mem m') ∧ (¬ tok → ∃ m', (ob2 o fun r m => f_X7_readsItem_j108 (nI c) r m) = some (0, m') ∧ FR mem m') := by
  by_cases t : tok7
  · obtain ⟨m1, q1, q2, q3, q4, q5⟩ := H.1 t
    rw [q1]
    simp only [ob2]
    have F := fin7 hX hc hp q2 q3 (q5.trans h7)
    refine ⟨fun z => ?_, fun z => ?_⟩
    · obtain ⟨m2, r1, r2, r3, r4, r5⟩ := F.1 (ht.mp z).2
      exact ⟨m2, r1, r2, r3, r4, q4.tr r5⟩
    · obtain ⟨m2, r1, r2⟩ := F.2 (fun e => z (ht.mpr ⟨t, e⟩))
      exact ⟨m2, r1, q4.tr r2⟩
  · obtain ⟨m1, q1, q2⟩ := H.2 t
    rw [q1]
    simp only [ob2]
    obtain ⟨m2, r1, r2⟩ := j108_0 (nI c) m1
    exact ⟨fun z => absurd (ht.mp z).1 t, fun _ => ⟨m2, r1, q2.tr r2⟩⟩
theorem item_7 (hX : XOK x) (hO : DOK S P g) (hR : RR S P mem) (hT : TM x i mem) (h7 : mem 62 7 = b2i (!g)) (hi : i < x.1) : (∀ S' P' j g', Step x (S, P, i, g) (S', P', j, g') → ∃ m', f_X7_readsItem mem = some (1, m') ∧ RR S' P' m' ∧ TM x j m' ∧ m' 62 7 = b2i (!(g && tk x i == 103)) ∧ FR mem m') ∧ ((∀ D', ¬ Step x (S, P, i, g) D') → ∃ m', f_X7_readsItem mem = some (0, m') ∧ FR mem m') := by
  have h200 := hX.1
  have R1 := hR.go (i + 1)
  have T1 := hT.go (i + 1)
  have k0 := tk_le hX i
  have g7 : at7 mem (i + 1) 62 7 = b2i (!g) := by rw [at7, mset_k (by decide)]; exact h7
  have p1 := nuP_le x (i + 1)
  have p2 := nuP_le x (nuP x (i + 1) + 1)
  have p3 := nuP_le x (q2P x (i + 1) + 1)
  have p2' : q2P x (i + 1) = nuP x (nuP x (i + 1) + 1) := rfl
  have p3' : q3P x (i + 1) = nuP x (q2P x (i + 1) + 1) := rfl
  rw [readsItem_e hX hT (by omega)]
  by_cases c1 : tk x i = 98
  · rw [if_pos c1]
    have H := both7 (tok := tokB x S (i + 1)) hX (show tk x i < 127 by omega) (by omega) g7 Iff.rfl (black_7 hX hO R1 T1 (by omega))
    refine ⟨fun S' P' j g' h => ?_, fun h => ?_⟩
    · obtain ⟨_, ⟨_, t, e⟩ | ⟨c, _⟩ | ⟨c, _⟩ | ⟨c, _⟩ | ⟨c, _⟩⟩ := h
      · simp only [Prod.mk.injEq] at e
        obtain ⟨rfl, rfl, rfl, rfl⟩ := e
        obtain ⟨m1, q1, q2, q3, q4, q5⟩ := H.1 t
        exact ⟨m1, q1, q2, q3, q4, FR.go.tr q5⟩
      all_goals (simp only at c; omega)
    · obtain ⟨m1, q1, q2⟩ := H.2 (fun t => h _ ⟨hi, Or.inl ⟨c1, t, rfl⟩⟩)
      exact ⟨m1, q1, FR.go.tr q2⟩
  · rw [if_neg c1]
    by_cases c2 : tk x i = 103
    · rw [if_pos c2]
      have H := both7 (tok := g = true ∧ tokG x (i + 1)) hX (show tk x i < 127 by omega) (by omega) g7 ⟨fun z => ⟨⟨⟨z.2.1, z.2.2.1, z.2.2.2.1⟩, z.1⟩, z.2.2.2.2⟩, fun z => ⟨z.1.2, z.1.1.1, z.1.1.2.1, z.1.1.2.2, z.2⟩⟩ (grid_7 (g := g) hX R1 T1 (by omega) g7)
      refine ⟨fun S' P' j g' h => ?_, fun h => ?_⟩
      · obtain ⟨_, ⟨c, _⟩ | ⟨_, z, t, e⟩ | ⟨c, _⟩ | ⟨c, _⟩ | ⟨c, _⟩⟩ := h
        · simp only at c; omega
        · simp only [Prod.mk.injEq] at e
          obtain ⟨rfl, rfl, rfl, rfl⟩ := e
          obtain ⟨m1, q1, q2, q3, q4, q5⟩ := H.1 ⟨z, t⟩
          exact ⟨m1, q1, q2, q3, q4, FR.go.tr q5⟩
        all_goals (simp only at c; omega)
      · obtain ⟨m1, q1, q2⟩ := H.2 (fun t => h _ ⟨hi, Or.inr (Or.inl ⟨c2, t.1, t.2, rfl⟩)⟩)
        exact ⟨m1, q1, FR.go.tr q2⟩
    · rw [if_neg c2]
      by_cases c3 : tk x i = 108
      · rw [if_pos c3]
        have H := both7 (tok := tokL x S (i + 1)) hX (show tk x i < 127 by omega) (by omega) g7 ⟨fun z => ⟨⟨z.1, z.2.1⟩, z.2.2⟩, fun z => ⟨z.1.1, z.1.2, z.2⟩⟩ (letter_7 hX hO R1 T1 (by omega))
        refine ⟨fun S' P' j g' h => ?_, fun h => ?_⟩
        · obtain ⟨_, ⟨c, _⟩ | ⟨c, _⟩ | ⟨_, t, e⟩ | ⟨c, _⟩ | ⟨c, _⟩⟩ := h
          · simp only at c; omega
          · simp only at c; omega
          · simp only [Prod.mk.injEq] at e
            obtain ⟨rfl, rfl, rfl, rfl⟩ := e
            obtain ⟨m1, q1, q2, q3, q4, q5⟩ := H.1 t
            exact ⟨m1, q1, q2, q3, q4, FR.go.tr q5⟩
          all_goals (simp only at c; omega)
        · obtain ⟨m1, q1, q2⟩ := H.2 (fun t => h _ ⟨hi, Or.inr (Or.inr (Or.inl ⟨c3, t, rfl⟩))⟩)
          exact ⟨m1, q1, FR.go.tr q2⟩
      · rw [if_neg c3]
        by_cases c4 : tk x i = 115
        · rw [if_pos c4]
          have H := both7 (tok := tokS x S (i + 1)) hX (show tk x i < 127 by omega) (by omega) g7 ⟨fun z => ⟨⟨z.1, z.2.1, z.2.2.1, z.2.2.2.1, z.2.2.2.2.1, z.2.2.2.2.2.2⟩, z.2.2.2.2.2.1⟩, fun z => ⟨z.1.1, z.1.2.1, z.1.2.2.1, z.1.2.2.2.1, z.1.2.2.2.2.1, z.2, z.1.2.2.2.2.2⟩⟩ (solver_7 hX hO R1 T1 (by omega))
          refine ⟨fun S' P' j g' h => ?_, fun h => ?_⟩
          · obtain ⟨_, ⟨c, _⟩ | ⟨c, _⟩ | ⟨c, _⟩ | ⟨_, t, e⟩ | ⟨c, _⟩⟩ := h
            · simp only at c; omega
            · simp only at c; omega
            · simp only at c; omega
            · simp only [Prod.mk.injEq] at e
              obtain ⟨rfl, rfl, rfl, rfl⟩ := e
              obtain ⟨m1, q1, q2, q3, q4, q5⟩ := H.1 t
              exact ⟨m1, q1, q2, q3, q4, FR.go.tr q5⟩
            · simp only at c; omega
          · obtain ⟨m1, q1, q2⟩ := H.2 (fun t => h _ ⟨hi, Or.inr (Or.inr (Or.inr (Or.inl ⟨c4, t, rfl⟩)))⟩)
            exact ⟨m1, q1, FR.go.tr q2⟩
        · rw [if_neg c4]
          by_cases c5 : tk x i = 119
          · rw [if_pos c5]
            have h4 := n4_le (x := x) (a := i + 1)
            have ht : tokW x S (i + 1) ↔ tokW7 x S (i + 1) ∧ tk x (i + 1 + n4 x (i + 1)) = 59 := by
              constructor
              · rintro ⟨z1, z2, z3, z4, z5⟩
                unfold tokW7
                rw [n4_is z2]
                exact ⟨⟨z1, z4, z5⟩, z3⟩
              · rintro ⟨⟨z1, z4, z5⟩, z3⟩
                have z2 : nl x (i + 1) ≤ 4 := by
                  refine Classical.byContradiction fun z => ?_
                  have := ltrB_ge (nl_in (x := x) (a := i + 1) (k := 4) (by omega))
                  rw [n4_4 z] at z3
                  omega
                unfold tokW
                rw [n4_is z2] at z1 z3 z5
                exact ⟨z1, z2, z3, z4, z5⟩
            have H := both7 (tok := tokW x S (i + 1)) hX (show tk x i < 127 by omega) (by omega) g7 ht (word_7 hX hO R1 T1 (by omega))
            refine ⟨fun S' P' j g' h => ?_, fun h => ?_⟩
            · obtain ⟨_, ⟨c, _⟩ | ⟨c, _⟩ | ⟨c, _⟩ | ⟨c, _⟩ | ⟨_, t, e⟩⟩ := h
              · simp only at c; omega
              · simp only at c; omega
              · simp only at c; omega
              · simp only at c; omega
              · simp only [Prod.mk.injEq] at e
                obtain ⟨rfl, rfl, rfl, rfl⟩ := e
                obtain ⟨m1, q1, q2, q3, q4, q5⟩ := H.1 t
                rw [n4_is t.2.1] at q2 q3
                exact ⟨m1, q1, q2, q3, q4, FR.go.tr q5⟩
            · obtain ⟨m1, q1, q2⟩ := H.2 (fun t => h _ ⟨hi, Or.inr (Or.inr (Or.inr (Or.inr ⟨c5, t, rfl⟩)))⟩)
              exact ⟨m1, q1, FR.go.tr q2⟩
          · rw [if_neg c5]
            refine ⟨fun S' P' j g' h => ?_, fun h => ?_⟩
            · obtain ⟨_, ⟨c, _⟩ | ⟨c, _⟩ | ⟨c, _⟩ | ⟨c, _⟩ | ⟨c, _⟩⟩ := h
              all_goals (simp only at c; omega)
            · obtain ⟨m1, q1, q2⟩ := j108_0 (nI (tk x i)) (at7 mem (i + 1))
              exact ⟨m1, q1, FR.go.tr q2⟩
end ST7
