/-! one item of a text: both take it, or both refuse it -/
abbrev PS : Type := Sh × Pa × Nat × Bool
def Step (x : Nat × (Nat → Nat)) (D D' : PS) : Prop := D.2.2.1 < x.1 ∧
  ((tk x D.2.2.1 = 98 ∧ tokB x D.1 (D.2.2.1 + 1) ∧ D' = (DB D.1 (nuV x (D.2.2.1 + 1)), D.2.1, nuP x (D.2.2.1 + 1) + 1, false)) ∨
   (tk x D.2.2.1 = 103 ∧ D.2.2.2 = true ∧ tokG x (D.2.2.1 + 1) ∧ D' = (DG D.1 (nuV x (D.2.2.1 + 1)) (nuV x (nuP x (D.2.2.1 + 1) + 1)), D.2.1, nuP x (nuP x (D.2.2.1 + 1) + 1) + 1, true)) ∨
   (tk x D.2.2.1 = 108 ∧ tokL x D.1 (D.2.2.1 + 1) ∧ D' = (D.1, DL D.2.1 (nuV x (D.2.2.1 + 1)) (tk x (nuP x (D.2.2.1 + 1)) - 96), nuP x (D.2.2.1 + 1) + 2, false)) ∨
   (tk x D.2.2.1 = 115 ∧ tokS x D.1 (D.2.2.1 + 1) ∧ D' = (DS D.1 (nuV x (D.2.2.1 + 1)), DV D.2.1 (sN D.1) (nuV x (nuP x (D.2.2.1 + 1) + 1)) (nuV x (q2P x (D.2.2.1 + 1) + 1)), q3P x (D.2.2.1 + 1) + 1, false)) ∨
   (tk x D.2.2.1 = 119 ∧ tokW x D.1 (D.2.2.1 + 1) ∧ D' = (DW D.1 (nl x (D.2.2.1 + 1)) (wf x (D.2.2.1 + 1) (nl x (D.2.2.1 + 1))), D.2.1, D.2.2.1 + 1 + nl x (D.2.2.1 + 1) + 1, false)))
section STP
variable {x : Nat × (Nat → Nat)} {i j a n v s : Nat} {mem m' m2 : Mem} {S S' : Sh} {P P' : Pa} {g g' : Bool} {f : Nat → Nat}
theorem dokB (hO : DOK S P g) (v : Nat) : DOK (DB S v) P false := by
  obtain ⟨o1, o2, o3, o4, o5, o6, o7, o8, o9, o10, o11, o12⟩ := hO
  refine ⟨o1, o2, o3, o4, o5, fun y => ?_, o7, o8, o9, o10, fun z => (by cases z), o12⟩
  show (if y = v then 1 else sbl S y) ≤ 1
  split
  · exact Nat.le_refl _
  · exact o6 y
theorem dokG (hO : DOK S P true) {r c : Nat} (hr : 2 ≤ r ∧ r < 5) (hc : 2 ≤ c ∧ c < 5) : DOK (DG S r c) P true := by
  obtain ⟨o1, o2, o3, o4, o5, o6, o7, o8, o9, o10, o11, o12⟩ := hO
  exact ⟨⟨hr.1, show r ≤ 4 by omega⟩, ⟨hc.1, show c ≤ 4 by omega⟩, o3, o4, o5, o6, o7, o8, o9, fun y hy _ => o11 rfl y hy, o11, o12⟩
theorem dokL (hO : DOK S P g) {v l : Nat} (hv : v < sR S * sC S) (hl : l ≤ 6) : DOK S (DL P v l) false := by
  obtain ⟨o1, o2, o3, o4, o5, o6, o7, o8, o9, o10, o11, o12⟩ := hO
  refine ⟨o1, o2, o3, o4, o5, o6, o7, o8, fun y hy => ?_, fun y hy hr => ?_, fun z => (by cases z), o12⟩
  · show (if y = v then l else P.1 y) ≤ 6
    split
    · exact hl
    · exact o9 y hy
  · show (if y = v then l else P.1 y) = 0
    rw [if_neg (by omega)]
    exact o10 y hy hr
theorem dokS (hO : DOK S P g) {k p w : Nat} (hk : k < 5) (hp : p < 8) (hw : w < sW S) (hn : sN S < 6) : DOK (DS S k) (DV P (sN S) p w) false := by
  obtain ⟨o1, o2, o3, o4, o5, o6, o7, o8, o9, o10, o11, o12⟩ := hO
  refine ⟨o1, o2, o3, o4, ?_, o6, o7, fun y hy => ?_, o9, o10, fun z => (by cases z), fun y hy => ?_⟩
  · show sN S + 1 ≤ 6
    omega
  · show (if y = sN S then k else skd S y) ≤ 4
    have hy' : y < sN S + 1 := hy
    split
    · omega
    · exact o8 y (by omega)
  · show (if y = sN S then p else P.2.1 y) < 8 ∧ (y < sN S + 1 → (if y = sN S then w else P.2.2 y) < sW S) ∧ (sN S + 1 ≤ y → (if y = sN S then p else P.2.1 y) = 0 ∧ (if y = sN S then w else P.2.2 y) = 0)
    have o := o12 y hy
    by_cases e : y = sN S
    · rw [if_pos e, if_pos e]
      exact ⟨hp, fun _ => hw, fun z => absurd z (by omega)⟩
    · rw [if_neg e, if_neg e]
      exact ⟨o.1, fun z => o.2.1 (by omega), fun z => o.2.2 (by omega)⟩
theorem dokW (hO : DOK S P g) (h2 : 2 ≤ n) (h4 : n ≤ 4) (hf : WOK n f) (h9 : sW S < 9) : DOK (DW S n f) P false := by
  obtain ⟨o1, o2, o3, o4, o5, o6, o7, o8, o9, o10, o11, o12⟩ := hO
  refine ⟨o1, o2, o3, ?_, o5, o6, fun w hw => ?_, o8, o9, o10, fun z => (by cases z), fun k hk => ?_⟩
  · show sW S + 1 ≤ 9
    omega
  · have hw' : w < sW S + 1 := hw
    show (2 ≤ (if w = sW S then n else swl S w) ∧ (if w = sW S then n else swl S w) ≤ 4) ∧ (∀ k, k < (if w = sW S then n else swl S w) → 1 ≤ (if w = sW S then f else swd S w) k ∧ (if w = sW S then f else swd S w) k ≤ 6) ∧ ∀ k, (if w = sW S then n else swl S w) ≤ k → (if w = sW S then f else swd S w) k = 0
    by_cases e : w = sW S
    · rw [if_pos e, if_pos e]
      exact ⟨⟨h2, h4⟩, hf.1, hf.2⟩
    · rw [if_neg e, if_neg e]
      exact o7 w (by omega)
  · have o := o12 k hk
    refine ⟨o.1, fun z => ?_, o.2.2⟩
    show P.2.2 k < sW S + 1
    have := o.2.1 z
    omega
theorem step_ok (hX : XOK x) (hO : DOK S P g) (h : Step x (S, P, i, g) (S', P', j, g')) : DOK S' P' g' ∧ i < j ∧ j ≤ i + 20 ∧ g' = (g && tk x i == 103) := by
  obtain ⟨h0, h⟩ := h
  simp only at h0 h
  have p1 := nuP_le x (i + 1)
  rcases h with ⟨c, t, e⟩ | ⟨c, gg, t, e⟩ | ⟨c, t, e⟩ | ⟨c, t, e⟩ | ⟨c, t, e⟩
  · simp only [Prod.mk.injEq] at e
    obtain ⟨rfl, rfl, rfl, rfl⟩ := e
    exact ⟨dokB hO _, by omega, by omega, by rw [c]; simp⟩
  · simp only [Prod.mk.injEq] at e
    obtain ⟨rfl, rfl, rfl, rfl⟩ := e
    have p2 := nuP_le x (nuP x (i + 1) + 1)
    subst gg
    exact ⟨dokG hO t.1.2 t.2.2.1.2, by omega, by omega, by rw [c]; rfl⟩
  · simp only [Prod.mk.injEq] at e
    obtain ⟨rfl, rfl, rfl, rfl⟩ := e
    have t2 := ltrB_ge t.2.1
    exact ⟨dokL hO t.1.2.2 (by omega), by omega, by omega, by rw [c]; simp⟩
  · simp only [Prod.mk.injEq] at e
    obtain ⟨rfl, rfl, rfl, rfl⟩ := e
    have p2 := nuP_le x (nuP x (i + 1) + 1)
    have p3 := nuP_le x (q2P x (i + 1) + 1)
    rw [show nuP x (nuP x (i + 1) + 1) = q2P x (i + 1) from rfl] at p2
    rw [show nuP x (q2P x (i + 1) + 1) = q3P x (i + 1) from rfl] at p3
    exact ⟨dokS hO t.1.2.2 t.2.2.1.2.2 t.2.2.2.2.1.2.2 t.2.2.2.2.2.2, by omega, by omega, by rw [c]; simp⟩
  · simp only [Prod.mk.injEq] at e
    obtain ⟨rfl, rfl, rfl, rfl⟩ := e
    have hn := nl_le (x := x) (a := i + 1)
    exact ⟨dokW hO t.1 t.2.1 wf_ok t.2.2.2.1, by omega, by omega, by rw [c]; simp⟩
theorem readItem_c (hX : XOK x) (hT : TX x i mem) (hi : i < 300) (w : Int32) : f_X2_readItem s w mem = if tk x i = 98 then bC s (at1 mem (i + 1)) else if tk x i = 103 then (if w = 0 then some (0, at1 mem (i + 1)) else ob2 (f_X2_readGrid s (at1 mem (i + 1))) fun r62 m62 => if r62 = 0 then some (0, m62) else some (1, m62)) else if tk x i = 108 then lC s (at1 mem (i + 1)) else if tk x i = 115 then (ob2 (f_X2_readSolver s (at1 mem (i + 1))) fun r138 m138 => bk r138 (some (r138, m138))) else if tk x i = 119 then (ob2 (f_X2_readWord s (at1 mem (i + 1))) fun r102 m102 => bk r102 (some (r102, m102))) else some (0, at1 mem (i + 1)) := by
  have k0 := tk_le hX i
  have key : ∀ (c : Nat) (A B : Option (Int32 × Mem)), c < 127 → (if nI (tk x i) = nI c then A else B) = if tk x i = c then A else B := by
    intro c A B hc
    by_cases e : tk x i = c
    · rw [if_pos e, if_pos (by rw [e])]
    · rw [if_neg e, if_neg (lit_ne e (by omega) (by omega))]
  unfold f_X2_readItem
  rw [next_e hX hT (by omega)]
  simp only [ob2]
  rw [i_lit 98, key 98 _ _ (by decide), i_lit 103, key 103 _ _ (by decide), i_lit 108, key 108 _ _ (by decide), i_lit 115, key 115 _ _ (by decide), i_lit 119, key 119 _ _ (by decide)]
  rfl
theorem item_c (hX : XOK x) (hs : 3 ≤ s) (hO : DOK S P g) (hC : CR S P s mem) (hT : TX x i mem) (hi : i < x.1) : (∀ S' P' j g', Step x (S, P, i, g) (S', P', j, g') → ∃ m', f_X2_readItem s (b2i (g && tk x i == 103)) mem = some (1, m') ∧ CR S' P' s m' ∧ TX x j m' ∧ GC s mem m') ∧ ((∀ D', ¬ Step x (S, P, i, g) D') → ∃ m', f_X2_readItem s (b2i (g && tk x i == 103)) mem = some (0, m') ∧ GC s mem m') := by
  have h200 := hX.1
  have C1 := hC.go (by omega) (i + 1)
  have T1 := hT.go (i + 1)
  rw [readItem_c hX hT (by omega)]
  by_cases c1 : tk x i = 98
  · rw [if_pos c1]
    have H := black_c hX hO hs C1 T1 (by omega)
    by_cases t : tokB x S (i + 1)
    · obtain ⟨m1, q1, q2, q3, q4⟩ := H.1 t
      refine ⟨fun S' P' j g' h => ?_, fun h => absurd ⟨hi, Or.inl ⟨c1, t, rfl⟩⟩ (h _)⟩
      obtain ⟨_, ⟨_, _, e⟩ | ⟨c, _⟩ | ⟨c, _⟩ | ⟨c, _⟩ | ⟨c, _⟩⟩ := h
      · simp only [Prod.mk.injEq] at e
        obtain ⟨rfl, rfl, rfl, rfl⟩ := e
        exact ⟨m1, q1, q2, q3, GC.go.tr q4⟩
      all_goals (simp only at c; omega)
    · obtain ⟨m1, q1, q2⟩ := H.2 t
      refine ⟨fun S' P' j g' h => ?_, fun h => ⟨m1, q1, GC.go.tr q2⟩⟩
      obtain ⟨_, ⟨_, z, e⟩ | ⟨c, _⟩ | ⟨c, _⟩ | ⟨c, _⟩ | ⟨c, _⟩⟩ := h
      · exact absurd z t
      all_goals (simp only at c; omega)
  · rw [if_neg c1]
    by_cases c2 : tk x i = 103
    · rw [if_pos c2]
      by_cases hg : g = true
      · have H := grid_c hX hs C1 T1 (by omega)
        rw [hg, c2, if_neg (by decide)]
        by_cases t : tokG x (i + 1)
        · obtain ⟨m1, q1, q2, q3, q4⟩ := H.1 t
          rw [q1]
          simp only [ob2]
          rw [if_neg (by decide)]
          refine ⟨fun S' P' j g' h => ?_, fun h => absurd ⟨hi, Or.inr (Or.inl ⟨c2, rfl, t, rfl⟩)⟩ (h _)⟩
          obtain ⟨_, ⟨c, _⟩ | ⟨_, _, _, e⟩ | ⟨c, _⟩ | ⟨c, _⟩ | ⟨c, _⟩⟩ := h
          · simp only at c; omega
          · simp only [Prod.mk.injEq] at e
            obtain ⟨rfl, rfl, rfl, rfl⟩ := e
            exact ⟨m1, rfl, q2, q3, GC.go.tr q4⟩
          all_goals (simp only at c; omega)
        · obtain ⟨m1, q1, q2⟩ := H.2 t
          rw [q1]
          simp only [ob2]
          rw [if_pos trivial]
          refine ⟨fun S' P' j g' h => ?_, fun h => ⟨m1, rfl, GC.go.tr q2⟩⟩
          obtain ⟨_, ⟨c, _⟩ | ⟨_, _, z, e⟩ | ⟨c, _⟩ | ⟨c, _⟩ | ⟨c, _⟩⟩ := h
          · simp only at c; omega
          · exact absurd z t
          all_goals (simp only at c; omega)
      · have hg' : g = false := by simpa using hg
        rw [hg', Bool.false_and, if_pos (by decide)]
        refine ⟨fun S' P' j g' h => ?_, fun h => ⟨_, rfl, GC.go⟩⟩
        obtain ⟨_, ⟨c, _⟩ | ⟨_, z, _⟩ | ⟨c, _⟩ | ⟨c, _⟩ | ⟨c, _⟩⟩ := h
        · simp only at c; omega
        · cases z
        all_goals (simp only at c; omega)
    · rw [if_neg c2]
      by_cases c3 : tk x i = 108
      · rw [if_pos c3]
        have H := letter_c hX hO hs C1 T1 (by omega)
        by_cases t : tokL x S (i + 1)
        · obtain ⟨m1, q1, q2, q3, q4⟩ := H.1 t
          refine ⟨fun S' P' j g' h => ?_, fun h => absurd ⟨hi, Or.inr (Or.inr (Or.inl ⟨c3, t, rfl⟩))⟩ (h _)⟩
          obtain ⟨_, ⟨c, _⟩ | ⟨c, _⟩ | ⟨_, _, e⟩ | ⟨c, _⟩ | ⟨c, _⟩⟩ := h
          · simp only at c; omega
          · simp only at c; omega
          · simp only [Prod.mk.injEq] at e
            obtain ⟨rfl, rfl, rfl, rfl⟩ := e
            exact ⟨m1, q1, q2, q3, GC.go.tr q4⟩
          all_goals (simp only at c; omega)
        · obtain ⟨m1, q1, q2⟩ := H.2 t
          refine ⟨fun S' P' j g' h => ?_, fun h => ⟨m1, q1, GC.go.tr q2⟩⟩
          obtain ⟨_, ⟨c, _⟩ | ⟨c, _⟩ | ⟨_, z, e⟩ | ⟨c, _⟩ | ⟨c, _⟩⟩ := h
          · simp only at c; omega
          · simp only at c; omega
          · exact absurd z t
          all_goals (simp only at c; omega)
      · rw [if_neg c3]
        by_cases c4 : tk x i = 115
        · rw [if_pos c4]
          have H := solver_c hX hO hs C1 T1 (by omega)
          by_cases t : tokS x S (i + 1)
          · obtain ⟨m1, q1, q2, q3, q4⟩ := H.1 t
            rw [q1]
            simp only [ob2]
            rw [bk, if_pos (Or.inr rfl)]
            refine ⟨fun S' P' j g' h => ?_, fun h => absurd ⟨hi, Or.inr (Or.inr (Or.inr (Or.inl ⟨c4, t, rfl⟩)))⟩ (h _)⟩
            obtain ⟨_, ⟨c, _⟩ | ⟨c, _⟩ | ⟨c, _⟩ | ⟨_, _, e⟩ | ⟨c, _⟩⟩ := h
            · simp only at c; omega
            · simp only at c; omega
            · simp only at c; omega
            · simp only [Prod.mk.injEq] at e
              obtain ⟨rfl, rfl, rfl, rfl⟩ := e
              exact ⟨m1, rfl, q2, q3, GC.go.tr q4⟩
            · simp only at c; omega
          · obtain ⟨m1, q1, q2⟩ := H.2 t
            rw [q1]
            simp only [ob2]
            rw [bk, if_pos (Or.inl rfl)]
            refine ⟨fun S' P' j g' h => ?_, fun h => ⟨m1, rfl, GC.go.tr q2⟩⟩
            obtain ⟨_, ⟨c, _⟩ | ⟨c, _⟩ | ⟨c, _⟩ | ⟨_, z, e⟩ | ⟨c, _⟩⟩ := h
            · simp only at c; omega
            · simp only at c; omega
            · simp only at c; omega
            · exact absurd z t
            · simp only at c; omega
        · rw [if_neg c4]
          by_cases c5 : tk x i = 119
          · rw [if_pos c5]
            have H := word_c hX hO hs C1 T1 (by omega)
            by_cases t : tokW x S (i + 1)
            · obtain ⟨m1, q1, q2, q3, q4⟩ := H.1 t
              rw [q1]
              simp only [ob2]
              rw [bk, if_pos (Or.inr rfl)]
              refine ⟨fun S' P' j g' h => ?_, fun h => absurd ⟨hi, Or.inr (Or.inr (Or.inr (Or.inr ⟨c5, t, rfl⟩)))⟩ (h _)⟩
              obtain ⟨_, ⟨c, _⟩ | ⟨c, _⟩ | ⟨c, _⟩ | ⟨c, _⟩ | ⟨_, _, e⟩⟩ := h
              · simp only at c; omega
              · simp only at c; omega
              · simp only at c; omega
              · simp only at c; omega
              · simp only [Prod.mk.injEq] at e
                obtain ⟨rfl, rfl, rfl, rfl⟩ := e
                exact ⟨m1, rfl, q2, q3, GC.go.tr q4⟩
            · obtain ⟨m1, q1, q2⟩ := H.2 t
              rw [q1]
              simp only [ob2]
              rw [bk, if_pos (Or.inl rfl)]
              refine ⟨fun S' P' j g' h => ?_, fun h => ⟨m1, rfl, GC.go.tr q2⟩⟩
              obtain ⟨_, ⟨c, _⟩ | ⟨c, _⟩ | ⟨c, _⟩ | ⟨c, _⟩ | ⟨_, z, e⟩⟩ := h
              · simp only at c; omega
              · simp only at c; omega
              · simp only at c; omega
              · simp only at c; omega
              · exact absurd z t
          · rw [if_neg c5]
            refine ⟨fun S' P' j g' h => ?_, fun h => ⟨_, rfl, GC.go⟩⟩
            obtain ⟨_, ⟨c, _⟩ | ⟨c, _⟩ | ⟨c, _⟩ | ⟨c, _⟩ | ⟨c, _⟩⟩ := h
            all_goals (simp only at c; omega)
end STP
