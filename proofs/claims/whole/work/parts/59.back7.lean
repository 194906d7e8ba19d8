/-! the reference's search: going back -/
section RCH
variable {T R : Type} {body : T → Option (T ⊕ R)}
/-- so many turns lead from one state to another -/
def Rch (body : T → Option (T ⊕ R)) (n : Nat) (q q' : T) : Prop := ∀ k, lp body (n + k) q = lp body k q'
theorem Rch.rfl {q : T} : Rch body 0 q q := fun k => by rw [Nat.zero_add]
theorem Rch.one {q q' : T} (h : body q = some (.inl q')) : Rch body 1 q q' := fun k => by rw [Nat.add_comm, lp_more h]
theorem Rch.tr {a b : Nat} {q q' q'' : T} (h1 : Rch body a q q') (h2 : Rch body b q' q'') : Rch body (a + b) q q'' := fun k => by rw [Nat.add_assoc, h1, h2]
end RCH
/-- the word before w -/
def pw : Nat → Int32
  | 0 => -1
  | w + 1 => nI w
theorem pw_1 (w : Nat) : pw w + 1 = nI w := by
  cases w with
  | zero => decide
  | succ w => exact nI_1 w
def Tn : Nat → Nat
  | 0 => 0
  | n + 1 => 10 + 9 * Tn n
theorem Tn_le : ∀ n, Tn n ≤ 2 * (10 ^ n - 1) := by
  intro n
  induction n with
  | zero => exact Nat.zero_le _
  | succ n ih =>
    have h1 : 0 < 10 ^ n := Nat.pow_pos (by decide)
    rw [Tn, Nat.pow_succ]
    omega
