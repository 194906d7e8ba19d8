/-- nothing found yet -/
def q00 : FSt := (0, (fun _ => 0), 0, (fun _ => 0), fun _ => 0)
def allF (S : Sh) (P : Pa) : FSt := dfs S (sP S) 0 P.1 (fun _ => 0) q00
theorem run_e {S : Sh} {P : Pa} {s : Nat} {mem : Mem} (hO : SOK S) (hs : s + 9 < 31) (hC : CS S s mem) (hP : POK S P) (hT : CP P 31 mem) : ∃ m', f_X4_run s 31 mem = some m' ∧ FC S (allF S P) m' ∧ ∀ a, a < 44 ∨ 51 < a → m' a = mem a := by
  have hp8 := hO.p8
  obtain ⟨m1, e1, t1, f1⟩ := copy_e (t := 45) hT (by decide)
  generalize hm2 : mset (mset m1 44 4 0) 44 5 0 = m2
  have f2 : ∀ a, a ≠ 44 → m2 a = m1 a := fun a h => by rw [← hm2, mset_ne h, mset_ne h]
  have hpow : 9 ^ sP S ≤ 9 ^ 8 := Nat.pow_le_pow_right (by decide) hp8
  have h98 : 9 ^ 8 < 2 ^ 30 := by decide
  obtain ⟨m3, e3, k1, k2, k3, k4⟩ := fill_e (s := s) hO (by omega) (sP S) 0 10 q00 P.1 (fun _ => 0) m2 (by omega) (by omega) (hC.keep (fun a _ _ => by rw [f2 a (by omega), f1 a (by omega) (by omega) (by omega)])) (fun x hx => by rw [f2 46 (by decide)]; exact t1.1 x hx) hP.1 (fun j hj => absurd hj (Nat.not_lt_zero _)) ⟨by rw [← hm2, mset_k (by decide), mset_eq]; rfl, by rw [← hm2, mset_eq]; rfl, fun h => absurd h (Nat.lt_irrefl _)⟩ (by show 0 + 9 ^ sP S < 2 ^ 30; omega) ⟨Nat.zero_le _, fun _ _ => Nat.zero_le _⟩
  refine ⟨m3, ?_, k1, fun a ha => by rw [k4 a ha, f2 a (by omega), f1 a (by omega) (by omega) (by omega)]⟩
  unfold f_X4_run
  rw [e1]
  simp only [ob, lt']
  rw [hm2, show f_X4_fill s 10 0 m2 = some m3 from e3]
