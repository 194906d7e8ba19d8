/-! words of the constructors -/
theorem wk_L_7 : Cond.classLink RL 7 RX6 ∈ TB := tb_of 122 (by decide +kernel) rfl
theorem wk_X6_9 : Cond.classLink RX6 9 RX2 ∈ TB := tb_of 130 (by decide +kernel) rfl
theorem wk_X6_16 : Cond.classLink RX6 16 RX5 ∈ TB := tb_of 148 (by decide +kernel) rfl
theorem wk_X5_40 : Cond.classLink RX5 40 RX0 ∈ TB := tb_of 154 (by decide +kernel) rfl
theorem wk_X6_26 : Cond.classLink RX6 26 RX0 ∈ TB := tb_of 247 (by decide +kernel) rfl
theorem wk_X6_36 : Cond.classLink RX6 36 RX3 ∈ TB := tb_of 249 (by decide +kernel) rfl
theorem wk_X6_43 : Cond.classLink RX6 43 RX4 ∈ TB := tb_of 269 (by decide +kernel) rfl
theorem wk_X4_9 : Cond.classLink RX4 9 RX0 ∈ TB := tb_of 275 (by decide +kernel) rfl
theorem wk_X6_50 : Cond.classLink RX6 50 RX1 ∈ TB := tb_of 300 (by decide +kernel) rfl
theorem wk_L_10 : Cond.classLink RL 10 RX7 ∈ TB := tb_of 835 (by decide +kernel) rfl
theorem wi_X0 : Cond.instantiable RX0 3 ∈ TB := tb_of 155 (by decide +kernel) rfl
theorem wz_X0 : Cond.initialized RX0 ∈ TB := tb_of 110 (by decide +kernel) rfl
theorem mo_X0 : yX0_init.name = "<init>" ∧ Cond.instanceMethod yX0_init ∈ TB := ⟨rfl, tb_of 157 (by decide +kernel) rfl⟩
theorem df_X0 : ∀ k, k < 3 → defaultValue (tyX0 k) = fldv (fun _ => 0) (tyX0 k) none 0 := by decide +kernel
theorem wi_X1 : Cond.instantiable RX1 5 ∈ TB := tb_of 301 (by decide +kernel) rfl
theorem wz_X1 : Cond.initialized RX1 ∈ TB := tb_of 113 (by decide +kernel) rfl
theorem mo_X1 : yX1_init.name = "<init>" ∧ Cond.instanceMethod yX1_init ∈ TB := ⟨rfl, tb_of 303 (by decide +kernel) rfl⟩
theorem df_X1 : ∀ k, k < 5 → defaultValue (tyX1 k) = fldv (fun _ => 0) (tyX1 k) none 0 := by decide +kernel
theorem wi_X2 : Cond.instantiable RX2 3 ∈ TB := tb_of 131 (by decide +kernel) rfl
theorem wz_X2 : Cond.initialized RX2 ∈ TB := tb_of 108 (by decide +kernel) rfl
theorem mo_X2 : yX2_init.name = "<init>" ∧ Cond.instanceMethod yX2_init ∈ TB := ⟨rfl, tb_of 133 (by decide +kernel) rfl⟩
theorem df_X2 : ∀ k, k < 3 → defaultValue (tyX2 k) = fldv (fun _ => 0) (tyX2 k) none 0 := by decide +kernel
theorem wi_X3 : Cond.instantiable RX3 4 ∈ TB := tb_of 250 (by decide +kernel) rfl
theorem wz_X3 : Cond.initialized RX3 ∈ TB := tb_of 111 (by decide +kernel) rfl
theorem mo_X3 : yX3_init.name = "<init>" ∧ Cond.instanceMethod yX3_init ∈ TB := ⟨rfl, tb_of 252 (by decide +kernel) rfl⟩
theorem df_X3 : ∀ k, k < 4 → defaultValue (tyX3 k) = fldv (fun _ => 0) (tyX3 k) none 0 := by decide +kernel
theorem wi_X4 : Cond.instantiable RX4 6 ∈ TB := tb_of 270 (by decide +kernel) rfl
theorem wz_X4 : Cond.initialized RX4 ∈ TB := tb_of 112 (by decide +kernel) rfl
theorem mo_X4 : yX4_init.name = "<init>" ∧ Cond.instanceMethod yX4_init ∈ TB := ⟨rfl, tb_of 272 (by decide +kernel) rfl⟩
theorem df_X4 : ∀ k, k < 6 → defaultValue (tyX4 k) = fldv (fun _ => 0) (tyX4 k) none 0 := by decide +kernel
theorem wi_X5 : Cond.instantiable RX5 15 ∈ TB := tb_of 149 (by decide +kernel) rfl
theorem wz_X5 : Cond.initialized RX5 ∈ TB := tb_of 109 (by decide +kernel) rfl
theorem mo_X5 : yX5_init.name = "<init>" ∧ Cond.instanceMethod yX5_init ∈ TB := ⟨rfl, tb_of 151 (by decide +kernel) rfl⟩
theorem df_X5 : ∀ k, k < 15 → defaultValue (tyX5 k) = fldv (fun _ => 0) (tyX5 k) none 0 := by decide +kernel
theorem wi_X6 : Cond.instantiable RX6 12 ∈ TB := tb_of 123 (by decide +kernel) rfl
theorem wz_X6 : Cond.initialized RX6 ∈ TB := tb_of 107 (by decide +kernel) rfl
theorem mo_X6 : yX6_init.name = "<init>" ∧ Cond.instanceMethod yX6_init ∈ TB := ⟨rfl, tb_of 125 (by decide +kernel) rfl⟩
theorem df_X6 : ∀ k, k < 12 → defaultValue (tyX6 k) = fldv (fun _ => 0) (tyX6 k) none 0 := by decide +kernel
theorem wi_X7 : Cond.instantiable RX7 45 ∈ TB := tb_of 836 (by decide +kernel) rfl
theorem wz_X7 : Cond.initialized RX7 ∈ TB := tb_of 120 (by decide +kernel) rfl
theorem mo_X7 : yX7_init.name = "<init>" ∧ Cond.instanceMethod yX7_init ∈ TB := ⟨rfl, tb_of 838 (by decide +kernel) rfl⟩
theorem df_X7 : ∀ k, k < 45 → defaultValue (tyX7 k) = fldv (fun _ => 0) (tyX7 k) none 0 := by decide +kernel
theorem wa_I : Cond.arrayClass (if false then .boolean else .int) ∈ TB := tb_of 147 (by decide +kernel) rfl
theorem wa_Z : Cond.arrayClass (if true then .boolean else .int) ∈ TB := tb_of 182 (by decide +kernel) rfl
theorem wo_X6_3 : Cond.methodLink RX6 3 objectInit ∈ TB := tb_of 127 (by decide +kernel) rfl
theorem wo_X2_3 : Cond.methodLink RX2 3 objectInit ∈ TB := tb_of 135 (by decide +kernel) rfl
theorem wo_X5_3 : Cond.methodLink RX5 3 objectInit ∈ TB := tb_of 153 (by decide +kernel) rfl
theorem wo_X0_3 : Cond.methodLink RX0 3 objectInit ∈ TB := tb_of 159 (by decide +kernel) rfl
theorem wo_X3_3 : Cond.methodLink RX3 3 objectInit ∈ TB := tb_of 254 (by decide +kernel) rfl
theorem wo_X4_3 : Cond.methodLink RX4 3 objectInit ∈ TB := tb_of 274 (by decide +kernel) rfl
theorem wo_X1_3 : Cond.methodLink RX1 3 objectInit ∈ TB := tb_of 305 (by decide +kernel) rfl
theorem wo_X7_1 : Cond.methodLink RX7 1 objectInit ∈ TB := tb_of 840 (by decide +kernel) rfl
theorem wo_i : Cond.instanceMethod objectInit ∈ TB := tb_of 128 (by decide +kernel) rfl
theorem wo_c : Cond.code objectInit ⟨#[0xb1]⟩ 1 none ∈ TB := tb_of 129 (by decide +kernel) rfl
theorem g_lay {E : Ex} {κ : Kx} {nL ce sl pc : Nat} {lv : List (Option Value)} {st : List Value} {ad : Nat → Nat} {lay lay' : List Ent} {mem : Mem} (he : lay = lay') (K : Gw E κ nL ce sl pc lv st ad lay' mem) : Gw E κ nL ce sl pc lv st ad lay mem := he ▸ K
theorem Ce.mono {κ : Kx} {a b c d : Nat} (h : Ce κ c d) (h1 : a ≤ c) (h2 : b ≤ d) : Ce κ a b := by
  obtain ⟨p, e, R, s, m, args, below, meth, cc, Q⟩ := κ
  exact ⟨Nat.le_trans h1 h.1, Nat.le_trans h2 h.2⟩
