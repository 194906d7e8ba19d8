/-! what a sheet is, in numbers: rows, columns, places, words, solvers; black squares; of a place its first square, length, step; of a word its length, letters; kinds -/
abbrev Sh : Type := (Nat × Nat × Nat × Nat × Nat) × (Nat → Nat) × (Nat → Nat) × (Nat → Nat) × (Nat → Nat) × (Nat → Nat) × (Nat → Nat → Nat) × (Nat → Nat)
def sR (S : Sh) : Nat := S.1.1
def sC (S : Sh) : Nat := S.1.2.1
def sP (S : Sh) : Nat := S.1.2.2.1
def sW (S : Sh) : Nat := S.1.2.2.2.1
def sN (S : Sh) : Nat := S.1.2.2.2.2
def sbl (S : Sh) : Nat → Nat := S.2.1
def sfi (S : Sh) : Nat → Nat := S.2.2.1
def spl (S : Sh) : Nat → Nat := S.2.2.2.1
def sst (S : Sh) : Nat → Nat := S.2.2.2.2.1
def swl (S : Sh) : Nat → Nat := S.2.2.2.2.2.1
def swd (S : Sh) : Nat → Nat → Nat := S.2.2.2.2.2.2.1
def skd (S : Sh) : Nat → Nat := S.2.2.2.2.2.2.2
def ssq (S : Sh) (p k : Nat) : Nat := sfi S p + k * sst S p
def scd (S : Sh) (w : Nat) : Nat := swd S w 0 + 8 * swd S w 1 + 64 * swd S w 2 + 512 * swd S w 3
/-- the sheet is a good one -/
def SOK (S : Sh) : Prop := (2 ≤ sR S ∧ sR S ≤ 4) ∧ (2 ≤ sC S ∧ sC S ≤ 4) ∧ sP S ≤ 8 ∧ (1 ≤ sW S ∧ sW S ≤ 9) ∧ sN S ≤ 6 ∧ (∀ x, sbl S x ≤ 1) ∧
  (∀ p, p < sP S → (2 ≤ spl S p ∧ spl S p ≤ 4) ∧ 1 ≤ sst S p ∧ ∀ k, k < spl S p → ssq S p k < sR S * sC S ∧ sbl S (ssq S p k) = 0) ∧
  (∀ w, w < sW S → (2 ≤ swl S w ∧ swl S w ≤ 4) ∧ (∀ k, k < swl S w → 1 ≤ swd S w k ∧ swd S w k ≤ 6) ∧ ∀ k, swl S w ≤ k → swd S w k = 0) ∧ (∀ i, i < sN S → skd S i ≤ 4)
theorem SOK.rc {S : Sh} (h : SOK S) : sR S * sC S ≤ 16 := by
  have h1 := h.1.2
  have h2 := h.2.1.2
  exact Nat.le_trans (Nat.mul_le_mul h1 h2) (by decide)
theorem SOK.sq {S : Sh} (h : SOK S) {p k : Nat} (hp : p < sP S) (hk : k < spl S p) : ssq S p k < 16 := Nat.lt_of_lt_of_le ((h.2.2.2.2.2.2.1 p hp).2.2 k hk).1 h.rc
theorem SOK.pl {S : Sh} (h : SOK S) {p : Nat} (hp : p < sP S) : 2 ≤ spl S p ∧ spl S p ≤ 4 := (h.2.2.2.2.2.2.1 p hp).1
theorem SOK.p8 {S : Sh} (h : SOK S) : sP S ≤ 8 := h.2.2.1
theorem SOK.w9 {S : Sh} (h : SOK S) : sW S ≤ 9 := h.2.2.2.1.2
theorem SOK.n6 {S : Sh} (h : SOK S) : sN S ≤ 6 := h.2.2.2.2.1
theorem SOK.wl {S : Sh} (h : SOK S) {w : Nat} (hw : w < sW S) : 2 ≤ swl S w ∧ swl S w ≤ 4 := (h.2.2.2.2.2.2.2.1 w hw).1
theorem SOK.wd {S : Sh} (h : SOK S) {w k : Nat} (hw : w < sW S) (hk : k < swl S w) : 1 ≤ swd S w k ∧ swd S w k ≤ 6 := (h.2.2.2.2.2.2.2.1 w hw).2.1 k hk
theorem SOK.wd6 {S : Sh} (h : SOK S) {w : Nat} (hw : w < sW S) (k : Nat) : swd S w k ≤ 6 := by
  rcases Nat.lt_or_ge k (swl S w) with q | q
  · exact (h.wd hw q).2
  · rw [(h.2.2.2.2.2.2.2.1 w hw).2.2 k q]; decide
theorem SOK.inj {S : Sh} (h : SOK S) {p k k' : Nat} (hp : p < sP S) (e : ssq S p k = ssq S p k') : k = k' := by
  have h1 := (h.2.2.2.2.2.2.1 p hp).2.1
  unfold ssq at e
  exact Nat.eq_of_mul_eq_mul_right h1 (by omega)
/-- the class's sheet at s -/
def CS (S : Sh) (s : Nat) (mem : Mem) : Prop := (mem s 0 = nI (sR S) ∧ mem s 1 = nI (sC S) ∧ mem s 3 = nI (sP S) ∧ mem s 7 = nI (sW S) ∧ mem s 12 = nI (sN S)) ∧ (∀ x, x < 16 → mem (s + 1) x = nI (sbl S x)) ∧
  (∀ p, p < sP S → mem (s + 2) p = nI (spl S p) ∧ mem (s + 4) p = nI (if sst S p = 1 then 0 else 1) ∧ ∀ k, k < spl S p → mem (s + 3) (p * 4 + k) = nI (ssq S p k)) ∧
  (∀ w, w < sW S → mem (s + 5) w = nI (swl S w) ∧ mem (s + 6) w = nI (scd S w)) ∧ (∀ n, n < 5 → mem (s + 7) n = nI (bm (fun w => swl S w == n) (sW S))) ∧
  (∀ k l, k < 4 → l < 7 → mem (s + 8) (k * 7 + l) = nI (bm (fun w => decide (k < swl S w) && swd S w k == l) (sW S))) ∧ (∀ i, i < sN S → mem (s + 9) i = nI (skd S i))
/-- the reference's sheet -/
def MS (S : Sh) (mem : Mem) : Prop := (mem 62 14 = nI (sR S) ∧ mem 62 15 = nI (sC S) ∧ mem 62 16 = nI (sP S) ∧ mem 62 17 = nI (sW S) ∧ mem 62 18 = nI (sN S)) ∧ (∀ x, x < 16 → mem 70 x = nI (sbl S x)) ∧
  (∀ p, p < sP S → mem 74 p = nI (sfi S p) ∧ mem 75 p = nI (spl S p) ∧ mem 76 p = nI (sst S p)) ∧ (∀ w, w < sW S → mem 71 w = nI (swl S w) ∧ ∀ k, k < 4 → mem 72 (4 * w + k) = nI (swd S w k)) ∧ (∀ i, i < sN S → mem 73 i = nI (skd S i))
/-- a paper: letters, wanted places, wanted words -/
abbrev Pa : Type := (Nat → Nat) × (Nat → Nat) × (Nat → Nat)
def POK (S : Sh) (P : Pa) : Prop := (∀ x, x < 16 → P.1 x ≤ 6) ∧ (∀ x, x < 16 → (sR S * sC S ≤ x ∨ sbl S x = 1) → P.1 x = 0) ∧ ∀ i, i < 6 → P.2.1 i < 8 ∧ P.2.2 i < sW S
def CP (P : Pa) (t : Nat) (mem : Mem) : Prop := (∀ x, x < 16 → mem (t + 1) x = nI (P.1 x)) ∧ ∀ i, i < 6 → mem (t + 2) i = nI (P.2.1 i) ∧ mem (t + 3) i = nI (P.2.2 i)
def MP (P : Pa) (o : Nat) (mem : Mem) : Prop := (∀ x, x < 16 → mem o x = nI (P.1 x)) ∧ ∀ i, i < 6 → mem o (16 + 2 * i) = nI (P.2.1 i) ∧ mem o (16 + 2 * i + 1) = nI (P.2.2 i)
/-! which squares of a place are empty, which words fit -/
def empN (S : Sh) (L : Nat → Nat) (p : Nat) : Nat := cnt (fun k => L (ssq S p k) == 0) (spl S p)
def fullB (S : Sh) (L : Nat → Nat) (p : Nat) : Bool := allB (fun k => L (ssq S p k) != 0) (spl S p)
def likeB (S : Sh) (L : Nat → Nat) (p w : Nat) : Bool := (swl S w == spl S p) && allB (fun k => L (ssq S p k) == 0 || L (ssq S p k) == swd S w k) (spl S p)
def fitB (S : Sh) (L : Nat → Nat) (p w : Nat) : Bool := likeB S L p w && !fullB S L p
theorem full_emp (S : Sh) (L : Nat → Nat) (p : Nat) : fullB S L p = decide (empN S L p = 0) := by
  unfold fullB empN
  rw [allB_cnt, cnt_congr (g := fun k => L (ssq S p k) == 0)]
  intro i _
  simp [bne]
theorem empN_le (S : Sh) (L : Nat → Nat) (p : Nat) : empN S L p ≤ spl S p := cnt_le _ _
section RDS
variable {S : Sh} {s t : Nat} {mem : Mem} {L : Nat → Nat} {p : Nat}
theorem isFilled_b (hO : SOK S) (hC : CS S s mem) (hL : ∀ x, x < 16 → mem (t + 1) x = nI (L x)) (hL6 : ∀ x, x < 16 → L x ≤ 6) (hp : p < sP S) {k : Nat} (hk : k < spl S p) : f_X5_isFilled_b2 s t (nI p) mem (nI k) = if L (ssq S p k) != 0 then some (.inl (nI (k + 1))) else some (.inr (.inr 0)) := by
  have hp8 := hO.p8
  have hpl := hO.pl hp
  have hsq := hO.sq hp hk
  have h6 := hL6 _ hsq
  obtain ⟨c1, c2, c3⟩ := hC.2.2.1 p hp
  unfold f_X5_isFilled_b2
  rw [rd_e p rfl (by omega) (by decide) c1, if_neg (nI_ge (by omega) (by omega)), rd_e (p * 4 + k) (by rw [i_lit 4, pk_mul, nI_add]) (by omega) (by decide) (c3 k hk), rd_e (ssq S p k) rfl hsq (by decide) (hL _ hsq)]
  by_cases h0 : L (ssq S p k) = 0
  · rw [h0, if_pos nI_0]
    rfl
  · rw [if_neg (nI_ne0 (by omega) (by omega))]
    simp only [lt', nI_1, bne, Bool.not_eq_true', beq_eq_false_iff_ne, ne_eq, h0, not_false_eq_true, if_true]
theorem isFilled_e (hO : SOK S) (hC : CS S s mem) (hL : ∀ x, x < 16 → mem (t + 1) x = nI (L x)) (hL6 : ∀ x, x < 16 → L x ≤ 6) (hp : p < sP S) : f_X5_isFilled s t (nI p) mem = some (b2i (fullB S L p)) := by
  have hp8 := hO.p8
  have hpl := hO.pl hp
  obtain ⟨c1, c2, c3⟩ := hC.2.2.1 p hp
  unfold f_X5_isFilled
  rw [lp_all (fun k => L (ssq S p k) != 0) (spl S p) 0 (by omega) (fun k hk => isFilled_b hO hC hL hL6 hp hk)]
  · unfold fullB
    cases allB (fun k => L (ssq S p k) != 0) (spl S p) <;> rfl
  · unfold f_X5_isFilled_b2
    rw [rd_e p rfl (by omega) (by decide) c1, if_pos (nI_le (Nat.le_refl _) (by omega))]
theorem lettersIn_e (hO : SOK S) (hC : CS S s mem) (hL : ∀ x, x < 16 → mem (t + 1) x = nI (L x)) (hL6 : ∀ x, x < 16 → L x ≤ 6) (hp : p < sP S) : f_X5_lettersIn s t (nI p) mem = some (nI (cnt (fun k => L (ssq S p k) != 0) (spl S p))) := by
  have hp8 := hO.p8
  have hpl := hO.pl hp
  obtain ⟨c1, c2, c3⟩ := hC.2.2.1 p hp
  unfold f_X5_lettersIn
  rw [show ((0 : Int32), (0 : Int32)) = (fun i => (nI (cnt (fun k => L (ssq S p k) != 0) i), nI i)) 0 from rfl, lp_FU (fun i => (nI (cnt (fun k => L (ssq S p k) != 0) i), nI i)) (spl S p) (r := (nI (cnt (fun k => L (ssq S p k) != 0) (spl S p)), nI (spl S p))) (by omega)]
  · rfl
  · intro k hk
    have hsq := hO.sq hp hk
    have h6 := hL6 _ hsq
    unfold f_X5_lettersIn_b5
    rw [rd_e p rfl (by omega) (by decide) c1, if_neg (nI_ge (by omega) (by omega)), rd_e (p * 4 + k) (by rw [i_lit 4, pk_mul, nI_add]) (by omega) (by decide) (c3 k hk), rd_e (ssq S p k) rfl hsq (by decide) (hL _ hsq)]
    by_cases h0 : L (ssq S p k) = 0
    · rw [h0, if_pos nI_0]
      simp only [lt', nI_1, cnt, h0]
      rfl
    · rw [if_neg (nI_ne0 (by omega) (by omega))]
      simp only [lt', nI_1, cnt]
      rw [if_pos (by simp [h0])]
  · unfold f_X5_lettersIn_b5
    rw [rd_e p rfl (by omega) (by decide) c1, if_pos (nI_le (Nat.le_refl _) (by omega))]
end RDS
