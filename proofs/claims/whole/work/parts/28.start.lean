/-- what must be shown of the plain functions: the two constructors and every turn of the law's loop go well -/
def Pure (mem6 mem7 : Mem) : Prop := f_init6 (mset (mset MZ 52 0 8) 56 0 2) = some (17, 3, mem6) ∧ (∀ a, 62 ≤ a → mem6 a = fun _ => 0) ∧ f_init7 mem6 = some mem7 ∧ ∀ (L : Nat) (xs : Nat → Int32), L ≤ 320 → ∃ (n : Nat) (q : LSt), lp (f_law_b L xs) n (0, 17, 3, mem7) = some (.inl q)
section START
variable {E : Ex} {κ : Kx} {cc : ByteArray} {own : String} {nL ce sl pc d : Nat} {ret : Option FieldType} {lv : List (Option Value)} {st rest : List Value} {ad : Nat → Nat} {lay lay' : List Ent} {mem mem' : Mem}
theorem g_callIS (C : Cx E κ cc own nL ret d) {aK aV : Nat} (hX : SxK E aK aV κ) {y : MethodName} {bytes : ByteArray} {maxL n na dc mc ms index b : Nat} (hce : Ce κ (ce + mc) (sl + ms)) (hM : Mi y bytes maxL none na) (hi : y.name = "<init>" ∧ Cond.instanceMethod y ∈ TB) (hw : Cond.methodLink own index y ∈ TB) (hd : decode cc pc = .ok (.invokespecial index, 3)) (As rest : List Value) (hdc : dc + 1 ≤ d) (hn : As.length = na) (hst : st = As.reverse ++ .ref (ad b) :: rest) (hs8 : (rest.map fun v => v.category).sum ≤ 8)
    (hC : ClNS E aK aV y bytes maxL dc mc ms (.ref (ad b) :: As) n ad lay mem lay' mem') (K : ∀ ad', Agr n ad ad' → Gw E κ nL (ce + mc) (sl + ms) (pc + 3) lv rest ad' lay' mem') : Gw E κ nL ce sl pc lv st ad lay mem := by
  obtain ⟨p, e, R, s, m, args, below, meth, c, Q⟩ := κ
  obtain ⟨hx, hb, hml, ho, ht, hK, hN, hB, hrt, hlk, hf, hlo⟩ := C
  obtain ⟨m1, m2, m3, m4⟩ := hM
  intro H locs ls hR hS hL
  have hX : Sx E aK aV s := hX
  exact w_callN (a := (Value.ref (ad b) :: As).toArray) rfl (va_runI (As := As) (rest := rest) ⟨hx, hb, hml, ho, ht⟩ hC ⟨callB_of na ht (goodTB m1) rfl rfl rfl (ht _ m2) (ht _ hw) m3 ⟨by show dc + 1 ≤ R.frames; omega, by show 8 + (maxL + 11) + 40 * dc ≤ R.locals; omega⟩, hi.1, ht _ hi.2⟩ ⟨PxS.blind, fun U hU hW => ⟨⟨rfl, by rw [hU]; exact hR, va_K.moved hW.alike hK, Nst.warm hW hN, by rw [hU]; exact Nat.le_trans hB hS.1⟩, Sx.go hW.alike (fun z => vk_R.warm hW z) (fun a h9 h8 => by rw [hU]; exact hS.2.1 a h9 h8) hX⟩⟩ rfl hn hL.1 hst (lv_room hs8) hd ⟨hce.1, hce.2⟩) hS (fun ad' H1 locs1 hag h1 h2 => K ad' hag H1 locs1 ls h1 h2 hL)
end START
theorem nst_of {s : State} {args : Array Value} (hts : ∀ w ∈ lw_tbl, w.before args s = true) : Nst s := by
  intro w hw
  obtain ⟨h1, h2⟩ := List.mem_filter.mp hw
  have h3 := hts w (List.mem_append_right _ h1)
  cases w <;> first | exact va_Nw.of rfl h3 | (simp [isNest] at h2)
theorem arr_of {s : State} {args : Array Value} (ty : FieldType) (hty : ty = .int ∨ ty = .boolean) (h : (Cond.arrayClass ty).before args s = true) : ∃ cA : ClassId, ArrOfT s cA ty ∧ va_RA s cA ty := by
  obtain ⟨cA, kA, comp, h1, h2, h3⟩ := Cond.arrayClass_spec (show (Cond.arrayClass ty).holds args s none s [] = true from h)
  refine ⟨cA, fun n z => ⟨fun k h => (by cases h), kA, h2, comp, h3⟩, ?_⟩
  rcases hty with rfl | rfl
  · exact h1
  · exact h1
set_option maxRecDepth 100000 in
theorem txt_el : ∀ j, j < 90 → Cond.eq (.elem (.field (.string "EveningCrossword" 70) "java/lang/String" "value" "[B") (.int (Int32.ofNat j))) (.int (txL.getD j 0)) ∈ flatC (Jvm.Cond.and given_1 narrow_1) := by decide +kernel
theorem lt1 {i : Nat} (h : i < 1) : i = 0 := by omega
set_option maxRecDepth 100000 in
set_option maxHeartbeats 4000000 in
theorem sx_of {s : State} {b : Nat} (E : Ex) (hE : E.2.2.2.2 = s.heap.size) (hts : ∀ w ∈ lw_tbl, w.before #[Value.ref b] s = true) (hgv : (Jvm.Cond.and given_1 narrow_1).before #[Value.ref b] s = true) : ∃ aK aV : Nat, Sx E aK aV s := by
  have hs := flat_of_before _ hgv
  have hA : ∀ a : Nat, a < s.heap.size → ¬ (fun q => E.2.2.2.2 ≤ q) a := fun a h z => by
    have z : E.2.2.2.2 ≤ a := z
    omega
  obtain ⟨adK, adV, hS, hev⟩ := vk_Sof (args := #[Value.ref b]) (s := s) (N := 1) (tm := fun _ => .string "EveningCrossword" 70) (len := [90]) (byt := [txL]) (A := fun q => E.2.2.2.2 ≤ q)
    (fun i hi => by rw [lt1 hi]; decide) (fun i hi => hs _ (by decide +kernel)) (fun i hi => hs _ (by decide +kernel)) (fun i hi => hs _ (by decide +kernel)) (fun i hi => by rw [lt1 hi]; exact hs _ (by decide +kernel))
    (fun i hi j hj => by rw [lt1 hi] at hj ⊢; exact hs _ (txt_el j hj)) (fun i j hi hj hij => absurd ((lt1 hi).trans (lt1 hj).symm) hij) hA
  obtain ⟨h1, h2, h3, h4⟩ := hS.1 0 (by decide)
  refine ⟨adK 0, adV 0, h1, h2, h3, h4, ?_, ?_, ?_⟩
  · exact va_Zof (hts _ (List.mem_of_getElem? (i := 333) (by decide +kernel))) (hts _ (List.mem_of_getElem? (i := 114) (by decide +kernel))) (va_eqi (hs _ (by decide +kernel))) hA
  · exact va_Zqof (hts _ (List.mem_of_getElem? (i := 349) (by decide +kernel))) (hts _ (List.mem_of_getElem? (i := 116) (by decide +kernel))) (hs _ (by decide +kernel)) hA
  · exact vk_R.of (hts _ (List.mem_of_getElem? (i := 323) (by decide +kernel))) (hev 0 (by decide))
def LQ (E : Ex) (κ : Kx) (b : Nat) : Prop := match κ with
  | (_, _, R, s, _, args, below, _, _, Q) => R = room_1 ∧ args = #[Value.ref b] ∧ E.2.2.2.2 = s.heap.size ∧ Q = lw_Z below #[Value.ref b] s
theorem g_lawret {E : Ex} {κ : Kx} {b ce sl pc : Nat} {lv : List (Option Value)} {ad : Nat → Nat} {lay : List Ent} {mem : Mem} {d : Nat} (C : Cx E κ cL_law RL 4 (some .boolean) d) (hq : LQ E κ b) (h1 : ce ≤ 600000) (h2 : sl ≤ 7302250) (hd : decode cL_law pc = .ok (.ireturn, 1)) : Gw E κ 4 ce sl pc lv [.int 1] ad lay mem := by
  obtain ⟨p, e, R, s, m, args, below, meth, c, Q⟩ := κ
  obtain ⟨hx, hb, -, -, -, -, -, -, hrt, hlk, -⟩ := C
  obtain ⟨rfl, rfl, hE, rfl⟩ := hq
  intro H locs ls hR hS hL
  refine va_forget (fun q hq => ?_) ?_
  · have := hS.2.2 q hq
    rw [← hE]
    exact this
  · exact W.widen h1 h2 (lw_ret hx hb hrt hlk hd)
set_option maxRecDepth 100000 in
set_option maxHeartbeats 4000000 in
/-- from the law's entry to its end, if the plain functions go well -/
theorem start_of {mem6 mem7 : Mem} (HP : Pure mem6 mem7) {p : Program} {e : Env} {s : State} {m : MethodId} {below : List Frame} {meth : Method} {c : Code} (l : Launch) {b L : Nat} {xs : Nat → Int32} (hL : L ≤ 320) (C0 : lw_At p s m meth c b L xs) : W p l e room_1 s m #[Value.ref b] below meth c s.heap [] 0 0 (lw_Z below #[Value.ref b] s) (entryFrame m ([Value.ref b] : List Value).toArray 4) := by
  obtain ⟨hx, hb, hr, hml, hown, hts, hX, hbl, hlocks, hgv⟩ := C0
  obtain ⟨P1, P2, P3, P4⟩ := HP
  have htb : ∀ w ∈ TB, w.before #[Value.ref b] s = true := fun w h => hts w (List.mem_filter.mp h).1
  obtain ⟨cI, hI1, hI2⟩ := arr_of .int (Or.inl rfl) (htb _ wa_I)
  obtain ⟨cZ, hZ1, hZ2⟩ := arr_of .boolean (Or.inr rfl) (htb _ wa_Z)
  obtain ⟨c0, iS0, hKn0⟩ := u_known (C := RX0) (T := TX0) (N := 3) (n := 3) htb ok_X0.2.2.2.1 (htb _ wi_X0)
  obtain ⟨c1, iS1, hKn1⟩ := u_known (C := RX1) (T := TX1) (N := 5) (n := 5) htb ok_X1.2.2.2.1 (htb _ wi_X1)
  obtain ⟨c2, iS2, hKn2⟩ := u_known (C := RX2) (T := TX2) (N := 3) (n := 3) htb ok_X2.2.2.2.1 (htb _ wi_X2)
  obtain ⟨c3, iS3, hKn3⟩ := u_known (C := RX3) (T := TX3) (N := 4) (n := 4) htb ok_X3.2.2.2.1 (htb _ wi_X3)
  obtain ⟨c4, iS4, hKn4⟩ := u_known (C := RX4) (T := TX4) (N := 6) (n := 6) htb ok_X4.2.2.2.1 (htb _ wi_X4)
  obtain ⟨c5, iS5, hKn5⟩ := u_known (C := RX5) (T := TX5) (N := 15) (n := 15) htb ok_X5.2.2.2.1 (htb _ wi_X5)
  obtain ⟨c6, iS6, hKn6⟩ := u_known (C := RX6) (T := TX6) (N := 12) (n := 12) htb ok_X6.2.2.2.1 (htb _ wi_X6)
  obtain ⟨c7, iS7, hKn7⟩ := u_known (C := RX7) (T := TX7) (N := 45) (n := 45) htb ok_X7.2.2.2.1 (htb _ wi_X7)
  obtain ⟨dC, dI, hKc⟩ : ∃ (dC : Nat → ClassId) (dI : Nat → Nat → Nat), ∀ (k : Nat) (q : vw_C), vwCl[k]? = some q → u_Kn s q.1 q.2.1 q.2.2 (dC k) (dI k) := by
    refine ⟨fun k => match k with | 0 => c0 | 1 => c1 | 2 => c2 | 3 => c3 | 4 => c4 | 5 => c5 | 6 => c6 | _ => c7, fun k => match k with | 0 => iS0 | 1 => iS1 | 2 => iS2 | 3 => iS3 | 4 => iS4 | 5 => iS5 | 6 => iS6 | _ => iS7, ?_⟩
    intro k q hq
    match k, hq with
    | 0, hq => cases hq; exact hKn0
    | 1, hq => cases hq; exact hKn1
    | 2, hq => cases hq; exact hKn2
    | 3, hq => cases hq; exact hKn3
    | 4, hq => cases hq; exact hKn4
    | 5, hq => cases hq; exact hKn5
    | 6, hq => cases hq; exact hKn6
    | 7, hq => cases hq; exact hKn7
    | k + 8, hq => simp [vwCl] at hq
  have hK : va_K (dC, dI) vwCl (tysE cI cZ) s := ⟨hKc, fun k q h => by
    match k, h with
    | 0, h => cases h; exact ⟨hI1, hI2⟩
    | 1, h => cases h; exact ⟨hZ1, hZ2⟩
    | k + 2, h => simp at h⟩
  obtain ⟨aK, aV, hSx⟩ := sx_of (s := s) (b := b) (l, (dC, dI), cI, cZ, s.heap.size) rfl hts hgv
  generalize hEe : ((l, (dC, dI), cI, cZ, s.heap.size) : Ex) = E at hSx
  have hE1 : E.1 = l := by rw [← hEe]
  have hE5 : E.2.2.2.2 = s.heap.size := by rw [← hEe]
  generalize hκ : ((p, e, room_1, s, m, #[Value.ref b], below, meth, c, lw_Z below #[Value.ref b] s) : Kx) = κ
  have C : Cx E κ cL_law RL 4 (some .boolean) 2000 := by
    rw [← hκ, ← hEe]
    exact ⟨hx, hb, hml, hown, htb, hK, nst_of hts, Nat.le_refl _, hr, hlocks, by decide, by decide⟩
  have hce : Ce κ 600000 7302250 := by rw [← hκ]; exact ⟨Nat.le_refl _, Nat.le_refl _⟩
  have hXk : SxK E aK aV κ := by rw [← hκ]; exact hSx
  have hSX : SX E κ b L xs := by rw [← hκ]; exact ⟨hX, hbl, by rw [hE5]; exact Nat.not_le.mpr hbl⟩
  have hq : LQ E κ b := by rw [← hκ]; exact ⟨rfl, rfl, hE5, rfl⟩
  have key : Gw E κ 4 0 0 0 [some (.ref b), none, none, none] [] (fun _ => 0) [] MZ := by
    refine g_new (pc := 0) (n := 0) C ok_X6 df_X6 wk_L_7 wi_X6 wz_X6 dL_law_0 rfl rfl rfl (hce.mono (by decide) (by decide)) (fun a1 h1 => ?_)
    refine g_dup (pc := 3) C dL_law_3 rfl ?_
    refine g_lay (lay' := Y_0) (by decide +kernel) ?_
    refine g_callIS (pc := 4) (n := 1) (dc := 1999) (mc := 61) (ms := 998) C hXk (hce.mono (by decide) (by decide)) mi_X6_init mo_X6 wm_L_9 dL_law_4 [] [.ref (a1 0)] (by omega) rfl rfl (Nat.le_of_ble_eq_true rfl) (i_X6_0 (by omega) P1) (fun a2 h2 => ?_)
    rw [← h2 0 (by decide)]
    refine g_lay (lay' := LC 17 3 ++ []) rfl ?_
    refine g_mem (mem' := mem6) rfl ?_
    refine g_astore_n (pc := 7) (i := 1) (lv' := [some (.ref b), some (.ref (a2 0)), none, none]) C dL_law_7 rfl (by decide) rfl rfl ?_
    refine g_new (pc := 8) (n := 62) C ok_X7 df_X7 wk_L_10 wi_X7 wz_X7 dL_law_8 rfl (by decide +kernel) (P2 62 (by decide)) (hce.mono (by decide) (by decide)) (fun a3 h3 => ?_)
    rw [← h3 0 (by decide)]
    refine g_dup (pc := 11) C dL_law_11 rfl ?_
    refine g_lay (lay' := Y_28) (by decide +kernel) ?_
    refine g_callI (pc := 12) (n := 63) (dc := 1999) (mc := 27) (ms := 1064) C (hce.mono (by decide) (by decide)) mi_X7_init mo_X7 wm_L_12 dL_law_12 [] [.ref (a3 62)] (by omega) rfl rfl (Nat.le_of_ble_eq_true rfl) (i_X7_62 (by omega) P2 P3) (fun a4 h4 => ?_)
    rw [← h4 0 (by decide), ← h4 62 (by decide)]
    refine g_astore_n (pc := 15) (i := 2) (lv' := [some (.ref b), some (.ref (a4 0)), some (.ref (a4 62)), none]) C dL_law_15 rfl (by decide) rfl rfl ?_
    refine g_iconst (pc := 16) (v := 0) C dL_law_16 rfl ?_
    refine g_istore_n (pc := 17) (i := 3) (lv' := [some (.ref b), some (.ref (a4 0)), some (.ref (a4 62)), some (.int 0)]) C dL_law_17 rfl (by decide) rfl rfl ?_
    obtain ⟨n, q, hlp⟩ := P4 L xs hL
    refine lp_gw (P_law E κ a4 _ _ b) (fun q x hb hp hsh hsp => b_law C (by omega) (hce.mono (by decide) (by decide)) hSX hsh hsp hb hp) _ (0, 17, 3, mem7) _ hlp ?_ (Or.inr rfl) (Or.inl rfl)
    refine g_iconst (pc := 913) (v := 1) C dL_law_913 rfl ?_
    exact g_lawret (pc := 914) (b := b) C hq (by decide) (by decide) dL_law_914
  rw [lg_entry_eq]
  rw [← hκ] at key
  have key := key s.heap [] _ (by rw [← hEe]; exact ⟨fun k q h => by simp [wsL] at h, ⟨fun i j hi => absurd hi (Nat.not_lt_zero _), fun i hi => absurd hi (Nat.not_lt_zero _)⟩⟩) va_S.rf (Lv.of (ls := (lg_sl ([Value.ref b]) ++ List.replicate (4 - (lg_sl ([Value.ref b])).length) Slot.unset).toArray) (nL := 4) (lv := [some (.ref b), none, none, none]) (lv_entry [Value.ref b] (n := 4) (Nat.le_of_ble_eq_true rfl)))
  rw [hE1] at key
  exact key
