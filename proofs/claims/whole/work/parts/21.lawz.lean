abbrev LSt : Type := Int32 × Nat × Nat × Mem
def SX (E : Ex) (κ : Kx) (b L : Nat) (xs : Nat → Int32) : Prop := match κ with
  | (_, _, _, s, _, _, _, _, _, _) => va_X b L xs s s.heap ∧ b < s.heap.size ∧ ¬ E.2.2.2.2 ≤ b
section LAWR
variable {E : Ex} {κ : Kx} {cc : ByteArray} {own : String} {nL ce sl pc d : Nat} {ret : Option FieldType} {lv : List (Option Value)} {st : List Value} {ad : Nat → Nat} {lay : List Ent} {mem : Mem}
theorem g_sld (C : Cx E κ cc own nL ret d) {b L : Nat} {xs : Nat → Int32} {i : Int32} (hX : SX E κ b L xs) (hd : decode cc pc = .ok (.iaload, 1)) (hin : vp_in i L) (K : Gw E κ nL ce sl (pc + 1) lv (.int (xs i.toNatClampNeg) :: st) ad lay mem) : Gw E κ nL ce sl pc lv (.int i :: .ref b :: st) ad lay mem := by
  obtain ⟨p, e, R, s, m, args, below, meth, c, Q⟩ := κ
  obtain ⟨hx, hb, -⟩ := C
  intro H locs ls hR hS hL
  exact va_sld hx hb hX.1 hX.2.1 hX.2.2 hS hin hd (K H locs ls hR hS hL)
theorem g_slen (C : Cx E κ cc own nL ret d) {b L : Nat} {xs : Nat → Int32} (hX : SX E κ b L xs) (hd : decode cc pc = .ok (.arraylength, 1)) (K : Gw E κ nL ce sl (pc + 1) lv (.int (nI L) :: st) ad lay mem) : Gw E κ nL ce sl pc lv (.ref b :: st) ad lay mem := by
  obtain ⟨p, e, R, s, m, args, below, meth, c, Q⟩ := κ
  obtain ⟨hx, hb, -⟩ := C
  intro H locs ls hR hS hL
  exact va_slen hx hb hX.1 hX.2.1 hX.2.2 hS hd (K H locs ls hR hS hL)
end LAWR
def P_law (E : Ex) (κ : Kx) (ad : Nat → Nat) (ce sl b : Nat) : LSt ⊕ (LSt ⊕ Int32) → Prop
  | .inl q => isS q.2.1 → isS q.2.2.1 → Gw E κ 4 ce sl 18 [some (.ref b), some (.ref (ad 0)), some (.ref (ad 62)), some (.int q.1)] [] ad (LC q.2.1 q.2.2.1 ++ LM) q.2.2.2
  | .inr (.inl q) => Gw E κ 4 ce sl 913 [none, none, none, none] [] ad (LC q.2.1 q.2.2.1 ++ LM) q.2.2.2
  | .inr (.inr r) => r = 1

noncomputable def f_law_907 (L : Nat) (xs : Nat → Int32) (l3 : Int32) (sh sp : Nat) (mem : Mem) : Option (LSt ⊕ (LSt ⊕ Int32)) :=
  lt' (l3 + 5) fun v907 => some (.inl (v907, sh, sp, mem))
noncomputable def f_law_164 (L : Nat) (xs : Nat → Int32) (l3 : Int32) (sh sp : Nat) (mem : Mem) : Option (LSt ⊕ (LSt ⊕ Int32)) :=
  rd xs L (l3 + 1) fun v169 => ob2 (f_X6_write v169 mem) fun r170 m170 => rd xs L (l3 + 1) fun v178 => ob2 (f_X7_write v178 m170) fun r179 m179 => if r170 = r179 then (f_law_907 L xs l3  sh sp m179) else (some (.inr (.inr 0)))
noncomputable def f_law_187 (L : Nat) (xs : Nat → Int32) (l3 : Int32) (sh sp : Nat) (mem : Mem) : Option (LSt ⊕ (LSt ⊕ Int32)) :=
  ob2 (f_X6_wipe mem) fun r188 m188 => ob2 (f_X7_wipe m188) fun r192 m192 => if r188 = r192 then (f_law_907 L xs l3  sh sp m192) else (some (.inr (.inr 0)))
noncomputable def f_law_200 (L : Nat) (xs : Nat → Int32) (l3 : Int32) (sh sp : Nat) (mem : Mem) : Option (LSt ⊕ (LSt ⊕ Int32)) :=
  ob2 (f_X6_fault sp mem) fun r201 m201 => ob2 (f_X7_fault m201) fun r205 m205 => if r201 = r205 then (f_law_907 L xs l3  sh sp m205) else (some (.inr (.inr 0)))
noncomputable def f_law_213 (L : Nat) (xs : Nat → Int32) (l3 : Int32) (sh sp : Nat) (mem : Mem) : Option (LSt ⊕ (LSt ⊕ Int32)) :=
  ob2 (f_X6_lay sh sp mem) fun r214 m214 => ob2 (f_X7_lay m214.2.2) fun r218 m218 => if r214 = r218 then (f_law_907 L xs l3  m214.1 m214.2.1 m218) else (some (.inr (.inr 0)))
noncomputable def f_law_226 (L : Nat) (xs : Nat → Int32) (l3 : Int32) (sh sp : Nat) (mem : Mem) : Option (LSt ⊕ (LSt ⊕ Int32)) :=
  rd xs L (l3 + 1) fun v231 => ob (f_X6_square sh v231 mem) fun r232 => rd xs L (l3 + 1) fun v240 => ob (f_X7_square v240 mem) fun r241 => if r232 = r241 then (f_law_907 L xs l3  sh sp mem) else (some (.inr (.inr 0)))
noncomputable def f_law_249 (L : Nat) (xs : Nat → Int32) (l3 : Int32) (sh sp : Nat) (mem : Mem) : Option (LSt ⊕ (LSt ⊕ Int32)) :=
  rd xs L (l3 + 1) fun v254 => rd xs L (l3 + 2) fun v259 => ob (f_X6_place sh v254 v259 mem) fun r260 => rd xs L (l3 + 1) fun v268 => rd xs L (l3 + 2) fun v273 => ob (f_X7_place v268 v273 mem) fun r274 => if r260 = r274 then (f_law_907 L xs l3  sh sp mem) else (some (.inr (.inr 0)))
noncomputable def f_law_282 (L : Nat) (xs : Nat → Int32) (l3 : Int32) (sh sp : Nat) (mem : Mem) : Option (LSt ⊕ (LSt ⊕ Int32)) :=
  rd xs L (l3 + 1) fun v287 => rd xs L (l3 + 2) fun v292 => ob (f_X6_word sh v287 v292 mem) fun r293 => rd xs L (l3 + 1) fun v301 => rd xs L (l3 + 2) fun v306 => ob (f_X7_word v301 v306 mem) fun r307 => if r293 = r307 then (f_law_907 L xs l3  sh sp mem) else (some (.inr (.inr 0)))
noncomputable def f_law_315 (L : Nat) (xs : Nat → Int32) (l3 : Int32) (sh sp : Nat) (mem : Mem) : Option (LSt ⊕ (LSt ⊕ Int32)) :=
  rd xs L (l3 + 1) fun v320 => rd xs L (l3 + 2) fun v325 => ob2 (f_X6_solver sh v320 v325 mem) fun r326 m326 => rd xs L (l3 + 1) fun v334 => rd xs L (l3 + 2) fun v339 => ob2 (f_X7_solver v334 v339 m326) fun r340 m340 => if r326 = r340 then (f_law_907 L xs l3  sh sp m340) else (some (.inr (.inr 0)))
noncomputable def f_law_348 (L : Nat) (xs : Nat → Int32) (l3 : Int32) (sh sp : Nat) (mem : Mem) : Option (LSt ⊕ (LSt ⊕ Int32)) :=
  ob2 (f_X6_evening sh mem) fun r349 m349 => ob2 (f_X7_evening m349) fun r353 m353 => if r349 = r353 then (f_law_907 L xs l3  sh sp m353) else (some (.inr (.inr 0)))
noncomputable def f_law_361 (L : Nat) (xs : Nat → Int32) (l3 : Int32) (sh sp : Nat) (mem : Mem) : Option (LSt ⊕ (LSt ⊕ Int32)) :=
  rd xs L (l3 + 1) fun v366 => rd xs L (l3 + 2) fun v371 => ob2 (f_X6_set sh v366 v371 mem) fun r372 m372 => rd xs L (l3 + 1) fun v380 => rd xs L (l3 + 2) fun v385 => ob2 (f_X7_set v380 v385 m372) fun r386 m386 => if r372 = r386 then (f_law_907 L xs l3  sh sp m386) else (some (.inr (.inr 0)))
noncomputable def f_law_394 (L : Nat) (xs : Nat → Int32) (l3 : Int32) (sh sp : Nat) (mem : Mem) : Option (LSt ⊕ (LSt ⊕ Int32)) :=
  rd xs L (l3 + 1) fun v399 => ob2 (f_X6_strike sh v399 mem) fun r400 m400 => rd xs L (l3 + 1) fun v408 => ob2 (f_X7_strike v408 m400) fun r409 m409 => if r400 = r409 then (f_law_907 L xs l3  sh sp m409) else (some (.inr (.inr 0)))
noncomputable def f_law_417 (L : Nat) (xs : Nat → Int32) (l3 : Int32) (sh sp : Nat) (mem : Mem) : Option (LSt ⊕ (LSt ⊕ Int32)) :=
  rd xs L (l3 + 1) fun v422 => rd xs L (l3 + 2) fun v427 => rd xs L (l3 + 3) fun v432 => ob2 (f_X6_want sh v422 v427 v432 mem) fun r433 m433 => rd xs L (l3 + 1) fun v441 => rd xs L (l3 + 2) fun v446 => rd xs L (l3 + 3) fun v451 => ob2 (f_X7_want v441 v446 v451 m433) fun r452 m452 => if r433 = r452 then (f_law_907 L xs l3  sh sp m452) else (some (.inr (.inr 0)))
noncomputable def f_law_460 (L : Nat) (xs : Nat → Int32) (l3 : Int32) (sh sp : Nat) (mem : Mem) : Option (LSt ⊕ (LSt ⊕ Int32)) :=
  ob2 (f_X6_undo mem) fun r461 m461 => ob2 (f_X7_undo m461) fun r465 m465 => if r461 = r465 then (f_law_907 L xs l3  sh sp m465) else (some (.inr (.inr 0)))
noncomputable def f_law_473 (L : Nat) (xs : Nat → Int32) (l3 : Int32) (sh sp : Nat) (mem : Mem) : Option (LSt ⊕ (LSt ⊕ Int32)) :=
  rd xs L (l3 + 1) fun v478 => rd xs L (l3 + 2) fun v483 => ob2 (f_X6_behind sh v478 v483 mem) fun r484 m484 => rd xs L (l3 + 1) fun v492 => rd xs L (l3 + 2) fun v497 => ob2 (f_X7_behind v492 v497 m484) fun r498 m498 => if r484 = r498 then (f_law_907 L xs l3  sh sp m498) else (some (.inr (.inr 0)))
noncomputable def f_law_506 (L : Nat) (xs : Nat → Int32) (l3 : Int32) (sh sp : Nat) (mem : Mem) : Option (LSt ⊕ (LSt ⊕ Int32)) :=
  rd xs L (l3 + 1) fun v511 => ob2 (f_X6_fillings sh v511 mem) fun r512 m512 => rd xs L (l3 + 1) fun v520 => ob2 (f_X7_fillings v520 m512) fun r521 m521 => if r512 = r521 then (f_law_907 L xs l3  sh sp m521) else (some (.inr (.inr 0)))
noncomputable def f_law_529 (L : Nat) (xs : Nat → Int32) (l3 : Int32) (sh sp : Nat) (mem : Mem) : Option (LSt ⊕ (LSt ⊕ Int32)) :=
  rd xs L (l3 + 1) fun v534 => ob2 (f_X6_must sh v534 mem) fun r535 m535 => rd xs L (l3 + 1) fun v543 => ob2 (f_X7_must v543 m535) fun r544 m544 => if r535 = r544 then (f_law_907 L xs l3  sh sp m544) else (some (.inr (.inr 0)))
noncomputable def f_law_552 (L : Nat) (xs : Nat → Int32) (l3 : Int32) (sh sp : Nat) (mem : Mem) : Option (LSt ⊕ (LSt ⊕ Int32)) :=
  ob2 (f_X6_best sh mem) fun r553 m553 => ob2 (f_X7_best m553) fun r557 m557 => if r553 = r557 then (f_law_907 L xs l3  sh sp m557) else (some (.inr (.inr 0)))
noncomputable def f_law_565 (L : Nat) (xs : Nat → Int32) (l3 : Int32) (sh sp : Nat) (mem : Mem) : Option (LSt ⊕ (LSt ⊕ Int32)) :=
  ob (f_X6_dead sh mem) fun r566 => ob (f_X7_dead mem) fun r570 => if r566 = r570 then (f_law_907 L xs l3  sh sp mem) else (some (.inr (.inr 0)))
noncomputable def f_law_578 (L : Nat) (xs : Nat → Int32) (l3 : Int32) (sh sp : Nat) (mem : Mem) : Option (LSt ⊕ (LSt ⊕ Int32)) :=
  rd xs L (l3 + 1) fun v583 => rd xs L (l3 + 2) fun v588 => rd xs L (l3 + 3) fun v593 => ob2 (f_X6_counts sh v583 v588 v593 mem) fun r594 m594 => rd xs L (l3 + 1) fun v602 => rd xs L (l3 + 2) fun v607 => rd xs L (l3 + 3) fun v612 => ob2 (f_X7_counts v602 v607 v612 m594) fun r613 m613 => if r594 = r613 then (f_law_907 L xs l3  sh sp m613) else (some (.inr (.inr 0)))
noncomputable def f_law_621 (L : Nat) (xs : Nat → Int32) (l3 : Int32) (sh sp : Nat) (mem : Mem) : Option (LSt ⊕ (LSt ⊕ Int32)) :=
  rd xs L (l3 + 1) fun v626 => rd xs L (l3 + 2) fun v631 => ob2 (f_X6_win sh v626 v631 mem) fun r632 m632 => rd xs L (l3 + 1) fun v640 => rd xs L (l3 + 2) fun v645 => ob2 (f_X7_win v640 v645 m632) fun r646 m646 => if r632 = r646 then (f_law_907 L xs l3  sh sp m646) else (some (.inr (.inr 0)))
noncomputable def f_law_695 (L : Nat) (xs : Nat → Int32) (l3 : Int32) (w0 w2 w3 : Int32) (sh sp : Nat) (mem : Mem) : Option (LSt ⊕ (LSt ⊕ Int32)) :=
  ob2 (f_X7_sent w2 w3 mem) fun r695 m695 => if w0 = r695 then (f_law_907 L xs l3  sh sp m695) else (some (.inr (.inr 0)))
noncomputable def f_law_673 (L : Nat) (xs : Nat → Int32) (l3 : Int32) (w1 w2 : Int32) (sh sp : Nat) (mem : Mem) : Option (LSt ⊕ (LSt ⊕ Int32)) :=
  ob2 (f_X6_sent sh w1 w2 mem) fun r673 m673 => rd xs L (l3 + 1) fun v681 => rd xs L (l3 + 2) fun v686 => if v686 = 0 then (f_law_695 L xs l3 r673 v681 0 sh sp m673) else (f_law_695 L xs l3 r673 v681 1 sh sp m673)
noncomputable def f_law_654 (L : Nat) (xs : Nat → Int32) (l3 : Int32) (sh sp : Nat) (mem : Mem) : Option (LSt ⊕ (LSt ⊕ Int32)) :=
  rd xs L (l3 + 1) fun v659 => rd xs L (l3 + 2) fun v664 => if v664 = 0 then (f_law_673 L xs l3 v659 0 sh sp mem) else (f_law_673 L xs l3 v659 1 sh sp mem)
noncomputable def f_law_703 (L : Nat) (xs : Nat → Int32) (l3 : Int32) (sh sp : Nat) (mem : Mem) : Option (LSt ⊕ (LSt ⊕ Int32)) :=
  ob2 (f_X6_forget mem) fun r704 m704 => ob2 (f_X7_forget m704) fun r708 m708 => if r704 = r708 then (f_law_907 L xs l3  sh sp m708) else (some (.inr (.inr 0)))
noncomputable def f_law_716 (L : Nat) (xs : Nat → Int32) (l3 : Int32) (sh sp : Nat) (mem : Mem) : Option (LSt ⊕ (LSt ⊕ Int32)) :=
  rd xs L (l3 + 1) fun v721 => ob2 (f_X6_wants sh v721 mem) fun r722 m722 => rd xs L (l3 + 1) fun v730 => ob2 (f_X7_wants v730 m722) fun r731 m731 => if r722 = r731 then (f_law_907 L xs l3  sh sp m731) else (some (.inr (.inr 0)))
noncomputable def f_law_739 (L : Nat) (xs : Nat → Int32) (l3 : Int32) (sh sp : Nat) (mem : Mem) : Option (LSt ⊕ (LSt ⊕ Int32)) :=
  rd xs L (l3 + 1) fun v744 => ob2 (f_X6_letters sh v744 mem) fun r745 m745 => rd xs L (l3 + 1) fun v753 => ob2 (f_X7_letters v753 m745) fun r754 m754 => if r745 = r754 then (f_law_907 L xs l3  sh sp m754) else (some (.inr (.inr 0)))
noncomputable def f_law_762 (L : Nat) (xs : Nat → Int32) (l3 : Int32) (sh sp : Nat) (mem : Mem) : Option (LSt ⊕ (LSt ⊕ Int32)) :=
  rd xs L (l3 + 1) fun v767 => rd xs L (l3 + 2) fun v772 => rd xs L (l3 + 3) fun v777 => rd xs L (l3 + 4) fun v782 => ob2 (f_X6_chance sh v767 v772 v777 v782 mem) fun r783 m783 => rd xs L (l3 + 1) fun v791 => rd xs L (l3 + 2) fun v796 => rd xs L (l3 + 3) fun v801 => rd xs L (l3 + 4) fun v806 => ob2 (f_X7_chance v791 v796 v801 v806 m783) fun r807 m807 => if r783 = r807 then (f_law_907 L xs l3  sh sp m807) else (some (.inr (.inr 0)))
noncomputable def f_law_815 (L : Nat) (xs : Nat → Int32) (l3 : Int32) (sh sp : Nat) (mem : Mem) : Option (LSt ⊕ (LSt ⊕ Int32)) :=
  rd xs L (l3 + 1) fun v820 => rd xs L (l3 + 2) fun v825 => rd xs L (l3 + 3) fun v830 => ob2 (f_X6_weeks sh v820 v825 v830 mem) fun r831 m831 => rd xs L (l3 + 1) fun v839 => rd xs L (l3 + 2) fun v844 => rd xs L (l3 + 3) fun v849 => ob2 (f_X7_weeks v839 v844 v849 m831) fun r850 m850 => if r831 = r850 then (f_law_907 L xs l3  sh sp m850) else (some (.inr (.inr 0)))
noncomputable def f_law_858 (L : Nat) (xs : Nat → Int32) (l3 : Int32) (sh sp : Nat) (mem : Mem) : Option (LSt ⊕ (LSt ⊕ Int32)) :=
  ob2 (f_X6_keep mem) fun r859 m859 => ob2 (f_X7_keep m859) fun r863 m863 => if r859 = r863 then (f_law_907 L xs l3  sh sp m863) else (some (.inr (.inr 0)))
noncomputable def f_law_871 (L : Nat) (xs : Nat → Int32) (l3 : Int32) (sh sp : Nat) (mem : Mem) : Option (LSt ⊕ (LSt ⊕ Int32)) :=
  ob2 (f_X6_back mem) fun r872 m872 => ob2 (f_X7_back m872) fun r876 m876 => if r872 = r876 then (f_law_907 L xs l3  sh sp m876) else (some (.inr (.inr 0)))
noncomputable def f_law_884 (L : Nat) (xs : Nat → Int32) (l3 : Int32) (sh sp : Nat) (mem : Mem) : Option (LSt ⊕ (LSt ⊕ Int32)) :=
  rd xs L (l3 + 1) fun v889 => ob (f_X6_count sh v889 mem) fun r890 => rd xs L (l3 + 1) fun v898 => ob (f_X7_count v898 mem) fun r899 => if r890 = r899 then (f_law_907 L xs l3  sh sp mem) else (some (.inr (.inr 0)))
noncomputable def f_law_b (L : Nat) (xs : Nat → Int32) (q : LSt) : Option (LSt ⊕ (LSt ⊕ Int32)) :=
  if ((nI L) - 5) < q.1 then (some (.inr (.inl (q.1, q.2.1, q.2.2.1, q.2.2.2)))) else (rd xs L q.1 fun v28 => if (v28 &&& 31) = 0 then (f_law_164 L xs q.1  q.2.1 q.2.2.1 q.2.2.2) else (if (v28 &&& 31) = 1 then (f_law_187 L xs q.1  q.2.1 q.2.2.1 q.2.2.2) else (if (v28 &&& 31) = 2 then (f_law_200 L xs q.1  q.2.1 q.2.2.1 q.2.2.2) else (if (v28 &&& 31) = 3 then (f_law_213 L xs q.1  q.2.1 q.2.2.1 q.2.2.2) else (if (v28 &&& 31) = 4 then (f_law_226 L xs q.1  q.2.1 q.2.2.1 q.2.2.2) else (if (v28 &&& 31) = 5 then (f_law_249 L xs q.1  q.2.1 q.2.2.1 q.2.2.2) else (if (v28 &&& 31) = 6 then (f_law_282 L xs q.1  q.2.1 q.2.2.1 q.2.2.2) else (if (v28 &&& 31) = 7 then (f_law_315 L xs q.1  q.2.1 q.2.2.1 q.2.2.2) else (if (v28 &&& 31) = 8 then (f_law_348 L xs q.1  q.2.1 q.2.2.1 q.2.2.2) else (if (v28 &&& 31) = 9 then (f_law_361 L xs q.1  q.2.1 q.2.2.1 q.2.2.2) else (if (v28 &&& 31) = 10 then (f_law_394 L xs q.1  q.2.1 q.2.2.1 q.2.2.2) else (if (v28 &&& 31) = 11 then (f_law_417 L xs q.1  q.2.1 q.2.2.1 q.2.2.2) else (if (v28 &&& 31) = 12 then (f_law_460 L xs q.1  q.2.1 q.2.2.1 q.2.2.2) else (if (v28 &&& 31) = 13 then (f_law_473 L xs q.1  q.2.1 q.2.2.1 q.2.2.2) else (if (v28 &&& 31) = 14 then (f_law_506 L xs q.1  q.2.1 q.2.2.1 q.2.2.2) else (if (v28 &&& 31) = 15 then (f_law_529 L xs q.1  q.2.1 q.2.2.1 q.2.2.2) else (if (v28 &&& 31) = 16 then (f_law_552 L xs q.1  q.2.1 q.2.2.1 q.2.2.2) else (if (v28 &&& 31) = 17 then (f_law_565 L xs q.1  q.2.1 q.2.2.1 q.2.2.2) else (if (v28 &&& 31) = 18 then (f_law_578 L xs q.1  q.2.1 q.2.2.1 q.2.2.2) else (if (v28 &&& 31) = 19 then (f_law_621 L xs q.1  q.2.1 q.2.2.1 q.2.2.2) else (if (v28 &&& 31) = 20 then (f_law_654 L xs q.1  q.2.1 q.2.2.1 q.2.2.2) else (if (v28 &&& 31) = 21 then (f_law_703 L xs q.1  q.2.1 q.2.2.1 q.2.2.2) else (if (v28 &&& 31) = 22 then (f_law_716 L xs q.1  q.2.1 q.2.2.1 q.2.2.2) else (if (v28 &&& 31) = 23 then (f_law_739 L xs q.1  q.2.1 q.2.2.1 q.2.2.2) else (if (v28 &&& 31) = 24 then (f_law_762 L xs q.1  q.2.1 q.2.2.1 q.2.2.2) else (if (v28 &&& 31) = 25 then (f_law_815 L xs q.1  q.2.1 q.2.2.1 q.2.2.2) else (if (v28 &&& 31) = 26 then (f_law_858 L xs q.1  q.2.1 q.2.2.1 q.2.2.2) else (if (v28 &&& 31) = 27 then (f_law_871 L xs q.1  q.2.1 q.2.2.1 q.2.2.2) else (if (v28 &&& 31) = 28 then (f_law_884 L xs q.1  q.2.1 q.2.2.1 q.2.2.2) else (f_law_907 L xs q.1  q.2.1 q.2.2.1 q.2.2.2))))))))))))))))))))))))))))))
set_option maxRecDepth 100000 in
set_option maxHeartbeats 4000000 in
theorem c_law_907 {E : Ex} {κ : Kx} {ad : Nat → Nat} {d ce sl b : Nat} {L : Nat} {xs : Nat → Int32} (C : Cx E κ cL_law RL 4 (some .boolean) d) (hd : 16 ≤ d) (hce : Ce κ ce sl) (hX : SX E κ b L xs) {l3 : Int32} {sh sp : Nat} (hsh : isS sh) (hsp : isS sp) {mem : Mem} {x : LSt ⊕ (LSt ⊕ Int32)} (h : f_law_907 L xs l3  sh sp mem = some x) (hP : P_law E κ ad ce sl b x) : Gw E κ 4 ce sl 907 [some (.ref b), some (.ref (ad 0)), some (.ref (ad 62)), some (.int l3)] [] ad (LC sh sp ++ LM) mem := by
  unfold f_law_907 at h
  obtain ⟨v907, hv907, h⟩ := lt_some h
  refine g_iinc (pc := 907) (i := 3) (x := l3) (v := v907) (lv' := [some (.ref b), some (.ref (ad 0)), some (.ref (ad 62)), some (.int v907)]) C dL_law_907 rfl hv907.symm (by decide) rfl rfl ?_
  refine g_goto (pc := 910) C 18 dL_law_910 (by decide) ?_
  cases h
  exact hP hsh hsp
set_option maxRecDepth 100000 in
set_option maxHeartbeats 4000000 in
theorem c_law_164 {E : Ex} {κ : Kx} {ad : Nat → Nat} {d ce sl b : Nat} {L : Nat} {xs : Nat → Int32} (C : Cx E κ cL_law RL 4 (some .boolean) d) (hd : 16 ≤ d) (hce : Ce κ ce sl) (hX : SX E κ b L xs) {l3 : Int32} {sh sp : Nat} (hsh : isS sh) (hsp : isS sp) {mem : Mem} {x : LSt ⊕ (LSt ⊕ Int32)} (h : f_law_164 L xs l3  sh sp mem = some x) (hP : P_law E κ ad ce sl b x) : Gw E κ 4 ce sl 164 [some (.ref b), some (.ref (ad 0)), some (.ref (ad 62)), some (.int l3)] [] ad (LC sh sp ++ LM) mem := by
  unfold f_law_164 at h
  refine g_aload_n (pc := 164) (i := 1) (x := ad 0) C dL_law_164 rfl rfl ?_
  refine g_aload_n (pc := 165) (i := 0) (x := b) C dL_law_165 rfl rfl ?_
  refine g_iload_n (pc := 166) (i := 3) (x := l3) C dL_law_166 rfl rfl ?_
  refine g_iconst (pc := 167) (v := 1) C dL_law_167 rfl ?_
  refine g_iadd (pc := 168) C dL_law_168 ?_
  obtain ⟨v169, hv169, hi169, h⟩ := rd_some h
  refine g_sld (pc := 169) C hX dL_law_169 hi169 ?_
  refine g_topi hv169 ?_
  obtain ⟨r170, m170, hcall170, h⟩ := ob2_some h
  refine g_callV (pc := 170) C hce mi_X6_write mv_X6_write wm_L_13 dL_law_170 ok_X6 [.int v169] [] la_0 (by omega) rfl rfl (Nat.le_of_ble_eq_true rfl) (m_X6_write (d := d - 1) (by omega) hsh hsp hcall170) ?_
  show Gw E κ 4 ce sl 173 [some (.ref b), some (.ref (ad 0)), some (.ref (ad 62)), some (.int l3)] [.int r170] ad (LC sh sp ++ LM) m170
  refine g_aload_n (pc := 173) (i := 2) (x := ad 62) C dL_law_173 rfl rfl ?_
  refine g_aload_n (pc := 174) (i := 0) (x := b) C dL_law_174 rfl rfl ?_
  refine g_iload_n (pc := 175) (i := 3) (x := l3) C dL_law_175 rfl rfl ?_
  refine g_iconst (pc := 176) (v := 1) C dL_law_176 rfl ?_
  refine g_iadd (pc := 177) C dL_law_177 ?_
  obtain ⟨v178, hv178, hi178, h⟩ := rd_some h
  refine g_sld (pc := 178) C hX dL_law_178 hi178 ?_
  refine g_topi hv178 ?_
  obtain ⟨r179, m179, hcall179, h⟩ := ob2_some h
  refine g_callV (pc := 179) C hce mi_X7_write mv_X7_write wm_L_17 dL_law_179 ok_X7 [.int v178] [.int r170] la_62 (by omega) rfl rfl (Nat.le_of_ble_eq_true rfl) (m_X7_write (d := d - 1) (by omega)  hcall179) ?_
  show Gw E κ 4 ce sl 182 [some (.ref b), some (.ref (ad 0)), some (.ref (ad 62)), some (.int l3)] [.int r179, .int r170] ad (LC sh sp ++ LM) m179
  rcases ite_some' h with ⟨hc182, h⟩ | ⟨hc182, h⟩
  · refine g_icmp_eq_t (pc := 182) C 907 dL_law_182 (by decide) hc182 ?_
    exact c_law_907 C hd hce hX hsh hsp h hP
  · refine g_icmp_eq_f (pc := 182) C 907 dL_law_182 (by decide) hc182 ?_
    refine g_iconst (pc := 185) (v := 0) C dL_law_185 rfl ?_
    cases h
    exact absurd (show (0 : Int32) = 1 from hP) (by decide)
set_option maxRecDepth 100000 in
set_option maxHeartbeats 4000000 in
theorem c_law_187 {E : Ex} {κ : Kx} {ad : Nat → Nat} {d ce sl b : Nat} {L : Nat} {xs : Nat → Int32} (C : Cx E κ cL_law RL 4 (some .boolean) d) (hd : 16 ≤ d) (hce : Ce κ ce sl) (hX : SX E κ b L xs) {l3 : Int32} {sh sp : Nat} (hsh : isS sh) (hsp : isS sp) {mem : Mem} {x : LSt ⊕ (LSt ⊕ Int32)} (h : f_law_187 L xs l3  sh sp mem = some x) (hP : P_law E κ ad ce sl b x) : Gw E κ 4 ce sl 187 [some (.ref b), some (.ref (ad 0)), some (.ref (ad 62)), some (.int l3)] [] ad (LC sh sp ++ LM) mem := by
  unfold f_law_187 at h
  refine g_aload_n (pc := 187) (i := 1) (x := ad 0) C dL_law_187 rfl rfl ?_
  obtain ⟨r188, m188, hcall188, h⟩ := ob2_some h
  refine g_callV (pc := 188) C hce mi_X6_wipe mv_X6_wipe wm_L_18 dL_law_188 ok_X6 [] [] la_0 (by omega) rfl rfl (Nat.le_of_ble_eq_true rfl) (m_X6_wipe (d := d - 1) (by omega) hsh hsp hcall188) ?_
  show Gw E κ 4 ce sl 191 [some (.ref b), some (.ref (ad 0)), some (.ref (ad 62)), some (.int l3)] [.int r188] ad (LC sh sp ++ LM) m188
  refine g_aload_n (pc := 191) (i := 2) (x := ad 62) C dL_law_191 rfl rfl ?_
  obtain ⟨r192, m192, hcall192, h⟩ := ob2_some h
  refine g_callV (pc := 192) C hce mi_X7_wipe mv_X7_wipe wm_L_22 dL_law_192 ok_X7 [] [.int r188] la_62 (by omega) rfl rfl (Nat.le_of_ble_eq_true rfl) (m_X7_wipe (d := d - 1) (by omega)  hcall192) ?_
  show Gw E κ 4 ce sl 195 [some (.ref b), some (.ref (ad 0)), some (.ref (ad 62)), some (.int l3)] [.int r192, .int r188] ad (LC sh sp ++ LM) m192
  rcases ite_some' h with ⟨hc195, h⟩ | ⟨hc195, h⟩
  · refine g_icmp_eq_t (pc := 195) C 907 dL_law_195 (by decide) hc195 ?_
    exact c_law_907 C hd hce hX hsh hsp h hP
  · refine g_icmp_eq_f (pc := 195) C 907 dL_law_195 (by decide) hc195 ?_
    refine g_iconst (pc := 198) (v := 0) C dL_law_198 rfl ?_
    cases h
    exact absurd (show (0 : Int32) = 1 from hP) (by decide)
set_option maxRecDepth 100000 in
set_option maxHeartbeats 4000000 in
theorem c_law_200 {E : Ex} {κ : Kx} {ad : Nat → Nat} {d ce sl b : Nat} {L : Nat} {xs : Nat → Int32} (C : Cx E κ cL_law RL 4 (some .boolean) d) (hd : 16 ≤ d) (hce : Ce κ ce sl) (hX : SX E κ b L xs) {l3 : Int32} {sh sp : Nat} (hsh : isS sh) (hsp : isS sp) {mem : Mem} {x : LSt ⊕ (LSt ⊕ Int32)} (h : f_law_200 L xs l3  sh sp mem = some x) (hP : P_law E κ ad ce sl b x) : Gw E κ 4 ce sl 200 [some (.ref b), some (.ref (ad 0)), some (.ref (ad 62)), some (.int l3)] [] ad (LC sh sp ++ LM) mem := by
  unfold f_law_200 at h
  refine g_aload_n (pc := 200) (i := 1) (x := ad 0) C dL_law_200 rfl rfl ?_
  obtain ⟨r201, m201, hcall201, h⟩ := ob2_some h
  refine g_callV (pc := 201) C hce mi_X6_fault mv_X6_fault wm_L_23 dL_law_201 ok_X6 [] [] la_0 (by omega) rfl rfl (Nat.le_of_ble_eq_true rfl) (m_X6_fault (d := d - 1) (by omega) hsh hsp hcall201) ?_
  show Gw E κ 4 ce sl 204 [some (.ref b), some (.ref (ad 0)), some (.ref (ad 62)), some (.int l3)] [.int r201] ad (LC sh sp ++ LM) m201
  refine g_aload_n (pc := 204) (i := 2) (x := ad 62) C dL_law_204 rfl rfl ?_
  obtain ⟨r205, m205, hcall205, h⟩ := ob2_some h
  refine g_callV (pc := 205) C hce mi_X7_fault mv_X7_fault wm_L_26 dL_law_205 ok_X7 [] [.int r201] la_62 (by omega) rfl rfl (Nat.le_of_ble_eq_true rfl) (m_X7_fault (d := d - 1) (by omega)  hcall205) ?_
  show Gw E κ 4 ce sl 208 [some (.ref b), some (.ref (ad 0)), some (.ref (ad 62)), some (.int l3)] [.int r205, .int r201] ad (LC sh sp ++ LM) m205
  rcases ite_some' h with ⟨hc208, h⟩ | ⟨hc208, h⟩
  · refine g_icmp_eq_t (pc := 208) C 907 dL_law_208 (by decide) hc208 ?_
    exact c_law_907 C hd hce hX hsh hsp h hP
  · refine g_icmp_eq_f (pc := 208) C 907 dL_law_208 (by decide) hc208 ?_
    refine g_iconst (pc := 211) (v := 0) C dL_law_211 rfl ?_
    cases h
    exact absurd (show (0 : Int32) = 1 from hP) (by decide)
set_option maxRecDepth 100000 in
set_option maxHeartbeats 4000000 in
theorem c_law_213 {E : Ex} {κ : Kx} {ad : Nat → Nat} {d ce sl b : Nat} {L : Nat} {xs : Nat → Int32} (C : Cx E κ cL_law RL 4 (some .boolean) d) (hd : 16 ≤ d) (hce : Ce κ ce sl) (hX : SX E κ b L xs) {l3 : Int32} {sh sp : Nat} (hsh : isS sh) (hsp : isS sp) {mem : Mem} {x : LSt ⊕ (LSt ⊕ Int32)} (h : f_law_213 L xs l3  sh sp mem = some x) (hP : P_law E κ ad ce sl b x) : Gw E κ 4 ce sl 213 [some (.ref b), some (.ref (ad 0)), some (.ref (ad 62)), some (.int l3)] [] ad (LC sh sp ++ LM) mem := by
  unfold f_law_213 at h
  refine g_aload_n (pc := 213) (i := 1) (x := ad 0) C dL_law_213 rfl rfl ?_
  obtain ⟨r214, m214, hcall214, h⟩ := ob2_some h
  refine g_callV (pc := 214) C hce mi_X6_lay mv_X6_lay wm_L_27 dL_law_214 ok_X6 [] [] la_0 (by omega) rfl rfl (Nat.le_of_ble_eq_true rfl) (m_X6_lay (d := d - 1) (by omega) hsh hsp hcall214) ?_
  show Gw E κ 4 ce sl 217 [some (.ref b), some (.ref (ad 0)), some (.ref (ad 62)), some (.int l3)] [.int r214] ad (LC m214.1 m214.2.1 ++ LM) m214.2.2
  refine g_aload_n (pc := 217) (i := 2) (x := ad 62) C dL_law_217 rfl rfl ?_
  obtain ⟨r218, m218, hcall218, h⟩ := ob2_some h
  refine g_callV (pc := 218) C hce mi_X7_lay mv_X7_lay wm_L_30 dL_law_218 ok_X7 [] [.int r214] la_62 (by omega) rfl rfl (Nat.le_of_ble_eq_true rfl) (m_X7_lay (d := d - 1) (by omega)  hcall218) ?_
  show Gw E κ 4 ce sl 221 [some (.ref b), some (.ref (ad 0)), some (.ref (ad 62)), some (.int l3)] [.int r218, .int r214] ad (LC m214.1 m214.2.1 ++ LM) m218
  rcases ite_some' h with ⟨hc221, h⟩ | ⟨hc221, h⟩
  · refine g_icmp_eq_t (pc := 221) C 907 dL_law_221 (by decide) hc221 ?_
    exact c_law_907 C hd hce hX (swL hsh hsp hcall214).1 (swL hsh hsp hcall214).2 h hP
  · refine g_icmp_eq_f (pc := 221) C 907 dL_law_221 (by decide) hc221 ?_
    refine g_iconst (pc := 224) (v := 0) C dL_law_224 rfl ?_
    cases h
    exact absurd (show (0 : Int32) = 1 from hP) (by decide)
set_option maxRecDepth 100000 in
set_option maxHeartbeats 4000000 in
theorem c_law_226 {E : Ex} {κ : Kx} {ad : Nat → Nat} {d ce sl b : Nat} {L : Nat} {xs : Nat → Int32} (C : Cx E κ cL_law RL 4 (some .boolean) d) (hd : 16 ≤ d) (hce : Ce κ ce sl) (hX : SX E κ b L xs) {l3 : Int32} {sh sp : Nat} (hsh : isS sh) (hsp : isS sp) {mem : Mem} {x : LSt ⊕ (LSt ⊕ Int32)} (h : f_law_226 L xs l3  sh sp mem = some x) (hP : P_law E κ ad ce sl b x) : Gw E κ 4 ce sl 226 [some (.ref b), some (.ref (ad 0)), some (.ref (ad 62)), some (.int l3)] [] ad (LC sh sp ++ LM) mem := by
  unfold f_law_226 at h
  refine g_aload_n (pc := 226) (i := 1) (x := ad 0) C dL_law_226 rfl rfl ?_
  refine g_aload_n (pc := 227) (i := 0) (x := b) C dL_law_227 rfl rfl ?_
  refine g_iload_n (pc := 228) (i := 3) (x := l3) C dL_law_228 rfl rfl ?_
  refine g_iconst (pc := 229) (v := 1) C dL_law_229 rfl ?_
  refine g_iadd (pc := 230) C dL_law_230 ?_
  obtain ⟨v231, hv231, hi231, h⟩ := rd_some h
  refine g_sld (pc := 231) C hX dL_law_231 hi231 ?_
  refine g_topi hv231 ?_
  obtain ⟨r232, hcall232, h⟩ := ob_some h
  refine g_callV (pc := 232) C hce mi_X6_square mv_X6_square wm_L_31 dL_law_232 ok_X6 [.int v231] [] la_0 (by omega) rfl rfl (Nat.le_of_ble_eq_true rfl) (m_X6_square (d := d - 1) (by omega) hsh hsp hcall232) ?_
  show Gw E κ 4 ce sl 235 [some (.ref b), some (.ref (ad 0)), some (.ref (ad 62)), some (.int l3)] [.int r232] ad (LC sh sp ++ LM) mem
  refine g_aload_n (pc := 235) (i := 2) (x := ad 62) C dL_law_235 rfl rfl ?_
  refine g_aload_n (pc := 236) (i := 0) (x := b) C dL_law_236 rfl rfl ?_
  refine g_iload_n (pc := 237) (i := 3) (x := l3) C dL_law_237 rfl rfl ?_
  refine g_iconst (pc := 238) (v := 1) C dL_law_238 rfl ?_
  refine g_iadd (pc := 239) C dL_law_239 ?_
  obtain ⟨v240, hv240, hi240, h⟩ := rd_some h
  refine g_sld (pc := 240) C hX dL_law_240 hi240 ?_
  refine g_topi hv240 ?_
  obtain ⟨r241, hcall241, h⟩ := ob_some h
  refine g_callV (pc := 241) C hce mi_X7_square mv_X7_square wm_L_34 dL_law_241 ok_X7 [.int v240] [.int r232] la_62 (by omega) rfl rfl (Nat.le_of_ble_eq_true rfl) (m_X7_square (d := d - 1) (by omega)  hcall241) ?_
  show Gw E κ 4 ce sl 244 [some (.ref b), some (.ref (ad 0)), some (.ref (ad 62)), some (.int l3)] [.int r241, .int r232] ad (LC sh sp ++ LM) mem
  rcases ite_some' h with ⟨hc244, h⟩ | ⟨hc244, h⟩
  · refine g_icmp_eq_t (pc := 244) C 907 dL_law_244 (by decide) hc244 ?_
    exact c_law_907 C hd hce hX hsh hsp h hP
  · refine g_icmp_eq_f (pc := 244) C 907 dL_law_244 (by decide) hc244 ?_
    refine g_iconst (pc := 247) (v := 0) C dL_law_247 rfl ?_
    cases h
    exact absurd (show (0 : Int32) = 1 from hP) (by decide)
set_option maxRecDepth 100000 in
set_option maxHeartbeats 4000000 in
theorem c_law_249 {E : Ex} {κ : Kx} {ad : Nat → Nat} {d ce sl b : Nat} {L : Nat} {xs : Nat → Int32} (C : Cx E κ cL_law RL 4 (some .boolean) d) (hd : 16 ≤ d) (hce : Ce κ ce sl) (hX : SX E κ b L xs) {l3 : Int32} {sh sp : Nat} (hsh : isS sh) (hsp : isS sp) {mem : Mem} {x : LSt ⊕ (LSt ⊕ Int32)} (h : f_law_249 L xs l3  sh sp mem = some x) (hP : P_law E κ ad ce sl b x) : Gw E κ 4 ce sl 249 [some (.ref b), some (.ref (ad 0)), some (.ref (ad 62)), some (.int l3)] [] ad (LC sh sp ++ LM) mem := by
  unfold f_law_249 at h
  refine g_aload_n (pc := 249) (i := 1) (x := ad 0) C dL_law_249 rfl rfl ?_
  refine g_aload_n (pc := 250) (i := 0) (x := b) C dL_law_250 rfl rfl ?_
  refine g_iload_n (pc := 251) (i := 3) (x := l3) C dL_law_251 rfl rfl ?_
  refine g_iconst (pc := 252) (v := 1) C dL_law_252 rfl ?_
  refine g_iadd (pc := 253) C dL_law_253 ?_
  obtain ⟨v254, hv254, hi254, h⟩ := rd_some h
  refine g_sld (pc := 254) C hX dL_law_254 hi254 ?_
  refine g_topi hv254 ?_
  refine g_aload_n (pc := 255) (i := 0) (x := b) C dL_law_255 rfl rfl ?_
  refine g_iload_n (pc := 256) (i := 3) (x := l3) C dL_law_256 rfl rfl ?_
  refine g_iconst (pc := 257) (v := 2) C dL_law_257 rfl ?_
  refine g_iadd (pc := 258) C dL_law_258 ?_
  obtain ⟨v259, hv259, hi259, h⟩ := rd_some h
  refine g_sld (pc := 259) C hX dL_law_259 hi259 ?_
  refine g_topi hv259 ?_
  obtain ⟨r260, hcall260, h⟩ := ob_some h
  refine g_callV (pc := 260) C hce mi_X6_place mv_X6_place wm_L_35 dL_law_260 ok_X6 [.int v254, .int v259] [] la_0 (by omega) rfl rfl (Nat.le_of_ble_eq_true rfl) (m_X6_place (d := d - 1) (by omega) hsh hsp hcall260) ?_
  show Gw E κ 4 ce sl 263 [some (.ref b), some (.ref (ad 0)), some (.ref (ad 62)), some (.int l3)] [.int r260] ad (LC sh sp ++ LM) mem
  refine g_aload_n (pc := 263) (i := 2) (x := ad 62) C dL_law_263 rfl rfl ?_
  refine g_aload_n (pc := 264) (i := 0) (x := b) C dL_law_264 rfl rfl ?_
  refine g_iload_n (pc := 265) (i := 3) (x := l3) C dL_law_265 rfl rfl ?_
  refine g_iconst (pc := 266) (v := 1) C dL_law_266 rfl ?_
  refine g_iadd (pc := 267) C dL_law_267 ?_
  obtain ⟨v268, hv268, hi268, h⟩ := rd_some h
  refine g_sld (pc := 268) C hX dL_law_268 hi268 ?_
  refine g_topi hv268 ?_
  refine g_aload_n (pc := 269) (i := 0) (x := b) C dL_law_269 rfl rfl ?_
  refine g_iload_n (pc := 270) (i := 3) (x := l3) C dL_law_270 rfl rfl ?_
  refine g_iconst (pc := 271) (v := 2) C dL_law_271 rfl ?_
  refine g_iadd (pc := 272) C dL_law_272 ?_
  obtain ⟨v273, hv273, hi273, h⟩ := rd_some h
  refine g_sld (pc := 273) C hX dL_law_273 hi273 ?_
  refine g_topi hv273 ?_
  obtain ⟨r274, hcall274, h⟩ := ob_some h
  refine g_callV (pc := 274) C hce mi_X7_place mv_X7_place wm_L_39 dL_law_274 ok_X7 [.int v268, .int v273] [.int r260] la_62 (by omega) rfl rfl (Nat.le_of_ble_eq_true rfl) (m_X7_place (d := d - 1) (by omega)  hcall274) ?_
  show Gw E κ 4 ce sl 277 [some (.ref b), some (.ref (ad 0)), some (.ref (ad 62)), some (.int l3)] [.int r274, .int r260] ad (LC sh sp ++ LM) mem
  rcases ite_some' h with ⟨hc277, h⟩ | ⟨hc277, h⟩
  · refine g_icmp_eq_t (pc := 277) C 907 dL_law_277 (by decide) hc277 ?_
    exact c_law_907 C hd hce hX hsh hsp h hP
  · refine g_icmp_eq_f (pc := 277) C 907 dL_law_277 (by decide) hc277 ?_
    refine g_iconst (pc := 280) (v := 0) C dL_law_280 rfl ?_
    cases h
    exact absurd (show (0 : Int32) = 1 from hP) (by decide)
set_option maxRecDepth 100000 in
set_option maxHeartbeats 4000000 in
theorem c_law_282 {E : Ex} {κ : Kx} {ad : Nat → Nat} {d ce sl b : Nat} {L : Nat} {xs : Nat → Int32} (C : Cx E κ cL_law RL 4 (some .boolean) d) (hd : 16 ≤ d) (hce : Ce κ ce sl) (hX : SX E κ b L xs) {l3 : Int32} {sh sp : Nat} (hsh : isS sh) (hsp : isS sp) {mem : Mem} {x : LSt ⊕ (LSt ⊕ Int32)} (h : f_law_282 L xs l3  sh sp mem = some x) (hP : P_law E κ ad ce sl b x) : Gw E κ 4 ce sl 282 [some (.ref b), some (.ref (ad 0)), some (.ref (ad 62)), some (.int l3)] [] ad (LC sh sp ++ LM) mem := by
  unfold f_law_282 at h
  refine g_aload_n (pc := 282) (i := 1) (x := ad 0) C dL_law_282 rfl rfl ?_
  refine g_aload_n (pc := 283) (i := 0) (x := b) C dL_law_283 rfl rfl ?_
  refine g_iload_n (pc := 284) (i := 3) (x := l3) C dL_law_284 rfl rfl ?_
  refine g_iconst (pc := 285) (v := 1) C dL_law_285 rfl ?_
  refine g_iadd (pc := 286) C dL_law_286 ?_
  obtain ⟨v287, hv287, hi287, h⟩ := rd_some h
  refine g_sld (pc := 287) C hX dL_law_287 hi287 ?_
  refine g_topi hv287 ?_
  refine g_aload_n (pc := 288) (i := 0) (x := b) C dL_law_288 rfl rfl ?_
  refine g_iload_n (pc := 289) (i := 3) (x := l3) C dL_law_289 rfl rfl ?_
  refine g_iconst (pc := 290) (v := 2) C dL_law_290 rfl ?_
  refine g_iadd (pc := 291) C dL_law_291 ?_
  obtain ⟨v292, hv292, hi292, h⟩ := rd_some h
  refine g_sld (pc := 292) C hX dL_law_292 hi292 ?_
  refine g_topi hv292 ?_
  obtain ⟨r293, hcall293, h⟩ := ob_some h
  refine g_callV (pc := 293) C hce mi_X6_word mv_X6_word wm_L_40 dL_law_293 ok_X6 [.int v287, .int v292] [] la_0 (by omega) rfl rfl (Nat.le_of_ble_eq_true rfl) (m_X6_word (d := d - 1) (by omega) hsh hsp hcall293) ?_
  show Gw E κ 4 ce sl 296 [some (.ref b), some (.ref (ad 0)), some (.ref (ad 62)), some (.int l3)] [.int r293] ad (LC sh sp ++ LM) mem
  refine g_aload_n (pc := 296) (i := 2) (x := ad 62) C dL_law_296 rfl rfl ?_
  refine g_aload_n (pc := 297) (i := 0) (x := b) C dL_law_297 rfl rfl ?_
  refine g_iload_n (pc := 298) (i := 3) (x := l3) C dL_law_298 rfl rfl ?_
  refine g_iconst (pc := 299) (v := 1) C dL_law_299 rfl ?_
  refine g_iadd (pc := 300) C dL_law_300 ?_
  obtain ⟨v301, hv301, hi301, h⟩ := rd_some h
  refine g_sld (pc := 301) C hX dL_law_301 hi301 ?_
  refine g_topi hv301 ?_
  refine g_aload_n (pc := 302) (i := 0) (x := b) C dL_law_302 rfl rfl ?_
  refine g_iload_n (pc := 303) (i := 3) (x := l3) C dL_law_303 rfl rfl ?_
  refine g_iconst (pc := 304) (v := 2) C dL_law_304 rfl ?_
  refine g_iadd (pc := 305) C dL_law_305 ?_
  obtain ⟨v306, hv306, hi306, h⟩ := rd_some h
  refine g_sld (pc := 306) C hX dL_law_306 hi306 ?_
  refine g_topi hv306 ?_
  obtain ⟨r307, hcall307, h⟩ := ob_some h
  refine g_callV (pc := 307) C hce mi_X7_word mv_X7_word wm_L_43 dL_law_307 ok_X7 [.int v301, .int v306] [.int r293] la_62 (by omega) rfl rfl (Nat.le_of_ble_eq_true rfl) (m_X7_word (d := d - 1) (by omega)  hcall307) ?_
  show Gw E κ 4 ce sl 310 [some (.ref b), some (.ref (ad 0)), some (.ref (ad 62)), some (.int l3)] [.int r307, .int r293] ad (LC sh sp ++ LM) mem
  rcases ite_some' h with ⟨hc310, h⟩ | ⟨hc310, h⟩
  · refine g_icmp_eq_t (pc := 310) C 907 dL_law_310 (by decide) hc310 ?_
    exact c_law_907 C hd hce hX hsh hsp h hP
  · refine g_icmp_eq_f (pc := 310) C 907 dL_law_310 (by decide) hc310 ?_
    refine g_iconst (pc := 313) (v := 0) C dL_law_313 rfl ?_
    cases h
    exact absurd (show (0 : Int32) = 1 from hP) (by decide)
set_option maxRecDepth 100000 in
set_option maxHeartbeats 4000000 in
theorem c_law_315 {E : Ex} {κ : Kx} {ad : Nat → Nat} {d ce sl b : Nat} {L : Nat} {xs : Nat → Int32} (C : Cx E κ cL_law RL 4 (some .boolean) d) (hd : 16 ≤ d) (hce : Ce κ ce sl) (hX : SX E κ b L xs) {l3 : Int32} {sh sp : Nat} (hsh : isS sh) (hsp : isS sp) {mem : Mem} {x : LSt ⊕ (LSt ⊕ Int32)} (h : f_law_315 L xs l3  sh sp mem = some x) (hP : P_law E κ ad ce sl b x) : Gw E κ 4 ce sl 315 [some (.ref b), some (.ref (ad 0)), some (.ref (ad 62)), some (.int l3)] [] ad (LC sh sp ++ LM) mem := by
  unfold f_law_315 at h
  refine g_aload_n (pc := 315) (i := 1) (x := ad 0) C dL_law_315 rfl rfl ?_
  refine g_aload_n (pc := 316) (i := 0) (x := b) C dL_law_316 rfl rfl ?_
  refine g_iload_n (pc := 317) (i := 3) (x := l3) C dL_law_317 rfl rfl ?_
  refine g_iconst (pc := 318) (v := 1) C dL_law_318 rfl ?_
  refine g_iadd (pc := 319) C dL_law_319 ?_
  obtain ⟨v320, hv320, hi320, h⟩ := rd_some h
  refine g_sld (pc := 320) C hX dL_law_320 hi320 ?_
  refine g_topi hv320 ?_
  refine g_aload_n (pc := 321) (i := 0) (x := b) C dL_law_321 rfl rfl ?_
  refine g_iload_n (pc := 322) (i := 3) (x := l3) C dL_law_322 rfl rfl ?_
  refine g_iconst (pc := 323) (v := 2) C dL_law_323 rfl ?_
  refine g_iadd (pc := 324) C dL_law_324 ?_
  obtain ⟨v325, hv325, hi325, h⟩ := rd_some h
  refine g_sld (pc := 325) C hX dL_law_325 hi325 ?_
  refine g_topi hv325 ?_
  obtain ⟨r326, m326, hcall326, h⟩ := ob2_some h
  refine g_callV (pc := 326) C hce mi_X6_solver mv_X6_solver wm_L_44 dL_law_326 ok_X6 [.int v320, .int v325] [] la_0 (by omega) rfl rfl (Nat.le_of_ble_eq_true rfl) (m_X6_solver (d := d - 1) (by omega) hsh hsp hcall326) ?_
  show Gw E κ 4 ce sl 329 [some (.ref b), some (.ref (ad 0)), some (.ref (ad 62)), some (.int l3)] [.int r326] ad (LC sh sp ++ LM) m326
  refine g_aload_n (pc := 329) (i := 2) (x := ad 62) C dL_law_329 rfl rfl ?_
  refine g_aload_n (pc := 330) (i := 0) (x := b) C dL_law_330 rfl rfl ?_
  refine g_iload_n (pc := 331) (i := 3) (x := l3) C dL_law_331 rfl rfl ?_
  refine g_iconst (pc := 332) (v := 1) C dL_law_332 rfl ?_
  refine g_iadd (pc := 333) C dL_law_333 ?_
  obtain ⟨v334, hv334, hi334, h⟩ := rd_some h
  refine g_sld (pc := 334) C hX dL_law_334 hi334 ?_
  refine g_topi hv334 ?_
  refine g_aload_n (pc := 335) (i := 0) (x := b) C dL_law_335 rfl rfl ?_
  refine g_iload_n (pc := 336) (i := 3) (x := l3) C dL_law_336 rfl rfl ?_
  refine g_iconst (pc := 337) (v := 2) C dL_law_337 rfl ?_
  refine g_iadd (pc := 338) C dL_law_338 ?_
  obtain ⟨v339, hv339, hi339, h⟩ := rd_some h
  refine g_sld (pc := 339) C hX dL_law_339 hi339 ?_
  refine g_topi hv339 ?_
  obtain ⟨r340, m340, hcall340, h⟩ := ob2_some h
  refine g_callV (pc := 340) C hce mi_X7_solver mv_X7_solver wm_L_47 dL_law_340 ok_X7 [.int v334, .int v339] [.int r326] la_62 (by omega) rfl rfl (Nat.le_of_ble_eq_true rfl) (m_X7_solver (d := d - 1) (by omega)  hcall340) ?_
  show Gw E κ 4 ce sl 343 [some (.ref b), some (.ref (ad 0)), some (.ref (ad 62)), some (.int l3)] [.int r340, .int r326] ad (LC sh sp ++ LM) m340
  rcases ite_some' h with ⟨hc343, h⟩ | ⟨hc343, h⟩
  · refine g_icmp_eq_t (pc := 343) C 907 dL_law_343 (by decide) hc343 ?_
    exact c_law_907 C hd hce hX hsh hsp h hP
  · refine g_icmp_eq_f (pc := 343) C 907 dL_law_343 (by decide) hc343 ?_
    refine g_iconst (pc := 346) (v := 0) C dL_law_346 rfl ?_
    cases h
    exact absurd (show (0 : Int32) = 1 from hP) (by decide)
set_option maxRecDepth 100000 in
set_option maxHeartbeats 4000000 in
theorem c_law_348 {E : Ex} {κ : Kx} {ad : Nat → Nat} {d ce sl b : Nat} {L : Nat} {xs : Nat → Int32} (C : Cx E κ cL_law RL 4 (some .boolean) d) (hd : 16 ≤ d) (hce : Ce κ ce sl) (hX : SX E κ b L xs) {l3 : Int32} {sh sp : Nat} (hsh : isS sh) (hsp : isS sp) {mem : Mem} {x : LSt ⊕ (LSt ⊕ Int32)} (h : f_law_348 L xs l3  sh sp mem = some x) (hP : P_law E κ ad ce sl b x) : Gw E κ 4 ce sl 348 [some (.ref b), some (.ref (ad 0)), some (.ref (ad 62)), some (.int l3)] [] ad (LC sh sp ++ LM) mem := by
  unfold f_law_348 at h
  refine g_aload_n (pc := 348) (i := 1) (x := ad 0) C dL_law_348 rfl rfl ?_
  obtain ⟨r349, m349, hcall349, h⟩ := ob2_some h
  refine g_callV (pc := 349) C hce mi_X6_evening mv_X6_evening wm_L_48 dL_law_349 ok_X6 [] [] la_0 (by omega) rfl rfl (Nat.le_of_ble_eq_true rfl) (m_X6_evening (d := d - 1) (by omega) hsh hsp hcall349) ?_
  show Gw E κ 4 ce sl 352 [some (.ref b), some (.ref (ad 0)), some (.ref (ad 62)), some (.int l3)] [.int r349] ad (LC sh sp ++ LM) m349
  refine g_aload_n (pc := 352) (i := 2) (x := ad 62) C dL_law_352 rfl rfl ?_
  obtain ⟨r353, m353, hcall353, h⟩ := ob2_some h
  refine g_callV (pc := 353) C hce mi_X7_evening mv_X7_evening wm_L_51 dL_law_353 ok_X7 [] [.int r349] la_62 (by omega) rfl rfl (Nat.le_of_ble_eq_true rfl) (m_X7_evening (d := d - 1) (by omega)  hcall353) ?_
  show Gw E κ 4 ce sl 356 [some (.ref b), some (.ref (ad 0)), some (.ref (ad 62)), some (.int l3)] [.int r353, .int r349] ad (LC sh sp ++ LM) m353
  rcases ite_some' h with ⟨hc356, h⟩ | ⟨hc356, h⟩
  · refine g_icmp_eq_t (pc := 356) C 907 dL_law_356 (by decide) hc356 ?_
    exact c_law_907 C hd hce hX hsh hsp h hP
  · refine g_icmp_eq_f (pc := 356) C 907 dL_law_356 (by decide) hc356 ?_
    refine g_iconst (pc := 359) (v := 0) C dL_law_359 rfl ?_
    cases h
    exact absurd (show (0 : Int32) = 1 from hP) (by decide)
set_option maxRecDepth 100000 in
set_option maxHeartbeats 4000000 in
theorem c_law_361 {E : Ex} {κ : Kx} {ad : Nat → Nat} {d ce sl b : Nat} {L : Nat} {xs : Nat → Int32} (C : Cx E κ cL_law RL 4 (some .boolean) d) (hd : 16 ≤ d) (hce : Ce κ ce sl) (hX : SX E κ b L xs) {l3 : Int32} {sh sp : Nat} (hsh : isS sh) (hsp : isS sp) {mem : Mem} {x : LSt ⊕ (LSt ⊕ Int32)} (h : f_law_361 L xs l3  sh sp mem = some x) (hP : P_law E κ ad ce sl b x) : Gw E κ 4 ce sl 361 [some (.ref b), some (.ref (ad 0)), some (.ref (ad 62)), some (.int l3)] [] ad (LC sh sp ++ LM) mem := by
  unfold f_law_361 at h
  refine g_aload_n (pc := 361) (i := 1) (x := ad 0) C dL_law_361 rfl rfl ?_
  refine g_aload_n (pc := 362) (i := 0) (x := b) C dL_law_362 rfl rfl ?_
  refine g_iload_n (pc := 363) (i := 3) (x := l3) C dL_law_363 rfl rfl ?_
  refine g_iconst (pc := 364) (v := 1) C dL_law_364 rfl ?_
  refine g_iadd (pc := 365) C dL_law_365 ?_
  obtain ⟨v366, hv366, hi366, h⟩ := rd_some h
  refine g_sld (pc := 366) C hX dL_law_366 hi366 ?_
  refine g_topi hv366 ?_
  refine g_aload_n (pc := 367) (i := 0) (x := b) C dL_law_367 rfl rfl ?_
  refine g_iload_n (pc := 368) (i := 3) (x := l3) C dL_law_368 rfl rfl ?_
  refine g_iconst (pc := 369) (v := 2) C dL_law_369 rfl ?_
  refine g_iadd (pc := 370) C dL_law_370 ?_
  obtain ⟨v371, hv371, hi371, h⟩ := rd_some h
  refine g_sld (pc := 371) C hX dL_law_371 hi371 ?_
  refine g_topi hv371 ?_
  obtain ⟨r372, m372, hcall372, h⟩ := ob2_some h
  refine g_callV (pc := 372) C hce mi_X6_set mv_X6_set wm_L_52 dL_law_372 ok_X6 [.int v366, .int v371] [] la_0 (by omega) rfl rfl (Nat.le_of_ble_eq_true rfl) (m_X6_set (d := d - 1) (by omega) hsh hsp hcall372) ?_
  show Gw E κ 4 ce sl 375 [some (.ref b), some (.ref (ad 0)), some (.ref (ad 62)), some (.int l3)] [.int r372] ad (LC sh sp ++ LM) m372
  refine g_aload_n (pc := 375) (i := 2) (x := ad 62) C dL_law_375 rfl rfl ?_
  refine g_aload_n (pc := 376) (i := 0) (x := b) C dL_law_376 rfl rfl ?_
  refine g_iload_n (pc := 377) (i := 3) (x := l3) C dL_law_377 rfl rfl ?_
  refine g_iconst (pc := 378) (v := 1) C dL_law_378 rfl ?_
  refine g_iadd (pc := 379) C dL_law_379 ?_
  obtain ⟨v380, hv380, hi380, h⟩ := rd_some h
  refine g_sld (pc := 380) C hX dL_law_380 hi380 ?_
  refine g_topi hv380 ?_
  refine g_aload_n (pc := 381) (i := 0) (x := b) C dL_law_381 rfl rfl ?_
  refine g_iload_n (pc := 382) (i := 3) (x := l3) C dL_law_382 rfl rfl ?_
  refine g_iconst (pc := 383) (v := 2) C dL_law_383 rfl ?_
  refine g_iadd (pc := 384) C dL_law_384 ?_
  obtain ⟨v385, hv385, hi385, h⟩ := rd_some h
  refine g_sld (pc := 385) C hX dL_law_385 hi385 ?_
  refine g_topi hv385 ?_
  obtain ⟨r386, m386, hcall386, h⟩ := ob2_some h
  refine g_callV (pc := 386) C hce mi_X7_set mv_X7_set wm_L_55 dL_law_386 ok_X7 [.int v380, .int v385] [.int r372] la_62 (by omega) rfl rfl (Nat.le_of_ble_eq_true rfl) (m_X7_set (d := d - 1) (by omega)  hcall386) ?_
  show Gw E κ 4 ce sl 389 [some (.ref b), some (.ref (ad 0)), some (.ref (ad 62)), some (.int l3)] [.int r386, .int r372] ad (LC sh sp ++ LM) m386
  rcases ite_some' h with ⟨hc389, h⟩ | ⟨hc389, h⟩
  · refine g_icmp_eq_t (pc := 389) C 907 dL_law_389 (by decide) hc389 ?_
    exact c_law_907 C hd hce hX hsh hsp h hP
  · refine g_icmp_eq_f (pc := 389) C 907 dL_law_389 (by decide) hc389 ?_
    refine g_iconst (pc := 392) (v := 0) C dL_law_392 rfl ?_
    cases h
    exact absurd (show (0 : Int32) = 1 from hP) (by decide)
set_option maxRecDepth 100000 in
set_option maxHeartbeats 4000000 in
theorem c_law_394 {E : Ex} {κ : Kx} {ad : Nat → Nat} {d ce sl b : Nat} {L : Nat} {xs : Nat → Int32} (C : Cx E κ cL_law RL 4 (some .boolean) d) (hd : 16 ≤ d) (hce : Ce κ ce sl) (hX : SX E κ b L xs) {l3 : Int32} {sh sp : Nat} (hsh : isS sh) (hsp : isS sp) {mem : Mem} {x : LSt ⊕ (LSt ⊕ Int32)} (h : f_law_394 L xs l3  sh sp mem = some x) (hP : P_law E κ ad ce sl b x) : Gw E κ 4 ce sl 394 [some (.ref b), some (.ref (ad 0)), some (.ref (ad 62)), some (.int l3)] [] ad (LC sh sp ++ LM) mem := by
  unfold f_law_394 at h
  refine g_aload_n (pc := 394) (i := 1) (x := ad 0) C dL_law_394 rfl rfl ?_
  refine g_aload_n (pc := 395) (i := 0) (x := b) C dL_law_395 rfl rfl ?_
  refine g_iload_n (pc := 396) (i := 3) (x := l3) C dL_law_396 rfl rfl ?_
  refine g_iconst (pc := 397) (v := 1) C dL_law_397 rfl ?_
  refine g_iadd (pc := 398) C dL_law_398 ?_
  obtain ⟨v399, hv399, hi399, h⟩ := rd_some h
  refine g_sld (pc := 399) C hX dL_law_399 hi399 ?_
  refine g_topi hv399 ?_
  obtain ⟨r400, m400, hcall400, h⟩ := ob2_some h
  refine g_callV (pc := 400) C hce mi_X6_strike mv_X6_strike wm_L_56 dL_law_400 ok_X6 [.int v399] [] la_0 (by omega) rfl rfl (Nat.le_of_ble_eq_true rfl) (m_X6_strike (d := d - 1) (by omega) hsh hsp hcall400) ?_
  show Gw E κ 4 ce sl 403 [some (.ref b), some (.ref (ad 0)), some (.ref (ad 62)), some (.int l3)] [.int r400] ad (LC sh sp ++ LM) m400
  refine g_aload_n (pc := 403) (i := 2) (x := ad 62) C dL_law_403 rfl rfl ?_
  refine g_aload_n (pc := 404) (i := 0) (x := b) C dL_law_404 rfl rfl ?_
  refine g_iload_n (pc := 405) (i := 3) (x := l3) C dL_law_405 rfl rfl ?_
  refine g_iconst (pc := 406) (v := 1) C dL_law_406 rfl ?_
  refine g_iadd (pc := 407) C dL_law_407 ?_
  obtain ⟨v408, hv408, hi408, h⟩ := rd_some h
  refine g_sld (pc := 408) C hX dL_law_408 hi408 ?_
  refine g_topi hv408 ?_
  obtain ⟨r409, m409, hcall409, h⟩ := ob2_some h
  refine g_callV (pc := 409) C hce mi_X7_strike mv_X7_strike wm_L_59 dL_law_409 ok_X7 [.int v408] [.int r400] la_62 (by omega) rfl rfl (Nat.le_of_ble_eq_true rfl) (m_X7_strike (d := d - 1) (by omega)  hcall409) ?_
  show Gw E κ 4 ce sl 412 [some (.ref b), some (.ref (ad 0)), some (.ref (ad 62)), some (.int l3)] [.int r409, .int r400] ad (LC sh sp ++ LM) m409
  rcases ite_some' h with ⟨hc412, h⟩ | ⟨hc412, h⟩
  · refine g_icmp_eq_t (pc := 412) C 907 dL_law_412 (by decide) hc412 ?_
    exact c_law_907 C hd hce hX hsh hsp h hP
  · refine g_icmp_eq_f (pc := 412) C 907 dL_law_412 (by decide) hc412 ?_
    refine g_iconst (pc := 415) (v := 0) C dL_law_415 rfl ?_
    cases h
    exact absurd (show (0 : Int32) = 1 from hP) (by decide)
set_option maxRecDepth 100000 in
set_option maxHeartbeats 4000000 in
theorem c_law_417 {E : Ex} {κ : Kx} {ad : Nat → Nat} {d ce sl b : Nat} {L : Nat} {xs : Nat → Int32} (C : Cx E κ cL_law RL 4 (some .boolean) d) (hd : 16 ≤ d) (hce : Ce κ ce sl) (hX : SX E κ b L xs) {l3 : Int32} {sh sp : Nat} (hsh : isS sh) (hsp : isS sp) {mem : Mem} {x : LSt ⊕ (LSt ⊕ Int32)} (h : f_law_417 L xs l3  sh sp mem = some x) (hP : P_law E κ ad ce sl b x) : Gw E κ 4 ce sl 417 [some (.ref b), some (.ref (ad 0)), some (.ref (ad 62)), some (.int l3)] [] ad (LC sh sp ++ LM) mem := by
  unfold f_law_417 at h
  refine g_aload_n (pc := 417) (i := 1) (x := ad 0) C dL_law_417 rfl rfl ?_
  refine g_aload_n (pc := 418) (i := 0) (x := b) C dL_law_418 rfl rfl ?_
  refine g_iload_n (pc := 419) (i := 3) (x := l3) C dL_law_419 rfl rfl ?_
  refine g_iconst (pc := 420) (v := 1) C dL_law_420 rfl ?_
  refine g_iadd (pc := 421) C dL_law_421 ?_
  obtain ⟨v422, hv422, hi422, h⟩ := rd_some h
  refine g_sld (pc := 422) C hX dL_law_422 hi422 ?_
  refine g_topi hv422 ?_
  refine g_aload_n (pc := 423) (i := 0) (x := b) C dL_law_423 rfl rfl ?_
  refine g_iload_n (pc := 424) (i := 3) (x := l3) C dL_law_424 rfl rfl ?_
  refine g_iconst (pc := 425) (v := 2) C dL_law_425 rfl ?_
  refine g_iadd (pc := 426) C dL_law_426 ?_
  obtain ⟨v427, hv427, hi427, h⟩ := rd_some h
  refine g_sld (pc := 427) C hX dL_law_427 hi427 ?_
  refine g_topi hv427 ?_
  refine g_aload_n (pc := 428) (i := 0) (x := b) C dL_law_428 rfl rfl ?_
  refine g_iload_n (pc := 429) (i := 3) (x := l3) C dL_law_429 rfl rfl ?_
  refine g_iconst (pc := 430) (v := 3) C dL_law_430 rfl ?_
  refine g_iadd (pc := 431) C dL_law_431 ?_
  obtain ⟨v432, hv432, hi432, h⟩ := rd_some h
  refine g_sld (pc := 432) C hX dL_law_432 hi432 ?_
  refine g_topi hv432 ?_
  obtain ⟨r433, m433, hcall433, h⟩ := ob2_some h
  refine g_callV (pc := 433) C hce mi_X6_want mv_X6_want wm_L_60 dL_law_433 ok_X6 [.int v422, .int v427, .int v432] [] la_0 (by omega) rfl rfl (Nat.le_of_ble_eq_true rfl) (m_X6_want (d := d - 1) (by omega) hsh hsp hcall433) ?_
  show Gw E κ 4 ce sl 436 [some (.ref b), some (.ref (ad 0)), some (.ref (ad 62)), some (.int l3)] [.int r433] ad (LC sh sp ++ LM) m433
  refine g_aload_n (pc := 436) (i := 2) (x := ad 62) C dL_law_436 rfl rfl ?_
  refine g_aload_n (pc := 437) (i := 0) (x := b) C dL_law_437 rfl rfl ?_
  refine g_iload_n (pc := 438) (i := 3) (x := l3) C dL_law_438 rfl rfl ?_
  refine g_iconst (pc := 439) (v := 1) C dL_law_439 rfl ?_
  refine g_iadd (pc := 440) C dL_law_440 ?_
  obtain ⟨v441, hv441, hi441, h⟩ := rd_some h
  refine g_sld (pc := 441) C hX dL_law_441 hi441 ?_
  refine g_topi hv441 ?_
  refine g_aload_n (pc := 442) (i := 0) (x := b) C dL_law_442 rfl rfl ?_
  refine g_iload_n (pc := 443) (i := 3) (x := l3) C dL_law_443 rfl rfl ?_
  refine g_iconst (pc := 444) (v := 2) C dL_law_444 rfl ?_
  refine g_iadd (pc := 445) C dL_law_445 ?_
  obtain ⟨v446, hv446, hi446, h⟩ := rd_some h
  refine g_sld (pc := 446) C hX dL_law_446 hi446 ?_
  refine g_topi hv446 ?_
  refine g_aload_n (pc := 447) (i := 0) (x := b) C dL_law_447 rfl rfl ?_
  refine g_iload_n (pc := 448) (i := 3) (x := l3) C dL_law_448 rfl rfl ?_
  refine g_iconst (pc := 449) (v := 3) C dL_law_449 rfl ?_
  refine g_iadd (pc := 450) C dL_law_450 ?_
  obtain ⟨v451, hv451, hi451, h⟩ := rd_some h
  refine g_sld (pc := 451) C hX dL_law_451 hi451 ?_
  refine g_topi hv451 ?_
  obtain ⟨r452, m452, hcall452, h⟩ := ob2_some h
  refine g_callV (pc := 452) C hce mi_X7_want mv_X7_want wm_L_64 dL_law_452 ok_X7 [.int v441, .int v446, .int v451] [.int r433] la_62 (by omega) rfl rfl (Nat.le_of_ble_eq_true rfl) (m_X7_want (d := d - 1) (by omega)  hcall452) ?_
  show Gw E κ 4 ce sl 455 [some (.ref b), some (.ref (ad 0)), some (.ref (ad 62)), some (.int l3)] [.int r452, .int r433] ad (LC sh sp ++ LM) m452
  rcases ite_some' h with ⟨hc455, h⟩ | ⟨hc455, h⟩
  · refine g_icmp_eq_t (pc := 455) C 907 dL_law_455 (by decide) hc455 ?_
    exact c_law_907 C hd hce hX hsh hsp h hP
  · refine g_icmp_eq_f (pc := 455) C 907 dL_law_455 (by decide) hc455 ?_
    refine g_iconst (pc := 458) (v := 0) C dL_law_458 rfl ?_
    cases h
    exact absurd (show (0 : Int32) = 1 from hP) (by decide)
set_option maxRecDepth 100000 in
set_option maxHeartbeats 4000000 in
theorem c_law_460 {E : Ex} {κ : Kx} {ad : Nat → Nat} {d ce sl b : Nat} {L : Nat} {xs : Nat → Int32} (C : Cx E κ cL_law RL 4 (some .boolean) d) (hd : 16 ≤ d) (hce : Ce κ ce sl) (hX : SX E κ b L xs) {l3 : Int32} {sh sp : Nat} (hsh : isS sh) (hsp : isS sp) {mem : Mem} {x : LSt ⊕ (LSt ⊕ Int32)} (h : f_law_460 L xs l3  sh sp mem = some x) (hP : P_law E κ ad ce sl b x) : Gw E κ 4 ce sl 460 [some (.ref b), some (.ref (ad 0)), some (.ref (ad 62)), some (.int l3)] [] ad (LC sh sp ++ LM) mem := by
  unfold f_law_460 at h
  refine g_aload_n (pc := 460) (i := 1) (x := ad 0) C dL_law_460 rfl rfl ?_
  obtain ⟨r461, m461, hcall461, h⟩ := ob2_some h
  refine g_callV (pc := 461) C hce mi_X6_undo mv_X6_undo wm_L_65 dL_law_461 ok_X6 [] [] la_0 (by omega) rfl rfl (Nat.le_of_ble_eq_true rfl) (m_X6_undo (d := d - 1) (by omega) hsh hsp hcall461) ?_
  show Gw E κ 4 ce sl 464 [some (.ref b), some (.ref (ad 0)), some (.ref (ad 62)), some (.int l3)] [.int r461] ad (LC sh sp ++ LM) m461
  refine g_aload_n (pc := 464) (i := 2) (x := ad 62) C dL_law_464 rfl rfl ?_
  obtain ⟨r465, m465, hcall465, h⟩ := ob2_some h
  refine g_callV (pc := 465) C hce mi_X7_undo mv_X7_undo wm_L_68 dL_law_465 ok_X7 [] [.int r461] la_62 (by omega) rfl rfl (Nat.le_of_ble_eq_true rfl) (m_X7_undo (d := d - 1) (by omega)  hcall465) ?_
  show Gw E κ 4 ce sl 468 [some (.ref b), some (.ref (ad 0)), some (.ref (ad 62)), some (.int l3)] [.int r465, .int r461] ad (LC sh sp ++ LM) m465
  rcases ite_some' h with ⟨hc468, h⟩ | ⟨hc468, h⟩
  · refine g_icmp_eq_t (pc := 468) C 907 dL_law_468 (by decide) hc468 ?_
    exact c_law_907 C hd hce hX hsh hsp h hP
  · refine g_icmp_eq_f (pc := 468) C 907 dL_law_468 (by decide) hc468 ?_
    refine g_iconst (pc := 471) (v := 0) C dL_law_471 rfl ?_
    cases h
    exact absurd (show (0 : Int32) = 1 from hP) (by decide)
set_option maxRecDepth 100000 in
set_option maxHeartbeats 4000000 in
theorem c_law_473 {E : Ex} {κ : Kx} {ad : Nat → Nat} {d ce sl b : Nat} {L : Nat} {xs : Nat → Int32} (C : Cx E κ cL_law RL 4 (some .boolean) d) (hd : 16 ≤ d) (hce : Ce κ ce sl) (hX : SX E κ b L xs) {l3 : Int32} {sh sp : Nat} (hsh : isS sh) (hsp : isS sp) {mem : Mem} {x : LSt ⊕ (LSt ⊕ Int32)} (h : f_law_473 L xs l3  sh sp mem = some x) (hP : P_law E κ ad ce sl b x) : Gw E κ 4 ce sl 473 [some (.ref b), some (.ref (ad 0)), some (.ref (ad 62)), some (.int l3)] [] ad (LC sh sp ++ LM) mem := by
  unfold f_law_473 at h
  refine g_aload_n (pc := 473) (i := 1) (x := ad 0) C dL_law_473 rfl rfl ?_
  refine g_aload_n (pc := 474) (i := 0) (x := b) C dL_law_474 rfl rfl ?_
  refine g_iload_n (pc := 475) (i := 3) (x := l3) C dL_law_475 rfl rfl ?_
  refine g_iconst (pc := 476) (v := 1) C dL_law_476 rfl ?_
  refine g_iadd (pc := 477) C dL_law_477 ?_
  obtain ⟨v478, hv478, hi478, h⟩ := rd_some h
  refine g_sld (pc := 478) C hX dL_law_478 hi478 ?_
  refine g_topi hv478 ?_
  refine g_aload_n (pc := 479) (i := 0) (x := b) C dL_law_479 rfl rfl ?_
  refine g_iload_n (pc := 480) (i := 3) (x := l3) C dL_law_480 rfl rfl ?_
  refine g_iconst (pc := 481) (v := 2) C dL_law_481 rfl ?_
  refine g_iadd (pc := 482) C dL_law_482 ?_
  obtain ⟨v483, hv483, hi483, h⟩ := rd_some h
  refine g_sld (pc := 483) C hX dL_law_483 hi483 ?_
  refine g_topi hv483 ?_
  obtain ⟨r484, m484, hcall484, h⟩ := ob2_some h
  refine g_callV (pc := 484) C hce mi_X6_behind mv_X6_behind wm_L_69 dL_law_484 ok_X6 [.int v478, .int v483] [] la_0 (by omega) rfl rfl (Nat.le_of_ble_eq_true rfl) (m_X6_behind (d := d - 1) (by omega) hsh hsp hcall484) ?_
  show Gw E κ 4 ce sl 487 [some (.ref b), some (.ref (ad 0)), some (.ref (ad 62)), some (.int l3)] [.int r484] ad (LC sh sp ++ LM) m484
  refine g_aload_n (pc := 487) (i := 2) (x := ad 62) C dL_law_487 rfl rfl ?_
  refine g_aload_n (pc := 488) (i := 0) (x := b) C dL_law_488 rfl rfl ?_
  refine g_iload_n (pc := 489) (i := 3) (x := l3) C dL_law_489 rfl rfl ?_
  refine g_iconst (pc := 490) (v := 1) C dL_law_490 rfl ?_
  refine g_iadd (pc := 491) C dL_law_491 ?_
  obtain ⟨v492, hv492, hi492, h⟩ := rd_some h
  refine g_sld (pc := 492) C hX dL_law_492 hi492 ?_
  refine g_topi hv492 ?_
  refine g_aload_n (pc := 493) (i := 0) (x := b) C dL_law_493 rfl rfl ?_
  refine g_iload_n (pc := 494) (i := 3) (x := l3) C dL_law_494 rfl rfl ?_
  refine g_iconst (pc := 495) (v := 2) C dL_law_495 rfl ?_
  refine g_iadd (pc := 496) C dL_law_496 ?_
  obtain ⟨v497, hv497, hi497, h⟩ := rd_some h
  refine g_sld (pc := 497) C hX dL_law_497 hi497 ?_
  refine g_topi hv497 ?_
  obtain ⟨r498, m498, hcall498, h⟩ := ob2_some h
  refine g_callV (pc := 498) C hce mi_X7_behind mv_X7_behind wm_L_72 dL_law_498 ok_X7 [.int v492, .int v497] [.int r484] la_62 (by omega) rfl rfl (Nat.le_of_ble_eq_true rfl) (m_X7_behind (d := d - 1) (by omega)  hcall498) ?_
  show Gw E κ 4 ce sl 501 [some (.ref b), some (.ref (ad 0)), some (.ref (ad 62)), some (.int l3)] [.int r498, .int r484] ad (LC sh sp ++ LM) m498
  rcases ite_some' h with ⟨hc501, h⟩ | ⟨hc501, h⟩
  · refine g_icmp_eq_t (pc := 501) C 907 dL_law_501 (by decide) hc501 ?_
    exact c_law_907 C hd hce hX hsh hsp h hP
  · refine g_icmp_eq_f (pc := 501) C 907 dL_law_501 (by decide) hc501 ?_
    refine g_iconst (pc := 504) (v := 0) C dL_law_504 rfl ?_
    cases h
    exact absurd (show (0 : Int32) = 1 from hP) (by decide)
set_option maxRecDepth 100000 in
set_option maxHeartbeats 4000000 in
theorem c_law_506 {E : Ex} {κ : Kx} {ad : Nat → Nat} {d ce sl b : Nat} {L : Nat} {xs : Nat → Int32} (C : Cx E κ cL_law RL 4 (some .boolean) d) (hd : 16 ≤ d) (hce : Ce κ ce sl) (hX : SX E κ b L xs) {l3 : Int32} {sh sp : Nat} (hsh : isS sh) (hsp : isS sp) {mem : Mem} {x : LSt ⊕ (LSt ⊕ Int32)} (h : f_law_506 L xs l3  sh sp mem = some x) (hP : P_law E κ ad ce sl b x) : Gw E κ 4 ce sl 506 [some (.ref b), some (.ref (ad 0)), some (.ref (ad 62)), some (.int l3)] [] ad (LC sh sp ++ LM) mem := by
  unfold f_law_506 at h
  refine g_aload_n (pc := 506) (i := 1) (x := ad 0) C dL_law_506 rfl rfl ?_
  refine g_aload_n (pc := 507) (i := 0) (x := b) C dL_law_507 rfl rfl ?_
  refine g_iload_n (pc := 508) (i := 3) (x := l3) C dL_law_508 rfl rfl ?_
  refine g_iconst (pc := 509) (v := 1) C dL_law_509 rfl ?_
  refine g_iadd (pc := 510) C dL_law_510 ?_
  obtain ⟨v511, hv511, hi511, h⟩ := rd_some h
  refine g_sld (pc := 511) C hX dL_law_511 hi511 ?_
  refine g_topi hv511 ?_
  obtain ⟨r512, m512, hcall512, h⟩ := ob2_some h
  refine g_callV (pc := 512) C hce mi_X6_fillings mv_X6_fillings wm_L_73 dL_law_512 ok_X6 [.int v511] [] la_0 (by omega) rfl rfl (Nat.le_of_ble_eq_true rfl) (m_X6_fillings (d := d - 1) (by omega) hsh hsp hcall512) ?_
  show Gw E κ 4 ce sl 515 [some (.ref b), some (.ref (ad 0)), some (.ref (ad 62)), some (.int l3)] [.int r512] ad (LC sh sp ++ LM) m512
  refine g_aload_n (pc := 515) (i := 2) (x := ad 62) C dL_law_515 rfl rfl ?_
  refine g_aload_n (pc := 516) (i := 0) (x := b) C dL_law_516 rfl rfl ?_
  refine g_iload_n (pc := 517) (i := 3) (x := l3) C dL_law_517 rfl rfl ?_
  refine g_iconst (pc := 518) (v := 1) C dL_law_518 rfl ?_
  refine g_iadd (pc := 519) C dL_law_519 ?_
  obtain ⟨v520, hv520, hi520, h⟩ := rd_some h
  refine g_sld (pc := 520) C hX dL_law_520 hi520 ?_
  refine g_topi hv520 ?_
  obtain ⟨r521, m521, hcall521, h⟩ := ob2_some h
  refine g_callV (pc := 521) C hce mi_X7_fillings mv_X7_fillings wm_L_76 dL_law_521 ok_X7 [.int v520] [.int r512] la_62 (by omega) rfl rfl (Nat.le_of_ble_eq_true rfl) (m_X7_fillings (d := d - 1) (by omega)  hcall521) ?_
  show Gw E κ 4 ce sl 524 [some (.ref b), some (.ref (ad 0)), some (.ref (ad 62)), some (.int l3)] [.int r521, .int r512] ad (LC sh sp ++ LM) m521
  rcases ite_some' h with ⟨hc524, h⟩ | ⟨hc524, h⟩
  · refine g_icmp_eq_t (pc := 524) C 907 dL_law_524 (by decide) hc524 ?_
    exact c_law_907 C hd hce hX hsh hsp h hP
  · refine g_icmp_eq_f (pc := 524) C 907 dL_law_524 (by decide) hc524 ?_
    refine g_iconst (pc := 527) (v := 0) C dL_law_527 rfl ?_
    cases h
    exact absurd (show (0 : Int32) = 1 from hP) (by decide)
set_option maxRecDepth 100000 in
set_option maxHeartbeats 4000000 in
theorem c_law_529 {E : Ex} {κ : Kx} {ad : Nat → Nat} {d ce sl b : Nat} {L : Nat} {xs : Nat → Int32} (C : Cx E κ cL_law RL 4 (some .boolean) d) (hd : 16 ≤ d) (hce : Ce κ ce sl) (hX : SX E κ b L xs) {l3 : Int32} {sh sp : Nat} (hsh : isS sh) (hsp : isS sp) {mem : Mem} {x : LSt ⊕ (LSt ⊕ Int32)} (h : f_law_529 L xs l3  sh sp mem = some x) (hP : P_law E κ ad ce sl b x) : Gw E κ 4 ce sl 529 [some (.ref b), some (.ref (ad 0)), some (.ref (ad 62)), some (.int l3)] [] ad (LC sh sp ++ LM) mem := by
  unfold f_law_529 at h
  refine g_aload_n (pc := 529) (i := 1) (x := ad 0) C dL_law_529 rfl rfl ?_
  refine g_aload_n (pc := 530) (i := 0) (x := b) C dL_law_530 rfl rfl ?_
  refine g_iload_n (pc := 531) (i := 3) (x := l3) C dL_law_531 rfl rfl ?_
  refine g_iconst (pc := 532) (v := 1) C dL_law_532 rfl ?_
  refine g_iadd (pc := 533) C dL_law_533 ?_
  obtain ⟨v534, hv534, hi534, h⟩ := rd_some h
  refine g_sld (pc := 534) C hX dL_law_534 hi534 ?_
  refine g_topi hv534 ?_
  obtain ⟨r535, m535, hcall535, h⟩ := ob2_some h
  refine g_callV (pc := 535) C hce mi_X6_must mv_X6_must wm_L_77 dL_law_535 ok_X6 [.int v534] [] la_0 (by omega) rfl rfl (Nat.le_of_ble_eq_true rfl) (m_X6_must (d := d - 1) (by omega) hsh hsp hcall535) ?_
  show Gw E κ 4 ce sl 538 [some (.ref b), some (.ref (ad 0)), some (.ref (ad 62)), some (.int l3)] [.int r535] ad (LC sh sp ++ LM) m535
  refine g_aload_n (pc := 538) (i := 2) (x := ad 62) C dL_law_538 rfl rfl ?_
  refine g_aload_n (pc := 539) (i := 0) (x := b) C dL_law_539 rfl rfl ?_
  refine g_iload_n (pc := 540) (i := 3) (x := l3) C dL_law_540 rfl rfl ?_
  refine g_iconst (pc := 541) (v := 1) C dL_law_541 rfl ?_
  refine g_iadd (pc := 542) C dL_law_542 ?_
  obtain ⟨v543, hv543, hi543, h⟩ := rd_some h
  refine g_sld (pc := 543) C hX dL_law_543 hi543 ?_
  refine g_topi hv543 ?_
  obtain ⟨r544, m544, hcall544, h⟩ := ob2_some h
  refine g_callV (pc := 544) C hce mi_X7_must mv_X7_must wm_L_80 dL_law_544 ok_X7 [.int v543] [.int r535] la_62 (by omega) rfl rfl (Nat.le_of_ble_eq_true rfl) (m_X7_must (d := d - 1) (by omega)  hcall544) ?_
  show Gw E κ 4 ce sl 547 [some (.ref b), some (.ref (ad 0)), some (.ref (ad 62)), some (.int l3)] [.int r544, .int r535] ad (LC sh sp ++ LM) m544
  rcases ite_some' h with ⟨hc547, h⟩ | ⟨hc547, h⟩
  · refine g_icmp_eq_t (pc := 547) C 907 dL_law_547 (by decide) hc547 ?_
    exact c_law_907 C hd hce hX hsh hsp h hP
  · refine g_icmp_eq_f (pc := 547) C 907 dL_law_547 (by decide) hc547 ?_
    refine g_iconst (pc := 550) (v := 0) C dL_law_550 rfl ?_
    cases h
    exact absurd (show (0 : Int32) = 1 from hP) (by decide)
set_option maxRecDepth 100000 in
set_option maxHeartbeats 4000000 in
theorem c_law_552 {E : Ex} {κ : Kx} {ad : Nat → Nat} {d ce sl b : Nat} {L : Nat} {xs : Nat → Int32} (C : Cx E κ cL_law RL 4 (some .boolean) d) (hd : 16 ≤ d) (hce : Ce κ ce sl) (hX : SX E κ b L xs) {l3 : Int32} {sh sp : Nat} (hsh : isS sh) (hsp : isS sp) {mem : Mem} {x : LSt ⊕ (LSt ⊕ Int32)} (h : f_law_552 L xs l3  sh sp mem = some x) (hP : P_law E κ ad ce sl b x) : Gw E κ 4 ce sl 552 [some (.ref b), some (.ref (ad 0)), some (.ref (ad 62)), some (.int l3)] [] ad (LC sh sp ++ LM) mem := by
  unfold f_law_552 at h
  refine g_aload_n (pc := 552) (i := 1) (x := ad 0) C dL_law_552 rfl rfl ?_
  obtain ⟨r553, m553, hcall553, h⟩ := ob2_some h
  refine g_callV (pc := 553) C hce mi_X6_best mv_X6_best wm_L_81 dL_law_553 ok_X6 [] [] la_0 (by omega) rfl rfl (Nat.le_of_ble_eq_true rfl) (m_X6_best (d := d - 1) (by omega) hsh hsp hcall553) ?_
  show Gw E κ 4 ce sl 556 [some (.ref b), some (.ref (ad 0)), some (.ref (ad 62)), some (.int l3)] [.int r553] ad (LC sh sp ++ LM) m553
  refine g_aload_n (pc := 556) (i := 2) (x := ad 62) C dL_law_556 rfl rfl ?_
  obtain ⟨r557, m557, hcall557, h⟩ := ob2_some h
  refine g_callV (pc := 557) C hce mi_X7_best mv_X7_best wm_L_84 dL_law_557 ok_X7 [] [.int r553] la_62 (by omega) rfl rfl (Nat.le_of_ble_eq_true rfl) (m_X7_best (d := d - 1) (by omega)  hcall557) ?_
  show Gw E κ 4 ce sl 560 [some (.ref b), some (.ref (ad 0)), some (.ref (ad 62)), some (.int l3)] [.int r557, .int r553] ad (LC sh sp ++ LM) m557
  rcases ite_some' h with ⟨hc560, h⟩ | ⟨hc560, h⟩
  · refine g_icmp_eq_t (pc := 560) C 907 dL_law_560 (by decide) hc560 ?_
    exact c_law_907 C hd hce hX hsh hsp h hP
  · refine g_icmp_eq_f (pc := 560) C 907 dL_law_560 (by decide) hc560 ?_
    refine g_iconst (pc := 563) (v := 0) C dL_law_563 rfl ?_
    cases h
    exact absurd (show (0 : Int32) = 1 from hP) (by decide)
set_option maxRecDepth 100000 in
set_option maxHeartbeats 4000000 in
theorem c_law_565 {E : Ex} {κ : Kx} {ad : Nat → Nat} {d ce sl b : Nat} {L : Nat} {xs : Nat → Int32} (C : Cx E κ cL_law RL 4 (some .boolean) d) (hd : 16 ≤ d) (hce : Ce κ ce sl) (hX : SX E κ b L xs) {l3 : Int32} {sh sp : Nat} (hsh : isS sh) (hsp : isS sp) {mem : Mem} {x : LSt ⊕ (LSt ⊕ Int32)} (h : f_law_565 L xs l3  sh sp mem = some x) (hP : P_law E κ ad ce sl b x) : Gw E κ 4 ce sl 565 [some (.ref b), some (.ref (ad 0)), some (.ref (ad 62)), some (.int l3)] [] ad (LC sh sp ++ LM) mem := by
  unfold f_law_565 at h
  refine g_aload_n (pc := 565) (i := 1) (x := ad 0) C dL_law_565 rfl rfl ?_
  obtain ⟨r566, hcall566, h⟩ := ob_some h
  refine g_callV (pc := 566) C hce mi_X6_dead mv_X6_dead wm_L_85 dL_law_566 ok_X6 [] [] la_0 (by omega) rfl rfl (Nat.le_of_ble_eq_true rfl) (m_X6_dead (d := d - 1) (by omega) hsh hsp hcall566) ?_
  show Gw E κ 4 ce sl 569 [some (.ref b), some (.ref (ad 0)), some (.ref (ad 62)), some (.int l3)] [.int r566] ad (LC sh sp ++ LM) mem
  refine g_aload_n (pc := 569) (i := 2) (x := ad 62) C dL_law_569 rfl rfl ?_
  obtain ⟨r570, hcall570, h⟩ := ob_some h
  refine g_callV (pc := 570) C hce mi_X7_dead mv_X7_dead wm_L_88 dL_law_570 ok_X7 [] [.int r566] la_62 (by omega) rfl rfl (Nat.le_of_ble_eq_true rfl) (m_X7_dead (d := d - 1) (by omega)  hcall570) ?_
  show Gw E κ 4 ce sl 573 [some (.ref b), some (.ref (ad 0)), some (.ref (ad 62)), some (.int l3)] [.int r570, .int r566] ad (LC sh sp ++ LM) mem
  rcases ite_some' h with ⟨hc573, h⟩ | ⟨hc573, h⟩
  · refine g_icmp_eq_t (pc := 573) C 907 dL_law_573 (by decide) hc573 ?_
    exact c_law_907 C hd hce hX hsh hsp h hP
  · refine g_icmp_eq_f (pc := 573) C 907 dL_law_573 (by decide) hc573 ?_
    refine g_iconst (pc := 576) (v := 0) C dL_law_576 rfl ?_
    cases h
    exact absurd (show (0 : Int32) = 1 from hP) (by decide)
set_option maxRecDepth 100000 in
set_option maxHeartbeats 4000000 in
theorem c_law_578 {E : Ex} {κ : Kx} {ad : Nat → Nat} {d ce sl b : Nat} {L : Nat} {xs : Nat → Int32} (C : Cx E κ cL_law RL 4 (some .boolean) d) (hd : 16 ≤ d) (hce : Ce κ ce sl) (hX : SX E κ b L xs) {l3 : Int32} {sh sp : Nat} (hsh : isS sh) (hsp : isS sp) {mem : Mem} {x : LSt ⊕ (LSt ⊕ Int32)} (h : f_law_578 L xs l3  sh sp mem = some x) (hP : P_law E κ ad ce sl b x) : Gw E κ 4 ce sl 578 [some (.ref b), some (.ref (ad 0)), some (.ref (ad 62)), some (.int l3)] [] ad (LC sh sp ++ LM) mem := by
  unfold f_law_578 at h
  refine g_aload_n (pc := 578) (i := 1) (x := ad 0) C dL_law_578 rfl rfl ?_
  refine g_aload_n (pc := 579) (i := 0) (x := b) C dL_law_579 rfl rfl ?_
  refine g_iload_n (pc := 580) (i := 3) (x := l3) C dL_law_580 rfl rfl ?_
  refine g_iconst (pc := 581) (v := 1) C dL_law_581 rfl ?_
  refine g_iadd (pc := 582) C dL_law_582 ?_
  obtain ⟨v583, hv583, hi583, h⟩ := rd_some h
  refine g_sld (pc := 583) C hX dL_law_583 hi583 ?_
  refine g_topi hv583 ?_
  refine g_aload_n (pc := 584) (i := 0) (x := b) C dL_law_584 rfl rfl ?_
  refine g_iload_n (pc := 585) (i := 3) (x := l3) C dL_law_585 rfl rfl ?_
  refine g_iconst (pc := 586) (v := 2) C dL_law_586 rfl ?_
  refine g_iadd (pc := 587) C dL_law_587 ?_
  obtain ⟨v588, hv588, hi588, h⟩ := rd_some h
  refine g_sld (pc := 588) C hX dL_law_588 hi588 ?_
  refine g_topi hv588 ?_
  refine g_aload_n (pc := 589) (i := 0) (x := b) C dL_law_589 rfl rfl ?_
  refine g_iload_n (pc := 590) (i := 3) (x := l3) C dL_law_590 rfl rfl ?_
  refine g_iconst (pc := 591) (v := 3) C dL_law_591 rfl ?_
  refine g_iadd (pc := 592) C dL_law_592 ?_
  obtain ⟨v593, hv593, hi593, h⟩ := rd_some h
  refine g_sld (pc := 593) C hX dL_law_593 hi593 ?_
  refine g_topi hv593 ?_
  obtain ⟨r594, m594, hcall594, h⟩ := ob2_some h
  refine g_callV (pc := 594) C hce mi_X6_counts mv_X6_counts wm_L_89 dL_law_594 ok_X6 [.int v583, .int v588, .int v593] [] la_0 (by omega) rfl rfl (Nat.le_of_ble_eq_true rfl) (m_X6_counts (d := d - 1) (by omega) hsh hsp hcall594) ?_
  show Gw E κ 4 ce sl 597 [some (.ref b), some (.ref (ad 0)), some (.ref (ad 62)), some (.int l3)] [.int r594] ad (LC sh sp ++ LM) m594
  refine g_aload_n (pc := 597) (i := 2) (x := ad 62) C dL_law_597 rfl rfl ?_
  refine g_aload_n (pc := 598) (i := 0) (x := b) C dL_law_598 rfl rfl ?_
  refine g_iload_n (pc := 599) (i := 3) (x := l3) C dL_law_599 rfl rfl ?_
  refine g_iconst (pc := 600) (v := 1) C dL_law_600 rfl ?_
  refine g_iadd (pc := 601) C dL_law_601 ?_
  obtain ⟨v602, hv602, hi602, h⟩ := rd_some h
  refine g_sld (pc := 602) C hX dL_law_602 hi602 ?_
  refine g_topi hv602 ?_
  refine g_aload_n (pc := 603) (i := 0) (x := b) C dL_law_603 rfl rfl ?_
  refine g_iload_n (pc := 604) (i := 3) (x := l3) C dL_law_604 rfl rfl ?_
  refine g_iconst (pc := 605) (v := 2) C dL_law_605 rfl ?_
  refine g_iadd (pc := 606) C dL_law_606 ?_
  obtain ⟨v607, hv607, hi607, h⟩ := rd_some h
  refine g_sld (pc := 607) C hX dL_law_607 hi607 ?_
  refine g_topi hv607 ?_
  refine g_aload_n (pc := 608) (i := 0) (x := b) C dL_law_608 rfl rfl ?_
  refine g_iload_n (pc := 609) (i := 3) (x := l3) C dL_law_609 rfl rfl ?_
  refine g_iconst (pc := 610) (v := 3) C dL_law_610 rfl ?_
  refine g_iadd (pc := 611) C dL_law_611 ?_
  obtain ⟨v612, hv612, hi612, h⟩ := rd_some h
  refine g_sld (pc := 612) C hX dL_law_612 hi612 ?_
  refine g_topi hv612 ?_
  obtain ⟨r613, m613, hcall613, h⟩ := ob2_some h
  refine g_callV (pc := 613) C hce mi_X7_counts mv_X7_counts wm_L_92 dL_law_613 ok_X7 [.int v602, .int v607, .int v612] [.int r594] la_62 (by omega) rfl rfl (Nat.le_of_ble_eq_true rfl) (m_X7_counts (d := d - 1) (by omega)  hcall613) ?_
  show Gw E κ 4 ce sl 616 [some (.ref b), some (.ref (ad 0)), some (.ref (ad 62)), some (.int l3)] [.int r613, .int r594] ad (LC sh sp ++ LM) m613
  rcases ite_some' h with ⟨hc616, h⟩ | ⟨hc616, h⟩
  · refine g_icmp_eq_t (pc := 616) C 907 dL_law_616 (by decide) hc616 ?_
    exact c_law_907 C hd hce hX hsh hsp h hP
  · refine g_icmp_eq_f (pc := 616) C 907 dL_law_616 (by decide) hc616 ?_
    refine g_iconst (pc := 619) (v := 0) C dL_law_619 rfl ?_
    cases h
    exact absurd (show (0 : Int32) = 1 from hP) (by decide)
set_option maxRecDepth 100000 in
set_option maxHeartbeats 4000000 in
theorem c_law_621 {E : Ex} {κ : Kx} {ad : Nat → Nat} {d ce sl b : Nat} {L : Nat} {xs : Nat → Int32} (C : Cx E κ cL_law RL 4 (some .boolean) d) (hd : 16 ≤ d) (hce : Ce κ ce sl) (hX : SX E κ b L xs) {l3 : Int32} {sh sp : Nat} (hsh : isS sh) (hsp : isS sp) {mem : Mem} {x : LSt ⊕ (LSt ⊕ Int32)} (h : f_law_621 L xs l3  sh sp mem = some x) (hP : P_law E κ ad ce sl b x) : Gw E κ 4 ce sl 621 [some (.ref b), some (.ref (ad 0)), some (.ref (ad 62)), some (.int l3)] [] ad (LC sh sp ++ LM) mem := by
  unfold f_law_621 at h
  refine g_aload_n (pc := 621) (i := 1) (x := ad 0) C dL_law_621 rfl rfl ?_
  refine g_aload_n (pc := 622) (i := 0) (x := b) C dL_law_622 rfl rfl ?_
  refine g_iload_n (pc := 623) (i := 3) (x := l3) C dL_law_623 rfl rfl ?_
  refine g_iconst (pc := 624) (v := 1) C dL_law_624 rfl ?_
  refine g_iadd (pc := 625) C dL_law_625 ?_
  obtain ⟨v626, hv626, hi626, h⟩ := rd_some h
  refine g_sld (pc := 626) C hX dL_law_626 hi626 ?_
  refine g_topi hv626 ?_
  refine g_aload_n (pc := 627) (i := 0) (x := b) C dL_law_627 rfl rfl ?_
  refine g_iload_n (pc := 628) (i := 3) (x := l3) C dL_law_628 rfl rfl ?_
  refine g_iconst (pc := 629) (v := 2) C dL_law_629 rfl ?_
  refine g_iadd (pc := 630) C dL_law_630 ?_
  obtain ⟨v631, hv631, hi631, h⟩ := rd_some h
  refine g_sld (pc := 631) C hX dL_law_631 hi631 ?_
  refine g_topi hv631 ?_
  obtain ⟨r632, m632, hcall632, h⟩ := ob2_some h
  refine g_callV (pc := 632) C hce mi_X6_win mv_X6_win wm_L_93 dL_law_632 ok_X6 [.int v626, .int v631] [] la_0 (by omega) rfl rfl (Nat.le_of_ble_eq_true rfl) (m_X6_win (d := d - 1) (by omega) hsh hsp hcall632) ?_
  show Gw E κ 4 ce sl 635 [some (.ref b), some (.ref (ad 0)), some (.ref (ad 62)), some (.int l3)] [.int r632] ad (LC sh sp ++ LM) m632
  refine g_aload_n (pc := 635) (i := 2) (x := ad 62) C dL_law_635 rfl rfl ?_
  refine g_aload_n (pc := 636) (i := 0) (x := b) C dL_law_636 rfl rfl ?_
  refine g_iload_n (pc := 637) (i := 3) (x := l3) C dL_law_637 rfl rfl ?_
  refine g_iconst (pc := 638) (v := 1) C dL_law_638 rfl ?_
  refine g_iadd (pc := 639) C dL_law_639 ?_
  obtain ⟨v640, hv640, hi640, h⟩ := rd_some h
  refine g_sld (pc := 640) C hX dL_law_640 hi640 ?_
  refine g_topi hv640 ?_
  refine g_aload_n (pc := 641) (i := 0) (x := b) C dL_law_641 rfl rfl ?_
  refine g_iload_n (pc := 642) (i := 3) (x := l3) C dL_law_642 rfl rfl ?_
  refine g_iconst (pc := 643) (v := 2) C dL_law_643 rfl ?_
  refine g_iadd (pc := 644) C dL_law_644 ?_
  obtain ⟨v645, hv645, hi645, h⟩ := rd_some h
  refine g_sld (pc := 645) C hX dL_law_645 hi645 ?_
  refine g_topi hv645 ?_
  obtain ⟨r646, m646, hcall646, h⟩ := ob2_some h
  refine g_callV (pc := 646) C hce mi_X7_win mv_X7_win wm_L_96 dL_law_646 ok_X7 [.int v640, .int v645] [.int r632] la_62 (by omega) rfl rfl (Nat.le_of_ble_eq_true rfl) (m_X7_win (d := d - 1) (by omega)  hcall646) ?_
  show Gw E κ 4 ce sl 649 [some (.ref b), some (.ref (ad 0)), some (.ref (ad 62)), some (.int l3)] [.int r646, .int r632] ad (LC sh sp ++ LM) m646
  rcases ite_some' h with ⟨hc649, h⟩ | ⟨hc649, h⟩
  · refine g_icmp_eq_t (pc := 649) C 907 dL_law_649 (by decide) hc649 ?_
    exact c_law_907 C hd hce hX hsh hsp h hP
  · refine g_icmp_eq_f (pc := 649) C 907 dL_law_649 (by decide) hc649 ?_
    refine g_iconst (pc := 652) (v := 0) C dL_law_652 rfl ?_
    cases h
    exact absurd (show (0 : Int32) = 1 from hP) (by decide)
set_option maxRecDepth 100000 in
set_option maxHeartbeats 4000000 in
theorem c_law_695 {E : Ex} {κ : Kx} {ad : Nat → Nat} {d ce sl b : Nat} {L : Nat} {xs : Nat → Int32} (C : Cx E κ cL_law RL 4 (some .boolean) d) (hd : 16 ≤ d) (hce : Ce κ ce sl) (hX : SX E κ b L xs) {l3 : Int32} {w0 w2 w3 : Int32} {sh sp : Nat} (hsh : isS sh) (hsp : isS sp) {mem : Mem} {x : LSt ⊕ (LSt ⊕ Int32)} (h : f_law_695 L xs l3 w0 w2 w3 sh sp mem = some x) (hP : P_law E κ ad ce sl b x) : Gw E κ 4 ce sl 695 [some (.ref b), some (.ref (ad 0)), some (.ref (ad 62)), some (.int l3)] [.int w3, .int w2, .ref (ad 62), .int w0] ad (LC sh sp ++ LM) mem := by
  unfold f_law_695 at h
  obtain ⟨r695, m695, hcall695, h⟩ := ob2_some h
  refine g_callV (pc := 695) C hce mi_X7_sent mv_X7_sent wm_L_101 dL_law_695 ok_X7 [.int w2, .int w3] [.int w0] la_62 (by omega) rfl rfl (Nat.le_of_ble_eq_true rfl) (m_X7_sent (d := d - 1) (by omega)  hcall695) ?_
  show Gw E κ 4 ce sl 698 [some (.ref b), some (.ref (ad 0)), some (.ref (ad 62)), some (.int l3)] [.int r695, .int w0] ad (LC sh sp ++ LM) m695
  rcases ite_some' h with ⟨hc698, h⟩ | ⟨hc698, h⟩
  · refine g_icmp_eq_t (pc := 698) C 907 dL_law_698 (by decide) hc698 ?_
    exact c_law_907 C hd hce hX hsh hsp h hP
  · refine g_icmp_eq_f (pc := 698) C 907 dL_law_698 (by decide) hc698 ?_
    refine g_iconst (pc := 701) (v := 0) C dL_law_701 rfl ?_
    cases h
    exact absurd (show (0 : Int32) = 1 from hP) (by decide)
set_option maxRecDepth 100000 in
set_option maxHeartbeats 4000000 in
theorem c_law_673 {E : Ex} {κ : Kx} {ad : Nat → Nat} {d ce sl b : Nat} {L : Nat} {xs : Nat → Int32} (C : Cx E κ cL_law RL 4 (some .boolean) d) (hd : 16 ≤ d) (hce : Ce κ ce sl) (hX : SX E κ b L xs) {l3 : Int32} {w1 w2 : Int32} {sh sp : Nat} (hsh : isS sh) (hsp : isS sp) {mem : Mem} {x : LSt ⊕ (LSt ⊕ Int32)} (h : f_law_673 L xs l3 w1 w2 sh sp mem = some x) (hP : P_law E κ ad ce sl b x) : Gw E κ 4 ce sl 673 [some (.ref b), some (.ref (ad 0)), some (.ref (ad 62)), some (.int l3)] [.int w2, .int w1, .ref (ad 0)] ad (LC sh sp ++ LM) mem := by
  unfold f_law_673 at h
  obtain ⟨r673, m673, hcall673, h⟩ := ob2_some h
  refine g_callV (pc := 673) C hce mi_X6_sent mv_X6_sent wm_L_97 dL_law_673 ok_X6 [.int w1, .int w2] [] la_0 (by omega) rfl rfl (Nat.le_of_ble_eq_true rfl) (m_X6_sent (d := d - 1) (by omega) hsh hsp hcall673) ?_
  show Gw E κ 4 ce sl 676 [some (.ref b), some (.ref (ad 0)), some (.ref (ad 62)), some (.int l3)] [.int r673] ad (LC sh sp ++ LM) m673
  refine g_aload_n (pc := 676) (i := 2) (x := ad 62) C dL_law_676 rfl rfl ?_
  refine g_aload_n (pc := 677) (i := 0) (x := b) C dL_law_677 rfl rfl ?_
  refine g_iload_n (pc := 678) (i := 3) (x := l3) C dL_law_678 rfl rfl ?_
  refine g_iconst (pc := 679) (v := 1) C dL_law_679 rfl ?_
  refine g_iadd (pc := 680) C dL_law_680 ?_
  obtain ⟨v681, hv681, hi681, h⟩ := rd_some h
  refine g_sld (pc := 681) C hX dL_law_681 hi681 ?_
  refine g_topi hv681 ?_
  refine g_aload_n (pc := 682) (i := 0) (x := b) C dL_law_682 rfl rfl ?_
  refine g_iload_n (pc := 683) (i := 3) (x := l3) C dL_law_683 rfl rfl ?_
  refine g_iconst (pc := 684) (v := 2) C dL_law_684 rfl ?_
  refine g_iadd (pc := 685) C dL_law_685 ?_
  obtain ⟨v686, hv686, hi686, h⟩ := rd_some h
  refine g_sld (pc := 686) C hX dL_law_686 hi686 ?_
  refine g_topi hv686 ?_
  rcases ite_some' h with ⟨hc687, h⟩ | ⟨hc687, h⟩
  · refine g_if_eq_t (pc := 687) C 694 dL_law_687 (by decide) hc687 ?_
    refine g_iconst (pc := 694) (v := 0) C dL_law_694 rfl ?_
    exact c_law_695 C hd hce hX hsh hsp h hP
  · refine g_if_eq_f (pc := 687) C 694 dL_law_687 (by decide) hc687 ?_
    refine g_iconst (pc := 690) (v := 1) C dL_law_690 rfl ?_
    refine g_goto (pc := 691) C 695 dL_law_691 (by decide) ?_
    exact c_law_695 C hd hce hX hsh hsp h hP
set_option maxRecDepth 100000 in
set_option maxHeartbeats 4000000 in
theorem c_law_654 {E : Ex} {κ : Kx} {ad : Nat → Nat} {d ce sl b : Nat} {L : Nat} {xs : Nat → Int32} (C : Cx E κ cL_law RL 4 (some .boolean) d) (hd : 16 ≤ d) (hce : Ce κ ce sl) (hX : SX E κ b L xs) {l3 : Int32} {sh sp : Nat} (hsh : isS sh) (hsp : isS sp) {mem : Mem} {x : LSt ⊕ (LSt ⊕ Int32)} (h : f_law_654 L xs l3  sh sp mem = some x) (hP : P_law E κ ad ce sl b x) : Gw E κ 4 ce sl 654 [some (.ref b), some (.ref (ad 0)), some (.ref (ad 62)), some (.int l3)] [] ad (LC sh sp ++ LM) mem := by
  unfold f_law_654 at h
  refine g_aload_n (pc := 654) (i := 1) (x := ad 0) C dL_law_654 rfl rfl ?_
  refine g_aload_n (pc := 655) (i := 0) (x := b) C dL_law_655 rfl rfl ?_
  refine g_iload_n (pc := 656) (i := 3) (x := l3) C dL_law_656 rfl rfl ?_
  refine g_iconst (pc := 657) (v := 1) C dL_law_657 rfl ?_
  refine g_iadd (pc := 658) C dL_law_658 ?_
  obtain ⟨v659, hv659, hi659, h⟩ := rd_some h
  refine g_sld (pc := 659) C hX dL_law_659 hi659 ?_
  refine g_topi hv659 ?_
  refine g_aload_n (pc := 660) (i := 0) (x := b) C dL_law_660 rfl rfl ?_
  refine g_iload_n (pc := 661) (i := 3) (x := l3) C dL_law_661 rfl rfl ?_
  refine g_iconst (pc := 662) (v := 2) C dL_law_662 rfl ?_
  refine g_iadd (pc := 663) C dL_law_663 ?_
  obtain ⟨v664, hv664, hi664, h⟩ := rd_some h
  refine g_sld (pc := 664) C hX dL_law_664 hi664 ?_
  refine g_topi hv664 ?_
  rcases ite_some' h with ⟨hc665, h⟩ | ⟨hc665, h⟩
  · refine g_if_eq_t (pc := 665) C 672 dL_law_665 (by decide) hc665 ?_
    refine g_iconst (pc := 672) (v := 0) C dL_law_672 rfl ?_
    exact c_law_673 C hd hce hX hsh hsp h hP
  · refine g_if_eq_f (pc := 665) C 672 dL_law_665 (by decide) hc665 ?_
    refine g_iconst (pc := 668) (v := 1) C dL_law_668 rfl ?_
    refine g_goto (pc := 669) C 673 dL_law_669 (by decide) ?_
    exact c_law_673 C hd hce hX hsh hsp h hP
set_option maxRecDepth 100000 in
set_option maxHeartbeats 4000000 in
theorem c_law_703 {E : Ex} {κ : Kx} {ad : Nat → Nat} {d ce sl b : Nat} {L : Nat} {xs : Nat → Int32} (C : Cx E κ cL_law RL 4 (some .boolean) d) (hd : 16 ≤ d) (hce : Ce κ ce sl) (hX : SX E κ b L xs) {l3 : Int32} {sh sp : Nat} (hsh : isS sh) (hsp : isS sp) {mem : Mem} {x : LSt ⊕ (LSt ⊕ Int32)} (h : f_law_703 L xs l3  sh sp mem = some x) (hP : P_law E κ ad ce sl b x) : Gw E κ 4 ce sl 703 [some (.ref b), some (.ref (ad 0)), some (.ref (ad 62)), some (.int l3)] [] ad (LC sh sp ++ LM) mem := by
  unfold f_law_703 at h
  refine g_aload_n (pc := 703) (i := 1) (x := ad 0) C dL_law_703 rfl rfl ?_
  obtain ⟨r704, m704, hcall704, h⟩ := ob2_some h
  refine g_callV (pc := 704) C hce mi_X6_forget mv_X6_forget wm_L_102 dL_law_704 ok_X6 [] [] la_0 (by omega) rfl rfl (Nat.le_of_ble_eq_true rfl) (m_X6_forget (d := d - 1) (by omega) hsh hsp hcall704) ?_
  show Gw E κ 4 ce sl 707 [some (.ref b), some (.ref (ad 0)), some (.ref (ad 62)), some (.int l3)] [.int r704] ad (LC sh sp ++ LM) m704
  refine g_aload_n (pc := 707) (i := 2) (x := ad 62) C dL_law_707 rfl rfl ?_
  obtain ⟨r708, m708, hcall708, h⟩ := ob2_some h
  refine g_callV (pc := 708) C hce mi_X7_forget mv_X7_forget wm_L_105 dL_law_708 ok_X7 [] [.int r704] la_62 (by omega) rfl rfl (Nat.le_of_ble_eq_true rfl) (m_X7_forget (d := d - 1) (by omega)  hcall708) ?_
  show Gw E κ 4 ce sl 711 [some (.ref b), some (.ref (ad 0)), some (.ref (ad 62)), some (.int l3)] [.int r708, .int r704] ad (LC sh sp ++ LM) m708
  rcases ite_some' h with ⟨hc711, h⟩ | ⟨hc711, h⟩
  · refine g_icmp_eq_t (pc := 711) C 907 dL_law_711 (by decide) hc711 ?_
    exact c_law_907 C hd hce hX hsh hsp h hP
  · refine g_icmp_eq_f (pc := 711) C 907 dL_law_711 (by decide) hc711 ?_
    refine g_iconst (pc := 714) (v := 0) C dL_law_714 rfl ?_
    cases h
    exact absurd (show (0 : Int32) = 1 from hP) (by decide)
set_option maxRecDepth 100000 in
set_option maxHeartbeats 4000000 in
theorem c_law_716 {E : Ex} {κ : Kx} {ad : Nat → Nat} {d ce sl b : Nat} {L : Nat} {xs : Nat → Int32} (C : Cx E κ cL_law RL 4 (some .boolean) d) (hd : 16 ≤ d) (hce : Ce κ ce sl) (hX : SX E κ b L xs) {l3 : Int32} {sh sp : Nat} (hsh : isS sh) (hsp : isS sp) {mem : Mem} {x : LSt ⊕ (LSt ⊕ Int32)} (h : f_law_716 L xs l3  sh sp mem = some x) (hP : P_law E κ ad ce sl b x) : Gw E κ 4 ce sl 716 [some (.ref b), some (.ref (ad 0)), some (.ref (ad 62)), some (.int l3)] [] ad (LC sh sp ++ LM) mem := by
  unfold f_law_716 at h
  refine g_aload_n (pc := 716) (i := 1) (x := ad 0) C dL_law_716 rfl rfl ?_
  refine g_aload_n (pc := 717) (i := 0) (x := b) C dL_law_717 rfl rfl ?_
  refine g_iload_n (pc := 718) (i := 3) (x := l3) C dL_law_718 rfl rfl ?_
  refine g_iconst (pc := 719) (v := 1) C dL_law_719 rfl ?_
  refine g_iadd (pc := 720) C dL_law_720 ?_
  obtain ⟨v721, hv721, hi721, h⟩ := rd_some h
  refine g_sld (pc := 721) C hX dL_law_721 hi721 ?_
  refine g_topi hv721 ?_
  obtain ⟨r722, m722, hcall722, h⟩ := ob2_some h
  refine g_callV (pc := 722) C hce mi_X6_wants mv_X6_wants wm_L_106 dL_law_722 ok_X6 [.int v721] [] la_0 (by omega) rfl rfl (Nat.le_of_ble_eq_true rfl) (m_X6_wants (d := d - 1) (by omega) hsh hsp hcall722) ?_
  show Gw E κ 4 ce sl 725 [some (.ref b), some (.ref (ad 0)), some (.ref (ad 62)), some (.int l3)] [.int r722] ad (LC sh sp ++ LM) m722
  refine g_aload_n (pc := 725) (i := 2) (x := ad 62) C dL_law_725 rfl rfl ?_
  refine g_aload_n (pc := 726) (i := 0) (x := b) C dL_law_726 rfl rfl ?_
  refine g_iload_n (pc := 727) (i := 3) (x := l3) C dL_law_727 rfl rfl ?_
  refine g_iconst (pc := 728) (v := 1) C dL_law_728 rfl ?_
  refine g_iadd (pc := 729) C dL_law_729 ?_
  obtain ⟨v730, hv730, hi730, h⟩ := rd_some h
  refine g_sld (pc := 730) C hX dL_law_730 hi730 ?_
  refine g_topi hv730 ?_
  obtain ⟨r731, m731, hcall731, h⟩ := ob2_some h
  refine g_callV (pc := 731) C hce mi_X7_wants mv_X7_wants wm_L_109 dL_law_731 ok_X7 [.int v730] [.int r722] la_62 (by omega) rfl rfl (Nat.le_of_ble_eq_true rfl) (m_X7_wants (d := d - 1) (by omega)  hcall731) ?_
  show Gw E κ 4 ce sl 734 [some (.ref b), some (.ref (ad 0)), some (.ref (ad 62)), some (.int l3)] [.int r731, .int r722] ad (LC sh sp ++ LM) m731
  rcases ite_some' h with ⟨hc734, h⟩ | ⟨hc734, h⟩
  · refine g_icmp_eq_t (pc := 734) C 907 dL_law_734 (by decide) hc734 ?_
    exact c_law_907 C hd hce hX hsh hsp h hP
  · refine g_icmp_eq_f (pc := 734) C 907 dL_law_734 (by decide) hc734 ?_
    refine g_iconst (pc := 737) (v := 0) C dL_law_737 rfl ?_
    cases h
    exact absurd (show (0 : Int32) = 1 from hP) (by decide)
set_option maxRecDepth 100000 in
set_option maxHeartbeats 4000000 in
theorem c_law_739 {E : Ex} {κ : Kx} {ad : Nat → Nat} {d ce sl b : Nat} {L : Nat} {xs : Nat → Int32} (C : Cx E κ cL_law RL 4 (some .boolean) d) (hd : 16 ≤ d) (hce : Ce κ ce sl) (hX : SX E κ b L xs) {l3 : Int32} {sh sp : Nat} (hsh : isS sh) (hsp : isS sp) {mem : Mem} {x : LSt ⊕ (LSt ⊕ Int32)} (h : f_law_739 L xs l3  sh sp mem = some x) (hP : P_law E κ ad ce sl b x) : Gw E κ 4 ce sl 739 [some (.ref b), some (.ref (ad 0)), some (.ref (ad 62)), some (.int l3)] [] ad (LC sh sp ++ LM) mem := by
  unfold f_law_739 at h
  refine g_aload_n (pc := 739) (i := 1) (x := ad 0) C dL_law_739 rfl rfl ?_
  refine g_aload_n (pc := 740) (i := 0) (x := b) C dL_law_740 rfl rfl ?_
  refine g_iload_n (pc := 741) (i := 3) (x := l3) C dL_law_741 rfl rfl ?_
  refine g_iconst (pc := 742) (v := 1) C dL_law_742 rfl ?_
  refine g_iadd (pc := 743) C dL_law_743 ?_
  obtain ⟨v744, hv744, hi744, h⟩ := rd_some h
  refine g_sld (pc := 744) C hX dL_law_744 hi744 ?_
  refine g_topi hv744 ?_
  obtain ⟨r745, m745, hcall745, h⟩ := ob2_some h
  refine g_callV (pc := 745) C hce mi_X6_letters mv_X6_letters wm_L_110 dL_law_745 ok_X6 [.int v744] [] la_0 (by omega) rfl rfl (Nat.le_of_ble_eq_true rfl) (m_X6_letters (d := d - 1) (by omega) hsh hsp hcall745) ?_
  show Gw E κ 4 ce sl 748 [some (.ref b), some (.ref (ad 0)), some (.ref (ad 62)), some (.int l3)] [.int r745] ad (LC sh sp ++ LM) m745
  refine g_aload_n (pc := 748) (i := 2) (x := ad 62) C dL_law_748 rfl rfl ?_
  refine g_aload_n (pc := 749) (i := 0) (x := b) C dL_law_749 rfl rfl ?_
  refine g_iload_n (pc := 750) (i := 3) (x := l3) C dL_law_750 rfl rfl ?_
  refine g_iconst (pc := 751) (v := 1) C dL_law_751 rfl ?_
  refine g_iadd (pc := 752) C dL_law_752 ?_
  obtain ⟨v753, hv753, hi753, h⟩ := rd_some h
  refine g_sld (pc := 753) C hX dL_law_753 hi753 ?_
  refine g_topi hv753 ?_
  obtain ⟨r754, m754, hcall754, h⟩ := ob2_some h
  refine g_callV (pc := 754) C hce mi_X7_letters mv_X7_letters wm_L_113 dL_law_754 ok_X7 [.int v753] [.int r745] la_62 (by omega) rfl rfl (Nat.le_of_ble_eq_true rfl) (m_X7_letters (d := d - 1) (by omega)  hcall754) ?_
  show Gw E κ 4 ce sl 757 [some (.ref b), some (.ref (ad 0)), some (.ref (ad 62)), some (.int l3)] [.int r754, .int r745] ad (LC sh sp ++ LM) m754
  rcases ite_some' h with ⟨hc757, h⟩ | ⟨hc757, h⟩
  · refine g_icmp_eq_t (pc := 757) C 907 dL_law_757 (by decide) hc757 ?_
    exact c_law_907 C hd hce hX hsh hsp h hP
  · refine g_icmp_eq_f (pc := 757) C 907 dL_law_757 (by decide) hc757 ?_
    refine g_iconst (pc := 760) (v := 0) C dL_law_760 rfl ?_
    cases h
    exact absurd (show (0 : Int32) = 1 from hP) (by decide)
set_option maxRecDepth 100000 in
set_option maxHeartbeats 4000000 in
theorem c_law_762 {E : Ex} {κ : Kx} {ad : Nat → Nat} {d ce sl b : Nat} {L : Nat} {xs : Nat → Int32} (C : Cx E κ cL_law RL 4 (some .boolean) d) (hd : 16 ≤ d) (hce : Ce κ ce sl) (hX : SX E κ b L xs) {l3 : Int32} {sh sp : Nat} (hsh : isS sh) (hsp : isS sp) {mem : Mem} {x : LSt ⊕ (LSt ⊕ Int32)} (h : f_law_762 L xs l3  sh sp mem = some x) (hP : P_law E κ ad ce sl b x) : Gw E κ 4 ce sl 762 [some (.ref b), some (.ref (ad 0)), some (.ref (ad 62)), some (.int l3)] [] ad (LC sh sp ++ LM) mem := by
  unfold f_law_762 at h
  refine g_aload_n (pc := 762) (i := 1) (x := ad 0) C dL_law_762 rfl rfl ?_
  refine g_aload_n (pc := 763) (i := 0) (x := b) C dL_law_763 rfl rfl ?_
  refine g_iload_n (pc := 764) (i := 3) (x := l3) C dL_law_764 rfl rfl ?_
  refine g_iconst (pc := 765) (v := 1) C dL_law_765 rfl ?_
  refine g_iadd (pc := 766) C dL_law_766 ?_
  obtain ⟨v767, hv767, hi767, h⟩ := rd_some h
  refine g_sld (pc := 767) C hX dL_law_767 hi767 ?_
  refine g_topi hv767 ?_
  refine g_aload_n (pc := 768) (i := 0) (x := b) C dL_law_768 rfl rfl ?_
  refine g_iload_n (pc := 769) (i := 3) (x := l3) C dL_law_769 rfl rfl ?_
  refine g_iconst (pc := 770) (v := 2) C dL_law_770 rfl ?_
  refine g_iadd (pc := 771) C dL_law_771 ?_
  obtain ⟨v772, hv772, hi772, h⟩ := rd_some h
  refine g_sld (pc := 772) C hX dL_law_772 hi772 ?_
  refine g_topi hv772 ?_
  refine g_aload_n (pc := 773) (i := 0) (x := b) C dL_law_773 rfl rfl ?_
  refine g_iload_n (pc := 774) (i := 3) (x := l3) C dL_law_774 rfl rfl ?_
  refine g_iconst (pc := 775) (v := 3) C dL_law_775 rfl ?_
  refine g_iadd (pc := 776) C dL_law_776 ?_
  obtain ⟨v777, hv777, hi777, h⟩ := rd_some h
  refine g_sld (pc := 777) C hX dL_law_777 hi777 ?_
  refine g_topi hv777 ?_
  refine g_aload_n (pc := 778) (i := 0) (x := b) C dL_law_778 rfl rfl ?_
  refine g_iload_n (pc := 779) (i := 3) (x := l3) C dL_law_779 rfl rfl ?_
  refine g_iconst (pc := 780) (v := 4) C dL_law_780 rfl ?_
  refine g_iadd (pc := 781) C dL_law_781 ?_
  obtain ⟨v782, hv782, hi782, h⟩ := rd_some h
  refine g_sld (pc := 782) C hX dL_law_782 hi782 ?_
  refine g_topi hv782 ?_
  obtain ⟨r783, m783, hcall783, h⟩ := ob2_some h
  refine g_callV (pc := 783) C hce mi_X6_chance mv_X6_chance wm_L_114 dL_law_783 ok_X6 [.int v767, .int v772, .int v777, .int v782] [] la_0 (by omega) rfl rfl (Nat.le_of_ble_eq_true rfl) (m_X6_chance (d := d - 1) (by omega) hsh hsp hcall783) ?_
  show Gw E κ 4 ce sl 786 [some (.ref b), some (.ref (ad 0)), some (.ref (ad 62)), some (.int l3)] [.int r783] ad (LC sh sp ++ LM) m783
  refine g_aload_n (pc := 786) (i := 2) (x := ad 62) C dL_law_786 rfl rfl ?_
  refine g_aload_n (pc := 787) (i := 0) (x := b) C dL_law_787 rfl rfl ?_
  refine g_iload_n (pc := 788) (i := 3) (x := l3) C dL_law_788 rfl rfl ?_
  refine g_iconst (pc := 789) (v := 1) C dL_law_789 rfl ?_
  refine g_iadd (pc := 790) C dL_law_790 ?_
  obtain ⟨v791, hv791, hi791, h⟩ := rd_some h
  refine g_sld (pc := 791) C hX dL_law_791 hi791 ?_
  refine g_topi hv791 ?_
  refine g_aload_n (pc := 792) (i := 0) (x := b) C dL_law_792 rfl rfl ?_
  refine g_iload_n (pc := 793) (i := 3) (x := l3) C dL_law_793 rfl rfl ?_
  refine g_iconst (pc := 794) (v := 2) C dL_law_794 rfl ?_
  refine g_iadd (pc := 795) C dL_law_795 ?_
  obtain ⟨v796, hv796, hi796, h⟩ := rd_some h
  refine g_sld (pc := 796) C hX dL_law_796 hi796 ?_
  refine g_topi hv796 ?_
  refine g_aload_n (pc := 797) (i := 0) (x := b) C dL_law_797 rfl rfl ?_
  refine g_iload_n (pc := 798) (i := 3) (x := l3) C dL_law_798 rfl rfl ?_
  refine g_iconst (pc := 799) (v := 3) C dL_law_799 rfl ?_
  refine g_iadd (pc := 800) C dL_law_800 ?_
  obtain ⟨v801, hv801, hi801, h⟩ := rd_some h
  refine g_sld (pc := 801) C hX dL_law_801 hi801 ?_
  refine g_topi hv801 ?_
  refine g_aload_n (pc := 802) (i := 0) (x := b) C dL_law_802 rfl rfl ?_
  refine g_iload_n (pc := 803) (i := 3) (x := l3) C dL_law_803 rfl rfl ?_
  refine g_iconst (pc := 804) (v := 4) C dL_law_804 rfl ?_
  refine g_iadd (pc := 805) C dL_law_805 ?_
  obtain ⟨v806, hv806, hi806, h⟩ := rd_some h
  refine g_sld (pc := 806) C hX dL_law_806 hi806 ?_
  refine g_topi hv806 ?_
  obtain ⟨r807, m807, hcall807, h⟩ := ob2_some h
  refine g_callV (pc := 807) C hce mi_X7_chance mv_X7_chance wm_L_118 dL_law_807 ok_X7 [.int v791, .int v796, .int v801, .int v806] [.int r783] la_62 (by omega) rfl rfl (Nat.le_of_ble_eq_true rfl) (m_X7_chance (d := d - 1) (by omega)  hcall807) ?_
  show Gw E κ 4 ce sl 810 [some (.ref b), some (.ref (ad 0)), some (.ref (ad 62)), some (.int l3)] [.int r807, .int r783] ad (LC sh sp ++ LM) m807
  rcases ite_some' h with ⟨hc810, h⟩ | ⟨hc810, h⟩
  · refine g_icmp_eq_t (pc := 810) C 907 dL_law_810 (by decide) hc810 ?_
    exact c_law_907 C hd hce hX hsh hsp h hP
  · refine g_icmp_eq_f (pc := 810) C 907 dL_law_810 (by decide) hc810 ?_
    refine g_iconst (pc := 813) (v := 0) C dL_law_813 rfl ?_
    cases h
    exact absurd (show (0 : Int32) = 1 from hP) (by decide)
set_option maxRecDepth 100000 in
set_option maxHeartbeats 4000000 in
theorem c_law_815 {E : Ex} {κ : Kx} {ad : Nat → Nat} {d ce sl b : Nat} {L : Nat} {xs : Nat → Int32} (C : Cx E κ cL_law RL 4 (some .boolean) d) (hd : 16 ≤ d) (hce : Ce κ ce sl) (hX : SX E κ b L xs) {l3 : Int32} {sh sp : Nat} (hsh : isS sh) (hsp : isS sp) {mem : Mem} {x : LSt ⊕ (LSt ⊕ Int32)} (h : f_law_815 L xs l3  sh sp mem = some x) (hP : P_law E κ ad ce sl b x) : Gw E κ 4 ce sl 815 [some (.ref b), some (.ref (ad 0)), some (.ref (ad 62)), some (.int l3)] [] ad (LC sh sp ++ LM) mem := by
  unfold f_law_815 at h
  refine g_aload_n (pc := 815) (i := 1) (x := ad 0) C dL_law_815 rfl rfl ?_
  refine g_aload_n (pc := 816) (i := 0) (x := b) C dL_law_816 rfl rfl ?_
  refine g_iload_n (pc := 817) (i := 3) (x := l3) C dL_law_817 rfl rfl ?_
  refine g_iconst (pc := 818) (v := 1) C dL_law_818 rfl ?_
  refine g_iadd (pc := 819) C dL_law_819 ?_
  obtain ⟨v820, hv820, hi820, h⟩ := rd_some h
  refine g_sld (pc := 820) C hX dL_law_820 hi820 ?_
  refine g_topi hv820 ?_
  refine g_aload_n (pc := 821) (i := 0) (x := b) C dL_law_821 rfl rfl ?_
  refine g_iload_n (pc := 822) (i := 3) (x := l3) C dL_law_822 rfl rfl ?_
  refine g_iconst (pc := 823) (v := 2) C dL_law_823 rfl ?_
  refine g_iadd (pc := 824) C dL_law_824 ?_
  obtain ⟨v825, hv825, hi825, h⟩ := rd_some h
  refine g_sld (pc := 825) C hX dL_law_825 hi825 ?_
  refine g_topi hv825 ?_
  refine g_aload_n (pc := 826) (i := 0) (x := b) C dL_law_826 rfl rfl ?_
  refine g_iload_n (pc := 827) (i := 3) (x := l3) C dL_law_827 rfl rfl ?_
  refine g_iconst (pc := 828) (v := 3) C dL_law_828 rfl ?_
  refine g_iadd (pc := 829) C dL_law_829 ?_
  obtain ⟨v830, hv830, hi830, h⟩ := rd_some h
  refine g_sld (pc := 830) C hX dL_law_830 hi830 ?_
  refine g_topi hv830 ?_
  obtain ⟨r831, m831, hcall831, h⟩ := ob2_some h
  refine g_callV (pc := 831) C hce mi_X6_weeks mv_X6_weeks wm_L_119 dL_law_831 ok_X6 [.int v820, .int v825, .int v830] [] la_0 (by omega) rfl rfl (Nat.le_of_ble_eq_true rfl) (m_X6_weeks (d := d - 1) (by omega) hsh hsp hcall831) ?_
  show Gw E κ 4 ce sl 834 [some (.ref b), some (.ref (ad 0)), some (.ref (ad 62)), some (.int l3)] [.int r831] ad (LC sh sp ++ LM) m831
  refine g_aload_n (pc := 834) (i := 2) (x := ad 62) C dL_law_834 rfl rfl ?_
  refine g_aload_n (pc := 835) (i := 0) (x := b) C dL_law_835 rfl rfl ?_
  refine g_iload_n (pc := 836) (i := 3) (x := l3) C dL_law_836 rfl rfl ?_
  refine g_iconst (pc := 837) (v := 1) C dL_law_837 rfl ?_
  refine g_iadd (pc := 838) C dL_law_838 ?_
  obtain ⟨v839, hv839, hi839, h⟩ := rd_some h
  refine g_sld (pc := 839) C hX dL_law_839 hi839 ?_
  refine g_topi hv839 ?_
  refine g_aload_n (pc := 840) (i := 0) (x := b) C dL_law_840 rfl rfl ?_
  refine g_iload_n (pc := 841) (i := 3) (x := l3) C dL_law_841 rfl rfl ?_
  refine g_iconst (pc := 842) (v := 2) C dL_law_842 rfl ?_
  refine g_iadd (pc := 843) C dL_law_843 ?_
  obtain ⟨v844, hv844, hi844, h⟩ := rd_some h
  refine g_sld (pc := 844) C hX dL_law_844 hi844 ?_
  refine g_topi hv844 ?_
  refine g_aload_n (pc := 845) (i := 0) (x := b) C dL_law_845 rfl rfl ?_
  refine g_iload_n (pc := 846) (i := 3) (x := l3) C dL_law_846 rfl rfl ?_
  refine g_iconst (pc := 847) (v := 3) C dL_law_847 rfl ?_
  refine g_iadd (pc := 848) C dL_law_848 ?_
  obtain ⟨v849, hv849, hi849, h⟩ := rd_some h
  refine g_sld (pc := 849) C hX dL_law_849 hi849 ?_
  refine g_topi hv849 ?_
  obtain ⟨r850, m850, hcall850, h⟩ := ob2_some h
  refine g_callV (pc := 850) C hce mi_X7_weeks mv_X7_weeks wm_L_122 dL_law_850 ok_X7 [.int v839, .int v844, .int v849] [.int r831] la_62 (by omega) rfl rfl (Nat.le_of_ble_eq_true rfl) (m_X7_weeks (d := d - 1) (by omega)  hcall850) ?_
  show Gw E κ 4 ce sl 853 [some (.ref b), some (.ref (ad 0)), some (.ref (ad 62)), some (.int l3)] [.int r850, .int r831] ad (LC sh sp ++ LM) m850
  rcases ite_some' h with ⟨hc853, h⟩ | ⟨hc853, h⟩
  · refine g_icmp_eq_t (pc := 853) C 907 dL_law_853 (by decide) hc853 ?_
    exact c_law_907 C hd hce hX hsh hsp h hP
  · refine g_icmp_eq_f (pc := 853) C 907 dL_law_853 (by decide) hc853 ?_
    refine g_iconst (pc := 856) (v := 0) C dL_law_856 rfl ?_
    cases h
    exact absurd (show (0 : Int32) = 1 from hP) (by decide)
set_option maxRecDepth 100000 in
set_option maxHeartbeats 4000000 in
theorem c_law_858 {E : Ex} {κ : Kx} {ad : Nat → Nat} {d ce sl b : Nat} {L : Nat} {xs : Nat → Int32} (C : Cx E κ cL_law RL 4 (some .boolean) d) (hd : 16 ≤ d) (hce : Ce κ ce sl) (hX : SX E κ b L xs) {l3 : Int32} {sh sp : Nat} (hsh : isS sh) (hsp : isS sp) {mem : Mem} {x : LSt ⊕ (LSt ⊕ Int32)} (h : f_law_858 L xs l3  sh sp mem = some x) (hP : P_law E κ ad ce sl b x) : Gw E κ 4 ce sl 858 [some (.ref b), some (.ref (ad 0)), some (.ref (ad 62)), some (.int l3)] [] ad (LC sh sp ++ LM) mem := by
  unfold f_law_858 at h
  refine g_aload_n (pc := 858) (i := 1) (x := ad 0) C dL_law_858 rfl rfl ?_
  obtain ⟨r859, m859, hcall859, h⟩ := ob2_some h
  refine g_callV (pc := 859) C hce mi_X6_keep mv_X6_keep wm_L_123 dL_law_859 ok_X6 [] [] la_0 (by omega) rfl rfl (Nat.le_of_ble_eq_true rfl) (m_X6_keep (d := d - 1) (by omega) hsh hsp hcall859) ?_
  show Gw E κ 4 ce sl 862 [some (.ref b), some (.ref (ad 0)), some (.ref (ad 62)), some (.int l3)] [.int r859] ad (LC sh sp ++ LM) m859
  refine g_aload_n (pc := 862) (i := 2) (x := ad 62) C dL_law_862 rfl rfl ?_
  obtain ⟨r863, m863, hcall863, h⟩ := ob2_some h
  refine g_callV (pc := 863) C hce mi_X7_keep mv_X7_keep wm_L_126 dL_law_863 ok_X7 [] [.int r859] la_62 (by omega) rfl rfl (Nat.le_of_ble_eq_true rfl) (m_X7_keep (d := d - 1) (by omega)  hcall863) ?_
  show Gw E κ 4 ce sl 866 [some (.ref b), some (.ref (ad 0)), some (.ref (ad 62)), some (.int l3)] [.int r863, .int r859] ad (LC sh sp ++ LM) m863
  rcases ite_some' h with ⟨hc866, h⟩ | ⟨hc866, h⟩
  · refine g_icmp_eq_t (pc := 866) C 907 dL_law_866 (by decide) hc866 ?_
    exact c_law_907 C hd hce hX hsh hsp h hP
  · refine g_icmp_eq_f (pc := 866) C 907 dL_law_866 (by decide) hc866 ?_
    refine g_iconst (pc := 869) (v := 0) C dL_law_869 rfl ?_
    cases h
    exact absurd (show (0 : Int32) = 1 from hP) (by decide)
set_option maxRecDepth 100000 in
set_option maxHeartbeats 4000000 in
theorem c_law_871 {E : Ex} {κ : Kx} {ad : Nat → Nat} {d ce sl b : Nat} {L : Nat} {xs : Nat → Int32} (C : Cx E κ cL_law RL 4 (some .boolean) d) (hd : 16 ≤ d) (hce : Ce κ ce sl) (hX : SX E κ b L xs) {l3 : Int32} {sh sp : Nat} (hsh : isS sh) (hsp : isS sp) {mem : Mem} {x : LSt ⊕ (LSt ⊕ Int32)} (h : f_law_871 L xs l3  sh sp mem = some x) (hP : P_law E κ ad ce sl b x) : Gw E κ 4 ce sl 871 [some (.ref b), some (.ref (ad 0)), some (.ref (ad 62)), some (.int l3)] [] ad (LC sh sp ++ LM) mem := by
  unfold f_law_871 at h
  refine g_aload_n (pc := 871) (i := 1) (x := ad 0) C dL_law_871 rfl rfl ?_
  obtain ⟨r872, m872, hcall872, h⟩ := ob2_some h
  refine g_callV (pc := 872) C hce mi_X6_back mv_X6_back wm_L_127 dL_law_872 ok_X6 [] [] la_0 (by omega) rfl rfl (Nat.le_of_ble_eq_true rfl) (m_X6_back (d := d - 1) (by omega) hsh hsp hcall872) ?_
  show Gw E κ 4 ce sl 875 [some (.ref b), some (.ref (ad 0)), some (.ref (ad 62)), some (.int l3)] [.int r872] ad (LC sh sp ++ LM) m872
  refine g_aload_n (pc := 875) (i := 2) (x := ad 62) C dL_law_875 rfl rfl ?_
  obtain ⟨r876, m876, hcall876, h⟩ := ob2_some h
  refine g_callV (pc := 876) C hce mi_X7_back mv_X7_back wm_L_130 dL_law_876 ok_X7 [] [.int r872] la_62 (by omega) rfl rfl (Nat.le_of_ble_eq_true rfl) (m_X7_back (d := d - 1) (by omega)  hcall876) ?_
  show Gw E κ 4 ce sl 879 [some (.ref b), some (.ref (ad 0)), some (.ref (ad 62)), some (.int l3)] [.int r876, .int r872] ad (LC sh sp ++ LM) m876
  rcases ite_some' h with ⟨hc879, h⟩ | ⟨hc879, h⟩
  · refine g_icmp_eq_t (pc := 879) C 907 dL_law_879 (by decide) hc879 ?_
    exact c_law_907 C hd hce hX hsh hsp h hP
  · refine g_icmp_eq_f (pc := 879) C 907 dL_law_879 (by decide) hc879 ?_
    refine g_iconst (pc := 882) (v := 0) C dL_law_882 rfl ?_
    cases h
    exact absurd (show (0 : Int32) = 1 from hP) (by decide)
set_option maxRecDepth 100000 in
set_option maxHeartbeats 4000000 in
theorem c_law_884 {E : Ex} {κ : Kx} {ad : Nat → Nat} {d ce sl b : Nat} {L : Nat} {xs : Nat → Int32} (C : Cx E κ cL_law RL 4 (some .boolean) d) (hd : 16 ≤ d) (hce : Ce κ ce sl) (hX : SX E κ b L xs) {l3 : Int32} {sh sp : Nat} (hsh : isS sh) (hsp : isS sp) {mem : Mem} {x : LSt ⊕ (LSt ⊕ Int32)} (h : f_law_884 L xs l3  sh sp mem = some x) (hP : P_law E κ ad ce sl b x) : Gw E κ 4 ce sl 884 [some (.ref b), some (.ref (ad 0)), some (.ref (ad 62)), some (.int l3)] [] ad (LC sh sp ++ LM) mem := by
  unfold f_law_884 at h
  refine g_aload_n (pc := 884) (i := 1) (x := ad 0) C dL_law_884 rfl rfl ?_
  refine g_aload_n (pc := 885) (i := 0) (x := b) C dL_law_885 rfl rfl ?_
  refine g_iload_n (pc := 886) (i := 3) (x := l3) C dL_law_886 rfl rfl ?_
  refine g_iconst (pc := 887) (v := 1) C dL_law_887 rfl ?_
  refine g_iadd (pc := 888) C dL_law_888 ?_
  obtain ⟨v889, hv889, hi889, h⟩ := rd_some h
  refine g_sld (pc := 889) C hX dL_law_889 hi889 ?_
  refine g_topi hv889 ?_
  obtain ⟨r890, hcall890, h⟩ := ob_some h
  refine g_callV (pc := 890) C hce mi_X6_count mv_X6_count wm_L_131 dL_law_890 ok_X6 [.int v889] [] la_0 (by omega) rfl rfl (Nat.le_of_ble_eq_true rfl) (m_X6_count (d := d - 1) (by omega) hsh hsp hcall890) ?_
  show Gw E κ 4 ce sl 893 [some (.ref b), some (.ref (ad 0)), some (.ref (ad 62)), some (.int l3)] [.int r890] ad (LC sh sp ++ LM) mem
  refine g_aload_n (pc := 893) (i := 2) (x := ad 62) C dL_law_893 rfl rfl ?_
  refine g_aload_n (pc := 894) (i := 0) (x := b) C dL_law_894 rfl rfl ?_
  refine g_iload_n (pc := 895) (i := 3) (x := l3) C dL_law_895 rfl rfl ?_
  refine g_iconst (pc := 896) (v := 1) C dL_law_896 rfl ?_
  refine g_iadd (pc := 897) C dL_law_897 ?_
  obtain ⟨v898, hv898, hi898, h⟩ := rd_some h
  refine g_sld (pc := 898) C hX dL_law_898 hi898 ?_
  refine g_topi hv898 ?_
  obtain ⟨r899, hcall899, h⟩ := ob_some h
  refine g_callV (pc := 899) C hce mi_X7_count mv_X7_count wm_L_134 dL_law_899 ok_X7 [.int v898] [.int r890] la_62 (by omega) rfl rfl (Nat.le_of_ble_eq_true rfl) (m_X7_count (d := d - 1) (by omega)  hcall899) ?_
  show Gw E κ 4 ce sl 902 [some (.ref b), some (.ref (ad 0)), some (.ref (ad 62)), some (.int l3)] [.int r899, .int r890] ad (LC sh sp ++ LM) mem
  rcases ite_some' h with ⟨hc902, h⟩ | ⟨hc902, h⟩
  · refine g_icmp_eq_t (pc := 902) C 907 dL_law_902 (by decide) hc902 ?_
    exact c_law_907 C hd hce hX hsh hsp h hP
  · refine g_icmp_eq_f (pc := 902) C 907 dL_law_902 (by decide) hc902 ?_
    refine g_iconst (pc := 905) (v := 0) C dL_law_905 rfl ?_
    cases h
    exact absurd (show (0 : Int32) = 1 from hP) (by decide)
set_option maxRecDepth 100000 in
set_option maxHeartbeats 4000000 in
theorem b_law {E : Ex} {κ : Kx} {ad : Nat → Nat} {d ce sl b : Nat} {L : Nat} {xs : Nat → Int32} (C : Cx E κ cL_law RL 4 (some .boolean) d) (hd : 16 ≤ d) (hce : Ce κ ce sl) (hX : SX E κ b L xs) {q : LSt} (hsh : isS q.2.1) (hsp : isS q.2.2.1) {x : LSt ⊕ (LSt ⊕ Int32)} (h : f_law_b L xs q = some x) (hP : P_law E κ ad ce sl b x) : Gw E κ 4 ce sl 18 [some (.ref b), some (.ref (ad 0)), some (.ref (ad 62)), some (.int q.1)] [] ad (LC q.2.1 q.2.2.1 ++ LM) q.2.2.2 := by
  unfold f_law_b at h
  refine g_iload_n (pc := 18) (i := 3) (x := q.1) C dL_law_18 rfl rfl ?_
  refine g_aload_n (pc := 19) (i := 0) (x := b) C dL_law_19 rfl rfl ?_
  refine g_slen (pc := 20) C hX dL_law_20 ?_
  refine g_iconst (pc := 21) (v := 5) C dL_law_21 rfl ?_
  refine g_isub (pc := 22) C dL_law_22 ?_
  rcases ite_some' h with ⟨hc23, h⟩ | ⟨hc23, h⟩
  · refine g_icmp_gt_t (pc := 23) C 913 dL_law_23 (by decide) hc23 ?_
    refine g_mask (lv' := [none, none, none, none]) [false, false, false, false] rfl ?_
    cases h
    exact hP
  · refine g_icmp_gt_f (pc := 23) C 913 dL_law_23 (by decide) hc23 ?_
    refine g_aload_n (pc := 26) (i := 0) (x := b) C dL_law_26 rfl rfl ?_
    refine g_iload_n (pc := 27) (i := 3) (x := q.1) C dL_law_27 rfl rfl ?_
    obtain ⟨v28, hv28, hi28, h⟩ := rd_some h
    refine g_sld (pc := 28) C hX dL_law_28 hi28 ?_
    refine g_topi hv28 ?_
    refine g_bipush (pc := 29) (v := 31) C dL_law_29 rfl ?_
    refine g_iand (pc := 31) C dL_law_31 ?_
    rcases ite_some' h with ⟨hc32_0, h⟩ | ⟨hc32_0, h⟩
    · refine g_tsw (pc := 32) (n := 0) C 0 164 hc32_0 rfl dL_law_32 (by decide) (by decide) rfl (by decide) ?_
      exact c_law_164 C hd hce hX hsh hsp h hP
    · skip
      rcases ite_some' h with ⟨hc32_1, h⟩ | ⟨hc32_1, h⟩
      · refine g_tsw (pc := 32) (n := 1) C 1 187 hc32_1 rfl dL_law_32 (by decide) (by decide) rfl (by decide) ?_
        exact c_law_187 C hd hce hX hsh hsp h hP
      · skip
        rcases ite_some' h with ⟨hc32_2, h⟩ | ⟨hc32_2, h⟩
        · refine g_tsw (pc := 32) (n := 2) C 2 200 hc32_2 rfl dL_law_32 (by decide) (by decide) rfl (by decide) ?_
          exact c_law_200 C hd hce hX hsh hsp h hP
        · skip
          rcases ite_some' h with ⟨hc32_3, h⟩ | ⟨hc32_3, h⟩
          · refine g_tsw (pc := 32) (n := 3) C 3 213 hc32_3 rfl dL_law_32 (by decide) (by decide) rfl (by decide) ?_
            exact c_law_213 C hd hce hX hsh hsp h hP
          · skip
            rcases ite_some' h with ⟨hc32_4, h⟩ | ⟨hc32_4, h⟩
            · refine g_tsw (pc := 32) (n := 4) C 4 226 hc32_4 rfl dL_law_32 (by decide) (by decide) rfl (by decide) ?_
              exact c_law_226 C hd hce hX hsh hsp h hP
            · skip
              rcases ite_some' h with ⟨hc32_5, h⟩ | ⟨hc32_5, h⟩
              · refine g_tsw (pc := 32) (n := 5) C 5 249 hc32_5 rfl dL_law_32 (by decide) (by decide) rfl (by decide) ?_
                exact c_law_249 C hd hce hX hsh hsp h hP
              · skip
                rcases ite_some' h with ⟨hc32_6, h⟩ | ⟨hc32_6, h⟩
                · refine g_tsw (pc := 32) (n := 6) C 6 282 hc32_6 rfl dL_law_32 (by decide) (by decide) rfl (by decide) ?_
                  exact c_law_282 C hd hce hX hsh hsp h hP
                · skip
                  rcases ite_some' h with ⟨hc32_7, h⟩ | ⟨hc32_7, h⟩
                  · refine g_tsw (pc := 32) (n := 7) C 7 315 hc32_7 rfl dL_law_32 (by decide) (by decide) rfl (by decide) ?_
                    exact c_law_315 C hd hce hX hsh hsp h hP
                  · skip
                    rcases ite_some' h with ⟨hc32_8, h⟩ | ⟨hc32_8, h⟩
                    · refine g_tsw (pc := 32) (n := 8) C 8 348 hc32_8 rfl dL_law_32 (by decide) (by decide) rfl (by decide) ?_
                      exact c_law_348 C hd hce hX hsh hsp h hP
                    · skip
                      rcases ite_some' h with ⟨hc32_9, h⟩ | ⟨hc32_9, h⟩
                      · refine g_tsw (pc := 32) (n := 9) C 9 361 hc32_9 rfl dL_law_32 (by decide) (by decide) rfl (by decide) ?_
                        exact c_law_361 C hd hce hX hsh hsp h hP
                      · skip
                        rcases ite_some' h with ⟨hc32_10, h⟩ | ⟨hc32_10, h⟩
                        · refine g_tsw (pc := 32) (n := 10) C 10 394 hc32_10 rfl dL_law_32 (by decide) (by decide) rfl (by decide) ?_
                          exact c_law_394 C hd hce hX hsh hsp h hP
                        · skip
                          rcases ite_some' h with ⟨hc32_11, h⟩ | ⟨hc32_11, h⟩
                          · refine g_tsw (pc := 32) (n := 11) C 11 417 hc32_11 rfl dL_law_32 (by decide) (by decide) rfl (by decide) ?_
                            exact c_law_417 C hd hce hX hsh hsp h hP
                          · skip
                            rcases ite_some' h with ⟨hc32_12, h⟩ | ⟨hc32_12, h⟩
                            · refine g_tsw (pc := 32) (n := 12) C 12 460 hc32_12 rfl dL_law_32 (by decide) (by decide) rfl (by decide) ?_
                              exact c_law_460 C hd hce hX hsh hsp h hP
                            · skip
                              rcases ite_some' h with ⟨hc32_13, h⟩ | ⟨hc32_13, h⟩
                              · refine g_tsw (pc := 32) (n := 13) C 13 473 hc32_13 rfl dL_law_32 (by decide) (by decide) rfl (by decide) ?_
                                exact c_law_473 C hd hce hX hsh hsp h hP
                              · skip
                                rcases ite_some' h with ⟨hc32_14, h⟩ | ⟨hc32_14, h⟩
                                · refine g_tsw (pc := 32) (n := 14) C 14 506 hc32_14 rfl dL_law_32 (by decide) (by decide) rfl (by decide) ?_
                                  exact c_law_506 C hd hce hX hsh hsp h hP
                                · skip
                                  rcases ite_some' h with ⟨hc32_15, h⟩ | ⟨hc32_15, h⟩
                                  · refine g_tsw (pc := 32) (n := 15) C 15 529 hc32_15 rfl dL_law_32 (by decide) (by decide) rfl (by decide) ?_
                                    exact c_law_529 C hd hce hX hsh hsp h hP
                                  · skip
                                    rcases ite_some' h with ⟨hc32_16, h⟩ | ⟨hc32_16, h⟩
                                    · refine g_tsw (pc := 32) (n := 16) C 16 552 hc32_16 rfl dL_law_32 (by decide) (by decide) rfl (by decide) ?_
                                      exact c_law_552 C hd hce hX hsh hsp h hP
                                    · skip
                                      rcases ite_some' h with ⟨hc32_17, h⟩ | ⟨hc32_17, h⟩
                                      · refine g_tsw (pc := 32) (n := 17) C 17 565 hc32_17 rfl dL_law_32 (by decide) (by decide) rfl (by decide) ?_
                                        exact c_law_565 C hd hce hX hsh hsp h hP
                                      · skip
                                        rcases ite_some' h with ⟨hc32_18, h⟩ | ⟨hc32_18, h⟩
                                        · refine g_tsw (pc := 32) (n := 18) C 18 578 hc32_18 rfl dL_law_32 (by decide) (by decide) rfl (by decide) ?_
                                          exact c_law_578 C hd hce hX hsh hsp h hP
                                        · skip
                                          rcases ite_some' h with ⟨hc32_19, h⟩ | ⟨hc32_19, h⟩
                                          · refine g_tsw (pc := 32) (n := 19) C 19 621 hc32_19 rfl dL_law_32 (by decide) (by decide) rfl (by decide) ?_
                                            exact c_law_621 C hd hce hX hsh hsp h hP
                                          · skip
                                            rcases ite_some' h with ⟨hc32_20, h⟩ | ⟨hc32_20, h⟩
                                            · refine g_tsw (pc := 32) (n := 20) C 20 654 hc32_20 rfl dL_law_32 (by decide) (by decide) rfl (by decide) ?_
                                              exact c_law_654 C hd hce hX hsh hsp h hP
                                            · skip
                                              rcases ite_some' h with ⟨hc32_21, h⟩ | ⟨hc32_21, h⟩
                                              · refine g_tsw (pc := 32) (n := 21) C 21 703 hc32_21 rfl dL_law_32 (by decide) (by decide) rfl (by decide) ?_
                                                exact c_law_703 C hd hce hX hsh hsp h hP
                                              · skip
                                                rcases ite_some' h with ⟨hc32_22, h⟩ | ⟨hc32_22, h⟩
                                                · refine g_tsw (pc := 32) (n := 22) C 22 716 hc32_22 rfl dL_law_32 (by decide) (by decide) rfl (by decide) ?_
                                                  exact c_law_716 C hd hce hX hsh hsp h hP
                                                · skip
                                                  rcases ite_some' h with ⟨hc32_23, h⟩ | ⟨hc32_23, h⟩
                                                  · refine g_tsw (pc := 32) (n := 23) C 23 739 hc32_23 rfl dL_law_32 (by decide) (by decide) rfl (by decide) ?_
                                                    exact c_law_739 C hd hce hX hsh hsp h hP
                                                  · skip
                                                    rcases ite_some' h with ⟨hc32_24, h⟩ | ⟨hc32_24, h⟩
                                                    · refine g_tsw (pc := 32) (n := 24) C 24 762 hc32_24 rfl dL_law_32 (by decide) (by decide) rfl (by decide) ?_
                                                      exact c_law_762 C hd hce hX hsh hsp h hP
                                                    · skip
                                                      rcases ite_some' h with ⟨hc32_25, h⟩ | ⟨hc32_25, h⟩
                                                      · refine g_tsw (pc := 32) (n := 25) C 25 815 hc32_25 rfl dL_law_32 (by decide) (by decide) rfl (by decide) ?_
                                                        exact c_law_815 C hd hce hX hsh hsp h hP
                                                      · skip
                                                        rcases ite_some' h with ⟨hc32_26, h⟩ | ⟨hc32_26, h⟩
                                                        · refine g_tsw (pc := 32) (n := 26) C 26 858 hc32_26 rfl dL_law_32 (by decide) (by decide) rfl (by decide) ?_
                                                          exact c_law_858 C hd hce hX hsh hsp h hP
                                                        · skip
                                                          rcases ite_some' h with ⟨hc32_27, h⟩ | ⟨hc32_27, h⟩
                                                          · refine g_tsw (pc := 32) (n := 27) C 27 871 hc32_27 rfl dL_law_32 (by decide) (by decide) rfl (by decide) ?_
                                                            exact c_law_871 C hd hce hX hsh hsp h hP
                                                          · skip
                                                            rcases ite_some' h with ⟨hc32_28, h⟩ | ⟨hc32_28, h⟩
                                                            · refine g_tsw (pc := 32) (n := 28) C 28 884 hc32_28 rfl dL_law_32 (by decide) (by decide) rfl (by decide) ?_
                                                              exact c_law_884 C hd hce hX hsh hsp h hP
                                                            · skip
                                                              refine g_tswD (pc := 32) C 907 dL_law_32 (by have z0 := i32_ne 0 hc32_0 (n := 0) rfl; have z1 := i32_ne 1 hc32_1 (n := 1) rfl; have z2 := i32_ne 2 hc32_2 (n := 2) rfl; have z3 := i32_ne 3 hc32_3 (n := 3) rfl; have z4 := i32_ne 4 hc32_4 (n := 4) rfl; have z5 := i32_ne 5 hc32_5 (n := 5) rfl; have z6 := i32_ne 6 hc32_6 (n := 6) rfl; have z7 := i32_ne 7 hc32_7 (n := 7) rfl; have z8 := i32_ne 8 hc32_8 (n := 8) rfl; have z9 := i32_ne 9 hc32_9 (n := 9) rfl; have z10 := i32_ne 10 hc32_10 (n := 10) rfl; have z11 := i32_ne 11 hc32_11 (n := 11) rfl; have z12 := i32_ne 12 hc32_12 (n := 12) rfl; have z13 := i32_ne 13 hc32_13 (n := 13) rfl; have z14 := i32_ne 14 hc32_14 (n := 14) rfl; have z15 := i32_ne 15 hc32_15 (n := 15) rfl; have z16 := i32_ne 16 hc32_16 (n := 16) rfl; have z17 := i32_ne 17 hc32_17 (n := 17) rfl; have z18 := i32_ne 18 hc32_18 (n := 18) rfl; have z19 := i32_ne 19 hc32_19 (n := 19) rfl; have z20 := i32_ne 20 hc32_20 (n := 20) rfl; have z21 := i32_ne 21 hc32_21 (n := 21) rfl; have z22 := i32_ne 22 hc32_22 (n := 22) rfl; have z23 := i32_ne 23 hc32_23 (n := 23) rfl; have z24 := i32_ne 24 hc32_24 (n := 24) rfl; have z25 := i32_ne 25 hc32_25 (n := 25) rfl; have z26 := i32_ne 26 hc32_26 (n := 26) rfl; have z27 := i32_ne 27 hc32_27 (n := 27) rfl; have z28 := i32_ne 28 hc32_28 (n := 28) rfl; omega) (by decide) ?_
                                                              exact c_law_907 C hd hce hX hsh hsp h hP
