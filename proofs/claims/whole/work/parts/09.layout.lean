/-! the layout behind the two constructors: entries 0 .. 61 are the class's, 62 .. 89 the reference's (made by gen.py) -/
def LC (sh sp : Nat) : List Ent := [.inr (6, [some 1, some sh, some sp, some 31, some 35, some 39, some 44, some 52, some 56, some 60, some 61, none]), .inr (2, [some 2, none, none]), .inl (false, 200), .inr (5, [none, none, some 4, none, some 5, some 6, some 7, none, some 8, some 9, some 10, some 11, none, some 12, some 13]), .inl (true, 16), .inl (false, 8), .inl (false, 32), .inl (true, 8), .inl (false, 9), .inl (false, 9), .inl (false, 5), .inl (false, 28), .inl (false, 6), .inr (0, [some 14, some 15, some 16]), .inl (false, 16), .inl (false, 6), .inl (false, 6), .inr (5, [none, none, some 18, none, some 19, some 20, some 21, none, some 22, some 23, some 24, some 25, none, some 26, some 27]), .inl (true, 16), .inl (false, 8), .inl (false, 32), .inl (true, 8), .inl (false, 9), .inl (false, 9), .inl (false, 5), .inl (false, 28), .inl (false, 6), .inr (0, [some 28, some 29, some 30]), .inl (false, 16), .inl (false, 6), .inl (false, 6), .inr (0, [some 32, some 33, some 34]), .inl (false, 16), .inl (false, 6), .inl (false, 6), .inr (0, [some 36, some 37, some 38]), .inl (false, 16), .inl (false, 6), .inl (false, 6), .inr (3, [some 40, some 41, some 42, some 43]), .inl (false, 6), .inl (false, 6), .inl (true, 6), .inl (true, 6), .inr (4, [some 45, some 49, some 50, some 51, none, none]), .inr (0, [some 46, some 47, some 48]), .inl (false, 16), .inl (false, 6), .inl (false, 6), .inl (false, 8), .inl (false, 8), .inl (false, 16), .inr (1, [none, some 53, some 54, some 55, none]), .inl (false, 128), .inl (false, 48), .inl (false, 48), .inr (1, [none, some 57, some 58, some 59, none]), .inl (false, 32), .inl (false, 12), .inl (false, 12), .inl (false, 6), .inl (true, 6)]
def LM : List Ent := [.inr (7, [none, some 63, none, none, none, none, none, none, some 64, some 65, some 66, some 67, some 68, some 69, none, none, none, none, none, some 70, some 71, some 72, some 73, some 74, some 75, some 76, some 77, some 78, some 79, some 80, some 81, none, none, some 82, some 83, some 84, some 85, some 86, none, none, none, some 87, some 88, none, some 89]), .inl (false, 200), .inl (false, 16), .inl (false, 16), .inl (false, 9), .inl (false, 36), .inl (false, 18), .inl (false, 4), .inl (false, 16), .inl (false, 9), .inl (false, 36), .inl (false, 6), .inl (false, 8), .inl (false, 8), .inl (false, 8), .inl (false, 28), .inl (false, 28), .inl (false, 6), .inl (false, 72), .inl (true, 72), .inl (false, 224), .inl (false, 144), .inl (false, 8), .inl (false, 8), .inl (false, 16), .inl (false, 6), .inl (true, 6), .inl (false, 56)]
theorem la_0 {sh sp : Nat} {tl : List Ent} : (LC sh sp ++ tl)[0]? = some (.inr (6, [some 1, some sh, some sp, some 31, some 35, some 39, some 44, some 52, some 56, some 60, some 61, none])) := rfl
theorem la_1 {sh sp : Nat} {tl : List Ent} : (LC sh sp ++ tl)[1]? = some (.inr (2, [some 2, none, none])) := rfl
theorem la_2 {sh sp : Nat} {tl : List Ent} : (LC sh sp ++ tl)[2]? = some (.inl (false, 200)) := rfl
theorem la_3 {sh sp : Nat} {tl : List Ent} : (LC sh sp ++ tl)[3]? = some (.inr (5, [none, none, some 4, none, some 5, some 6, some 7, none, some 8, some 9, some 10, some 11, none, some 12, some 13])) := rfl
theorem la_4 {sh sp : Nat} {tl : List Ent} : (LC sh sp ++ tl)[4]? = some (.inl (true, 16)) := rfl
theorem la_5 {sh sp : Nat} {tl : List Ent} : (LC sh sp ++ tl)[5]? = some (.inl (false, 8)) := rfl
theorem la_6 {sh sp : Nat} {tl : List Ent} : (LC sh sp ++ tl)[6]? = some (.inl (false, 32)) := rfl
theorem la_7 {sh sp : Nat} {tl : List Ent} : (LC sh sp ++ tl)[7]? = some (.inl (true, 8)) := rfl
theorem la_8 {sh sp : Nat} {tl : List Ent} : (LC sh sp ++ tl)[8]? = some (.inl (false, 9)) := rfl
theorem la_9 {sh sp : Nat} {tl : List Ent} : (LC sh sp ++ tl)[9]? = some (.inl (false, 9)) := rfl
theorem la_10 {sh sp : Nat} {tl : List Ent} : (LC sh sp ++ tl)[10]? = some (.inl (false, 5)) := rfl
theorem la_11 {sh sp : Nat} {tl : List Ent} : (LC sh sp ++ tl)[11]? = some (.inl (false, 28)) := rfl
theorem la_12 {sh sp : Nat} {tl : List Ent} : (LC sh sp ++ tl)[12]? = some (.inl (false, 6)) := rfl
theorem la_13 {sh sp : Nat} {tl : List Ent} : (LC sh sp ++ tl)[13]? = some (.inr (0, [some 14, some 15, some 16])) := rfl
theorem la_14 {sh sp : Nat} {tl : List Ent} : (LC sh sp ++ tl)[14]? = some (.inl (false, 16)) := rfl
theorem la_15 {sh sp : Nat} {tl : List Ent} : (LC sh sp ++ tl)[15]? = some (.inl (false, 6)) := rfl
theorem la_16 {sh sp : Nat} {tl : List Ent} : (LC sh sp ++ tl)[16]? = some (.inl (false, 6)) := rfl
theorem la_17 {sh sp : Nat} {tl : List Ent} : (LC sh sp ++ tl)[17]? = some (.inr (5, [none, none, some 18, none, some 19, some 20, some 21, none, some 22, some 23, some 24, some 25, none, some 26, some 27])) := rfl
theorem la_18 {sh sp : Nat} {tl : List Ent} : (LC sh sp ++ tl)[18]? = some (.inl (true, 16)) := rfl
theorem la_19 {sh sp : Nat} {tl : List Ent} : (LC sh sp ++ tl)[19]? = some (.inl (false, 8)) := rfl
theorem la_20 {sh sp : Nat} {tl : List Ent} : (LC sh sp ++ tl)[20]? = some (.inl (false, 32)) := rfl
theorem la_21 {sh sp : Nat} {tl : List Ent} : (LC sh sp ++ tl)[21]? = some (.inl (true, 8)) := rfl
theorem la_22 {sh sp : Nat} {tl : List Ent} : (LC sh sp ++ tl)[22]? = some (.inl (false, 9)) := rfl
theorem la_23 {sh sp : Nat} {tl : List Ent} : (LC sh sp ++ tl)[23]? = some (.inl (false, 9)) := rfl
theorem la_24 {sh sp : Nat} {tl : List Ent} : (LC sh sp ++ tl)[24]? = some (.inl (false, 5)) := rfl
theorem la_25 {sh sp : Nat} {tl : List Ent} : (LC sh sp ++ tl)[25]? = some (.inl (false, 28)) := rfl
theorem la_26 {sh sp : Nat} {tl : List Ent} : (LC sh sp ++ tl)[26]? = some (.inl (false, 6)) := rfl
theorem la_27 {sh sp : Nat} {tl : List Ent} : (LC sh sp ++ tl)[27]? = some (.inr (0, [some 28, some 29, some 30])) := rfl
theorem la_28 {sh sp : Nat} {tl : List Ent} : (LC sh sp ++ tl)[28]? = some (.inl (false, 16)) := rfl
theorem la_29 {sh sp : Nat} {tl : List Ent} : (LC sh sp ++ tl)[29]? = some (.inl (false, 6)) := rfl
theorem la_30 {sh sp : Nat} {tl : List Ent} : (LC sh sp ++ tl)[30]? = some (.inl (false, 6)) := rfl
theorem la_31 {sh sp : Nat} {tl : List Ent} : (LC sh sp ++ tl)[31]? = some (.inr (0, [some 32, some 33, some 34])) := rfl
theorem la_32 {sh sp : Nat} {tl : List Ent} : (LC sh sp ++ tl)[32]? = some (.inl (false, 16)) := rfl
theorem la_33 {sh sp : Nat} {tl : List Ent} : (LC sh sp ++ tl)[33]? = some (.inl (false, 6)) := rfl
theorem la_34 {sh sp : Nat} {tl : List Ent} : (LC sh sp ++ tl)[34]? = some (.inl (false, 6)) := rfl
theorem la_35 {sh sp : Nat} {tl : List Ent} : (LC sh sp ++ tl)[35]? = some (.inr (0, [some 36, some 37, some 38])) := rfl
theorem la_36 {sh sp : Nat} {tl : List Ent} : (LC sh sp ++ tl)[36]? = some (.inl (false, 16)) := rfl
theorem la_37 {sh sp : Nat} {tl : List Ent} : (LC sh sp ++ tl)[37]? = some (.inl (false, 6)) := rfl
theorem la_38 {sh sp : Nat} {tl : List Ent} : (LC sh sp ++ tl)[38]? = some (.inl (false, 6)) := rfl
theorem la_39 {sh sp : Nat} {tl : List Ent} : (LC sh sp ++ tl)[39]? = some (.inr (3, [some 40, some 41, some 42, some 43])) := rfl
theorem la_40 {sh sp : Nat} {tl : List Ent} : (LC sh sp ++ tl)[40]? = some (.inl (false, 6)) := rfl
theorem la_41 {sh sp : Nat} {tl : List Ent} : (LC sh sp ++ tl)[41]? = some (.inl (false, 6)) := rfl
theorem la_42 {sh sp : Nat} {tl : List Ent} : (LC sh sp ++ tl)[42]? = some (.inl (true, 6)) := rfl
theorem la_43 {sh sp : Nat} {tl : List Ent} : (LC sh sp ++ tl)[43]? = some (.inl (true, 6)) := rfl
theorem la_44 {sh sp : Nat} {tl : List Ent} : (LC sh sp ++ tl)[44]? = some (.inr (4, [some 45, some 49, some 50, some 51, none, none])) := rfl
theorem la_45 {sh sp : Nat} {tl : List Ent} : (LC sh sp ++ tl)[45]? = some (.inr (0, [some 46, some 47, some 48])) := rfl
theorem la_46 {sh sp : Nat} {tl : List Ent} : (LC sh sp ++ tl)[46]? = some (.inl (false, 16)) := rfl
theorem la_47 {sh sp : Nat} {tl : List Ent} : (LC sh sp ++ tl)[47]? = some (.inl (false, 6)) := rfl
theorem la_48 {sh sp : Nat} {tl : List Ent} : (LC sh sp ++ tl)[48]? = some (.inl (false, 6)) := rfl
theorem la_49 {sh sp : Nat} {tl : List Ent} : (LC sh sp ++ tl)[49]? = some (.inl (false, 8)) := rfl
theorem la_50 {sh sp : Nat} {tl : List Ent} : (LC sh sp ++ tl)[50]? = some (.inl (false, 8)) := rfl
theorem la_51 {sh sp : Nat} {tl : List Ent} : (LC sh sp ++ tl)[51]? = some (.inl (false, 16)) := rfl
theorem la_52 {sh sp : Nat} {tl : List Ent} : (LC sh sp ++ tl)[52]? = some (.inr (1, [none, some 53, some 54, some 55, none])) := rfl
theorem la_53 {sh sp : Nat} {tl : List Ent} : (LC sh sp ++ tl)[53]? = some (.inl (false, 128)) := rfl
theorem la_54 {sh sp : Nat} {tl : List Ent} : (LC sh sp ++ tl)[54]? = some (.inl (false, 48)) := rfl
theorem la_55 {sh sp : Nat} {tl : List Ent} : (LC sh sp ++ tl)[55]? = some (.inl (false, 48)) := rfl
theorem la_56 {sh sp : Nat} {tl : List Ent} : (LC sh sp ++ tl)[56]? = some (.inr (1, [none, some 57, some 58, some 59, none])) := rfl
theorem la_57 {sh sp : Nat} {tl : List Ent} : (LC sh sp ++ tl)[57]? = some (.inl (false, 32)) := rfl
theorem la_58 {sh sp : Nat} {tl : List Ent} : (LC sh sp ++ tl)[58]? = some (.inl (false, 12)) := rfl
theorem la_59 {sh sp : Nat} {tl : List Ent} : (LC sh sp ++ tl)[59]? = some (.inl (false, 12)) := rfl
theorem la_60 {sh sp : Nat} {tl : List Ent} : (LC sh sp ++ tl)[60]? = some (.inl (false, 6)) := rfl
theorem la_61 {sh sp : Nat} {tl : List Ent} : (LC sh sp ++ tl)[61]? = some (.inl (true, 6)) := rfl
theorem la_62 {sh sp : Nat} : (LC sh sp ++ LM)[62]? = some (.inr (7, [none, some 63, none, none, none, none, none, none, some 64, some 65, some 66, some 67, some 68, some 69, none, none, none, none, none, some 70, some 71, some 72, some 73, some 74, some 75, some 76, some 77, some 78, some 79, some 80, some 81, none, none, some 82, some 83, some 84, some 85, some 86, none, none, none, some 87, some 88, none, some 89])) := rfl
theorem la_63 {sh sp : Nat} : (LC sh sp ++ LM)[63]? = some (.inl (false, 200)) := rfl
theorem la_64 {sh sp : Nat} : (LC sh sp ++ LM)[64]? = some (.inl (false, 16)) := rfl
theorem la_65 {sh sp : Nat} : (LC sh sp ++ LM)[65]? = some (.inl (false, 16)) := rfl
theorem la_66 {sh sp : Nat} : (LC sh sp ++ LM)[66]? = some (.inl (false, 9)) := rfl
theorem la_67 {sh sp : Nat} : (LC sh sp ++ LM)[67]? = some (.inl (false, 36)) := rfl
theorem la_68 {sh sp : Nat} : (LC sh sp ++ LM)[68]? = some (.inl (false, 18)) := rfl
theorem la_69 {sh sp : Nat} : (LC sh sp ++ LM)[69]? = some (.inl (false, 4)) := rfl
theorem la_70 {sh sp : Nat} : (LC sh sp ++ LM)[70]? = some (.inl (false, 16)) := rfl
theorem la_71 {sh sp : Nat} : (LC sh sp ++ LM)[71]? = some (.inl (false, 9)) := rfl
theorem la_72 {sh sp : Nat} : (LC sh sp ++ LM)[72]? = some (.inl (false, 36)) := rfl
theorem la_73 {sh sp : Nat} : (LC sh sp ++ LM)[73]? = some (.inl (false, 6)) := rfl
theorem la_74 {sh sp : Nat} : (LC sh sp ++ LM)[74]? = some (.inl (false, 8)) := rfl
theorem la_75 {sh sp : Nat} : (LC sh sp ++ LM)[75]? = some (.inl (false, 8)) := rfl
theorem la_76 {sh sp : Nat} : (LC sh sp ++ LM)[76]? = some (.inl (false, 8)) := rfl
theorem la_77 {sh sp : Nat} : (LC sh sp ++ LM)[77]? = some (.inl (false, 28)) := rfl
theorem la_78 {sh sp : Nat} : (LC sh sp ++ LM)[78]? = some (.inl (false, 28)) := rfl
theorem la_79 {sh sp : Nat} : (LC sh sp ++ LM)[79]? = some (.inl (false, 6)) := rfl
theorem la_80 {sh sp : Nat} : (LC sh sp ++ LM)[80]? = some (.inl (false, 72)) := rfl
theorem la_81 {sh sp : Nat} : (LC sh sp ++ LM)[81]? = some (.inl (true, 72)) := rfl
theorem la_82 {sh sp : Nat} : (LC sh sp ++ LM)[82]? = some (.inl (false, 224)) := rfl
theorem la_83 {sh sp : Nat} : (LC sh sp ++ LM)[83]? = some (.inl (false, 144)) := rfl
theorem la_84 {sh sp : Nat} : (LC sh sp ++ LM)[84]? = some (.inl (false, 8)) := rfl
theorem la_85 {sh sp : Nat} : (LC sh sp ++ LM)[85]? = some (.inl (false, 8)) := rfl
theorem la_86 {sh sp : Nat} : (LC sh sp ++ LM)[86]? = some (.inl (false, 16)) := rfl
theorem la_87 {sh sp : Nat} : (LC sh sp ++ LM)[87]? = some (.inl (false, 6)) := rfl
theorem la_88 {sh sp : Nat} : (LC sh sp ++ LM)[88]? = some (.inl (true, 6)) := rfl
theorem la_89 {sh sp : Nat} : (LC sh sp ++ LM)[89]? = some (.inl (false, 56)) := rfl
def isS (s : Nat) : Prop := s = 3 ∨ s = 17
def isT (t : Nat) : Prop := t = 13 ∨ t = 27 ∨ t = 31 ∨ t = 35 ∨ t = 45
def isO (o : Nat) : Prop := o = 77 ∨ o = 78
theorem lz_0 {sh sp s : Nat} {tl : List Ent} (h : isS s) : (LC sh sp ++ tl)[s]? = some (.inr (5, [none, none, some (s + 1), none, some (s + 2), some (s + 3), some (s + 4), none, some (s + 5), some (s + 6), some (s + 7), some (s + 8), none, some (s + 9), some (s + 10)])) := by rcases h with rfl | rfl <;> rfl
theorem lz_1 {sh sp s : Nat} {tl : List Ent} (h : isS s) : (LC sh sp ++ tl)[s + 1]? = some (.inl (true, 16)) := by rcases h with rfl | rfl <;> rfl
theorem lz_2 {sh sp s : Nat} {tl : List Ent} (h : isS s) : (LC sh sp ++ tl)[s + 2]? = some (.inl (false, 8)) := by rcases h with rfl | rfl <;> rfl
theorem lz_3 {sh sp s : Nat} {tl : List Ent} (h : isS s) : (LC sh sp ++ tl)[s + 3]? = some (.inl (false, 32)) := by rcases h with rfl | rfl <;> rfl
theorem lz_4 {sh sp s : Nat} {tl : List Ent} (h : isS s) : (LC sh sp ++ tl)[s + 4]? = some (.inl (true, 8)) := by rcases h with rfl | rfl <;> rfl
theorem lz_5 {sh sp s : Nat} {tl : List Ent} (h : isS s) : (LC sh sp ++ tl)[s + 5]? = some (.inl (false, 9)) := by rcases h with rfl | rfl <;> rfl
theorem lz_6 {sh sp s : Nat} {tl : List Ent} (h : isS s) : (LC sh sp ++ tl)[s + 6]? = some (.inl (false, 9)) := by rcases h with rfl | rfl <;> rfl
theorem lz_7 {sh sp s : Nat} {tl : List Ent} (h : isS s) : (LC sh sp ++ tl)[s + 7]? = some (.inl (false, 5)) := by rcases h with rfl | rfl <;> rfl
theorem lz_8 {sh sp s : Nat} {tl : List Ent} (h : isS s) : (LC sh sp ++ tl)[s + 8]? = some (.inl (false, 28)) := by rcases h with rfl | rfl <;> rfl
theorem lz_9 {sh sp s : Nat} {tl : List Ent} (h : isS s) : (LC sh sp ++ tl)[s + 9]? = some (.inl (false, 6)) := by rcases h with rfl | rfl <;> rfl
theorem lz_10 {sh sp s : Nat} {tl : List Ent} (h : isS s) : (LC sh sp ++ tl)[s + 10]? = some (.inr (0, [some (s + 11), some (s + 12), some (s + 13)])) := by rcases h with rfl | rfl <;> rfl
theorem lz_11 {sh sp s : Nat} {tl : List Ent} (h : isS s) : (LC sh sp ++ tl)[s + 11]? = some (.inl (false, 16)) := by rcases h with rfl | rfl <;> rfl
theorem lz_12 {sh sp s : Nat} {tl : List Ent} (h : isS s) : (LC sh sp ++ tl)[s + 12]? = some (.inl (false, 6)) := by rcases h with rfl | rfl <;> rfl
theorem lz_13 {sh sp s : Nat} {tl : List Ent} (h : isS s) : (LC sh sp ++ tl)[s + 13]? = some (.inl (false, 6)) := by rcases h with rfl | rfl <;> rfl
theorem ly_0 {sh sp t : Nat} {tl : List Ent} (h : isT t) : (LC sh sp ++ tl)[t]? = some (.inr (0, [some (t + 1), some (t + 2), some (t + 3)])) := by rcases h with rfl | rfl | rfl | rfl | rfl <;> rfl
theorem ly_1 {sh sp t : Nat} {tl : List Ent} (h : isT t) : (LC sh sp ++ tl)[t + 1]? = some (.inl (false, 16)) := by rcases h with rfl | rfl | rfl | rfl | rfl <;> rfl
theorem ly_2 {sh sp t : Nat} {tl : List Ent} (h : isT t) : (LC sh sp ++ tl)[t + 2]? = some (.inl (false, 6)) := by rcases h with rfl | rfl | rfl | rfl | rfl <;> rfl
theorem ly_3 {sh sp t : Nat} {tl : List Ent} (h : isT t) : (LC sh sp ++ tl)[t + 3]? = some (.inl (false, 6)) := by rcases h with rfl | rfl | rfl | rfl | rfl <;> rfl
theorem lq_0 {sh sp o : Nat} (h : isO o) : (LC sh sp ++ LM)[o]? = some (.inl (false, 28)) := by rcases h with rfl | rfl <;> rfl
theorem tS {s : Nat} (h : isS s) : isT (s + 10) := by rcases h with rfl | rfl <;> simp [isT]
theorem t_13 : isT 13 := by simp [isT]
theorem t_27 : isT 27 := by simp [isT]
theorem t_31 : isT 31 := by simp [isT]
theorem t_35 : isT 35 := by simp [isT]
theorem t_45 : isT 45 := by simp [isT]
theorem o_77 : isO 77 := Or.inl rfl
theorem o_78 : isO 78 := Or.inr rfl
