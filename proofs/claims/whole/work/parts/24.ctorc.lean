def Y_0 : List Ent := [.inr (6, [none, none, none, none, none, none, none, none, none, none, none, none])]
def Y_1 : List Ent := [.inr (6, [none, none, none, none, none, none, none, none, none, none, none, none]), .inr (2, [none, none, none])]
def Y_2 : List Ent := [.inr (6, [none, none, none, none, none, none, none, none, none, none, none, none]), .inr (2, [some 2, none, none]), .inl (false, 200)]
def Y_3 : List Ent := [.inr (6, [some 1, none, none, none, none, none, none, none, none, none, none, none]), .inr (2, [some 2, none, none]), .inl (false, 200), .inr (5, [none, none, none, none, none, none, none, none, none, none, none, none, none, none, none])]
def Y_4 : List Ent := [.inr (6, [some 1, none, none, none, none, none, none, none, none, none, none, none]), .inr (2, [some 2, none, none]), .inl (false, 200), .inr (5, [none, none, some 4, none, some 5, some 6, some 7, none, some 8, some 9, some 10, some 11, none, some 12, none]), .inl (true, 16), .inl (false, 8), .inl (false, 32), .inl (true, 8), .inl (false, 9), .inl (false, 9), .inl (false, 5), .inl (false, 28), .inl (false, 6), .inr (0, [none, none, none])]
def Y_5 : List Ent := [.inr (6, [some 1, none, none, none, none, none, none, none, none, none, none, none]), .inr (2, [some 2, none, none]), .inl (false, 200), .inr (5, [none, none, some 4, none, some 5, some 6, some 7, none, some 8, some 9, some 10, some 11, none, some 12, none]), .inl (true, 16), .inl (false, 8), .inl (false, 32), .inl (true, 8), .inl (false, 9), .inl (false, 9), .inl (false, 5), .inl (false, 28), .inl (false, 6), .inr (0, [some 14, some 15, some 16]), .inl (false, 16), .inl (false, 6), .inl (false, 6)]
def Y_6 : List Ent := [.inr (6, [some 1, none, none, none, none, none, none, none, none, none, none, none]), .inr (2, [some 2, none, none]), .inl (false, 200), .inr (5, [none, none, some 4, none, some 5, some 6, some 7, none, some 8, some 9, some 10, some 11, none, some 12, some 13]), .inl (true, 16), .inl (false, 8), .inl (false, 32), .inl (true, 8), .inl (false, 9), .inl (false, 9), .inl (false, 5), .inl (false, 28), .inl (false, 6), .inr (0, [some 14, some 15, some 16]), .inl (false, 16), .inl (false, 6), .inl (false, 6)]
def Y_7 : List Ent := [.inr (6, [some 1, some 3, none, none, none, none, none, none, none, none, none, none]), .inr (2, [some 2, none, none]), .inl (false, 200), .inr (5, [none, none, some 4, none, some 5, some 6, some 7, none, some 8, some 9, some 10, some 11, none, some 12, some 13]), .inl (true, 16), .inl (false, 8), .inl (false, 32), .inl (true, 8), .inl (false, 9), .inl (false, 9), .inl (false, 5), .inl (false, 28), .inl (false, 6), .inr (0, [some 14, some 15, some 16]), .inl (false, 16), .inl (false, 6), .inl (false, 6), .inr (5, [none, none, none, none, none, none, none, none, none, none, none, none, none, none, none])]
def Y_8 : List Ent := [.inr (6, [some 1, some 3, none, none, none, none, none, none, none, none, none, none]), .inr (2, [some 2, none, none]), .inl (false, 200), .inr (5, [none, none, some 4, none, some 5, some 6, some 7, none, some 8, some 9, some 10, some 11, none, some 12, some 13]), .inl (true, 16), .inl (false, 8), .inl (false, 32), .inl (true, 8), .inl (false, 9), .inl (false, 9), .inl (false, 5), .inl (false, 28), .inl (false, 6), .inr (0, [some 14, some 15, some 16]), .inl (false, 16), .inl (false, 6), .inl (false, 6), .inr (5, [none, none, some 18, none, some 19, some 20, some 21, none, some 22, some 23, some 24, some 25, none, some 26, none]), .inl (true, 16), .inl (false, 8), .inl (false, 32), .inl (true, 8), .inl (false, 9), .inl (false, 9), .inl (false, 5), .inl (false, 28), .inl (false, 6), .inr (0, [none, none, none])]
def Y_9 : List Ent := [.inr (6, [some 1, some 3, none, none, none, none, none, none, none, none, none, none]), .inr (2, [some 2, none, none]), .inl (false, 200), .inr (5, [none, none, some 4, none, some 5, some 6, some 7, none, some 8, some 9, some 10, some 11, none, some 12, some 13]), .inl (true, 16), .inl (false, 8), .inl (false, 32), .inl (true, 8), .inl (false, 9), .inl (false, 9), .inl (false, 5), .inl (false, 28), .inl (false, 6), .inr (0, [some 14, some 15, some 16]), .inl (false, 16), .inl (false, 6), .inl (false, 6), .inr (5, [none, none, some 18, none, some 19, some 20, some 21, none, some 22, some 23, some 24, some 25, none, some 26, none]), .inl (true, 16), .inl (false, 8), .inl (false, 32), .inl (true, 8), .inl (false, 9), .inl (false, 9), .inl (false, 5), .inl (false, 28), .inl (false, 6), .inr (0, [some 28, some 29, some 30]), .inl (false, 16), .inl (false, 6), .inl (false, 6)]
def Y_10 : List Ent := [.inr (6, [some 1, some 3, none, none, none, none, none, none, none, none, none, none]), .inr (2, [some 2, none, none]), .inl (false, 200), .inr (5, [none, none, some 4, none, some 5, some 6, some 7, none, some 8, some 9, some 10, some 11, none, some 12, some 13]), .inl (true, 16), .inl (false, 8), .inl (false, 32), .inl (true, 8), .inl (false, 9), .inl (false, 9), .inl (false, 5), .inl (false, 28), .inl (false, 6), .inr (0, [some 14, some 15, some 16]), .inl (false, 16), .inl (false, 6), .inl (false, 6), .inr (5, [none, none, some 18, none, some 19, some 20, some 21, none, some 22, some 23, some 24, some 25, none, some 26, some 27]), .inl (true, 16), .inl (false, 8), .inl (false, 32), .inl (true, 8), .inl (false, 9), .inl (false, 9), .inl (false, 5), .inl (false, 28), .inl (false, 6), .inr (0, [some 28, some 29, some 30]), .inl (false, 16), .inl (false, 6), .inl (false, 6)]
def Y_11 : List Ent := [.inr (6, [some 1, some 3, some 17, none, none, none, none, none, none, none, none, none]), .inr (2, [some 2, none, none]), .inl (false, 200), .inr (5, [none, none, some 4, none, some 5, some 6, some 7, none, some 8, some 9, some 10, some 11, none, some 12, some 13]), .inl (true, 16), .inl (false, 8), .inl (false, 32), .inl (true, 8), .inl (false, 9), .inl (false, 9), .inl (false, 5), .inl (false, 28), .inl (false, 6), .inr (0, [some 14, some 15, some 16]), .inl (false, 16), .inl (false, 6), .inl (false, 6), .inr (5, [none, none, some 18, none, some 19, some 20, some 21, none, some 22, some 23, some 24, some 25, none, some 26, some 27]), .inl (true, 16), .inl (false, 8), .inl (false, 32), .inl (true, 8), .inl (false, 9), .inl (false, 9), .inl (false, 5), .inl (false, 28), .inl (false, 6), .inr (0, [some 28, some 29, some 30]), .inl (false, 16), .inl (false, 6), .inl (false, 6), .inr (0, [none, none, none])]
def Y_12 : List Ent := [.inr (6, [some 1, some 3, some 17, none, none, none, none, none, none, none, none, none]), .inr (2, [some 2, none, none]), .inl (false, 200), .inr (5, [none, none, some 4, none, some 5, some 6, some 7, none, some 8, some 9, some 10, some 11, none, some 12, some 13]), .inl (true, 16), .inl (false, 8), .inl (false, 32), .inl (true, 8), .inl (false, 9), .inl (false, 9), .inl (false, 5), .inl (false, 28), .inl (false, 6), .inr (0, [some 14, some 15, some 16]), .inl (false, 16), .inl (false, 6), .inl (false, 6), .inr (5, [none, none, some 18, none, some 19, some 20, some 21, none, some 22, some 23, some 24, some 25, none, some 26, some 27]), .inl (true, 16), .inl (false, 8), .inl (false, 32), .inl (true, 8), .inl (false, 9), .inl (false, 9), .inl (false, 5), .inl (false, 28), .inl (false, 6), .inr (0, [some 28, some 29, some 30]), .inl (false, 16), .inl (false, 6), .inl (false, 6), .inr (0, [some 32, some 33, some 34]), .inl (false, 16), .inl (false, 6), .inl (false, 6)]
def Y_13 : List Ent := [.inr (6, [some 1, some 3, some 17, some 31, none, none, none, none, none, none, none, none]), .inr (2, [some 2, none, none]), .inl (false, 200), .inr (5, [none, none, some 4, none, some 5, some 6, some 7, none, some 8, some 9, some 10, some 11, none, some 12, some 13]), .inl (true, 16), .inl (false, 8), .inl (false, 32), .inl (true, 8), .inl (false, 9), .inl (false, 9), .inl (false, 5), .inl (false, 28), .inl (false, 6), .inr (0, [some 14, some 15, some 16]), .inl (false, 16), .inl (false, 6), .inl (false, 6), .inr (5, [none, none, some 18, none, some 19, some 20, some 21, none, some 22, some 23, some 24, some 25, none, some 26, some 27]), .inl (true, 16), .inl (false, 8), .inl (false, 32), .inl (true, 8), .inl (false, 9), .inl (false, 9), .inl (false, 5), .inl (false, 28), .inl (false, 6), .inr (0, [some 28, some 29, some 30]), .inl (false, 16), .inl (false, 6), .inl (false, 6), .inr (0, [some 32, some 33, some 34]), .inl (false, 16), .inl (false, 6), .inl (false, 6), .inr (0, [none, none, none])]
def Y_14 : List Ent := [.inr (6, [some 1, some 3, some 17, some 31, none, none, none, none, none, none, none, none]), .inr (2, [some 2, none, none]), .inl (false, 200), .inr (5, [none, none, some 4, none, some 5, some 6, some 7, none, some 8, some 9, some 10, some 11, none, some 12, some 13]), .inl (true, 16), .inl (false, 8), .inl (false, 32), .inl (true, 8), .inl (false, 9), .inl (false, 9), .inl (false, 5), .inl (false, 28), .inl (false, 6), .inr (0, [some 14, some 15, some 16]), .inl (false, 16), .inl (false, 6), .inl (false, 6), .inr (5, [none, none, some 18, none, some 19, some 20, some 21, none, some 22, some 23, some 24, some 25, none, some 26, some 27]), .inl (true, 16), .inl (false, 8), .inl (false, 32), .inl (true, 8), .inl (false, 9), .inl (false, 9), .inl (false, 5), .inl (false, 28), .inl (false, 6), .inr (0, [some 28, some 29, some 30]), .inl (false, 16), .inl (false, 6), .inl (false, 6), .inr (0, [some 32, some 33, some 34]), .inl (false, 16), .inl (false, 6), .inl (false, 6), .inr (0, [some 36, some 37, some 38]), .inl (false, 16), .inl (false, 6), .inl (false, 6)]
def Y_15 : List Ent := [.inr (6, [some 1, some 3, some 17, some 31, some 35, none, none, none, none, none, none, none]), .inr (2, [some 2, none, none]), .inl (false, 200), .inr (5, [none, none, some 4, none, some 5, some 6, some 7, none, some 8, some 9, some 10, some 11, none, some 12, some 13]), .inl (true, 16), .inl (false, 8), .inl (false, 32), .inl (true, 8), .inl (false, 9), .inl (false, 9), .inl (false, 5), .inl (false, 28), .inl (false, 6), .inr (0, [some 14, some 15, some 16]), .inl (false, 16), .inl (false, 6), .inl (false, 6), .inr (5, [none, none, some 18, none, some 19, some 20, some 21, none, some 22, some 23, some 24, some 25, none, some 26, some 27]), .inl (true, 16), .inl (false, 8), .inl (false, 32), .inl (true, 8), .inl (false, 9), .inl (false, 9), .inl (false, 5), .inl (false, 28), .inl (false, 6), .inr (0, [some 28, some 29, some 30]), .inl (false, 16), .inl (false, 6), .inl (false, 6), .inr (0, [some 32, some 33, some 34]), .inl (false, 16), .inl (false, 6), .inl (false, 6), .inr (0, [some 36, some 37, some 38]), .inl (false, 16), .inl (false, 6), .inl (false, 6), .inr (3, [none, none, none, none])]
def Y_16 : List Ent := [.inr (6, [some 1, some 3, some 17, some 31, some 35, none, none, none, none, none, none, none]), .inr (2, [some 2, none, none]), .inl (false, 200), .inr (5, [none, none, some 4, none, some 5, some 6, some 7, none, some 8, some 9, some 10, some 11, none, some 12, some 13]), .inl (true, 16), .inl (false, 8), .inl (false, 32), .inl (true, 8), .inl (false, 9), .inl (false, 9), .inl (false, 5), .inl (false, 28), .inl (false, 6), .inr (0, [some 14, some 15, some 16]), .inl (false, 16), .inl (false, 6), .inl (false, 6), .inr (5, [none, none, some 18, none, some 19, some 20, some 21, none, some 22, some 23, some 24, some 25, none, some 26, some 27]), .inl (true, 16), .inl (false, 8), .inl (false, 32), .inl (true, 8), .inl (false, 9), .inl (false, 9), .inl (false, 5), .inl (false, 28), .inl (false, 6), .inr (0, [some 28, some 29, some 30]), .inl (false, 16), .inl (false, 6), .inl (false, 6), .inr (0, [some 32, some 33, some 34]), .inl (false, 16), .inl (false, 6), .inl (false, 6), .inr (0, [some 36, some 37, some 38]), .inl (false, 16), .inl (false, 6), .inl (false, 6), .inr (3, [some 40, some 41, some 42, some 43]), .inl (false, 6), .inl (false, 6), .inl (true, 6), .inl (true, 6)]
def Y_17 : List Ent := [.inr (6, [some 1, some 3, some 17, some 31, some 35, some 39, none, none, none, none, none, none]), .inr (2, [some 2, none, none]), .inl (false, 200), .inr (5, [none, none, some 4, none, some 5, some 6, some 7, none, some 8, some 9, some 10, some 11, none, some 12, some 13]), .inl (true, 16), .inl (false, 8), .inl (false, 32), .inl (true, 8), .inl (false, 9), .inl (false, 9), .inl (false, 5), .inl (false, 28), .inl (false, 6), .inr (0, [some 14, some 15, some 16]), .inl (false, 16), .inl (false, 6), .inl (false, 6), .inr (5, [none, none, some 18, none, some 19, some 20, some 21, none, some 22, some 23, some 24, some 25, none, some 26, some 27]), .inl (true, 16), .inl (false, 8), .inl (false, 32), .inl (true, 8), .inl (false, 9), .inl (false, 9), .inl (false, 5), .inl (false, 28), .inl (false, 6), .inr (0, [some 28, some 29, some 30]), .inl (false, 16), .inl (false, 6), .inl (false, 6), .inr (0, [some 32, some 33, some 34]), .inl (false, 16), .inl (false, 6), .inl (false, 6), .inr (0, [some 36, some 37, some 38]), .inl (false, 16), .inl (false, 6), .inl (false, 6), .inr (3, [some 40, some 41, some 42, some 43]), .inl (false, 6), .inl (false, 6), .inl (true, 6), .inl (true, 6), .inr (4, [none, none, none, none, none, none])]
def Y_18 : List Ent := [.inr (6, [some 1, some 3, some 17, some 31, some 35, some 39, none, none, none, none, none, none]), .inr (2, [some 2, none, none]), .inl (false, 200), .inr (5, [none, none, some 4, none, some 5, some 6, some 7, none, some 8, some 9, some 10, some 11, none, some 12, some 13]), .inl (true, 16), .inl (false, 8), .inl (false, 32), .inl (true, 8), .inl (false, 9), .inl (false, 9), .inl (false, 5), .inl (false, 28), .inl (false, 6), .inr (0, [some 14, some 15, some 16]), .inl (false, 16), .inl (false, 6), .inl (false, 6), .inr (5, [none, none, some 18, none, some 19, some 20, some 21, none, some 22, some 23, some 24, some 25, none, some 26, some 27]), .inl (true, 16), .inl (false, 8), .inl (false, 32), .inl (true, 8), .inl (false, 9), .inl (false, 9), .inl (false, 5), .inl (false, 28), .inl (false, 6), .inr (0, [some 28, some 29, some 30]), .inl (false, 16), .inl (false, 6), .inl (false, 6), .inr (0, [some 32, some 33, some 34]), .inl (false, 16), .inl (false, 6), .inl (false, 6), .inr (0, [some 36, some 37, some 38]), .inl (false, 16), .inl (false, 6), .inl (false, 6), .inr (3, [some 40, some 41, some 42, some 43]), .inl (false, 6), .inl (false, 6), .inl (true, 6), .inl (true, 6), .inr (4, [none, none, none, none, none, none]), .inr (0, [none, none, none])]
def Y_19 : List Ent := [.inr (6, [some 1, some 3, some 17, some 31, some 35, some 39, none, none, none, none, none, none]), .inr (2, [some 2, none, none]), .inl (false, 200), .inr (5, [none, none, some 4, none, some 5, some 6, some 7, none, some 8, some 9, some 10, some 11, none, some 12, some 13]), .inl (true, 16), .inl (false, 8), .inl (false, 32), .inl (true, 8), .inl (false, 9), .inl (false, 9), .inl (false, 5), .inl (false, 28), .inl (false, 6), .inr (0, [some 14, some 15, some 16]), .inl (false, 16), .inl (false, 6), .inl (false, 6), .inr (5, [none, none, some 18, none, some 19, some 20, some 21, none, some 22, some 23, some 24, some 25, none, some 26, some 27]), .inl (true, 16), .inl (false, 8), .inl (false, 32), .inl (true, 8), .inl (false, 9), .inl (false, 9), .inl (false, 5), .inl (false, 28), .inl (false, 6), .inr (0, [some 28, some 29, some 30]), .inl (false, 16), .inl (false, 6), .inl (false, 6), .inr (0, [some 32, some 33, some 34]), .inl (false, 16), .inl (false, 6), .inl (false, 6), .inr (0, [some 36, some 37, some 38]), .inl (false, 16), .inl (false, 6), .inl (false, 6), .inr (3, [some 40, some 41, some 42, some 43]), .inl (false, 6), .inl (false, 6), .inl (true, 6), .inl (true, 6), .inr (4, [none, none, none, none, none, none]), .inr (0, [some 46, some 47, some 48]), .inl (false, 16), .inl (false, 6), .inl (false, 6)]
def Y_20 : List Ent := [.inr (6, [some 1, some 3, some 17, some 31, some 35, some 39, none, none, none, none, none, none]), .inr (2, [some 2, none, none]), .inl (false, 200), .inr (5, [none, none, some 4, none, some 5, some 6, some 7, none, some 8, some 9, some 10, some 11, none, some 12, some 13]), .inl (true, 16), .inl (false, 8), .inl (false, 32), .inl (true, 8), .inl (false, 9), .inl (false, 9), .inl (false, 5), .inl (false, 28), .inl (false, 6), .inr (0, [some 14, some 15, some 16]), .inl (false, 16), .inl (false, 6), .inl (false, 6), .inr (5, [none, none, some 18, none, some 19, some 20, some 21, none, some 22, some 23, some 24, some 25, none, some 26, some 27]), .inl (true, 16), .inl (false, 8), .inl (false, 32), .inl (true, 8), .inl (false, 9), .inl (false, 9), .inl (false, 5), .inl (false, 28), .inl (false, 6), .inr (0, [some 28, some 29, some 30]), .inl (false, 16), .inl (false, 6), .inl (false, 6), .inr (0, [some 32, some 33, some 34]), .inl (false, 16), .inl (false, 6), .inl (false, 6), .inr (0, [some 36, some 37, some 38]), .inl (false, 16), .inl (false, 6), .inl (false, 6), .inr (3, [some 40, some 41, some 42, some 43]), .inl (false, 6), .inl (false, 6), .inl (true, 6), .inl (true, 6), .inr (4, [some 45, some 49, some 50, some 51, none, none]), .inr (0, [some 46, some 47, some 48]), .inl (false, 16), .inl (false, 6), .inl (false, 6), .inl (false, 8), .inl (false, 8), .inl (false, 16)]
def Y_21 : List Ent := [.inr (6, [some 1, some 3, some 17, some 31, some 35, some 39, some 44, none, none, none, none, none]), .inr (2, [some 2, none, none]), .inl (false, 200), .inr (5, [none, none, some 4, none, some 5, some 6, some 7, none, some 8, some 9, some 10, some 11, none, some 12, some 13]), .inl (true, 16), .inl (false, 8), .inl (false, 32), .inl (true, 8), .inl (false, 9), .inl (false, 9), .inl (false, 5), .inl (false, 28), .inl (false, 6), .inr (0, [some 14, some 15, some 16]), .inl (false, 16), .inl (false, 6), .inl (false, 6), .inr (5, [none, none, some 18, none, some 19, some 20, some 21, none, some 22, some 23, some 24, some 25, none, some 26, some 27]), .inl (true, 16), .inl (false, 8), .inl (false, 32), .inl (true, 8), .inl (false, 9), .inl (false, 9), .inl (false, 5), .inl (false, 28), .inl (false, 6), .inr (0, [some 28, some 29, some 30]), .inl (false, 16), .inl (false, 6), .inl (false, 6), .inr (0, [some 32, some 33, some 34]), .inl (false, 16), .inl (false, 6), .inl (false, 6), .inr (0, [some 36, some 37, some 38]), .inl (false, 16), .inl (false, 6), .inl (false, 6), .inr (3, [some 40, some 41, some 42, some 43]), .inl (false, 6), .inl (false, 6), .inl (true, 6), .inl (true, 6), .inr (4, [some 45, some 49, some 50, some 51, none, none]), .inr (0, [some 46, some 47, some 48]), .inl (false, 16), .inl (false, 6), .inl (false, 6), .inl (false, 8), .inl (false, 8), .inl (false, 16), .inr (1, [none, none, none, none, none])]
def Y_22 : List Ent := [.inr (6, [some 1, some 3, some 17, some 31, some 35, some 39, some 44, none, none, none, none, none]), .inr (2, [some 2, none, none]), .inl (false, 200), .inr (5, [none, none, some 4, none, some 5, some 6, some 7, none, some 8, some 9, some 10, some 11, none, some 12, some 13]), .inl (true, 16), .inl (false, 8), .inl (false, 32), .inl (true, 8), .inl (false, 9), .inl (false, 9), .inl (false, 5), .inl (false, 28), .inl (false, 6), .inr (0, [some 14, some 15, some 16]), .inl (false, 16), .inl (false, 6), .inl (false, 6), .inr (5, [none, none, some 18, none, some 19, some 20, some 21, none, some 22, some 23, some 24, some 25, none, some 26, some 27]), .inl (true, 16), .inl (false, 8), .inl (false, 32), .inl (true, 8), .inl (false, 9), .inl (false, 9), .inl (false, 5), .inl (false, 28), .inl (false, 6), .inr (0, [some 28, some 29, some 30]), .inl (false, 16), .inl (false, 6), .inl (false, 6), .inr (0, [some 32, some 33, some 34]), .inl (false, 16), .inl (false, 6), .inl (false, 6), .inr (0, [some 36, some 37, some 38]), .inl (false, 16), .inl (false, 6), .inl (false, 6), .inr (3, [some 40, some 41, some 42, some 43]), .inl (false, 6), .inl (false, 6), .inl (true, 6), .inl (true, 6), .inr (4, [some 45, some 49, some 50, some 51, none, none]), .inr (0, [some 46, some 47, some 48]), .inl (false, 16), .inl (false, 6), .inl (false, 6), .inl (false, 8), .inl (false, 8), .inl (false, 16), .inr (1, [none, some 53, some 54, some 55, none]), .inl (false, 128), .inl (false, 48), .inl (false, 48)]
def Y_23 : List Ent := [.inr (6, [some 1, some 3, some 17, some 31, some 35, some 39, some 44, some 52, none, none, none, none]), .inr (2, [some 2, none, none]), .inl (false, 200), .inr (5, [none, none, some 4, none, some 5, some 6, some 7, none, some 8, some 9, some 10, some 11, none, some 12, some 13]), .inl (true, 16), .inl (false, 8), .inl (false, 32), .inl (true, 8), .inl (false, 9), .inl (false, 9), .inl (false, 5), .inl (false, 28), .inl (false, 6), .inr (0, [some 14, some 15, some 16]), .inl (false, 16), .inl (false, 6), .inl (false, 6), .inr (5, [none, none, some 18, none, some 19, some 20, some 21, none, some 22, some 23, some 24, some 25, none, some 26, some 27]), .inl (true, 16), .inl (false, 8), .inl (false, 32), .inl (true, 8), .inl (false, 9), .inl (false, 9), .inl (false, 5), .inl (false, 28), .inl (false, 6), .inr (0, [some 28, some 29, some 30]), .inl (false, 16), .inl (false, 6), .inl (false, 6), .inr (0, [some 32, some 33, some 34]), .inl (false, 16), .inl (false, 6), .inl (false, 6), .inr (0, [some 36, some 37, some 38]), .inl (false, 16), .inl (false, 6), .inl (false, 6), .inr (3, [some 40, some 41, some 42, some 43]), .inl (false, 6), .inl (false, 6), .inl (true, 6), .inl (true, 6), .inr (4, [some 45, some 49, some 50, some 51, none, none]), .inr (0, [some 46, some 47, some 48]), .inl (false, 16), .inl (false, 6), .inl (false, 6), .inl (false, 8), .inl (false, 8), .inl (false, 16), .inr (1, [none, some 53, some 54, some 55, none]), .inl (false, 128), .inl (false, 48), .inl (false, 48), .inr (1, [none, none, none, none, none])]
def Y_24 : List Ent := [.inr (6, [some 1, some 3, some 17, some 31, some 35, some 39, some 44, some 52, none, none, none, none]), .inr (2, [some 2, none, none]), .inl (false, 200), .inr (5, [none, none, some 4, none, some 5, some 6, some 7, none, some 8, some 9, some 10, some 11, none, some 12, some 13]), .inl (true, 16), .inl (false, 8), .inl (false, 32), .inl (true, 8), .inl (false, 9), .inl (false, 9), .inl (false, 5), .inl (false, 28), .inl (false, 6), .inr (0, [some 14, some 15, some 16]), .inl (false, 16), .inl (false, 6), .inl (false, 6), .inr (5, [none, none, some 18, none, some 19, some 20, some 21, none, some 22, some 23, some 24, some 25, none, some 26, some 27]), .inl (true, 16), .inl (false, 8), .inl (false, 32), .inl (true, 8), .inl (false, 9), .inl (false, 9), .inl (false, 5), .inl (false, 28), .inl (false, 6), .inr (0, [some 28, some 29, some 30]), .inl (false, 16), .inl (false, 6), .inl (false, 6), .inr (0, [some 32, some 33, some 34]), .inl (false, 16), .inl (false, 6), .inl (false, 6), .inr (0, [some 36, some 37, some 38]), .inl (false, 16), .inl (false, 6), .inl (false, 6), .inr (3, [some 40, some 41, some 42, some 43]), .inl (false, 6), .inl (false, 6), .inl (true, 6), .inl (true, 6), .inr (4, [some 45, some 49, some 50, some 51, none, none]), .inr (0, [some 46, some 47, some 48]), .inl (false, 16), .inl (false, 6), .inl (false, 6), .inl (false, 8), .inl (false, 8), .inl (false, 16), .inr (1, [none, some 53, some 54, some 55, none]), .inl (false, 128), .inl (false, 48), .inl (false, 48), .inr (1, [none, some 57, some 58, some 59, none]), .inl (false, 32), .inl (false, 12), .inl (false, 12)]
def Y_25 : List Ent := [.inr (6, [some 1, some 3, some 17, some 31, some 35, some 39, some 44, some 52, some 56, some 60, some 61, none]), .inr (2, [some 2, none, none]), .inl (false, 200), .inr (5, [none, none, some 4, none, some 5, some 6, some 7, none, some 8, some 9, some 10, some 11, none, some 12, some 13]), .inl (true, 16), .inl (false, 8), .inl (false, 32), .inl (true, 8), .inl (false, 9), .inl (false, 9), .inl (false, 5), .inl (false, 28), .inl (false, 6), .inr (0, [some 14, some 15, some 16]), .inl (false, 16), .inl (false, 6), .inl (false, 6), .inr (5, [none, none, some 18, none, some 19, some 20, some 21, none, some 22, some 23, some 24, some 25, none, some 26, some 27]), .inl (true, 16), .inl (false, 8), .inl (false, 32), .inl (true, 8), .inl (false, 9), .inl (false, 9), .inl (false, 5), .inl (false, 28), .inl (false, 6), .inr (0, [some 28, some 29, some 30]), .inl (false, 16), .inl (false, 6), .inl (false, 6), .inr (0, [some 32, some 33, some 34]), .inl (false, 16), .inl (false, 6), .inl (false, 6), .inr (0, [some 36, some 37, some 38]), .inl (false, 16), .inl (false, 6), .inl (false, 6), .inr (3, [some 40, some 41, some 42, some 43]), .inl (false, 6), .inl (false, 6), .inl (true, 6), .inl (true, 6), .inr (4, [some 45, some 49, some 50, some 51, none, none]), .inr (0, [some 46, some 47, some 48]), .inl (false, 16), .inl (false, 6), .inl (false, 6), .inl (false, 8), .inl (false, 8), .inl (false, 16), .inr (1, [none, some 53, some 54, some 55, none]), .inl (false, 128), .inl (false, 48), .inl (false, 48), .inr (1, [none, some 57, some 58, some 59, none]), .inl (false, 32), .inl (false, 12), .inl (false, 12), .inl (false, 6), .inl (true, 6)]
set_option maxRecDepth 100000 in
set_option maxHeartbeats 4000000 in
theorem i_X2_1 {E : Ex} {a0 : Nat → Nat} {d : Nat} (hd : 1 ≤ d) : ClN E yX2_init cX2_init 1 d 1 200 [.ref (a0 1)] 2 a0 Y_1 MZ Y_2 MZ := by
  refine ClN.of [some (.ref (a0 1))] (by decide +kernel) rfl rfl (Nat.le_of_ble_eq_true rfl) (fun κ C hI hce hP => ?_)
  have C : Cx E κ cX2_init RX2 1 none d := C
  have hA : Agr 2 a0 a0 := Agr.rf
  refine g_aload_n (pc := 0) (i := 0) (x := a0 1) C dX2_init_0 rfl rfl ?_
  refine g_objInit (pc := 1) C (by omega) wo_X2_3 wo_i wo_c dX2_init_1 (Nat.le_of_ble_eq_true rfl) ?_
  refine g_aload_n (pc := 4) (i := 0) (x := a0 1) C dX2_init_4 rfl rfl ?_
  refine g_sipush (pc := 5) (v := 200) C dX2_init_5 rfl ?_
  refine g_newA (pc := 8) (n := 2) (len := 200) C false rfl wa_I dX2_init_8 (by decide +kernel) (by decide +kernel) rfl (by decide) (by decide) (by decide) (hce.mono (by decide) (by decide)) (fun a1 h1 => ?_)
  rw [← h1 1 (by decide)]
  have hA := Agr.tr hA (by decide) h1
  refine g_putFR (pc := 10) (a := 1) (r := 2) (rs := [none, none, none]) C hI ok_X2 0 (by decide) wf_X2_9 dX2_init_10 rfl rfl rfl rfl (by decide) rfl (by decide +kernel) ?_
  refine g_lay (lay' := Y_2) (by decide +kernel) ?_
  exact g_vretN (pc := 13) C hP hA dX2_init_13
set_option maxRecDepth 100000 in
set_option maxHeartbeats 4000000 in
theorem i_X0_13 {E : Ex} {a0 : Nat → Nat} {d : Nat} (hd : 1 ≤ d) : ClN E yX0_init cX0_init 1 d 3 28 [.ref (a0 13)] 14 a0 Y_4 MZ Y_5 MZ := by
  refine ClN.of [some (.ref (a0 13))] (by decide +kernel) rfl rfl (Nat.le_of_ble_eq_true rfl) (fun κ C hI hce hP => ?_)
  have C : Cx E κ cX0_init RX0 1 none d := C
  have hA : Agr 14 a0 a0 := Agr.rf
  refine g_aload_n (pc := 0) (i := 0) (x := a0 13) C dX0_init_0 rfl rfl ?_
  refine g_objInit (pc := 1) C (by omega) wo_X0_3 wo_i wo_c dX0_init_1 (Nat.le_of_ble_eq_true rfl) ?_
  refine g_aload_n (pc := 4) (i := 0) (x := a0 13) C dX0_init_4 rfl rfl ?_
  refine g_bipush (pc := 5) (v := 16) C dX0_init_5 rfl ?_
  refine g_newA (pc := 7) (n := 14) (len := 16) C false rfl wa_I dX0_init_7 (by decide +kernel) (by decide +kernel) rfl (by decide) (by decide) (by decide) (hce.mono (by decide) (by decide)) (fun a1 h1 => ?_)
  rw [← h1 13 (by decide)]
  have hA := Agr.tr hA (by decide) h1
  refine g_putFR (pc := 9) (a := 13) (r := 14) (rs := [none, none, none]) C hI ok_X0 0 (by decide) wf_X0_9 dX0_init_9 rfl rfl rfl rfl (by decide) rfl (by decide +kernel) ?_
  refine g_aload_n (pc := 12) (i := 0) (x := a1 13) C dX0_init_12 rfl rfl ?_
  refine g_bipush (pc := 13) (v := 6) C dX0_init_13 rfl ?_
  refine g_newA (pc := 15) (n := 15) (len := 6) C false rfl wa_I dX0_init_15 (by decide +kernel) (by decide +kernel) rfl (by decide) (by decide) (by decide) (hce.mono (by decide) (by decide)) (fun a2 h2 => ?_)
  rw [← h2 13 (by decide)]
  have hA := Agr.tr hA (by decide) h2
  refine g_putFR (pc := 17) (a := 13) (r := 15) (rs := [some 14, none, none]) C hI ok_X0 1 (by decide) wf_X0_15 dX0_init_17 rfl rfl rfl rfl (by decide) rfl (by decide +kernel) ?_
  refine g_aload_n (pc := 20) (i := 0) (x := a2 13) C dX0_init_20 rfl rfl ?_
  refine g_bipush (pc := 21) (v := 6) C dX0_init_21 rfl ?_
  refine g_newA (pc := 23) (n := 16) (len := 6) C false rfl wa_I dX0_init_23 (by decide +kernel) (by decide +kernel) rfl (by decide) (by decide) (by decide) (hce.mono (by decide) (by decide)) (fun a3 h3 => ?_)
  rw [← h3 13 (by decide)]
  have hA := Agr.tr hA (by decide) h3
  refine g_putFR (pc := 25) (a := 13) (r := 16) (rs := [some 14, some 15, none]) C hI ok_X0 2 (by decide) wf_X0_18 dX0_init_25 rfl rfl rfl rfl (by decide) rfl (by decide +kernel) ?_
  refine g_lay (lay' := Y_5) (by decide +kernel) ?_
  exact g_vretN (pc := 28) C hP hA dX0_init_28
set_option maxRecDepth 100000 in
set_option maxHeartbeats 4000000 in
theorem i_X5_3 {E : Ex} {a0 : Nat → Nat} {d : Nat} (hd : 2 ≤ d) : ClN E yX5_init cX5_init 1 d 13 152 [.ref (a0 3)] 4 a0 Y_3 MZ Y_6 MZ := by
  refine ClN.of [some (.ref (a0 3))] (by decide +kernel) rfl rfl (Nat.le_of_ble_eq_true rfl) (fun κ C hI hce hP => ?_)
  have C : Cx E κ cX5_init RX5 1 none d := C
  have hA : Agr 4 a0 a0 := Agr.rf
  refine g_aload_n (pc := 0) (i := 0) (x := a0 3) C dX5_init_0 rfl rfl ?_
  refine g_objInit (pc := 1) C (by omega) wo_X5_3 wo_i wo_c dX5_init_1 (Nat.le_of_ble_eq_true rfl) ?_
  refine g_aload_n (pc := 4) (i := 0) (x := a0 3) C dX5_init_4 rfl rfl ?_
  refine g_bipush (pc := 5) (v := 16) C dX5_init_5 rfl ?_
  refine g_newA (pc := 7) (n := 4) (len := 16) C true rfl wa_Z dX5_init_7 (by decide +kernel) (by decide +kernel) rfl (by decide) (by decide) (by decide) (hce.mono (by decide) (by decide)) (fun a1 h1 => ?_)
  rw [← h1 3 (by decide)]
  have hA := Agr.tr hA (by decide) h1
  refine g_putFR (pc := 9) (a := 3) (r := 4) (rs := [none, none, none, none, none, none, none, none, none, none, none, none, none, none, none]) C hI ok_X5 2 (by decide) wf_X5_9 dX5_init_9 rfl rfl rfl rfl (by decide) rfl (by decide +kernel) ?_
  refine g_aload_n (pc := 12) (i := 0) (x := a1 3) C dX5_init_12 rfl rfl ?_
  refine g_bipush (pc := 13) (v := 8) C dX5_init_13 rfl ?_
  refine g_newA (pc := 15) (n := 5) (len := 8) C false rfl wa_I dX5_init_15 (by decide +kernel) (by decide +kernel) rfl (by decide) (by decide) (by decide) (hce.mono (by decide) (by decide)) (fun a2 h2 => ?_)
  rw [← h2 3 (by decide)]
  have hA := Agr.tr hA (by decide) h2
  refine g_putFR (pc := 17) (a := 3) (r := 5) (rs := [none, none, some 4, none, none, none, none, none, none, none, none, none, none, none, none]) C hI ok_X5 4 (by decide) wf_X5_15 dX5_init_17 rfl rfl rfl rfl (by decide) rfl (by decide +kernel) ?_
  refine g_aload_n (pc := 20) (i := 0) (x := a2 3) C dX5_init_20 rfl rfl ?_
  refine g_bipush (pc := 21) (v := 32) C dX5_init_21 rfl ?_
  refine g_newA (pc := 23) (n := 6) (len := 32) C false rfl wa_I dX5_init_23 (by decide +kernel) (by decide +kernel) rfl (by decide) (by decide) (by decide) (hce.mono (by decide) (by decide)) (fun a3 h3 => ?_)
  rw [← h3 3 (by decide)]
  have hA := Agr.tr hA (by decide) h3
  refine g_putFR (pc := 25) (a := 3) (r := 6) (rs := [none, none, some 4, none, some 5, none, none, none, none, none, none, none, none, none, none]) C hI ok_X5 5 (by decide) wf_X5_19 dX5_init_25 rfl rfl rfl rfl (by decide) rfl (by decide +kernel) ?_
  refine g_aload_n (pc := 28) (i := 0) (x := a3 3) C dX5_init_28 rfl rfl ?_
  refine g_bipush (pc := 29) (v := 8) C dX5_init_29 rfl ?_
  refine g_newA (pc := 31) (n := 7) (len := 8) C true rfl wa_Z dX5_init_31 (by decide +kernel) (by decide +kernel) rfl (by decide) (by decide) (by decide) (hce.mono (by decide) (by decide)) (fun a4 h4 => ?_)
  rw [← h4 3 (by decide)]
  have hA := Agr.tr hA (by decide) h4
  refine g_putFR (pc := 33) (a := 3) (r := 7) (rs := [none, none, some 4, none, some 5, some 6, none, none, none, none, none, none, none, none, none]) C hI ok_X5 6 (by decide) wf_X5_22 dX5_init_33 rfl rfl rfl rfl (by decide) rfl (by decide +kernel) ?_
  refine g_aload_n (pc := 36) (i := 0) (x := a4 3) C dX5_init_36 rfl rfl ?_
  refine g_bipush (pc := 37) (v := 9) C dX5_init_37 rfl ?_
  refine g_newA (pc := 39) (n := 8) (len := 9) C false rfl wa_I dX5_init_39 (by decide +kernel) (by decide +kernel) rfl (by decide) (by decide) (by decide) (hce.mono (by decide) (by decide)) (fun a5 h5 => ?_)
  rw [← h5 3 (by decide)]
  have hA := Agr.tr hA (by decide) h5
  refine g_putFR (pc := 41) (a := 3) (r := 8) (rs := [none, none, some 4, none, some 5, some 6, some 7, none, none, none, none, none, none, none, none]) C hI ok_X5 8 (by decide) wf_X5_25 dX5_init_41 rfl rfl rfl rfl (by decide) rfl (by decide +kernel) ?_
  refine g_aload_n (pc := 44) (i := 0) (x := a5 3) C dX5_init_44 rfl rfl ?_
  refine g_bipush (pc := 45) (v := 9) C dX5_init_45 rfl ?_
  refine g_newA (pc := 47) (n := 9) (len := 9) C false rfl wa_I dX5_init_47 (by decide +kernel) (by decide +kernel) rfl (by decide) (by decide) (by decide) (hce.mono (by decide) (by decide)) (fun a6 h6 => ?_)
  rw [← h6 3 (by decide)]
  have hA := Agr.tr hA (by decide) h6
  refine g_putFR (pc := 49) (a := 3) (r := 9) (rs := [none, none, some 4, none, some 5, some 6, some 7, none, some 8, none, none, none, none, none, none]) C hI ok_X5 9 (by decide) wf_X5_28 dX5_init_49 rfl rfl rfl rfl (by decide) rfl (by decide +kernel) ?_
  refine g_aload_n (pc := 52) (i := 0) (x := a6 3) C dX5_init_52 rfl rfl ?_
  refine g_iconst (pc := 53) (v := 5) C dX5_init_53 rfl ?_
  refine g_newA (pc := 54) (n := 10) (len := 5) C false rfl wa_I dX5_init_54 (by decide +kernel) (by decide +kernel) rfl (by decide) (by decide) (by decide) (hce.mono (by decide) (by decide)) (fun a7 h7 => ?_)
  rw [← h7 3 (by decide)]
  have hA := Agr.tr hA (by decide) h7
  refine g_putFR (pc := 56) (a := 3) (r := 10) (rs := [none, none, some 4, none, some 5, some 6, some 7, none, some 8, some 9, none, none, none, none, none]) C hI ok_X5 10 (by decide) wf_X5_31 dX5_init_56 rfl rfl rfl rfl (by decide) rfl (by decide +kernel) ?_
  refine g_aload_n (pc := 59) (i := 0) (x := a7 3) C dX5_init_59 rfl rfl ?_
  refine g_bipush (pc := 60) (v := 28) C dX5_init_60 rfl ?_
  refine g_newA (pc := 62) (n := 11) (len := 28) C false rfl wa_I dX5_init_62 (by decide +kernel) (by decide +kernel) rfl (by decide) (by decide) (by decide) (hce.mono (by decide) (by decide)) (fun a8 h8 => ?_)
  rw [← h8 3 (by decide)]
  have hA := Agr.tr hA (by decide) h8
  refine g_putFR (pc := 64) (a := 3) (r := 11) (rs := [none, none, some 4, none, some 5, some 6, some 7, none, some 8, some 9, some 10, none, none, none, none]) C hI ok_X5 11 (by decide) wf_X5_34 dX5_init_64 rfl rfl rfl rfl (by decide) rfl (by decide +kernel) ?_
  refine g_aload_n (pc := 67) (i := 0) (x := a8 3) C dX5_init_67 rfl rfl ?_
  refine g_bipush (pc := 68) (v := 6) C dX5_init_68 rfl ?_
  refine g_newA (pc := 70) (n := 12) (len := 6) C false rfl wa_I dX5_init_70 (by decide +kernel) (by decide +kernel) rfl (by decide) (by decide) (by decide) (hce.mono (by decide) (by decide)) (fun a9 h9 => ?_)
  rw [← h9 3 (by decide)]
  have hA := Agr.tr hA (by decide) h9
  refine g_putFR (pc := 72) (a := 3) (r := 12) (rs := [none, none, some 4, none, some 5, some 6, some 7, none, some 8, some 9, some 10, some 11, none, none, none]) C hI ok_X5 13 (by decide) wf_X5_37 dX5_init_72 rfl rfl rfl rfl (by decide) rfl (by decide +kernel) ?_
  refine g_aload_n (pc := 75) (i := 0) (x := a9 3) C dX5_init_75 rfl rfl ?_
  refine g_new (pc := 76) (n := 13) C ok_X0 df_X0 wk_X5_40 wi_X0 wz_X0 dX5_init_76 (by decide +kernel) (by decide +kernel) rfl (hce.mono (by decide) (by decide)) (fun a10 h10 => ?_)
  rw [← h10 3 (by decide)]
  have hA := Agr.tr hA (by decide) h10
  refine g_dup (pc := 79) C dX5_init_79 rfl ?_
  refine g_lay (lay' := Y_4) (by decide +kernel) ?_
  refine g_callIN (pc := 80) (n := 14) (dc := d - 1) (mc := 3) (ms := 28) C (hce.mono (by decide) (by decide)) mi_X0_init mo_X0 nm_X5_42 dX5_init_80 [] [.ref (a10 13), .ref (a10 3)] (by omega) rfl rfl (Nat.le_of_ble_eq_true rfl) (i_X0_13 (by omega)) (fun a11 h11 => ?_)
  rw [← h11 3 (by decide), ← h11 13 (by decide)]
  have hA := Agr.tr hA (by decide) h11
  refine g_putFR (pc := 83) (a := 3) (r := 13) (rs := [none, none, some 4, none, some 5, some 6, some 7, none, some 8, some 9, some 10, some 11, none, some 12, none]) C hI ok_X5 14 (by decide) wf_X5_43 dX5_init_83 rfl rfl rfl rfl (by decide) rfl (by decide +kernel) ?_
  refine g_lay (lay' := Y_6) (by decide +kernel) ?_
  exact g_vretN (pc := 86) C hP hA dX5_init_86
set_option maxRecDepth 100000 in
set_option maxHeartbeats 4000000 in
theorem i_X0_27 {E : Ex} {a0 : Nat → Nat} {d : Nat} (hd : 1 ≤ d) : ClN E yX0_init cX0_init 1 d 3 28 [.ref (a0 27)] 28 a0 Y_8 MZ Y_9 MZ := by
  refine ClN.of [some (.ref (a0 27))] (by decide +kernel) rfl rfl (Nat.le_of_ble_eq_true rfl) (fun κ C hI hce hP => ?_)
  have C : Cx E κ cX0_init RX0 1 none d := C
  have hA : Agr 28 a0 a0 := Agr.rf
  refine g_aload_n (pc := 0) (i := 0) (x := a0 27) C dX0_init_0 rfl rfl ?_
  refine g_objInit (pc := 1) C (by omega) wo_X0_3 wo_i wo_c dX0_init_1 (Nat.le_of_ble_eq_true rfl) ?_
  refine g_aload_n (pc := 4) (i := 0) (x := a0 27) C dX0_init_4 rfl rfl ?_
  refine g_bipush (pc := 5) (v := 16) C dX0_init_5 rfl ?_
  refine g_newA (pc := 7) (n := 28) (len := 16) C false rfl wa_I dX0_init_7 (by decide +kernel) (by decide +kernel) rfl (by decide) (by decide) (by decide) (hce.mono (by decide) (by decide)) (fun a1 h1 => ?_)
  rw [← h1 27 (by decide)]
  have hA := Agr.tr hA (by decide) h1
  refine g_putFR (pc := 9) (a := 27) (r := 28) (rs := [none, none, none]) C hI ok_X0 0 (by decide) wf_X0_9 dX0_init_9 rfl rfl rfl rfl (by decide) rfl (by decide +kernel) ?_
  refine g_aload_n (pc := 12) (i := 0) (x := a1 27) C dX0_init_12 rfl rfl ?_
  refine g_bipush (pc := 13) (v := 6) C dX0_init_13 rfl ?_
  refine g_newA (pc := 15) (n := 29) (len := 6) C false rfl wa_I dX0_init_15 (by decide +kernel) (by decide +kernel) rfl (by decide) (by decide) (by decide) (hce.mono (by decide) (by decide)) (fun a2 h2 => ?_)
  rw [← h2 27 (by decide)]
  have hA := Agr.tr hA (by decide) h2
  refine g_putFR (pc := 17) (a := 27) (r := 29) (rs := [some 28, none, none]) C hI ok_X0 1 (by decide) wf_X0_15 dX0_init_17 rfl rfl rfl rfl (by decide) rfl (by decide +kernel) ?_
  refine g_aload_n (pc := 20) (i := 0) (x := a2 27) C dX0_init_20 rfl rfl ?_
  refine g_bipush (pc := 21) (v := 6) C dX0_init_21 rfl ?_
  refine g_newA (pc := 23) (n := 30) (len := 6) C false rfl wa_I dX0_init_23 (by decide +kernel) (by decide +kernel) rfl (by decide) (by decide) (by decide) (hce.mono (by decide) (by decide)) (fun a3 h3 => ?_)
  rw [← h3 27 (by decide)]
  have hA := Agr.tr hA (by decide) h3
  refine g_putFR (pc := 25) (a := 27) (r := 30) (rs := [some 28, some 29, none]) C hI ok_X0 2 (by decide) wf_X0_18 dX0_init_25 rfl rfl rfl rfl (by decide) rfl (by decide +kernel) ?_
  refine g_lay (lay' := Y_9) (by decide +kernel) ?_
  exact g_vretN (pc := 28) C hP hA dX0_init_28
set_option maxRecDepth 100000 in
set_option maxHeartbeats 4000000 in
theorem i_X5_17 {E : Ex} {a0 : Nat → Nat} {d : Nat} (hd : 2 ≤ d) : ClN E yX5_init cX5_init 1 d 13 152 [.ref (a0 17)] 18 a0 Y_7 MZ Y_10 MZ := by
  refine ClN.of [some (.ref (a0 17))] (by decide +kernel) rfl rfl (Nat.le_of_ble_eq_true rfl) (fun κ C hI hce hP => ?_)
  have C : Cx E κ cX5_init RX5 1 none d := C
  have hA : Agr 18 a0 a0 := Agr.rf
  refine g_aload_n (pc := 0) (i := 0) (x := a0 17) C dX5_init_0 rfl rfl ?_
  refine g_objInit (pc := 1) C (by omega) wo_X5_3 wo_i wo_c dX5_init_1 (Nat.le_of_ble_eq_true rfl) ?_
  refine g_aload_n (pc := 4) (i := 0) (x := a0 17) C dX5_init_4 rfl rfl ?_
  refine g_bipush (pc := 5) (v := 16) C dX5_init_5 rfl ?_
  refine g_newA (pc := 7) (n := 18) (len := 16) C true rfl wa_Z dX5_init_7 (by decide +kernel) (by decide +kernel) rfl (by decide) (by decide) (by decide) (hce.mono (by decide) (by decide)) (fun a1 h1 => ?_)
  rw [← h1 17 (by decide)]
  have hA := Agr.tr hA (by decide) h1
  refine g_putFR (pc := 9) (a := 17) (r := 18) (rs := [none, none, none, none, none, none, none, none, none, none, none, none, none, none, none]) C hI ok_X5 2 (by decide) wf_X5_9 dX5_init_9 rfl rfl rfl rfl (by decide) rfl (by decide +kernel) ?_
  refine g_aload_n (pc := 12) (i := 0) (x := a1 17) C dX5_init_12 rfl rfl ?_
  refine g_bipush (pc := 13) (v := 8) C dX5_init_13 rfl ?_
  refine g_newA (pc := 15) (n := 19) (len := 8) C false rfl wa_I dX5_init_15 (by decide +kernel) (by decide +kernel) rfl (by decide) (by decide) (by decide) (hce.mono (by decide) (by decide)) (fun a2 h2 => ?_)
  rw [← h2 17 (by decide)]
  have hA := Agr.tr hA (by decide) h2
  refine g_putFR (pc := 17) (a := 17) (r := 19) (rs := [none, none, some 18, none, none, none, none, none, none, none, none, none, none, none, none]) C hI ok_X5 4 (by decide) wf_X5_15 dX5_init_17 rfl rfl rfl rfl (by decide) rfl (by decide +kernel) ?_
  refine g_aload_n (pc := 20) (i := 0) (x := a2 17) C dX5_init_20 rfl rfl ?_
  refine g_bipush (pc := 21) (v := 32) C dX5_init_21 rfl ?_
  refine g_newA (pc := 23) (n := 20) (len := 32) C false rfl wa_I dX5_init_23 (by decide +kernel) (by decide +kernel) rfl (by decide) (by decide) (by decide) (hce.mono (by decide) (by decide)) (fun a3 h3 => ?_)
  rw [← h3 17 (by decide)]
  have hA := Agr.tr hA (by decide) h3
  refine g_putFR (pc := 25) (a := 17) (r := 20) (rs := [none, none, some 18, none, some 19, none, none, none, none, none, none, none, none, none, none]) C hI ok_X5 5 (by decide) wf_X5_19 dX5_init_25 rfl rfl rfl rfl (by decide) rfl (by decide +kernel) ?_
  refine g_aload_n (pc := 28) (i := 0) (x := a3 17) C dX5_init_28 rfl rfl ?_
  refine g_bipush (pc := 29) (v := 8) C dX5_init_29 rfl ?_
  refine g_newA (pc := 31) (n := 21) (len := 8) C true rfl wa_Z dX5_init_31 (by decide +kernel) (by decide +kernel) rfl (by decide) (by decide) (by decide) (hce.mono (by decide) (by decide)) (fun a4 h4 => ?_)
  rw [← h4 17 (by decide)]
  have hA := Agr.tr hA (by decide) h4
  refine g_putFR (pc := 33) (a := 17) (r := 21) (rs := [none, none, some 18, none, some 19, some 20, none, none, none, none, none, none, none, none, none]) C hI ok_X5 6 (by decide) wf_X5_22 dX5_init_33 rfl rfl rfl rfl (by decide) rfl (by decide +kernel) ?_
  refine g_aload_n (pc := 36) (i := 0) (x := a4 17) C dX5_init_36 rfl rfl ?_
  refine g_bipush (pc := 37) (v := 9) C dX5_init_37 rfl ?_
  refine g_newA (pc := 39) (n := 22) (len := 9) C false rfl wa_I dX5_init_39 (by decide +kernel) (by decide +kernel) rfl (by decide) (by decide) (by decide) (hce.mono (by decide) (by decide)) (fun a5 h5 => ?_)
  rw [← h5 17 (by decide)]
  have hA := Agr.tr hA (by decide) h5
  refine g_putFR (pc := 41) (a := 17) (r := 22) (rs := [none, none, some 18, none, some 19, some 20, some 21, none, none, none, none, none, none, none, none]) C hI ok_X5 8 (by decide) wf_X5_25 dX5_init_41 rfl rfl rfl rfl (by decide) rfl (by decide +kernel) ?_
  refine g_aload_n (pc := 44) (i := 0) (x := a5 17) C dX5_init_44 rfl rfl ?_
  refine g_bipush (pc := 45) (v := 9) C dX5_init_45 rfl ?_
  refine g_newA (pc := 47) (n := 23) (len := 9) C false rfl wa_I dX5_init_47 (by decide +kernel) (by decide +kernel) rfl (by decide) (by decide) (by decide) (hce.mono (by decide) (by decide)) (fun a6 h6 => ?_)
  rw [← h6 17 (by decide)]
  have hA := Agr.tr hA (by decide) h6
  refine g_putFR (pc := 49) (a := 17) (r := 23) (rs := [none, none, some 18, none, some 19, some 20, some 21, none, some 22, none, none, none, none, none, none]) C hI ok_X5 9 (by decide) wf_X5_28 dX5_init_49 rfl rfl rfl rfl (by decide) rfl (by decide +kernel) ?_
  refine g_aload_n (pc := 52) (i := 0) (x := a6 17) C dX5_init_52 rfl rfl ?_
  refine g_iconst (pc := 53) (v := 5) C dX5_init_53 rfl ?_
  refine g_newA (pc := 54) (n := 24) (len := 5) C false rfl wa_I dX5_init_54 (by decide +kernel) (by decide +kernel) rfl (by decide) (by decide) (by decide) (hce.mono (by decide) (by decide)) (fun a7 h7 => ?_)
  rw [← h7 17 (by decide)]
  have hA := Agr.tr hA (by decide) h7
  refine g_putFR (pc := 56) (a := 17) (r := 24) (rs := [none, none, some 18, none, some 19, some 20, some 21, none, some 22, some 23, none, none, none, none, none]) C hI ok_X5 10 (by decide) wf_X5_31 dX5_init_56 rfl rfl rfl rfl (by decide) rfl (by decide +kernel) ?_
  refine g_aload_n (pc := 59) (i := 0) (x := a7 17) C dX5_init_59 rfl rfl ?_
  refine g_bipush (pc := 60) (v := 28) C dX5_init_60 rfl ?_
  refine g_newA (pc := 62) (n := 25) (len := 28) C false rfl wa_I dX5_init_62 (by decide +kernel) (by decide +kernel) rfl (by decide) (by decide) (by decide) (hce.mono (by decide) (by decide)) (fun a8 h8 => ?_)
  rw [← h8 17 (by decide)]
  have hA := Agr.tr hA (by decide) h8
  refine g_putFR (pc := 64) (a := 17) (r := 25) (rs := [none, none, some 18, none, some 19, some 20, some 21, none, some 22, some 23, some 24, none, none, none, none]) C hI ok_X5 11 (by decide) wf_X5_34 dX5_init_64 rfl rfl rfl rfl (by decide) rfl (by decide +kernel) ?_
  refine g_aload_n (pc := 67) (i := 0) (x := a8 17) C dX5_init_67 rfl rfl ?_
  refine g_bipush (pc := 68) (v := 6) C dX5_init_68 rfl ?_
  refine g_newA (pc := 70) (n := 26) (len := 6) C false rfl wa_I dX5_init_70 (by decide +kernel) (by decide +kernel) rfl (by decide) (by decide) (by decide) (hce.mono (by decide) (by decide)) (fun a9 h9 => ?_)
  rw [← h9 17 (by decide)]
  have hA := Agr.tr hA (by decide) h9
  refine g_putFR (pc := 72) (a := 17) (r := 26) (rs := [none, none, some 18, none, some 19, some 20, some 21, none, some 22, some 23, some 24, some 25, none, none, none]) C hI ok_X5 13 (by decide) wf_X5_37 dX5_init_72 rfl rfl rfl rfl (by decide) rfl (by decide +kernel) ?_
  refine g_aload_n (pc := 75) (i := 0) (x := a9 17) C dX5_init_75 rfl rfl ?_
  refine g_new (pc := 76) (n := 27) C ok_X0 df_X0 wk_X5_40 wi_X0 wz_X0 dX5_init_76 (by decide +kernel) (by decide +kernel) rfl (hce.mono (by decide) (by decide)) (fun a10 h10 => ?_)
  rw [← h10 17 (by decide)]
  have hA := Agr.tr hA (by decide) h10
  refine g_dup (pc := 79) C dX5_init_79 rfl ?_
  refine g_lay (lay' := Y_8) (by decide +kernel) ?_
  refine g_callIN (pc := 80) (n := 28) (dc := d - 1) (mc := 3) (ms := 28) C (hce.mono (by decide) (by decide)) mi_X0_init mo_X0 nm_X5_42 dX5_init_80 [] [.ref (a10 27), .ref (a10 17)] (by omega) rfl rfl (Nat.le_of_ble_eq_true rfl) (i_X0_27 (by omega)) (fun a11 h11 => ?_)
  rw [← h11 17 (by decide), ← h11 27 (by decide)]
  have hA := Agr.tr hA (by decide) h11
  refine g_putFR (pc := 83) (a := 17) (r := 27) (rs := [none, none, some 18, none, some 19, some 20, some 21, none, some 22, some 23, some 24, some 25, none, some 26, none]) C hI ok_X5 14 (by decide) wf_X5_43 dX5_init_83 rfl rfl rfl rfl (by decide) rfl (by decide +kernel) ?_
  refine g_lay (lay' := Y_10) (by decide +kernel) ?_
  exact g_vretN (pc := 86) C hP hA dX5_init_86
set_option maxRecDepth 100000 in
set_option maxHeartbeats 4000000 in
theorem i_X0_31 {E : Ex} {a0 : Nat → Nat} {d : Nat} (hd : 1 ≤ d) : ClN E yX0_init cX0_init 1 d 3 28 [.ref (a0 31)] 32 a0 Y_11 MZ Y_12 MZ := by
  refine ClN.of [some (.ref (a0 31))] (by decide +kernel) rfl rfl (Nat.le_of_ble_eq_true rfl) (fun κ C hI hce hP => ?_)
  have C : Cx E κ cX0_init RX0 1 none d := C
  have hA : Agr 32 a0 a0 := Agr.rf
  refine g_aload_n (pc := 0) (i := 0) (x := a0 31) C dX0_init_0 rfl rfl ?_
  refine g_objInit (pc := 1) C (by omega) wo_X0_3 wo_i wo_c dX0_init_1 (Nat.le_of_ble_eq_true rfl) ?_
  refine g_aload_n (pc := 4) (i := 0) (x := a0 31) C dX0_init_4 rfl rfl ?_
  refine g_bipush (pc := 5) (v := 16) C dX0_init_5 rfl ?_
  refine g_newA (pc := 7) (n := 32) (len := 16) C false rfl wa_I dX0_init_7 (by decide +kernel) (by decide +kernel) rfl (by decide) (by decide) (by decide) (hce.mono (by decide) (by decide)) (fun a1 h1 => ?_)
  rw [← h1 31 (by decide)]
  have hA := Agr.tr hA (by decide) h1
  refine g_putFR (pc := 9) (a := 31) (r := 32) (rs := [none, none, none]) C hI ok_X0 0 (by decide) wf_X0_9 dX0_init_9 rfl rfl rfl rfl (by decide) rfl (by decide +kernel) ?_
  refine g_aload_n (pc := 12) (i := 0) (x := a1 31) C dX0_init_12 rfl rfl ?_
  refine g_bipush (pc := 13) (v := 6) C dX0_init_13 rfl ?_
  refine g_newA (pc := 15) (n := 33) (len := 6) C false rfl wa_I dX0_init_15 (by decide +kernel) (by decide +kernel) rfl (by decide) (by decide) (by decide) (hce.mono (by decide) (by decide)) (fun a2 h2 => ?_)
  rw [← h2 31 (by decide)]
  have hA := Agr.tr hA (by decide) h2
  refine g_putFR (pc := 17) (a := 31) (r := 33) (rs := [some 32, none, none]) C hI ok_X0 1 (by decide) wf_X0_15 dX0_init_17 rfl rfl rfl rfl (by decide) rfl (by decide +kernel) ?_
  refine g_aload_n (pc := 20) (i := 0) (x := a2 31) C dX0_init_20 rfl rfl ?_
  refine g_bipush (pc := 21) (v := 6) C dX0_init_21 rfl ?_
  refine g_newA (pc := 23) (n := 34) (len := 6) C false rfl wa_I dX0_init_23 (by decide +kernel) (by decide +kernel) rfl (by decide) (by decide) (by decide) (hce.mono (by decide) (by decide)) (fun a3 h3 => ?_)
  rw [← h3 31 (by decide)]
  have hA := Agr.tr hA (by decide) h3
  refine g_putFR (pc := 25) (a := 31) (r := 34) (rs := [some 32, some 33, none]) C hI ok_X0 2 (by decide) wf_X0_18 dX0_init_25 rfl rfl rfl rfl (by decide) rfl (by decide +kernel) ?_
  refine g_lay (lay' := Y_12) (by decide +kernel) ?_
  exact g_vretN (pc := 28) C hP hA dX0_init_28
set_option maxRecDepth 100000 in
set_option maxHeartbeats 4000000 in
theorem i_X0_35 {E : Ex} {a0 : Nat → Nat} {d : Nat} (hd : 1 ≤ d) : ClN E yX0_init cX0_init 1 d 3 28 [.ref (a0 35)] 36 a0 Y_13 MZ Y_14 MZ := by
  refine ClN.of [some (.ref (a0 35))] (by decide +kernel) rfl rfl (Nat.le_of_ble_eq_true rfl) (fun κ C hI hce hP => ?_)
  have C : Cx E κ cX0_init RX0 1 none d := C
  have hA : Agr 36 a0 a0 := Agr.rf
  refine g_aload_n (pc := 0) (i := 0) (x := a0 35) C dX0_init_0 rfl rfl ?_
  refine g_objInit (pc := 1) C (by omega) wo_X0_3 wo_i wo_c dX0_init_1 (Nat.le_of_ble_eq_true rfl) ?_
  refine g_aload_n (pc := 4) (i := 0) (x := a0 35) C dX0_init_4 rfl rfl ?_
  refine g_bipush (pc := 5) (v := 16) C dX0_init_5 rfl ?_
  refine g_newA (pc := 7) (n := 36) (len := 16) C false rfl wa_I dX0_init_7 (by decide +kernel) (by decide +kernel) rfl (by decide) (by decide) (by decide) (hce.mono (by decide) (by decide)) (fun a1 h1 => ?_)
  rw [← h1 35 (by decide)]
  have hA := Agr.tr hA (by decide) h1
  refine g_putFR (pc := 9) (a := 35) (r := 36) (rs := [none, none, none]) C hI ok_X0 0 (by decide) wf_X0_9 dX0_init_9 rfl rfl rfl rfl (by decide) rfl (by decide +kernel) ?_
  refine g_aload_n (pc := 12) (i := 0) (x := a1 35) C dX0_init_12 rfl rfl ?_
  refine g_bipush (pc := 13) (v := 6) C dX0_init_13 rfl ?_
  refine g_newA (pc := 15) (n := 37) (len := 6) C false rfl wa_I dX0_init_15 (by decide +kernel) (by decide +kernel) rfl (by decide) (by decide) (by decide) (hce.mono (by decide) (by decide)) (fun a2 h2 => ?_)
  rw [← h2 35 (by decide)]
  have hA := Agr.tr hA (by decide) h2
  refine g_putFR (pc := 17) (a := 35) (r := 37) (rs := [some 36, none, none]) C hI ok_X0 1 (by decide) wf_X0_15 dX0_init_17 rfl rfl rfl rfl (by decide) rfl (by decide +kernel) ?_
  refine g_aload_n (pc := 20) (i := 0) (x := a2 35) C dX0_init_20 rfl rfl ?_
  refine g_bipush (pc := 21) (v := 6) C dX0_init_21 rfl ?_
  refine g_newA (pc := 23) (n := 38) (len := 6) C false rfl wa_I dX0_init_23 (by decide +kernel) (by decide +kernel) rfl (by decide) (by decide) (by decide) (hce.mono (by decide) (by decide)) (fun a3 h3 => ?_)
  rw [← h3 35 (by decide)]
  have hA := Agr.tr hA (by decide) h3
  refine g_putFR (pc := 25) (a := 35) (r := 38) (rs := [some 36, some 37, none]) C hI ok_X0 2 (by decide) wf_X0_18 dX0_init_25 rfl rfl rfl rfl (by decide) rfl (by decide +kernel) ?_
  refine g_lay (lay' := Y_14) (by decide +kernel) ?_
  exact g_vretN (pc := 28) C hP hA dX0_init_28
set_option maxRecDepth 100000 in
set_option maxHeartbeats 4000000 in
theorem i_X3_39 {E : Ex} {a0 : Nat → Nat} {d : Nat} (hd : 1 ≤ d) : ClN E yX3_init cX3_init 1 d 4 24 [.ref (a0 39)] 40 a0 Y_15 MZ Y_16 MZ := by
  refine ClN.of [some (.ref (a0 39))] (by decide +kernel) rfl rfl (Nat.le_of_ble_eq_true rfl) (fun κ C hI hce hP => ?_)
  have C : Cx E κ cX3_init RX3 1 none d := C
  have hA : Agr 40 a0 a0 := Agr.rf
  refine g_aload_n (pc := 0) (i := 0) (x := a0 39) C dX3_init_0 rfl rfl ?_
  refine g_objInit (pc := 1) C (by omega) wo_X3_3 wo_i wo_c dX3_init_1 (Nat.le_of_ble_eq_true rfl) ?_
  refine g_aload_n (pc := 4) (i := 0) (x := a0 39) C dX3_init_4 rfl rfl ?_
  refine g_bipush (pc := 5) (v := 6) C dX3_init_5 rfl ?_
  refine g_newA (pc := 7) (n := 40) (len := 6) C false rfl wa_I dX3_init_7 (by decide +kernel) (by decide +kernel) rfl (by decide) (by decide) (by decide) (hce.mono (by decide) (by decide)) (fun a1 h1 => ?_)
  rw [← h1 39 (by decide)]
  have hA := Agr.tr hA (by decide) h1
  refine g_putFR (pc := 9) (a := 39) (r := 40) (rs := [none, none, none, none]) C hI ok_X3 0 (by decide) wf_X3_9 dX3_init_9 rfl rfl rfl rfl (by decide) rfl (by decide +kernel) ?_
  refine g_aload_n (pc := 12) (i := 0) (x := a1 39) C dX3_init_12 rfl rfl ?_
  refine g_bipush (pc := 13) (v := 6) C dX3_init_13 rfl ?_
  refine g_newA (pc := 15) (n := 41) (len := 6) C false rfl wa_I dX3_init_15 (by decide +kernel) (by decide +kernel) rfl (by decide) (by decide) (by decide) (hce.mono (by decide) (by decide)) (fun a2 h2 => ?_)
  rw [← h2 39 (by decide)]
  have hA := Agr.tr hA (by decide) h2
  refine g_putFR (pc := 17) (a := 39) (r := 41) (rs := [some 40, none, none, none]) C hI ok_X3 1 (by decide) wf_X3_15 dX3_init_17 rfl rfl rfl rfl (by decide) rfl (by decide +kernel) ?_
  refine g_aload_n (pc := 20) (i := 0) (x := a2 39) C dX3_init_20 rfl rfl ?_
  refine g_bipush (pc := 21) (v := 6) C dX3_init_21 rfl ?_
  refine g_newA (pc := 23) (n := 42) (len := 6) C true rfl wa_Z dX3_init_23 (by decide +kernel) (by decide +kernel) rfl (by decide) (by decide) (by decide) (hce.mono (by decide) (by decide)) (fun a3 h3 => ?_)
  rw [← h3 39 (by decide)]
  have hA := Agr.tr hA (by decide) h3
  refine g_putFR (pc := 25) (a := 39) (r := 42) (rs := [some 40, some 41, none, none]) C hI ok_X3 2 (by decide) wf_X3_18 dX3_init_25 rfl rfl rfl rfl (by decide) rfl (by decide +kernel) ?_
  refine g_aload_n (pc := 28) (i := 0) (x := a3 39) C dX3_init_28 rfl rfl ?_
  refine g_bipush (pc := 29) (v := 6) C dX3_init_29 rfl ?_
  refine g_newA (pc := 31) (n := 43) (len := 6) C true rfl wa_Z dX3_init_31 (by decide +kernel) (by decide +kernel) rfl (by decide) (by decide) (by decide) (hce.mono (by decide) (by decide)) (fun a4 h4 => ?_)
  rw [← h4 39 (by decide)]
  have hA := Agr.tr hA (by decide) h4
  refine g_putFR (pc := 33) (a := 39) (r := 43) (rs := [some 40, some 41, some 42, none]) C hI ok_X3 3 (by decide) wf_X3_22 dX3_init_33 rfl rfl rfl rfl (by decide) rfl (by decide +kernel) ?_
  refine g_lay (lay' := Y_16) (by decide +kernel) ?_
  exact g_vretN (pc := 36) C hP hA dX3_init_36
set_option maxRecDepth 100000 in
set_option maxHeartbeats 4000000 in
theorem i_X0_45 {E : Ex} {a0 : Nat → Nat} {d : Nat} (hd : 1 ≤ d) : ClN E yX0_init cX0_init 1 d 3 28 [.ref (a0 45)] 46 a0 Y_18 MZ Y_19 MZ := by
  refine ClN.of [some (.ref (a0 45))] (by decide +kernel) rfl rfl (Nat.le_of_ble_eq_true rfl) (fun κ C hI hce hP => ?_)
  have C : Cx E κ cX0_init RX0 1 none d := C
  have hA : Agr 46 a0 a0 := Agr.rf
  refine g_aload_n (pc := 0) (i := 0) (x := a0 45) C dX0_init_0 rfl rfl ?_
  refine g_objInit (pc := 1) C (by omega) wo_X0_3 wo_i wo_c dX0_init_1 (Nat.le_of_ble_eq_true rfl) ?_
  refine g_aload_n (pc := 4) (i := 0) (x := a0 45) C dX0_init_4 rfl rfl ?_
  refine g_bipush (pc := 5) (v := 16) C dX0_init_5 rfl ?_
  refine g_newA (pc := 7) (n := 46) (len := 16) C false rfl wa_I dX0_init_7 (by decide +kernel) (by decide +kernel) rfl (by decide) (by decide) (by decide) (hce.mono (by decide) (by decide)) (fun a1 h1 => ?_)
  rw [← h1 45 (by decide)]
  have hA := Agr.tr hA (by decide) h1
  refine g_putFR (pc := 9) (a := 45) (r := 46) (rs := [none, none, none]) C hI ok_X0 0 (by decide) wf_X0_9 dX0_init_9 rfl rfl rfl rfl (by decide) rfl (by decide +kernel) ?_
  refine g_aload_n (pc := 12) (i := 0) (x := a1 45) C dX0_init_12 rfl rfl ?_
  refine g_bipush (pc := 13) (v := 6) C dX0_init_13 rfl ?_
  refine g_newA (pc := 15) (n := 47) (len := 6) C false rfl wa_I dX0_init_15 (by decide +kernel) (by decide +kernel) rfl (by decide) (by decide) (by decide) (hce.mono (by decide) (by decide)) (fun a2 h2 => ?_)
  rw [← h2 45 (by decide)]
  have hA := Agr.tr hA (by decide) h2
  refine g_putFR (pc := 17) (a := 45) (r := 47) (rs := [some 46, none, none]) C hI ok_X0 1 (by decide) wf_X0_15 dX0_init_17 rfl rfl rfl rfl (by decide) rfl (by decide +kernel) ?_
  refine g_aload_n (pc := 20) (i := 0) (x := a2 45) C dX0_init_20 rfl rfl ?_
  refine g_bipush (pc := 21) (v := 6) C dX0_init_21 rfl ?_
  refine g_newA (pc := 23) (n := 48) (len := 6) C false rfl wa_I dX0_init_23 (by decide +kernel) (by decide +kernel) rfl (by decide) (by decide) (by decide) (hce.mono (by decide) (by decide)) (fun a3 h3 => ?_)
  rw [← h3 45 (by decide)]
  have hA := Agr.tr hA (by decide) h3
  refine g_putFR (pc := 25) (a := 45) (r := 48) (rs := [some 46, some 47, none]) C hI ok_X0 2 (by decide) wf_X0_18 dX0_init_25 rfl rfl rfl rfl (by decide) rfl (by decide +kernel) ?_
  refine g_lay (lay' := Y_19) (by decide +kernel) ?_
  exact g_vretN (pc := 28) C hP hA dX0_init_28
set_option maxRecDepth 100000 in
set_option maxHeartbeats 4000000 in
theorem i_X4_44 {E : Ex} {a0 : Nat → Nat} {d : Nat} (hd : 2 ≤ d) : ClN E yX4_init cX4_init 1 d 7 63 [.ref (a0 44)] 45 a0 Y_17 MZ Y_20 MZ := by
  refine ClN.of [some (.ref (a0 44))] (by decide +kernel) rfl rfl (Nat.le_of_ble_eq_true rfl) (fun κ C hI hce hP => ?_)
  have C : Cx E κ cX4_init RX4 1 none d := C
  have hA : Agr 45 a0 a0 := Agr.rf
  refine g_aload_n (pc := 0) (i := 0) (x := a0 44) C dX4_init_0 rfl rfl ?_
  refine g_objInit (pc := 1) C (by omega) wo_X4_3 wo_i wo_c dX4_init_1 (Nat.le_of_ble_eq_true rfl) ?_
  refine g_aload_n (pc := 4) (i := 0) (x := a0 44) C dX4_init_4 rfl rfl ?_
  refine g_new (pc := 5) (n := 45) C ok_X0 df_X0 wk_X4_9 wi_X0 wz_X0 dX4_init_5 (by decide +kernel) (by decide +kernel) rfl (hce.mono (by decide) (by decide)) (fun a1 h1 => ?_)
  rw [← h1 44 (by decide)]
  have hA := Agr.tr hA (by decide) h1
  refine g_dup (pc := 8) C dX4_init_8 rfl ?_
  refine g_lay (lay' := Y_18) (by decide +kernel) ?_
  refine g_callIN (pc := 9) (n := 46) (dc := d - 1) (mc := 3) (ms := 28) C (hce.mono (by decide) (by decide)) mi_X0_init mo_X0 nm_X4_11 dX4_init_9 [] [.ref (a1 45), .ref (a1 44)] (by omega) rfl rfl (Nat.le_of_ble_eq_true rfl) (i_X0_45 (by omega)) (fun a2 h2 => ?_)
  rw [← h2 44 (by decide), ← h2 45 (by decide)]
  have hA := Agr.tr hA (by decide) h2
  refine g_putFR (pc := 12) (a := 44) (r := 45) (rs := [none, none, none, none, none, none]) C hI ok_X4 0 (by decide) wf_X4_12 dX4_init_12 rfl rfl rfl rfl (by decide) rfl (by decide +kernel) ?_
  refine g_aload_n (pc := 15) (i := 0) (x := a2 44) C dX4_init_15 rfl rfl ?_
  refine g_bipush (pc := 16) (v := 8) C dX4_init_16 rfl ?_
  refine g_newA (pc := 18) (n := 49) (len := 8) C false rfl wa_I dX4_init_18 (by decide +kernel) (by decide +kernel) rfl (by decide) (by decide) (by decide) (hce.mono (by decide) (by decide)) (fun a3 h3 => ?_)
  rw [← h3 44 (by decide)]
  have hA := Agr.tr hA (by decide) h3
  refine g_putFR (pc := 20) (a := 44) (r := 49) (rs := [some 45, none, none, none, none, none]) C hI ok_X4 1 (by decide) wf_X4_18 dX4_init_20 rfl rfl rfl rfl (by decide) rfl (by decide +kernel) ?_
  refine g_aload_n (pc := 23) (i := 0) (x := a3 44) C dX4_init_23 rfl rfl ?_
  refine g_bipush (pc := 24) (v := 8) C dX4_init_24 rfl ?_
  refine g_newA (pc := 26) (n := 50) (len := 8) C false rfl wa_I dX4_init_26 (by decide +kernel) (by decide +kernel) rfl (by decide) (by decide) (by decide) (hce.mono (by decide) (by decide)) (fun a4 h4 => ?_)
  rw [← h4 44 (by decide)]
  have hA := Agr.tr hA (by decide) h4
  refine g_putFR (pc := 28) (a := 44) (r := 50) (rs := [some 45, some 49, none, none, none, none]) C hI ok_X4 2 (by decide) wf_X4_22 dX4_init_28 rfl rfl rfl rfl (by decide) rfl (by decide +kernel) ?_
  refine g_aload_n (pc := 31) (i := 0) (x := a4 44) C dX4_init_31 rfl rfl ?_
  refine g_bipush (pc := 32) (v := 16) C dX4_init_32 rfl ?_
  refine g_newA (pc := 34) (n := 51) (len := 16) C false rfl wa_I dX4_init_34 (by decide +kernel) (by decide +kernel) rfl (by decide) (by decide) (by decide) (hce.mono (by decide) (by decide)) (fun a5 h5 => ?_)
  rw [← h5 44 (by decide)]
  have hA := Agr.tr hA (by decide) h5
  refine g_putFR (pc := 36) (a := 44) (r := 51) (rs := [some 45, some 49, some 50, none, none, none]) C hI ok_X4 3 (by decide) wf_X4_25 dX4_init_36 rfl rfl rfl rfl (by decide) rfl (by decide +kernel) ?_
  refine g_lay (lay' := Y_20) (by decide +kernel) ?_
  exact g_vretN (pc := 39) C hP hA dX4_init_39
set_option maxRecDepth 100000 in
set_option maxHeartbeats 4000000 in
theorem i_X1_52 {E : Ex} {a0 : Nat → Nat} {d : Nat} (hd : 1 ≤ d) : ClN E yX1_init cX1_init 2 d 3 224 [.ref (a0 52), .int 8] 53 a0 Y_21 MZ Y_22 (mset MZ 52 0 8) := by
  refine ClN.of [some (.ref (a0 52)), some (.int 8)] (by decide +kernel) rfl rfl (Nat.le_of_ble_eq_true rfl) (fun κ C hI hce hP => ?_)
  have C : Cx E κ cX1_init RX1 2 none d := C
  have hA : Agr 53 a0 a0 := Agr.rf
  refine g_aload_n (pc := 0) (i := 0) (x := a0 52) C dX1_init_0 rfl rfl ?_
  refine g_objInit (pc := 1) C (by omega) wo_X1_3 wo_i wo_c dX1_init_1 (Nat.le_of_ble_eq_true rfl) ?_
  refine g_aload_n (pc := 4) (i := 0) (x := a0 52) C dX1_init_4 rfl rfl ?_
  refine g_iload_n (pc := 5) (i := 1) (x := 8) C dX1_init_5 rfl rfl ?_
  refine g_putFI (pc := 6) (a := 52) (rs := [none, none, none, none, none]) C hI ok_X1 0 (by decide) wf_X1_9 dX1_init_6 rfl rfl rfl (by decide +kernel) ?_
  refine g_aload_n (pc := 9) (i := 0) (x := a0 52) C dX1_init_9 rfl rfl ?_
  refine g_iload_n (pc := 10) (i := 1) (x := 8) C dX1_init_10 rfl rfl ?_
  refine g_bipush (pc := 11) (v := 16) C dX1_init_11 rfl ?_
  refine g_imul (pc := 13) C dX1_init_13 ?_
  refine g_newA (pc := 14) (n := 53) (len := 128) C false rfl wa_I dX1_init_14 (by decide +kernel) (by decide +kernel) rfl (by decide) (by decide) (by decide) (hce.mono (by decide) (by decide)) (fun a1 h1 => ?_)
  rw [← h1 52 (by decide)]
  have hA := Agr.tr hA (by decide) h1
  refine g_putFR (pc := 16) (a := 52) (r := 53) (rs := [none, none, none, none, none]) C hI ok_X1 1 (by decide) wf_X1_15 dX1_init_16 rfl rfl rfl rfl (by decide) rfl (by decide +kernel) ?_
  refine g_aload_n (pc := 19) (i := 0) (x := a1 52) C dX1_init_19 rfl rfl ?_
  refine g_iload_n (pc := 20) (i := 1) (x := 8) C dX1_init_20 rfl rfl ?_
  refine g_bipush (pc := 21) (v := 6) C dX1_init_21 rfl ?_
  refine g_imul (pc := 23) C dX1_init_23 ?_
  refine g_newA (pc := 24) (n := 54) (len := 48) C false rfl wa_I dX1_init_24 (by decide +kernel) (by decide +kernel) rfl (by decide) (by decide) (by decide) (hce.mono (by decide) (by decide)) (fun a2 h2 => ?_)
  rw [← h2 52 (by decide)]
  have hA := Agr.tr hA (by decide) h2
  refine g_putFR (pc := 26) (a := 52) (r := 54) (rs := [none, some 53, none, none, none]) C hI ok_X1 2 (by decide) wf_X1_19 dX1_init_26 rfl rfl rfl rfl (by decide) rfl (by decide +kernel) ?_
  refine g_aload_n (pc := 29) (i := 0) (x := a2 52) C dX1_init_29 rfl rfl ?_
  refine g_iload_n (pc := 30) (i := 1) (x := 8) C dX1_init_30 rfl rfl ?_
  refine g_bipush (pc := 31) (v := 6) C dX1_init_31 rfl ?_
  refine g_imul (pc := 33) C dX1_init_33 ?_
  refine g_newA (pc := 34) (n := 55) (len := 48) C false rfl wa_I dX1_init_34 (by decide +kernel) (by decide +kernel) rfl (by decide) (by decide) (by decide) (hce.mono (by decide) (by decide)) (fun a3 h3 => ?_)
  rw [← h3 52 (by decide)]
  have hA := Agr.tr hA (by decide) h3
  refine g_putFR (pc := 36) (a := 52) (r := 55) (rs := [none, some 53, some 54, none, none]) C hI ok_X1 3 (by decide) wf_X1_22 dX1_init_36 rfl rfl rfl rfl (by decide) rfl (by decide +kernel) ?_
  refine g_lay (lay' := Y_22) (by decide +kernel) ?_
  exact g_vretN (pc := 39) C hP hA dX1_init_39
set_option maxRecDepth 100000 in
set_option maxHeartbeats 4000000 in
theorem i_X1_56 {E : Ex} {a0 : Nat → Nat} {d : Nat} (hd : 1 ≤ d) : ClN E yX1_init cX1_init 2 d 3 56 [.ref (a0 56), .int 2] 57 a0 Y_23 (mset MZ 52 0 8) Y_24 (mset (mset MZ 52 0 8) 56 0 2) := by
  refine ClN.of [some (.ref (a0 56)), some (.int 2)] (by decide +kernel) rfl rfl (Nat.le_of_ble_eq_true rfl) (fun κ C hI hce hP => ?_)
  have C : Cx E κ cX1_init RX1 2 none d := C
  have hA : Agr 57 a0 a0 := Agr.rf
  refine g_aload_n (pc := 0) (i := 0) (x := a0 56) C dX1_init_0 rfl rfl ?_
  refine g_objInit (pc := 1) C (by omega) wo_X1_3 wo_i wo_c dX1_init_1 (Nat.le_of_ble_eq_true rfl) ?_
  refine g_aload_n (pc := 4) (i := 0) (x := a0 56) C dX1_init_4 rfl rfl ?_
  refine g_iload_n (pc := 5) (i := 1) (x := 2) C dX1_init_5 rfl rfl ?_
  refine g_putFI (pc := 6) (a := 56) (rs := [none, none, none, none, none]) C hI ok_X1 0 (by decide) wf_X1_9 dX1_init_6 rfl rfl rfl (by decide +kernel) ?_
  refine g_aload_n (pc := 9) (i := 0) (x := a0 56) C dX1_init_9 rfl rfl ?_
  refine g_iload_n (pc := 10) (i := 1) (x := 2) C dX1_init_10 rfl rfl ?_
  refine g_bipush (pc := 11) (v := 16) C dX1_init_11 rfl ?_
  refine g_imul (pc := 13) C dX1_init_13 ?_
  refine g_newA (pc := 14) (n := 57) (len := 32) C false rfl wa_I dX1_init_14 (by decide +kernel) (by decide +kernel) rfl (by decide) (by decide) (by decide) (hce.mono (by decide) (by decide)) (fun a1 h1 => ?_)
  rw [← h1 56 (by decide)]
  have hA := Agr.tr hA (by decide) h1
  refine g_putFR (pc := 16) (a := 56) (r := 57) (rs := [none, none, none, none, none]) C hI ok_X1 1 (by decide) wf_X1_15 dX1_init_16 rfl rfl rfl rfl (by decide) rfl (by decide +kernel) ?_
  refine g_aload_n (pc := 19) (i := 0) (x := a1 56) C dX1_init_19 rfl rfl ?_
  refine g_iload_n (pc := 20) (i := 1) (x := 2) C dX1_init_20 rfl rfl ?_
  refine g_bipush (pc := 21) (v := 6) C dX1_init_21 rfl ?_
  refine g_imul (pc := 23) C dX1_init_23 ?_
  refine g_newA (pc := 24) (n := 58) (len := 12) C false rfl wa_I dX1_init_24 (by decide +kernel) (by decide +kernel) rfl (by decide) (by decide) (by decide) (hce.mono (by decide) (by decide)) (fun a2 h2 => ?_)
  rw [← h2 56 (by decide)]
  have hA := Agr.tr hA (by decide) h2
  refine g_putFR (pc := 26) (a := 56) (r := 58) (rs := [none, some 57, none, none, none]) C hI ok_X1 2 (by decide) wf_X1_19 dX1_init_26 rfl rfl rfl rfl (by decide) rfl (by decide +kernel) ?_
  refine g_aload_n (pc := 29) (i := 0) (x := a2 56) C dX1_init_29 rfl rfl ?_
  refine g_iload_n (pc := 30) (i := 1) (x := 2) C dX1_init_30 rfl rfl ?_
  refine g_bipush (pc := 31) (v := 6) C dX1_init_31 rfl ?_
  refine g_imul (pc := 33) C dX1_init_33 ?_
  refine g_newA (pc := 34) (n := 59) (len := 12) C false rfl wa_I dX1_init_34 (by decide +kernel) (by decide +kernel) rfl (by decide) (by decide) (by decide) (hce.mono (by decide) (by decide)) (fun a3 h3 => ?_)
  rw [← h3 56 (by decide)]
  have hA := Agr.tr hA (by decide) h3
  refine g_putFR (pc := 36) (a := 56) (r := 59) (rs := [none, some 57, some 58, none, none]) C hI ok_X1 3 (by decide) wf_X1_22 dX1_init_36 rfl rfl rfl rfl (by decide) rfl (by decide +kernel) ?_
  refine g_lay (lay' := Y_24) (by decide +kernel) ?_
  exact g_vretN (pc := 39) C hP hA dX1_init_39
