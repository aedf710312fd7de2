/-! ===== constructors: of the reference ===== -/
def PK (N : e_M) : Prop := (∀ j, N 0 j = 0) ∧ (∀ b, N 1 b = upd (upd (fun _ => 0) 0 1) 4 10 b) ∧ (∀ b, N 2 b = 0) ∧ (∀ b, N 3 b = 0) ∧ (∀ b, N 6 b = 0) ∧ okc0 N ∧ (∀ b, N 13 b = 0) ∧ (∀ j, j < 4 → N 14 j = -1) ∧ (∀ b, N 15 b = 0) ∧ (∀ b, N 16 b = 0) ∧ (∀ b, N 17 b = 0) ∧ ∀ b, N 22 b = 0
def wc8_0 : List e_S := [.inr (7, [some .null, some .null, some .null, none, some .null, some .null, some .null, none, none, none, none, none, none, none, some .null, some .null, some .null, none, none, some .null, none, some .null, some .null, some .null, some .null, some .null, some .null, some .null, some .null, some .null, some .null, some .null, some .null, none])]
def wc8_1 : List e_S := [.inr (7, [some .null, some .null, some .null, none, some .null, some .null, some .null, none, none, none, none, none, none, none, some .null, some .null, some .null, none, none, some .null, none, some .null, some .null, some .null, some .null, some .null, some .null, some .null, some .null, some .null, some .null, some .null, some .null, none]), .inl (0, 1468, none)]
def wc8_2 : List e_S := [.inr (7, [some (.ref 1), some .null, some .null, none, some .null, some .null, some .null, none, none, none, none, none, none, none, some .null, some .null, some .null, none, none, some .null, none, some .null, some .null, some .null, some .null, some .null, some .null, some .null, some .null, some .null, some .null, some .null, some .null, none]), .inl (0, 1468, none)]
def wc8_3 : List e_S := [.inr (7, [some (.ref 1), some .null, some .null, none, some .null, some .null, some .null, none, none, none, none, none, none, none, some .null, some .null, some .null, none, none, some .null, none, some .null, some .null, some .null, some .null, some .null, some .null, some .null, some .null, some .null, some .null, some .null, some .null, none]), .inl (0, 1468, none), .inl (0, 1468, none)]
def wc8_4 : List e_S := [.inr (7, [some (.ref 1), some (.ref 2), some .null, none, some .null, some .null, some .null, none, none, none, none, none, none, none, some .null, some .null, some .null, none, none, some .null, none, some .null, some .null, some .null, some .null, some .null, some .null, some .null, some .null, some .null, some .null, some .null, some .null, none]), .inl (0, 1468, none), .inl (0, 1468, none)]
def wc8_5 : List e_S := [.inr (7, [some (.ref 1), some (.ref 2), some .null, none, some .null, some .null, some .null, none, none, none, none, none, none, none, some .null, some .null, some .null, none, none, some .null, none, some .null, some .null, some .null, some .null, some .null, some .null, some .null, some .null, some .null, some .null, some .null, some .null, none]), .inl (0, 1468, none), .inl (0, 1468, none), .inl (0, 1468, none)]
def wc8_6 : List e_S := [.inr (7, [some (.ref 1), some (.ref 2), some (.ref 3), none, some .null, some .null, some .null, none, none, none, none, none, none, none, some .null, some .null, some .null, none, none, some .null, none, some .null, some .null, some .null, some .null, some .null, some .null, some .null, some .null, some .null, some .null, some .null, some .null, none]), .inl (0, 1468, none), .inl (0, 1468, none), .inl (0, 1468, none)]
def wc8_7 : List e_S := [.inr (7, [some (.ref 1), some (.ref 2), some (.ref 3), none, some .null, some .null, some .null, none, none, none, none, none, none, none, some .null, some .null, some .null, none, none, some .null, none, some .null, some .null, some .null, some .null, some .null, some .null, some .null, some .null, some .null, some .null, some .null, some .null, none]), .inl (0, 1468, none), .inl (0, 1468, none), .inl (0, 1468, none), .inl (1, 10, none)]
def wc8_8 : List e_S := [.inr (7, [some (.ref 1), some (.ref 2), some (.ref 3), none, some (.ref 4), some .null, some .null, none, none, none, none, none, none, none, some .null, some .null, some .null, none, none, some .null, none, some .null, some .null, some .null, some .null, some .null, some .null, some .null, some .null, some .null, some .null, some .null, some .null, none]), .inl (0, 1468, none), .inl (0, 1468, none), .inl (0, 1468, none), .inl (1, 10, none)]
def wc8_9 : List e_S := [.inr (7, [some (.ref 1), some (.ref 2), some (.ref 3), none, some (.ref 4), some .null, some .null, none, none, none, none, none, none, none, some .null, some .null, some .null, none, none, some .null, none, some .null, some .null, some .null, some .null, some .null, some .null, some .null, some .null, some .null, some .null, some .null, some .null, none]), .inl (0, 1468, none), .inl (0, 1468, none), .inl (0, 1468, none), .inl (1, 10, none), .inl (0, 96, none)]
def wc8_10 : List e_S := [.inr (7, [some (.ref 1), some (.ref 2), some (.ref 3), none, some (.ref 4), some (.ref 5), some .null, none, none, none, none, none, none, none, some .null, some .null, some .null, none, none, some .null, none, some .null, some .null, some .null, some .null, some .null, some .null, some .null, some .null, some .null, some .null, some .null, some .null, none]), .inl (0, 1468, none), .inl (0, 1468, none), .inl (0, 1468, none), .inl (1, 10, none), .inl (0, 96, none)]
def wc8_11 : List e_S := [.inr (7, [some (.ref 1), some (.ref 2), some (.ref 3), none, some (.ref 4), some (.ref 5), some .null, none, none, none, none, none, none, none, some .null, some .null, some .null, none, none, some .null, none, some .null, some .null, some .null, some .null, some .null, some .null, some .null, some .null, some .null, some .null, some .null, some .null, none]), .inl (0, 1468, none), .inl (0, 1468, none), .inl (0, 1468, none), .inl (1, 10, none), .inl (0, 96, none), .inl (0, 96, none)]
def wc8_12 : List e_S := [.inr (7, [some (.ref 1), some (.ref 2), some (.ref 3), none, some (.ref 4), some (.ref 5), some (.ref 6), none, none, none, none, none, none, none, some .null, some .null, some .null, none, none, some .null, none, some .null, some .null, some .null, some .null, some .null, some .null, some .null, some .null, some .null, some .null, some .null, some .null, none]), .inl (0, 1468, none), .inl (0, 1468, none), .inl (0, 1468, none), .inl (1, 10, none), .inl (0, 96, none), .inl (0, 96, none)]
def wc8_13 : List e_S := [.inr (7, [some (.ref 1), some (.ref 2), some (.ref 3), none, some (.ref 4), some (.ref 5), some (.ref 6), none, none, none, none, none, none, none, some .null, some .null, some .null, none, none, some .null, none, some .null, some .null, some .null, some .null, some .null, some .null, some .null, some .null, some .null, some .null, some .null, some .null, none]), .inl (0, 1468, none), .inl (0, 1468, none), .inl (0, 1468, none), .inl (1, 10, none), .inl (0, 96, none), .inl (0, 96, none), .inl (2, 11, none)]
def wc8_14 : List e_S := [.inr (7, [some (.ref 1), some (.ref 2), some (.ref 3), none, some (.ref 4), some (.ref 5), some (.ref 6), none, none, none, none, none, none, none, some (.ref 7), some .null, some .null, none, none, some .null, none, some .null, some .null, some .null, some .null, some .null, some .null, some .null, some .null, some .null, some .null, some .null, some .null, none]), .inl (0, 1468, none), .inl (0, 1468, none), .inl (0, 1468, none), .inl (1, 10, none), .inl (0, 96, none), .inl (0, 96, none), .inl (2, 11, none)]
def wc8_15 : List e_S := [.inr (7, [some (.ref 1), some (.ref 2), some (.ref 3), none, some (.ref 4), some (.ref 5), some (.ref 6), none, none, none, none, none, none, none, some (.ref 7), some .null, some .null, none, none, some .null, none, some .null, some .null, some .null, some .null, some .null, some .null, some .null, some .null, some .null, some .null, some .null, some .null, none]), .inl (0, 1468, none), .inl (0, 1468, none), .inl (0, 1468, none), .inl (1, 10, none), .inl (0, 96, none), .inl (0, 96, none), .inl (2, 11, none), .inl (0, 4, none)]
def wc8_16 : List e_S := [.inr (7, [some (.ref 1), some (.ref 2), some (.ref 3), none, some (.ref 4), some (.ref 5), some (.ref 6), none, none, none, none, none, none, none, some (.ref 7), some (.ref 8), some .null, none, none, some .null, none, some .null, some .null, some .null, some .null, some .null, some .null, some .null, some .null, some .null, some .null, some .null, some .null, none]), .inl (0, 1468, none), .inl (0, 1468, none), .inl (0, 1468, none), .inl (1, 10, none), .inl (0, 96, none), .inl (0, 96, none), .inl (2, 11, none), .inl (0, 4, none)]
def wc8_17 : List e_S := [.inr (7, [some (.ref 1), some (.ref 2), some (.ref 3), none, some (.ref 4), some (.ref 5), some (.ref 6), none, none, none, none, none, none, none, some (.ref 7), some (.ref 8), some .null, none, none, some .null, none, some .null, some .null, some .null, some .null, some .null, some .null, some .null, some .null, some .null, some .null, some .null, some .null, none]), .inl (0, 1468, none), .inl (0, 1468, none), .inl (0, 1468, none), .inl (1, 10, none), .inl (0, 96, none), .inl (0, 96, none), .inl (2, 11, none), .inl (0, 4, none), .inl (0, 96, none)]
def wc8_18 : List e_S := [.inr (7, [some (.ref 1), some (.ref 2), some (.ref 3), none, some (.ref 4), some (.ref 5), some (.ref 6), none, none, none, none, none, none, none, some (.ref 7), some (.ref 8), some (.ref 9), none, none, some .null, none, some .null, some .null, some .null, some .null, some .null, some .null, some .null, some .null, some .null, some .null, some .null, some .null, none]), .inl (0, 1468, none), .inl (0, 1468, none), .inl (0, 1468, none), .inl (1, 10, none), .inl (0, 96, none), .inl (0, 96, none), .inl (2, 11, none), .inl (0, 4, none), .inl (0, 96, none)]
def wc8_19 : List e_S := [.inr (7, [some (.ref 1), some (.ref 2), some (.ref 3), none, some (.ref 4), some (.ref 5), some (.ref 6), none, none, none, none, none, none, none, some (.ref 7), some (.ref 8), some (.ref 9), none, none, some .null, none, some .null, some .null, some .null, some .null, some .null, some .null, some .null, some .null, some .null, some .null, some .null, some .null, none]), .inl (0, 1468, none), .inl (0, 1468, none), .inl (0, 1468, none), .inl (1, 10, none), .inl (0, 96, none), .inl (0, 96, none), .inl (2, 11, none), .inl (0, 4, none), .inl (0, 96, none), .inl (0, 96, none)]
def wc8_20 : List e_S := [.inr (7, [some (.ref 1), some (.ref 2), some (.ref 3), none, some (.ref 4), some (.ref 5), some (.ref 6), none, none, none, none, none, none, none, some (.ref 7), some (.ref 8), some (.ref 9), none, none, some (.ref 10), none, some .null, some .null, some .null, some .null, some .null, some .null, some .null, some .null, some .null, some .null, some .null, some .null, none]), .inl (0, 1468, none), .inl (0, 1468, none), .inl (0, 1468, none), .inl (1, 10, none), .inl (0, 96, none), .inl (0, 96, none), .inl (2, 11, none), .inl (0, 4, none), .inl (0, 96, none), .inl (0, 96, none)]
def wc8_21 : List e_S := [.inr (7, [some (.ref 1), some (.ref 2), some (.ref 3), none, some (.ref 4), some (.ref 5), some (.ref 6), none, none, none, none, none, none, none, some (.ref 7), some (.ref 8), some (.ref 9), none, none, some (.ref 10), none, some .null, some .null, some .null, some .null, some .null, some .null, some .null, some .null, some .null, some .null, some .null, some .null, none]), .inl (0, 1468, none), .inl (0, 1468, none), .inl (0, 1468, none), .inl (1, 10, none), .inl (0, 96, none), .inl (0, 96, none), .inl (2, 11, none), .inl (0, 4, none), .inl (0, 96, none), .inl (0, 96, none), .inl (1, 10, none)]
def wc8_22 : List e_S := [.inr (7, [some (.ref 1), some (.ref 2), some (.ref 3), none, some (.ref 4), some (.ref 5), some (.ref 6), none, none, none, none, none, none, none, some (.ref 7), some (.ref 8), some (.ref 9), none, none, some (.ref 10), none, some (.ref 11), some .null, some .null, some .null, some .null, some .null, some .null, some .null, some .null, some .null, some .null, some .null, none]), .inl (0, 1468, none), .inl (0, 1468, none), .inl (0, 1468, none), .inl (1, 10, none), .inl (0, 96, none), .inl (0, 96, none), .inl (2, 11, none), .inl (0, 4, none), .inl (0, 96, none), .inl (0, 96, none), .inl (1, 10, none)]
def wc8_23 : List e_S := [.inr (7, [some (.ref 1), some (.ref 2), some (.ref 3), none, some (.ref 4), some (.ref 5), some (.ref 6), none, none, none, none, none, none, none, some (.ref 7), some (.ref 8), some (.ref 9), none, none, some (.ref 10), none, some (.ref 11), some .null, some .null, some .null, some .null, some .null, some .null, some .null, some .null, some .null, some .null, some .null, none]), .inl (0, 1468, none), .inl (0, 1468, none), .inl (0, 1468, none), .inl (1, 10, none), .inl (0, 96, none), .inl (0, 96, none), .inl (2, 11, none), .inl (0, 4, none), .inl (0, 96, none), .inl (0, 96, none), .inl (1, 10, none), .inl (0, 96, none)]
def wc8_24 : List e_S := [.inr (7, [some (.ref 1), some (.ref 2), some (.ref 3), none, some (.ref 4), some (.ref 5), some (.ref 6), none, none, none, none, none, none, none, some (.ref 7), some (.ref 8), some (.ref 9), none, none, some (.ref 10), none, some (.ref 11), some (.ref 12), some .null, some .null, some .null, some .null, some .null, some .null, some .null, some .null, some .null, some .null, none]), .inl (0, 1468, none), .inl (0, 1468, none), .inl (0, 1468, none), .inl (1, 10, none), .inl (0, 96, none), .inl (0, 96, none), .inl (2, 11, none), .inl (0, 4, none), .inl (0, 96, none), .inl (0, 96, none), .inl (1, 10, none), .inl (0, 96, none)]
def wc8_25 : List e_S := [.inr (7, [some (.ref 1), some (.ref 2), some (.ref 3), none, some (.ref 4), some (.ref 5), some (.ref 6), none, none, none, none, none, none, none, some (.ref 7), some (.ref 8), some (.ref 9), none, none, some (.ref 10), none, some (.ref 11), some (.ref 12), some .null, some .null, some .null, some .null, some .null, some .null, some .null, some .null, some .null, some .null, none]), .inl (0, 1468, none), .inl (0, 1468, none), .inl (0, 1468, none), .inl (1, 10, none), .inl (0, 96, none), .inl (0, 96, none), .inl (2, 11, none), .inl (0, 4, none), .inl (0, 96, none), .inl (0, 96, none), .inl (1, 10, none), .inl (0, 96, none), .inl (0, 4, none)]
def wc8_26 : List e_S := [.inr (7, [some (.ref 1), some (.ref 2), some (.ref 3), none, some (.ref 4), some (.ref 5), some (.ref 6), none, none, none, none, none, none, none, some (.ref 7), some (.ref 8), some (.ref 9), none, none, some (.ref 10), none, some (.ref 11), some (.ref 12), some (.ref 13), some .null, some .null, some .null, some .null, some .null, some .null, some .null, some .null, some .null, none]), .inl (0, 1468, none), .inl (0, 1468, none), .inl (0, 1468, none), .inl (1, 10, none), .inl (0, 96, none), .inl (0, 96, none), .inl (2, 11, none), .inl (0, 4, none), .inl (0, 96, none), .inl (0, 96, none), .inl (1, 10, none), .inl (0, 96, none), .inl (0, 4, none)]
def wc8_27 : List e_S := [.inr (7, [some (.ref 1), some (.ref 2), some (.ref 3), none, some (.ref 4), some (.ref 5), some (.ref 6), none, none, none, none, none, none, none, some (.ref 7), some (.ref 8), some (.ref 9), none, none, some (.ref 10), none, some (.ref 11), some (.ref 12), some (.ref 13), some .null, some .null, some .null, some .null, some .null, some .null, some .null, some .null, some .null, none]), .inl (0, 1468, none), .inl (0, 1468, none), .inl (0, 1468, none), .inl (1, 10, none), .inl (0, 96, none), .inl (0, 96, none), .inl (2, 11, none), .inl (0, 4, none), .inl (0, 96, none), .inl (0, 96, none), .inl (1, 10, none), .inl (0, 96, none), .inl (0, 4, none), .inl (0, 4, none)]
def wc8_28 : List e_S := [.inr (7, [some (.ref 1), some (.ref 2), some (.ref 3), none, some (.ref 4), some (.ref 5), some (.ref 6), none, none, none, none, none, none, none, some (.ref 7), some (.ref 8), some (.ref 9), none, none, some (.ref 10), none, some (.ref 11), some (.ref 12), some (.ref 13), some (.ref 14), some .null, some .null, some .null, some .null, some .null, some .null, some .null, some .null, none]), .inl (0, 1468, none), .inl (0, 1468, none), .inl (0, 1468, none), .inl (1, 10, none), .inl (0, 96, none), .inl (0, 96, none), .inl (2, 11, none), .inl (0, 4, none), .inl (0, 96, none), .inl (0, 96, none), .inl (1, 10, none), .inl (0, 96, none), .inl (0, 4, none), .inl (0, 4, none)]
def wc8_29 : List e_S := [.inr (7, [some (.ref 1), some (.ref 2), some (.ref 3), none, some (.ref 4), some (.ref 5), some (.ref 6), none, none, none, none, none, none, none, some (.ref 7), some (.ref 8), some (.ref 9), none, none, some (.ref 10), none, some (.ref 11), some (.ref 12), some (.ref 13), some (.ref 14), some .null, some .null, some .null, some .null, some .null, some .null, some .null, some .null, none]), .inl (0, 1468, none), .inl (0, 1468, none), .inl (0, 1468, none), .inl (1, 10, none), .inl (0, 96, none), .inl (0, 96, none), .inl (2, 11, none), .inl (0, 4, none), .inl (0, 96, none), .inl (0, 96, none), .inl (1, 10, none), .inl (0, 96, none), .inl (0, 4, none), .inl (0, 4, none), .inl (0, 4, none)]
def wc8_30 : List e_S := [.inr (7, [some (.ref 1), some (.ref 2), some (.ref 3), none, some (.ref 4), some (.ref 5), some (.ref 6), none, none, none, none, none, none, none, some (.ref 7), some (.ref 8), some (.ref 9), none, none, some (.ref 10), none, some (.ref 11), some (.ref 12), some (.ref 13), some (.ref 14), some (.ref 15), some .null, some .null, some .null, some .null, some .null, some .null, some .null, none]), .inl (0, 1468, none), .inl (0, 1468, none), .inl (0, 1468, none), .inl (1, 10, none), .inl (0, 96, none), .inl (0, 96, none), .inl (2, 11, none), .inl (0, 4, none), .inl (0, 96, none), .inl (0, 96, none), .inl (1, 10, none), .inl (0, 96, none), .inl (0, 4, none), .inl (0, 4, none), .inl (0, 4, none)]
def wc8_31 : List e_S := [.inr (7, [some (.ref 1), some (.ref 2), some (.ref 3), none, some (.ref 4), some (.ref 5), some (.ref 6), none, none, none, none, none, none, none, some (.ref 7), some (.ref 8), some (.ref 9), none, none, some (.ref 10), none, some (.ref 11), some (.ref 12), some (.ref 13), some (.ref 14), some (.ref 15), some .null, some .null, some .null, some .null, some .null, some .null, some .null, none]), .inl (0, 1468, none), .inl (0, 1468, none), .inl (0, 1468, none), .inl (1, 10, none), .inl (0, 96, none), .inl (0, 96, none), .inl (2, 11, none), .inl (0, 4, none), .inl (0, 96, none), .inl (0, 96, none), .inl (1, 10, none), .inl (0, 96, none), .inl (0, 4, none), .inl (0, 4, none), .inl (0, 4, none), .inl (0, 96, none)]
def wc8_32 : List e_S := [.inr (7, [some (.ref 1), some (.ref 2), some (.ref 3), none, some (.ref 4), some (.ref 5), some (.ref 6), none, none, none, none, none, none, none, some (.ref 7), some (.ref 8), some (.ref 9), none, none, some (.ref 10), none, some (.ref 11), some (.ref 12), some (.ref 13), some (.ref 14), some (.ref 15), some (.ref 16), some .null, some .null, some .null, some .null, some .null, some .null, none]), .inl (0, 1468, none), .inl (0, 1468, none), .inl (0, 1468, none), .inl (1, 10, none), .inl (0, 96, none), .inl (0, 96, none), .inl (2, 11, none), .inl (0, 4, none), .inl (0, 96, none), .inl (0, 96, none), .inl (1, 10, none), .inl (0, 96, none), .inl (0, 4, none), .inl (0, 4, none), .inl (0, 4, none), .inl (0, 96, none)]
def wc8_33 : List e_S := [.inr (7, [some (.ref 1), some (.ref 2), some (.ref 3), none, some (.ref 4), some (.ref 5), some (.ref 6), none, none, none, none, none, none, none, some (.ref 7), some (.ref 8), some (.ref 9), none, none, some (.ref 10), none, some (.ref 11), some (.ref 12), some (.ref 13), some (.ref 14), some (.ref 15), some (.ref 16), some .null, some .null, some .null, some .null, some .null, some .null, none]), .inl (0, 1468, none), .inl (0, 1468, none), .inl (0, 1468, none), .inl (1, 10, none), .inl (0, 96, none), .inl (0, 96, none), .inl (2, 11, none), .inl (0, 4, none), .inl (0, 96, none), .inl (0, 96, none), .inl (1, 10, none), .inl (0, 96, none), .inl (0, 4, none), .inl (0, 4, none), .inl (0, 4, none), .inl (0, 96, none), .inl (0, 5, none)]
def wc8_34 : List e_S := [.inr (7, [some (.ref 1), some (.ref 2), some (.ref 3), none, some (.ref 4), some (.ref 5), some (.ref 6), none, none, none, none, none, none, none, some (.ref 7), some (.ref 8), some (.ref 9), none, none, some (.ref 10), none, some (.ref 11), some (.ref 12), some (.ref 13), some (.ref 14), some (.ref 15), some (.ref 16), some (.ref 17), some .null, some .null, some .null, some .null, some .null, none]), .inl (0, 1468, none), .inl (0, 1468, none), .inl (0, 1468, none), .inl (1, 10, none), .inl (0, 96, none), .inl (0, 96, none), .inl (2, 11, none), .inl (0, 4, none), .inl (0, 96, none), .inl (0, 96, none), .inl (1, 10, none), .inl (0, 96, none), .inl (0, 4, none), .inl (0, 4, none), .inl (0, 4, none), .inl (0, 96, none), .inl (0, 5, none)]
def wc8_35 : List e_S := [.inr (7, [some (.ref 1), some (.ref 2), some (.ref 3), none, some (.ref 4), some (.ref 5), some (.ref 6), none, none, none, none, none, none, none, some (.ref 7), some (.ref 8), some (.ref 9), none, none, some (.ref 10), none, some (.ref 11), some (.ref 12), some (.ref 13), some (.ref 14), some (.ref 15), some (.ref 16), some (.ref 17), some .null, some .null, some .null, some .null, some .null, none]), .inl (0, 1468, none), .inl (0, 1468, none), .inl (0, 1468, none), .inl (1, 10, none), .inl (0, 96, none), .inl (0, 96, none), .inl (2, 11, none), .inl (0, 4, none), .inl (0, 96, none), .inl (0, 96, none), .inl (1, 10, none), .inl (0, 96, none), .inl (0, 4, none), .inl (0, 4, none), .inl (0, 4, none), .inl (0, 96, none), .inl (0, 5, none), .inl (0, 5, none)]
def wc8_36 : List e_S := [.inr (7, [some (.ref 1), some (.ref 2), some (.ref 3), none, some (.ref 4), some (.ref 5), some (.ref 6), none, none, none, none, none, none, none, some (.ref 7), some (.ref 8), some (.ref 9), none, none, some (.ref 10), none, some (.ref 11), some (.ref 12), some (.ref 13), some (.ref 14), some (.ref 15), some (.ref 16), some (.ref 17), some (.ref 18), some .null, some .null, some .null, some .null, none]), .inl (0, 1468, none), .inl (0, 1468, none), .inl (0, 1468, none), .inl (1, 10, none), .inl (0, 96, none), .inl (0, 96, none), .inl (2, 11, none), .inl (0, 4, none), .inl (0, 96, none), .inl (0, 96, none), .inl (1, 10, none), .inl (0, 96, none), .inl (0, 4, none), .inl (0, 4, none), .inl (0, 4, none), .inl (0, 96, none), .inl (0, 5, none), .inl (0, 5, none)]
def wc8_37 : List e_S := [.inr (7, [some (.ref 1), some (.ref 2), some (.ref 3), none, some (.ref 4), some (.ref 5), some (.ref 6), none, none, none, none, none, none, none, some (.ref 7), some (.ref 8), some (.ref 9), none, none, some (.ref 10), none, some (.ref 11), some (.ref 12), some (.ref 13), some (.ref 14), some (.ref 15), some (.ref 16), some (.ref 17), some (.ref 18), some .null, some .null, some .null, some .null, none]), .inl (0, 1468, none), .inl (0, 1468, none), .inl (0, 1468, none), .inl (1, 10, none), .inl (0, 96, none), .inl (0, 96, none), .inl (2, 11, none), .inl (0, 4, none), .inl (0, 96, none), .inl (0, 96, none), .inl (1, 10, none), .inl (0, 96, none), .inl (0, 4, none), .inl (0, 4, none), .inl (0, 4, none), .inl (0, 96, none), .inl (0, 5, none), .inl (0, 5, none), .inl (0, 5, none)]
def wc8_38 : List e_S := [.inr (7, [some (.ref 1), some (.ref 2), some (.ref 3), none, some (.ref 4), some (.ref 5), some (.ref 6), none, none, none, none, none, none, none, some (.ref 7), some (.ref 8), some (.ref 9), none, none, some (.ref 10), none, some (.ref 11), some (.ref 12), some (.ref 13), some (.ref 14), some (.ref 15), some (.ref 16), some (.ref 17), some (.ref 18), some (.ref 19), some .null, some .null, some .null, none]), .inl (0, 1468, none), .inl (0, 1468, none), .inl (0, 1468, none), .inl (1, 10, none), .inl (0, 96, none), .inl (0, 96, none), .inl (2, 11, none), .inl (0, 4, none), .inl (0, 96, none), .inl (0, 96, none), .inl (1, 10, none), .inl (0, 96, none), .inl (0, 4, none), .inl (0, 4, none), .inl (0, 4, none), .inl (0, 96, none), .inl (0, 5, none), .inl (0, 5, none), .inl (0, 5, none)]
def wc8_39 : List e_S := [.inr (7, [some (.ref 1), some (.ref 2), some (.ref 3), none, some (.ref 4), some (.ref 5), some (.ref 6), none, none, none, none, none, none, none, some (.ref 7), some (.ref 8), some (.ref 9), none, none, some (.ref 10), none, some (.ref 11), some (.ref 12), some (.ref 13), some (.ref 14), some (.ref 15), some (.ref 16), some (.ref 17), some (.ref 18), some (.ref 19), some .null, some .null, some .null, none]), .inl (0, 1468, none), .inl (0, 1468, none), .inl (0, 1468, none), .inl (1, 10, none), .inl (0, 96, none), .inl (0, 96, none), .inl (2, 11, none), .inl (0, 4, none), .inl (0, 96, none), .inl (0, 96, none), .inl (1, 10, none), .inl (0, 96, none), .inl (0, 4, none), .inl (0, 4, none), .inl (0, 4, none), .inl (0, 96, none), .inl (0, 5, none), .inl (0, 5, none), .inl (0, 5, none), .inl (0, 120, none)]
def wc8_40 : List e_S := [.inr (7, [some (.ref 1), some (.ref 2), some (.ref 3), none, some (.ref 4), some (.ref 5), some (.ref 6), none, none, none, none, none, none, none, some (.ref 7), some (.ref 8), some (.ref 9), none, none, some (.ref 10), none, some (.ref 11), some (.ref 12), some (.ref 13), some (.ref 14), some (.ref 15), some (.ref 16), some (.ref 17), some (.ref 18), some (.ref 19), some (.ref 20), some .null, some .null, none]), .inl (0, 1468, none), .inl (0, 1468, none), .inl (0, 1468, none), .inl (1, 10, none), .inl (0, 96, none), .inl (0, 96, none), .inl (2, 11, none), .inl (0, 4, none), .inl (0, 96, none), .inl (0, 96, none), .inl (1, 10, none), .inl (0, 96, none), .inl (0, 4, none), .inl (0, 4, none), .inl (0, 4, none), .inl (0, 96, none), .inl (0, 5, none), .inl (0, 5, none), .inl (0, 5, none), .inl (0, 120, none)]
def wc8_41 : List e_S := [.inr (7, [some (.ref 1), some (.ref 2), some (.ref 3), none, some (.ref 4), some (.ref 5), some (.ref 6), none, none, none, none, none, none, none, some (.ref 7), some (.ref 8), some (.ref 9), none, none, some (.ref 10), none, some (.ref 11), some (.ref 12), some (.ref 13), some (.ref 14), some (.ref 15), some (.ref 16), some (.ref 17), some (.ref 18), some (.ref 19), some (.ref 20), some .null, some .null, none]), .inl (0, 1468, none), .inl (0, 1468, none), .inl (0, 1468, none), .inl (1, 10, none), .inl (0, 96, none), .inl (0, 96, none), .inl (2, 11, none), .inl (0, 4, none), .inl (0, 96, none), .inl (0, 96, none), .inl (1, 10, none), .inl (0, 96, none), .inl (0, 4, none), .inl (0, 4, none), .inl (0, 4, none), .inl (0, 96, none), .inl (0, 5, none), .inl (0, 5, none), .inl (0, 5, none), .inl (0, 120, none), .inl (0, 24, none)]
def wc8_42 : List e_S := [.inr (7, [some (.ref 1), some (.ref 2), some (.ref 3), none, some (.ref 4), some (.ref 5), some (.ref 6), none, none, none, none, none, none, none, some (.ref 7), some (.ref 8), some (.ref 9), none, none, some (.ref 10), none, some (.ref 11), some (.ref 12), some (.ref 13), some (.ref 14), some (.ref 15), some (.ref 16), some (.ref 17), some (.ref 18), some (.ref 19), some (.ref 20), some (.ref 21), some .null, none]), .inl (0, 1468, none), .inl (0, 1468, none), .inl (0, 1468, none), .inl (1, 10, none), .inl (0, 96, none), .inl (0, 96, none), .inl (2, 11, none), .inl (0, 4, none), .inl (0, 96, none), .inl (0, 96, none), .inl (1, 10, none), .inl (0, 96, none), .inl (0, 4, none), .inl (0, 4, none), .inl (0, 4, none), .inl (0, 96, none), .inl (0, 5, none), .inl (0, 5, none), .inl (0, 5, none), .inl (0, 120, none), .inl (0, 24, none)]
def wc8_43 : List e_S := [.inr (7, [some (.ref 1), some (.ref 2), some (.ref 3), none, some (.ref 4), some (.ref 5), some (.ref 6), none, none, none, none, none, none, none, some (.ref 7), some (.ref 8), some (.ref 9), none, none, some (.ref 10), none, some (.ref 11), some (.ref 12), some (.ref 13), some (.ref 14), some (.ref 15), some (.ref 16), some (.ref 17), some (.ref 18), some (.ref 19), some (.ref 20), some (.ref 21), some .null, none]), .inl (0, 1468, none), .inl (0, 1468, none), .inl (0, 1468, none), .inl (1, 10, none), .inl (0, 96, none), .inl (0, 96, none), .inl (2, 11, none), .inl (0, 4, none), .inl (0, 96, none), .inl (0, 96, none), .inl (1, 10, none), .inl (0, 96, none), .inl (0, 4, none), .inl (0, 4, none), .inl (0, 4, none), .inl (0, 96, none), .inl (0, 5, none), .inl (0, 5, none), .inl (0, 5, none), .inl (0, 120, none), .inl (0, 24, none), .inl (0, 60, none)]
def wc8_44 : List e_S := [.inr (7, [some (.ref 1), some (.ref 2), some (.ref 3), none, some (.ref 4), some (.ref 5), some (.ref 6), none, none, none, none, none, none, none, some (.ref 7), some (.ref 8), some (.ref 9), none, none, some (.ref 10), none, some (.ref 11), some (.ref 12), some (.ref 13), some (.ref 14), some (.ref 15), some (.ref 16), some (.ref 17), some (.ref 18), some (.ref 19), some (.ref 20), some (.ref 21), some (.ref 22), none]), .inl (0, 1468, none), .inl (0, 1468, none), .inl (0, 1468, none), .inl (1, 10, none), .inl (0, 96, none), .inl (0, 96, none), .inl (2, 11, none), .inl (0, 4, none), .inl (0, 96, none), .inl (0, 96, none), .inl (1, 10, none), .inl (0, 96, none), .inl (0, 4, none), .inl (0, 4, none), .inl (0, 4, none), .inl (0, 96, none), .inl (0, 5, none), .inl (0, 5, none), .inl (0, 5, none), .inl (0, 120, none), .inl (0, 24, none), .inl (0, 60, none)]
set_option maxRecDepth 100000 in
set_option maxHeartbeats 4000000 in
theorem c8_init (g : e_G) (M : e_M) (h0 : ∀ j, M 0 j = 0) : e_CN g 1 22 5246 yX8_init cX8_init 1 [.ref 0] wc8_0 M wc8_44 (PK) := by
  refine e_CN_of 8 (by decide) rfl rfl (by simp [Value.category]) (Nat.le_of_ble_eq_true rfl) ?_
  intro X0 hX ha hL hg hR hi ret
  have G : e_gr X0 wc8_0.length X0 wc8_0.length := e_gr_0
  show e_E X0 wc8_0 0 [some (.ref 0)] [] _
  refine e_aload_n hX dX8_init_0 rfl ?_
  refine e_obj hX dX8_init_1 (e_tbl_at 828 (by decide +kernel) (by decide +kernel)) wObj1 wObj2 ⟨by rw [hR.1]; decide, by rw [hR.2]; decide⟩ (by decide) ?_
  refine e_aload_n hX dX8_init_4 rfl ?_
  refine e_sipush hX dX8_init_5 ?_
  refine e_newa (t := 0) (N := 1468) (ty := .int) hX ha rfl rfl wArr0 ha.2.1.1.1 (by decide) (by decide) (by decide) (by decide) (by decide) (by decide) (by decide +kernel) dX8_init_8 (fun X1 g1 hX1 ha1 => ?_)
  replace hX : e_ok 8 cX8_init X1 wc8_1 := hX1
  replace ha := ha1
  replace hR : (e_R X1).frames = 1 ∧ (e_R X1).locals = 40 * 1 := by rw [(e_gr_c g1).2.2]; exact hR
  replace hi : (e_me X1).name = "<init>" := by rw [(e_gr_c g1).1]; exact hi
  replace hL : (e_c X1).maxLocals = 1 := by rw [(e_gr_c g1).2.1]; exact hL
  replace G := e_gr_t G g1 (by decide)
  clear hX1 ha1 g1
  show e_E X1 wc8_1 10 [some (.ref 0)] [.ref 1, .ref 0] _
  refine e_putF (ty0 := .array .int) hX dX8_init_10 e_lk_8_9 (fun C T N h => by have h : some (RX8, TX8, 34) = some (C, T, N) := h; cases h; exact ⟨rfl, rfl, by decide +kernel⟩) (fun q => ⟨rfl, rfl⟩) rfl (by decide) hi ?_
  replace hX : e_ok 8 cX8_init X1 wc8_2 := e_ok_sh (Sh := wc8_1) rfl hX
  show e_E X1 wc8_2 13 [some (.ref 0)] [] _
  refine e_aload_n hX dX8_init_13 rfl ?_
  refine e_sipush hX dX8_init_14 ?_
  refine e_newa (t := 0) (N := 1468) (ty := .int) hX ha rfl rfl wArr0 ha.2.1.1.1 (by decide) (by decide) (by decide) (by decide) (by decide) (by decide) (by decide +kernel) dX8_init_17 (fun X2 g1 hX1 ha1 => ?_)
  replace hX : e_ok 8 cX8_init X2 wc8_3 := hX1
  replace ha := ha1
  replace hR : (e_R X2).frames = 1 ∧ (e_R X2).locals = 40 * 1 := by rw [(e_gr_c g1).2.2]; exact hR
  replace hi : (e_me X2).name = "<init>" := by rw [(e_gr_c g1).1]; exact hi
  replace hL : (e_c X2).maxLocals = 1 := by rw [(e_gr_c g1).2.1]; exact hL
  replace G := e_gr_t G g1 (by decide)
  clear hX1 ha1 g1
  show e_E X2 wc8_3 19 [some (.ref 0)] [.ref 2, .ref 0] _
  refine e_putF (ty0 := .array .int) hX dX8_init_19 e_lk_8_13 (fun C T N h => by have h : some (RX8, TX8, 34) = some (C, T, N) := h; cases h; exact ⟨rfl, rfl, by decide +kernel⟩) (fun q => ⟨rfl, rfl⟩) rfl (by decide) hi ?_
  replace hX : e_ok 8 cX8_init X2 wc8_4 := e_ok_sh (Sh := wc8_3) rfl hX
  show e_E X2 wc8_4 22 [some (.ref 0)] [] _
  refine e_aload_n hX dX8_init_22 rfl ?_
  refine e_sipush hX dX8_init_23 ?_
  refine e_newa (t := 0) (N := 1468) (ty := .int) hX ha rfl rfl wArr0 ha.2.1.1.1 (by decide) (by decide) (by decide) (by decide) (by decide) (by decide) (by decide +kernel) dX8_init_26 (fun X3 g1 hX1 ha1 => ?_)
  replace hX : e_ok 8 cX8_init X3 wc8_5 := hX1
  replace ha := ha1
  replace hR : (e_R X3).frames = 1 ∧ (e_R X3).locals = 40 * 1 := by rw [(e_gr_c g1).2.2]; exact hR
  replace hi : (e_me X3).name = "<init>" := by rw [(e_gr_c g1).1]; exact hi
  replace hL : (e_c X3).maxLocals = 1 := by rw [(e_gr_c g1).2.1]; exact hL
  replace G := e_gr_t G g1 (by decide)
  clear hX1 ha1 g1
  show e_E X3 wc8_5 28 [some (.ref 0)] [.ref 3, .ref 0] _
  refine e_putF (ty0 := .array .int) hX dX8_init_28 e_lk_8_16 (fun C T N h => by have h : some (RX8, TX8, 34) = some (C, T, N) := h; cases h; exact ⟨rfl, rfl, by decide +kernel⟩) (fun q => ⟨rfl, rfl⟩) rfl (by decide) hi ?_
  replace hX : e_ok 8 cX8_init X3 wc8_6 := e_ok_sh (Sh := wc8_5) rfl hX
  show e_E X3 wc8_6 31 [some (.ref 0)] [] _
  refine e_aload_n hX dX8_init_31 rfl ?_
  refine e_bipush hX dX8_init_32 ?_
  refine e_newa (t := 1) (N := 10) (ty := .boolean) hX ha rfl rfl wArr1 ha.2.1.1.2.1 (by decide) (by decide) (by decide) (by decide) (by decide) (by decide) (by decide +kernel) dX8_init_34 (fun X4 g1 hX1 ha1 => ?_)
  replace hX : e_ok 8 cX8_init X4 wc8_7 := hX1
  replace ha := ha1
  replace hR : (e_R X4).frames = 1 ∧ (e_R X4).locals = 40 * 1 := by rw [(e_gr_c g1).2.2]; exact hR
  replace hi : (e_me X4).name = "<init>" := by rw [(e_gr_c g1).1]; exact hi
  replace hL : (e_c X4).maxLocals = 1 := by rw [(e_gr_c g1).2.1]; exact hL
  replace G := e_gr_t G g1 (by decide)
  clear hX1 ha1 g1
  show e_E X4 wc8_7 36 [some (.ref 0)] [.ref 4, .ref 0] _
  refine e_putF (ty0 := .array .boolean) hX dX8_init_36 e_lk_8_19 (fun C T N h => by have h : some (RX8, TX8, 34) = some (C, T, N) := h; cases h; exact ⟨rfl, rfl, by decide +kernel⟩) (fun q => ⟨rfl, rfl⟩) rfl (by decide) hi ?_
  replace hX : e_ok 8 cX8_init X4 wc8_8 := e_ok_sh (Sh := wc8_7) rfl hX
  show e_E X4 wc8_8 39 [some (.ref 0)] [] _
  refine e_aload_n hX dX8_init_39 rfl ?_
  refine e_bipush hX dX8_init_40 ?_
  refine e_newa (t := 0) (N := 96) (ty := .int) hX ha rfl rfl wArr0 ha.2.1.1.1 (by decide) (by decide) (by decide) (by decide) (by decide) (by decide) (by decide +kernel) dX8_init_42 (fun X5 g1 hX1 ha1 => ?_)
  replace hX : e_ok 8 cX8_init X5 wc8_9 := hX1
  replace ha := ha1
  replace hR : (e_R X5).frames = 1 ∧ (e_R X5).locals = 40 * 1 := by rw [(e_gr_c g1).2.2]; exact hR
  replace hi : (e_me X5).name = "<init>" := by rw [(e_gr_c g1).1]; exact hi
  replace hL : (e_c X5).maxLocals = 1 := by rw [(e_gr_c g1).2.1]; exact hL
  replace G := e_gr_t G g1 (by decide)
  clear hX1 ha1 g1
  show e_E X5 wc8_9 44 [some (.ref 0)] [.ref 5, .ref 0] _
  refine e_putF (ty0 := .array .int) hX dX8_init_44 e_lk_8_23 (fun C T N h => by have h : some (RX8, TX8, 34) = some (C, T, N) := h; cases h; exact ⟨rfl, rfl, by decide +kernel⟩) (fun q => ⟨rfl, rfl⟩) rfl (by decide) hi ?_
  replace hX : e_ok 8 cX8_init X5 wc8_10 := e_ok_sh (Sh := wc8_9) rfl hX
  show e_E X5 wc8_10 47 [some (.ref 0)] [] _
  refine e_aload_n hX dX8_init_47 rfl ?_
  refine e_bipush hX dX8_init_48 ?_
  refine e_newa (t := 0) (N := 96) (ty := .int) hX ha rfl rfl wArr0 ha.2.1.1.1 (by decide) (by decide) (by decide) (by decide) (by decide) (by decide) (by decide +kernel) dX8_init_50 (fun X6 g1 hX1 ha1 => ?_)
  replace hX : e_ok 8 cX8_init X6 wc8_11 := hX1
  replace ha := ha1
  replace hR : (e_R X6).frames = 1 ∧ (e_R X6).locals = 40 * 1 := by rw [(e_gr_c g1).2.2]; exact hR
  replace hi : (e_me X6).name = "<init>" := by rw [(e_gr_c g1).1]; exact hi
  replace hL : (e_c X6).maxLocals = 1 := by rw [(e_gr_c g1).2.1]; exact hL
  replace G := e_gr_t G g1 (by decide)
  clear hX1 ha1 g1
  show e_E X6 wc8_11 52 [some (.ref 0)] [.ref 6, .ref 0] _
  refine e_putF (ty0 := .array .int) hX dX8_init_52 e_lk_8_26 (fun C T N h => by have h : some (RX8, TX8, 34) = some (C, T, N) := h; cases h; exact ⟨rfl, rfl, by decide +kernel⟩) (fun q => ⟨rfl, rfl⟩) rfl (by decide) hi ?_
  replace hX : e_ok 8 cX8_init X6 wc8_12 := e_ok_sh (Sh := wc8_11) rfl hX
  show e_E X6 wc8_12 55 [some (.ref 0)] [] _
  refine e_aload_n hX dX8_init_55 rfl ?_
  refine e_bipush hX dX8_init_56 ?_
  refine e_newa (t := 2) (N := 11) (ty := .char) hX ha rfl rfl wArr2 ha.2.1.1.2.2.1 (by decide) (by decide) (by decide) (by decide) (by decide) (by decide) (by decide +kernel) dX8_init_58 (fun X7 g1 hX1 ha1 => ?_)
  replace hX : e_ok 8 cX8_init X7 wc8_13 := hX1
  replace ha := ha1
  replace hR : (e_R X7).frames = 1 ∧ (e_R X7).locals = 40 * 1 := by rw [(e_gr_c g1).2.2]; exact hR
  replace hi : (e_me X7).name = "<init>" := by rw [(e_gr_c g1).1]; exact hi
  replace hL : (e_c X7).maxLocals = 1 := by rw [(e_gr_c g1).2.1]; exact hL
  replace G := e_gr_t G g1 (by decide)
  clear hX1 ha1 g1
  show e_E X7 wc8_13 60 [some (.ref 0)] [.ref 7, .ref 0] _
  refine e_dup hX dX8_init_60 rfl ?_
  refine e_iconst hX dX8_init_61 ?_
  refine e_bipush hX dX8_init_62 ?_
  refine e_castore hX dX8_init_64 rfl (by unfold vp_in; decide) ?_
  rw [show ((e_i0 0) : Int32).toNatClampNeg = 0 from by decide, show vp_nar .char (e_i8 98) = 98 from by decide]
  refine e_dup hX dX8_init_65 rfl ?_
  refine e_iconst hX dX8_init_66 ?_
  refine e_bipush hX dX8_init_67 ?_
  refine e_castore hX dX8_init_69 rfl (by unfold vp_in; decide) ?_
  rw [show ((e_i0 1) : Int32).toNatClampNeg = 1 from by decide, show vp_nar .char (e_i8 117) = 117 from by decide]
  refine e_dup hX dX8_init_70 rfl ?_
  refine e_iconst hX dX8_init_71 ?_
  refine e_bipush hX dX8_init_72 ?_
  refine e_castore hX dX8_init_74 rfl (by unfold vp_in; decide) ?_
  rw [show ((e_i0 2) : Int32).toNatClampNeg = 2 from by decide, show vp_nar .char (e_i8 114) = 114 from by decide]
  refine e_dup hX dX8_init_75 rfl ?_
  refine e_iconst hX dX8_init_76 ?_
  refine e_bipush hX dX8_init_77 ?_
  refine e_castore hX dX8_init_79 rfl (by unfold vp_in; decide) ?_
  rw [show ((e_i0 3) : Int32).toNatClampNeg = 3 from by decide, show vp_nar .char (e_i8 110) = 110 from by decide]
  refine e_dup hX dX8_init_80 rfl ?_
  refine e_iconst hX dX8_init_81 ?_
  refine e_bipush hX dX8_init_82 ?_
  refine e_castore hX dX8_init_84 rfl (by unfold vp_in; decide) ?_
  rw [show ((e_i0 4) : Int32).toNatClampNeg = 4 from by decide, show vp_nar .char (e_i8 102) = 102 from by decide]
  refine e_dup hX dX8_init_85 rfl ?_
  refine e_iconst hX dX8_init_86 ?_
  refine e_bipush hX dX8_init_87 ?_
  refine e_castore hX dX8_init_89 rfl (by unfold vp_in; decide) ?_
  rw [show ((e_i0 5) : Int32).toNatClampNeg = 5 from by decide, show vp_nar .char (e_i8 101) = 101 from by decide]
  refine e_dup hX dX8_init_90 rfl ?_
  refine e_bipush hX dX8_init_91 ?_
  refine e_bipush hX dX8_init_93 ?_
  refine e_castore hX dX8_init_95 rfl (by unfold vp_in; decide) ?_
  rw [show ((e_i8 6) : Int32).toNatClampNeg = 6 from by decide, show vp_nar .char (e_i8 101) = 101 from by decide]
  refine e_dup hX dX8_init_96 rfl ?_
  refine e_bipush hX dX8_init_97 ?_
  refine e_bipush hX dX8_init_99 ?_
  refine e_castore hX dX8_init_101 rfl (by unfold vp_in; decide) ?_
  rw [show ((e_i8 7) : Int32).toNatClampNeg = 7 from by decide, show vp_nar .char (e_i8 102) = 102 from by decide]
  refine e_dup hX dX8_init_102 rfl ?_
  refine e_bipush hX dX8_init_103 ?_
  refine e_bipush hX dX8_init_105 ?_
  refine e_castore hX dX8_init_107 rfl (by unfold vp_in; decide) ?_
  rw [show ((e_i8 8) : Int32).toNatClampNeg = 8 from by decide, show vp_nar .char (e_i8 105) = 105 from by decide]
  refine e_dup hX dX8_init_108 rfl ?_
  refine e_bipush hX dX8_init_109 ?_
  refine e_bipush hX dX8_init_111 ?_
  refine e_castore hX dX8_init_113 rfl (by unfold vp_in; decide) ?_
  rw [show ((e_i8 9) : Int32).toNatClampNeg = 9 from by decide, show vp_nar .char (e_i8 110) = 110 from by decide]
  refine e_dup hX dX8_init_114 rfl ?_
  refine e_bipush hX dX8_init_115 ?_
  refine e_bipush hX dX8_init_117 ?_
  refine e_castore hX dX8_init_119 rfl (by unfold vp_in; decide) ?_
  rw [show ((e_i8 10) : Int32).toNatClampNeg = 10 from by decide, show vp_nar .char (e_i8 101) = 101 from by decide]
  refine e_putF (ty0 := .array .char) hX dX8_init_120 e_lk_8_29 (fun C T N h => by have h : some (RX8, TX8, 34) = some (C, T, N) := h; cases h; exact ⟨rfl, rfl, by decide +kernel⟩) (fun q => ⟨rfl, rfl⟩) rfl (by decide) hi ?_
  replace hX : e_ok 8 cX8_init X7 wc8_14 := e_ok_sh (Sh := wc8_13) rfl hX
  show e_E X7 wc8_14 123 [some (.ref 0)] [] _
  refine e_aload_n hX dX8_init_123 rfl ?_
  refine e_iconst hX dX8_init_124 ?_
  refine e_newa (t := 0) (N := 4) (ty := .int) hX ha rfl rfl wArr0 ha.2.1.1.1 (by decide) (by decide) (by decide) (by decide) (by decide) (by decide) (by decide +kernel) dX8_init_125 (fun X8 g1 hX1 ha1 => ?_)
  replace hX : e_ok 8 cX8_init X8 wc8_15 := hX1
  replace ha := ha1
  replace hR : (e_R X8).frames = 1 ∧ (e_R X8).locals = 40 * 1 := by rw [(e_gr_c g1).2.2]; exact hR
  replace hi : (e_me X8).name = "<init>" := by rw [(e_gr_c g1).1]; exact hi
  replace hL : (e_c X8).maxLocals = 1 := by rw [(e_gr_c g1).2.1]; exact hL
  replace G := e_gr_t G g1 (by decide)
  clear hX1 ha1 g1
  show e_E X8 wc8_15 127 [some (.ref 0)] [.ref 8, .ref 0] _
  refine e_dup hX dX8_init_127 rfl ?_
  refine e_iconst hX dX8_init_128 ?_
  refine e_iconst hX dX8_init_129 ?_
  refine e_iastore hX dX8_init_130 rfl (by unfold vp_in; decide) ?_
  rw [show ((e_i0 0) : Int32).toNatClampNeg = 0 from by decide, show ((e_i0 0) : Int32) = 0 from by decide]
  refine e_dup hX dX8_init_131 rfl ?_
  refine e_iconst hX dX8_init_132 ?_
  refine e_iconst hX dX8_init_133 ?_
  refine e_iastore hX dX8_init_134 rfl (by unfold vp_in; decide) ?_
  rw [show ((e_i0 1) : Int32).toNatClampNeg = 1 from by decide, show ((e_i0 4) : Int32) = 4 from by decide]
  refine e_dup hX dX8_init_135 rfl ?_
  refine e_iconst hX dX8_init_136 ?_
  refine e_bipush hX dX8_init_137 ?_
  refine e_iastore hX dX8_init_139 rfl (by unfold vp_in; decide) ?_
  rw [show ((e_i0 2) : Int32).toNatClampNeg = 2 from by decide, show ((e_i8 7) : Int32) = 7 from by decide]
  refine e_dup hX dX8_init_140 rfl ?_
  refine e_iconst hX dX8_init_141 ?_
  refine e_bipush hX dX8_init_142 ?_
  refine e_iastore hX dX8_init_144 rfl (by unfold vp_in; decide) ?_
  rw [show ((e_i0 3) : Int32).toNatClampNeg = 3 from by decide, show ((e_i8 11) : Int32) = 11 from by decide]
  refine e_putF (ty0 := .array .int) hX dX8_init_145 e_lk_8_33 (fun C T N h => by have h : some (RX8, TX8, 34) = some (C, T, N) := h; cases h; exact ⟨rfl, rfl, by decide +kernel⟩) (fun q => ⟨rfl, rfl⟩) rfl (by decide) hi ?_
  replace hX : e_ok 8 cX8_init X8 wc8_16 := e_ok_sh (Sh := wc8_15) rfl hX
  show e_E X8 wc8_16 148 [some (.ref 0)] [] _
  refine e_aload_n hX dX8_init_148 rfl ?_
  refine e_bipush hX dX8_init_149 ?_
  refine e_newa (t := 0) (N := 96) (ty := .int) hX ha rfl rfl wArr0 ha.2.1.1.1 (by decide) (by decide) (by decide) (by decide) (by decide) (by decide) (by decide +kernel) dX8_init_151 (fun X9 g1 hX1 ha1 => ?_)
  replace hX : e_ok 8 cX8_init X9 wc8_17 := hX1
  replace ha := ha1
  replace hR : (e_R X9).frames = 1 ∧ (e_R X9).locals = 40 * 1 := by rw [(e_gr_c g1).2.2]; exact hR
  replace hi : (e_me X9).name = "<init>" := by rw [(e_gr_c g1).1]; exact hi
  replace hL : (e_c X9).maxLocals = 1 := by rw [(e_gr_c g1).2.1]; exact hL
  replace G := e_gr_t G g1 (by decide)
  clear hX1 ha1 g1
  show e_E X9 wc8_17 153 [some (.ref 0)] [.ref 9, .ref 0] _
  refine e_putF (ty0 := .array .int) hX dX8_init_153 e_lk_8_36 (fun C T N h => by have h : some (RX8, TX8, 34) = some (C, T, N) := h; cases h; exact ⟨rfl, rfl, by decide +kernel⟩) (fun q => ⟨rfl, rfl⟩) rfl (by decide) hi ?_
  replace hX : e_ok 8 cX8_init X9 wc8_18 := e_ok_sh (Sh := wc8_17) rfl hX
  show e_E X9 wc8_18 156 [some (.ref 0)] [] _
  refine e_aload_n hX dX8_init_156 rfl ?_
  refine e_bipush hX dX8_init_157 ?_
  refine e_newa (t := 0) (N := 96) (ty := .int) hX ha rfl rfl wArr0 ha.2.1.1.1 (by decide) (by decide) (by decide) (by decide) (by decide) (by decide) (by decide +kernel) dX8_init_159 (fun X10 g1 hX1 ha1 => ?_)
  replace hX : e_ok 8 cX8_init X10 wc8_19 := hX1
  replace ha := ha1
  replace hR : (e_R X10).frames = 1 ∧ (e_R X10).locals = 40 * 1 := by rw [(e_gr_c g1).2.2]; exact hR
  replace hi : (e_me X10).name = "<init>" := by rw [(e_gr_c g1).1]; exact hi
  replace hL : (e_c X10).maxLocals = 1 := by rw [(e_gr_c g1).2.1]; exact hL
  replace G := e_gr_t G g1 (by decide)
  clear hX1 ha1 g1
  show e_E X10 wc8_19 161 [some (.ref 0)] [.ref 10, .ref 0] _
  refine e_putF (ty0 := .array .int) hX dX8_init_161 e_lk_8_39 (fun C T N h => by have h : some (RX8, TX8, 34) = some (C, T, N) := h; cases h; exact ⟨rfl, rfl, by decide +kernel⟩) (fun q => ⟨rfl, rfl⟩) rfl (by decide) hi ?_
  replace hX : e_ok 8 cX8_init X10 wc8_20 := e_ok_sh (Sh := wc8_19) rfl hX
  show e_E X10 wc8_20 164 [some (.ref 0)] [] _
  refine e_aload_n hX dX8_init_164 rfl ?_
  refine e_bipush hX dX8_init_165 ?_
  refine e_newa (t := 1) (N := 10) (ty := .boolean) hX ha rfl rfl wArr1 ha.2.1.1.2.1 (by decide) (by decide) (by decide) (by decide) (by decide) (by decide) (by decide +kernel) dX8_init_167 (fun X11 g1 hX1 ha1 => ?_)
  replace hX : e_ok 8 cX8_init X11 wc8_21 := hX1
  replace ha := ha1
  replace hR : (e_R X11).frames = 1 ∧ (e_R X11).locals = 40 * 1 := by rw [(e_gr_c g1).2.2]; exact hR
  replace hi : (e_me X11).name = "<init>" := by rw [(e_gr_c g1).1]; exact hi
  replace hL : (e_c X11).maxLocals = 1 := by rw [(e_gr_c g1).2.1]; exact hL
  replace G := e_gr_t G g1 (by decide)
  clear hX1 ha1 g1
  show e_E X11 wc8_21 169 [some (.ref 0)] [.ref 11, .ref 0] _
  refine e_putF (ty0 := .array .boolean) hX dX8_init_169 e_lk_8_42 (fun C T N h => by have h : some (RX8, TX8, 34) = some (C, T, N) := h; cases h; exact ⟨rfl, rfl, by decide +kernel⟩) (fun q => ⟨rfl, rfl⟩) rfl (by decide) hi ?_
  replace hX : e_ok 8 cX8_init X11 wc8_22 := e_ok_sh (Sh := wc8_21) rfl hX
  show e_E X11 wc8_22 172 [some (.ref 0)] [] _
  refine e_aload_n hX dX8_init_172 rfl ?_
  refine e_bipush hX dX8_init_173 ?_
  refine e_newa (t := 0) (N := 96) (ty := .int) hX ha rfl rfl wArr0 ha.2.1.1.1 (by decide) (by decide) (by decide) (by decide) (by decide) (by decide) (by decide +kernel) dX8_init_175 (fun X12 g1 hX1 ha1 => ?_)
  replace hX : e_ok 8 cX8_init X12 wc8_23 := hX1
  replace ha := ha1
  replace hR : (e_R X12).frames = 1 ∧ (e_R X12).locals = 40 * 1 := by rw [(e_gr_c g1).2.2]; exact hR
  replace hi : (e_me X12).name = "<init>" := by rw [(e_gr_c g1).1]; exact hi
  replace hL : (e_c X12).maxLocals = 1 := by rw [(e_gr_c g1).2.1]; exact hL
  replace G := e_gr_t G g1 (by decide)
  clear hX1 ha1 g1
  show e_E X12 wc8_23 177 [some (.ref 0)] [.ref 12, .ref 0] _
  refine e_putF (ty0 := .array .int) hX dX8_init_177 e_lk_8_45 (fun C T N h => by have h : some (RX8, TX8, 34) = some (C, T, N) := h; cases h; exact ⟨rfl, rfl, by decide +kernel⟩) (fun q => ⟨rfl, rfl⟩) rfl (by decide) hi ?_
  replace hX : e_ok 8 cX8_init X12 wc8_24 := e_ok_sh (Sh := wc8_23) rfl hX
  show e_E X12 wc8_24 180 [some (.ref 0)] [] _
  refine e_aload_n hX dX8_init_180 rfl ?_
  refine e_iconst hX dX8_init_181 ?_
  refine e_newa (t := 0) (N := 4) (ty := .int) hX ha rfl rfl wArr0 ha.2.1.1.1 (by decide) (by decide) (by decide) (by decide) (by decide) (by decide) (by decide +kernel) dX8_init_182 (fun X13 g1 hX1 ha1 => ?_)
  replace hX : e_ok 8 cX8_init X13 wc8_25 := hX1
  replace ha := ha1
  replace hR : (e_R X13).frames = 1 ∧ (e_R X13).locals = 40 * 1 := by rw [(e_gr_c g1).2.2]; exact hR
  replace hi : (e_me X13).name = "<init>" := by rw [(e_gr_c g1).1]; exact hi
  replace hL : (e_c X13).maxLocals = 1 := by rw [(e_gr_c g1).2.1]; exact hL
  replace G := e_gr_t G g1 (by decide)
  clear hX1 ha1 g1
  show e_E X13 wc8_25 184 [some (.ref 0)] [.ref 13, .ref 0] _
  refine e_putF (ty0 := .array .int) hX dX8_init_184 e_lk_8_48 (fun C T N h => by have h : some (RX8, TX8, 34) = some (C, T, N) := h; cases h; exact ⟨rfl, rfl, by decide +kernel⟩) (fun q => ⟨rfl, rfl⟩) rfl (by decide) hi ?_
  replace hX : e_ok 8 cX8_init X13 wc8_26 := e_ok_sh (Sh := wc8_25) rfl hX
  show e_E X13 wc8_26 187 [some (.ref 0)] [] _
  refine e_aload_n hX dX8_init_187 rfl ?_
  refine e_iconst hX dX8_init_188 ?_
  refine e_newa (t := 0) (N := 4) (ty := .int) hX ha rfl rfl wArr0 ha.2.1.1.1 (by decide) (by decide) (by decide) (by decide) (by decide) (by decide) (by decide +kernel) dX8_init_189 (fun X14 g1 hX1 ha1 => ?_)
  replace hX : e_ok 8 cX8_init X14 wc8_27 := hX1
  replace ha := ha1
  replace hR : (e_R X14).frames = 1 ∧ (e_R X14).locals = 40 * 1 := by rw [(e_gr_c g1).2.2]; exact hR
  replace hi : (e_me X14).name = "<init>" := by rw [(e_gr_c g1).1]; exact hi
  replace hL : (e_c X14).maxLocals = 1 := by rw [(e_gr_c g1).2.1]; exact hL
  replace G := e_gr_t G g1 (by decide)
  clear hX1 ha1 g1
  show e_E X14 wc8_27 191 [some (.ref 0)] [.ref 14, .ref 0] _
  refine e_dup hX dX8_init_191 rfl ?_
  refine e_iconst hX dX8_init_192 ?_
  refine e_iconst hX dX8_init_193 ?_
  refine e_iastore hX dX8_init_194 rfl (by unfold vp_in; decide) ?_
  rw [show ((e_i0 0) : Int32).toNatClampNeg = 0 from by decide, show ((e_i0 (-1)) : Int32) = (-1) from by decide]
  refine e_dup hX dX8_init_195 rfl ?_
  refine e_iconst hX dX8_init_196 ?_
  refine e_iconst hX dX8_init_197 ?_
  refine e_iastore hX dX8_init_198 rfl (by unfold vp_in; decide) ?_
  rw [show ((e_i0 1) : Int32).toNatClampNeg = 1 from by decide, show ((e_i0 (-1)) : Int32) = (-1) from by decide]
  refine e_dup hX dX8_init_199 rfl ?_
  refine e_iconst hX dX8_init_200 ?_
  refine e_iconst hX dX8_init_201 ?_
  refine e_iastore hX dX8_init_202 rfl (by unfold vp_in; decide) ?_
  rw [show ((e_i0 2) : Int32).toNatClampNeg = 2 from by decide, show ((e_i0 (-1)) : Int32) = (-1) from by decide]
  refine e_dup hX dX8_init_203 rfl ?_
  refine e_iconst hX dX8_init_204 ?_
  refine e_iconst hX dX8_init_205 ?_
  refine e_iastore hX dX8_init_206 rfl (by unfold vp_in; decide) ?_
  rw [show ((e_i0 3) : Int32).toNatClampNeg = 3 from by decide, show ((e_i0 (-1)) : Int32) = (-1) from by decide]
  refine e_putF (ty0 := .array .int) hX dX8_init_207 e_lk_8_51 (fun C T N h => by have h : some (RX8, TX8, 34) = some (C, T, N) := h; cases h; exact ⟨rfl, rfl, by decide +kernel⟩) (fun q => ⟨rfl, rfl⟩) rfl (by decide) hi ?_
  replace hX : e_ok 8 cX8_init X14 wc8_28 := e_ok_sh (Sh := wc8_27) rfl hX
  show e_E X14 wc8_28 210 [some (.ref 0)] [] _
  refine e_aload_n hX dX8_init_210 rfl ?_
  refine e_iconst hX dX8_init_211 ?_
  refine e_newa (t := 0) (N := 4) (ty := .int) hX ha rfl rfl wArr0 ha.2.1.1.1 (by decide) (by decide) (by decide) (by decide) (by decide) (by decide) (by decide +kernel) dX8_init_212 (fun X15 g1 hX1 ha1 => ?_)
  replace hX : e_ok 8 cX8_init X15 wc8_29 := hX1
  replace ha := ha1
  replace hR : (e_R X15).frames = 1 ∧ (e_R X15).locals = 40 * 1 := by rw [(e_gr_c g1).2.2]; exact hR
  replace hi : (e_me X15).name = "<init>" := by rw [(e_gr_c g1).1]; exact hi
  replace hL : (e_c X15).maxLocals = 1 := by rw [(e_gr_c g1).2.1]; exact hL
  replace G := e_gr_t G g1 (by decide)
  clear hX1 ha1 g1
  show e_E X15 wc8_29 214 [some (.ref 0)] [.ref 15, .ref 0] _
  refine e_putF (ty0 := .array .int) hX dX8_init_214 e_lk_8_54 (fun C T N h => by have h : some (RX8, TX8, 34) = some (C, T, N) := h; cases h; exact ⟨rfl, rfl, by decide +kernel⟩) (fun q => ⟨rfl, rfl⟩) rfl (by decide) hi ?_
  replace hX : e_ok 8 cX8_init X15 wc8_30 := e_ok_sh (Sh := wc8_29) rfl hX
  show e_E X15 wc8_30 217 [some (.ref 0)] [] _
  refine e_aload_n hX dX8_init_217 rfl ?_
  refine e_bipush hX dX8_init_218 ?_
  refine e_newa (t := 0) (N := 96) (ty := .int) hX ha rfl rfl wArr0 ha.2.1.1.1 (by decide) (by decide) (by decide) (by decide) (by decide) (by decide) (by decide +kernel) dX8_init_220 (fun X16 g1 hX1 ha1 => ?_)
  replace hX : e_ok 8 cX8_init X16 wc8_31 := hX1
  replace ha := ha1
  replace hR : (e_R X16).frames = 1 ∧ (e_R X16).locals = 40 * 1 := by rw [(e_gr_c g1).2.2]; exact hR
  replace hi : (e_me X16).name = "<init>" := by rw [(e_gr_c g1).1]; exact hi
  replace hL : (e_c X16).maxLocals = 1 := by rw [(e_gr_c g1).2.1]; exact hL
  replace G := e_gr_t G g1 (by decide)
  clear hX1 ha1 g1
  show e_E X16 wc8_31 222 [some (.ref 0)] [.ref 16, .ref 0] _
  refine e_putF (ty0 := .array .int) hX dX8_init_222 e_lk_8_57 (fun C T N h => by have h : some (RX8, TX8, 34) = some (C, T, N) := h; cases h; exact ⟨rfl, rfl, by decide +kernel⟩) (fun q => ⟨rfl, rfl⟩) rfl (by decide) hi ?_
  replace hX : e_ok 8 cX8_init X16 wc8_32 := e_ok_sh (Sh := wc8_31) rfl hX
  show e_E X16 wc8_32 225 [some (.ref 0)] [] _
  refine e_aload_n hX dX8_init_225 rfl ?_
  refine e_iconst hX dX8_init_226 ?_
  refine e_newa (t := 0) (N := 5) (ty := .int) hX ha rfl rfl wArr0 ha.2.1.1.1 (by decide) (by decide) (by decide) (by decide) (by decide) (by decide) (by decide +kernel) dX8_init_227 (fun X17 g1 hX1 ha1 => ?_)
  replace hX : e_ok 8 cX8_init X17 wc8_33 := hX1
  replace ha := ha1
  replace hR : (e_R X17).frames = 1 ∧ (e_R X17).locals = 40 * 1 := by rw [(e_gr_c g1).2.2]; exact hR
  replace hi : (e_me X17).name = "<init>" := by rw [(e_gr_c g1).1]; exact hi
  replace hL : (e_c X17).maxLocals = 1 := by rw [(e_gr_c g1).2.1]; exact hL
  replace G := e_gr_t G g1 (by decide)
  clear hX1 ha1 g1
  show e_E X17 wc8_33 229 [some (.ref 0)] [.ref 17, .ref 0] _
  refine e_putF (ty0 := .array .int) hX dX8_init_229 e_lk_8_60 (fun C T N h => by have h : some (RX8, TX8, 34) = some (C, T, N) := h; cases h; exact ⟨rfl, rfl, by decide +kernel⟩) (fun q => ⟨rfl, rfl⟩) rfl (by decide) hi ?_
  replace hX : e_ok 8 cX8_init X17 wc8_34 := e_ok_sh (Sh := wc8_33) rfl hX
  show e_E X17 wc8_34 232 [some (.ref 0)] [] _
  refine e_aload_n hX dX8_init_232 rfl ?_
  refine e_iconst hX dX8_init_233 ?_
  refine e_newa (t := 0) (N := 5) (ty := .int) hX ha rfl rfl wArr0 ha.2.1.1.1 (by decide) (by decide) (by decide) (by decide) (by decide) (by decide) (by decide +kernel) dX8_init_234 (fun X18 g1 hX1 ha1 => ?_)
  replace hX : e_ok 8 cX8_init X18 wc8_35 := hX1
  replace ha := ha1
  replace hR : (e_R X18).frames = 1 ∧ (e_R X18).locals = 40 * 1 := by rw [(e_gr_c g1).2.2]; exact hR
  replace hi : (e_me X18).name = "<init>" := by rw [(e_gr_c g1).1]; exact hi
  replace hL : (e_c X18).maxLocals = 1 := by rw [(e_gr_c g1).2.1]; exact hL
  replace G := e_gr_t G g1 (by decide)
  clear hX1 ha1 g1
  show e_E X18 wc8_35 236 [some (.ref 0)] [.ref 18, .ref 0] _
  refine e_putF (ty0 := .array .int) hX dX8_init_236 e_lk_8_63 (fun C T N h => by have h : some (RX8, TX8, 34) = some (C, T, N) := h; cases h; exact ⟨rfl, rfl, by decide +kernel⟩) (fun q => ⟨rfl, rfl⟩) rfl (by decide) hi ?_
  replace hX : e_ok 8 cX8_init X18 wc8_36 := e_ok_sh (Sh := wc8_35) rfl hX
  show e_E X18 wc8_36 239 [some (.ref 0)] [] _
  refine e_aload_n hX dX8_init_239 rfl ?_
  refine e_iconst hX dX8_init_240 ?_
  refine e_newa (t := 0) (N := 5) (ty := .int) hX ha rfl rfl wArr0 ha.2.1.1.1 (by decide) (by decide) (by decide) (by decide) (by decide) (by decide) (by decide +kernel) dX8_init_241 (fun X19 g1 hX1 ha1 => ?_)
  replace hX : e_ok 8 cX8_init X19 wc8_37 := hX1
  replace ha := ha1
  replace hR : (e_R X19).frames = 1 ∧ (e_R X19).locals = 40 * 1 := by rw [(e_gr_c g1).2.2]; exact hR
  replace hi : (e_me X19).name = "<init>" := by rw [(e_gr_c g1).1]; exact hi
  replace hL : (e_c X19).maxLocals = 1 := by rw [(e_gr_c g1).2.1]; exact hL
  replace G := e_gr_t G g1 (by decide)
  clear hX1 ha1 g1
  show e_E X19 wc8_37 243 [some (.ref 0)] [.ref 19, .ref 0] _
  refine e_putF (ty0 := .array .int) hX dX8_init_243 e_lk_8_66 (fun C T N h => by have h : some (RX8, TX8, 34) = some (C, T, N) := h; cases h; exact ⟨rfl, rfl, by decide +kernel⟩) (fun q => ⟨rfl, rfl⟩) rfl (by decide) hi ?_
  replace hX : e_ok 8 cX8_init X19 wc8_38 := e_ok_sh (Sh := wc8_37) rfl hX
  show e_E X19 wc8_38 246 [some (.ref 0)] [] _
  refine e_aload_n hX dX8_init_246 rfl ?_
  refine e_bipush hX dX8_init_247 ?_
  refine e_newa (t := 0) (N := 120) (ty := .int) hX ha rfl rfl wArr0 ha.2.1.1.1 (by decide) (by decide) (by decide) (by decide) (by decide) (by decide) (by decide +kernel) dX8_init_249 (fun X20 g1 hX1 ha1 => ?_)
  replace hX : e_ok 8 cX8_init X20 wc8_39 := hX1
  replace ha := ha1
  replace hR : (e_R X20).frames = 1 ∧ (e_R X20).locals = 40 * 1 := by rw [(e_gr_c g1).2.2]; exact hR
  replace hi : (e_me X20).name = "<init>" := by rw [(e_gr_c g1).1]; exact hi
  replace hL : (e_c X20).maxLocals = 1 := by rw [(e_gr_c g1).2.1]; exact hL
  replace G := e_gr_t G g1 (by decide)
  clear hX1 ha1 g1
  show e_E X20 wc8_39 251 [some (.ref 0)] [.ref 20, .ref 0] _
  refine e_putF (ty0 := .array .int) hX dX8_init_251 e_lk_8_69 (fun C T N h => by have h : some (RX8, TX8, 34) = some (C, T, N) := h; cases h; exact ⟨rfl, rfl, by decide +kernel⟩) (fun q => ⟨rfl, rfl⟩) rfl (by decide) hi ?_
  replace hX : e_ok 8 cX8_init X20 wc8_40 := e_ok_sh (Sh := wc8_39) rfl hX
  show e_E X20 wc8_40 254 [some (.ref 0)] [] _
  refine e_aload_n hX dX8_init_254 rfl ?_
  refine e_bipush hX dX8_init_255 ?_
  refine e_newa (t := 0) (N := 24) (ty := .int) hX ha rfl rfl wArr0 ha.2.1.1.1 (by decide) (by decide) (by decide) (by decide) (by decide) (by decide) (by decide +kernel) dX8_init_257 (fun X21 g1 hX1 ha1 => ?_)
  replace hX : e_ok 8 cX8_init X21 wc8_41 := hX1
  replace ha := ha1
  replace hR : (e_R X21).frames = 1 ∧ (e_R X21).locals = 40 * 1 := by rw [(e_gr_c g1).2.2]; exact hR
  replace hi : (e_me X21).name = "<init>" := by rw [(e_gr_c g1).1]; exact hi
  replace hL : (e_c X21).maxLocals = 1 := by rw [(e_gr_c g1).2.1]; exact hL
  replace G := e_gr_t G g1 (by decide)
  clear hX1 ha1 g1
  show e_E X21 wc8_41 259 [some (.ref 0)] [.ref 21, .ref 0] _
  refine e_putF (ty0 := .array .int) hX dX8_init_259 e_lk_8_72 (fun C T N h => by have h : some (RX8, TX8, 34) = some (C, T, N) := h; cases h; exact ⟨rfl, rfl, by decide +kernel⟩) (fun q => ⟨rfl, rfl⟩) rfl (by decide) hi ?_
  replace hX : e_ok 8 cX8_init X21 wc8_42 := e_ok_sh (Sh := wc8_41) rfl hX
  show e_E X21 wc8_42 262 [some (.ref 0)] [] _
  refine e_aload_n hX dX8_init_262 rfl ?_
  refine e_bipush hX dX8_init_263 ?_
  refine e_newa (t := 0) (N := 60) (ty := .int) hX ha rfl rfl wArr0 ha.2.1.1.1 (by decide) (by decide) (by decide) (by decide) (by decide) (by decide) (by decide +kernel) dX8_init_265 (fun X22 g1 hX1 ha1 => ?_)
  replace hX : e_ok 8 cX8_init X22 wc8_43 := hX1
  replace ha := ha1
  replace hR : (e_R X22).frames = 1 ∧ (e_R X22).locals = 40 * 1 := by rw [(e_gr_c g1).2.2]; exact hR
  replace hi : (e_me X22).name = "<init>" := by rw [(e_gr_c g1).1]; exact hi
  replace hL : (e_c X22).maxLocals = 1 := by rw [(e_gr_c g1).2.1]; exact hL
  replace G := e_gr_t G g1 (by decide)
  clear hX1 ha1 g1
  show e_E X22 wc8_43 267 [some (.ref 0)] [.ref 22, .ref 0] _
  refine e_putF (ty0 := .array .int) hX dX8_init_267 e_lk_8_75 (fun C T N h => by have h : some (RX8, TX8, 34) = some (C, T, N) := h; cases h; exact ⟨rfl, rfl, by decide +kernel⟩) (fun q => ⟨rfl, rfl⟩) rfl (by decide) hi ?_
  replace hX : e_ok 8 cX8_init X22 wc8_44 := e_ok_sh (Sh := wc8_43) rfl hX
  show e_E X22 wc8_44 270 [some (.ref 0)] [] _
  refine e_aload_n hX dX8_init_270 rfl ?_
  refine e_getfR hX dX8_init_271 e_lk_8_9 (v := .ref 1) rfl ?_
  refine e_iconst hX dX8_init_274 ?_
  refine e_iconst hX dX8_init_275 ?_
  refine e_iastore hX dX8_init_276 rfl (by unfold vp_in; decide) ?_
  rw [show ((e_i0 0) : Int32).toNatClampNeg = 0 from by decide, show ((e_i0 1) : Int32) = 1 from by decide]
  refine e_aload_n hX dX8_init_277 rfl ?_
  refine e_getfR hX dX8_init_278 e_lk_8_9 (v := .ref 1) rfl ?_
  refine e_iconst hX dX8_init_281 ?_
  refine e_bipush hX dX8_init_282 ?_
  refine e_iastore hX dX8_init_284 rfl (by unfold vp_in; decide) ?_
  rw [show ((e_i0 4) : Int32).toNatClampNeg = 4 from by decide, show ((e_i8 10) : Int32) = 10 from by decide]
  exact ret X22 _ _ 285 G hX dX8_init_285 (by exact ⟨fun j => h0 j, fun b => rfl, fun b => rfl, fun b => rfl, fun b => rfl, ⟨fun w hw => (by match w, hw with | 0, _ | 1, _ | 2, _ => exact ⟨rfl, rfl⟩), fun i hi => (by match i, hi with | 0, _ | 1, _ | 2, _ | 3, _ | 4, _ | 5, _ | 6, _ | 7, _ | 8, _ | 9, _ | 10, _ => rfl)⟩, fun b => rfl, fun j hj => (by match j, hj with | 0, _ | 1, _ | 2, _ | 3, _ => rfl), fun b => rfl, fun b => rfl, fun b => rfl, fun b => rfl⟩)
