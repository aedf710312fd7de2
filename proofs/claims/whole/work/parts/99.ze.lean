/-! ===== the law: its beginning ===== -/
section I0
variable {N K : e_M}
theorem pk_1 (h : PK K) : K 1 0 = 1 ∧ K 1 1 = 0 ∧ K 1 2 = 0 ∧ K 1 3 = 0 ∧ K 1 4 = 10 ∧ K 1 5 = 0 ∧ ∀ b, 5 ≤ b → K 1 b = 0 := by
  have e := h.2.1
  refine ⟨?_, ?_, ?_, ?_, ?_, ?_, fun b hb => ?_⟩
  · rw [e 0]; rfl
  · rw [e 1]; rfl
  · rw [e 2]; rfl
  · rw [e 3]; rfl
  · rw [e 4]; rfl
  · rw [e 5]; rfl
  · rw [e b, pk_un (by omega), pk_un (by omega)]
theorem rel_0 (hN : PL N) (hK : PK K) : rel N K := by
  obtain ⟨n1, n2, ⟨⟨m2, m3, m4, m5, m6, m7⟩, c0, c1, c2⟩, n4, n5, n6⟩ := hN
  obtain ⟨k0, k1, k2, k3, k4, k5, -⟩ := pk_1 hK
  obtain ⟨z0, -, -, -, z6, -, z13, z14, z15, z16, z17, z22⟩ := hK
  have en : nA (K 1) = 0 := by unfold nA; rw [k1]; rfl
  have et : tA (K 1) = 0 := by unfold tA; rw [k5]; rfl
  refine ⟨⟨⟨⟨?_, ?_, ?_, ?_, ?_, ?_⟩, fun l w hl => absurd hl (by rw [en]; omega), fun k hk => ?_, fun t ht => absurd ht (by rw [et]; omega)⟩, fun z => absurd (z0 3) z⟩, ⟨by rw [z0 3]; exact n1.1, by rw [z0 7]; exact n1.2.1, by rw [z0 33]; exact n1.2.2⟩, fun i _ => by rw [z6 i]; exact n2 i, fun i _ => by rw [z22 i]; exact n4 i, fun j hj => ?_, fun j hj => ?_⟩
  · rw [k0]; exact m6
  · rw [k1]; exact m2
  · rw [k2]; exact m5
  · rw [k3]; exact m3
  · rw [k4]; exact m4
  · rw [k5]; exact m7
  · rw [et]
    show N 35 k = -1
    have : k = 0 ∨ k = 1 ∨ k = 2 := by omega
    rcases this with rfl | rfl | rfl
    · exact c0
    · exact c1
    · exact c2
  · obtain ⟨a1, a2, a3⟩ := n5 j hj
    exact ⟨by rw [z14 j hj]; exact a1, by rw [z15 j]; exact a2, fun i _ => by rw [z16]; exact a3 i⟩
  · refine ⟨by rw [z17 j]; exact n6 j hj, fun z => ?_, fun z => ?_, fun z => ?_⟩ <;> (rw [z17 j] at z; exact absurd z (by decide))
theorem inv_0 (hK : PK K) : inv K := by
  obtain ⟨k0, k1, k2, k3, k4, k5, kh⟩ := pk_1 hK
  obtain ⟨z0, -, z2, z3, z6, zc, z13, z14, z15, z16, z17, z22⟩ := hK
  have en : nA (K 1) = 0 := by unfold nA; rw [k1]; rfl
  have et : tA (K 1) = 0 := by unfold tA; rw [k5]; rfl
  refine ⟨⟨⟨⟨⟨⟨⟨by rw [en, k1]; rfl, by rw [en]; decide⟩, ⟨by rw [et, k5]; rfl, by rw [et]; decide, fun t ht => absurd ht (by rw [et]; omega)⟩, fun l hl => absurd hl (by rw [en]; omega)⟩, Or.inl k3⟩, fun l hl => absurd hl (by rw [en]; omega), 0, by rw [k2]; rfl, by decide, fun l hl => absurd hl (by rw [en]; omega)⟩, fun z => absurd (z0 3) z, Or.inl (z0 3)⟩, z13 3, ⟨0, by rw [z0 7]; rfl, by decide⟩, ⟨0, by rw [z0 33]; rfl, by decide⟩, fun j hj => ?_, fun j hj z => ?_, fun b hb => ⟨kh b (by omega), z2 b, z3 b⟩, fun j hj => ⟨Or.inl ⟨z14 j hj, z15 j⟩, fun i hi => Or.inr (by rw [z16]; decide)⟩, fun j hj => Or.inl (z17 j)⟩, zc, fun i hi => ⟨0, by decide, by rw [z6 i]; rfl⟩⟩
  · unfold szR; rw [z15 j]; exact ⟨rfl, by decide⟩
  · rw [z17 j] at z; exact absurd z (by decide)
theorem invL_0 {M2 : e_M} (h1 : ∀ c, c < 90 → M2 c = N c) (h2 : ∀ c, c < 23 → kM M2 c = K c) (hN : PL N) (hK : PK K) : invL M2 := by
  have hi := inv_cg (inv_0 hK) h2
  exact ⟨rel_M (rel_K (rel_0 hN hK) (fun c hc => h2 c (by omega))) hi.1 h1, hi⟩
end I0
def wc9_0 : List e_S := []
def wc9_1 : List e_S := [.inr (6, [some .null, none, some .null, some .null, some .null, some .null, some .null, none, some .null, some .null, none, some .null, some .null])]
def wc9_2 : List e_S := [.inr (6, [some (.ref 1), none, some (.ref 2), some (.ref 22), some (.ref 24), some (.ref 37), some (.ref 50), none, some (.ref 63), some (.ref 64), none, some (.ref 65), some (.ref 66)]), .inl (0, 96, none), .inr (0, [some (.ref 3), some (.ref 4), some (.ref 5), some (.ref 6), some (.ref 21)]), .inl (0, 14, none), .inl (0, 14, none), .inl (0, 14, none), .inl (5, 14, some [some 7, some 8, some 9, some 10, some 11, some 12, some 13, some 14, some 15, some 16, some 17, some 18, some 19, some 20]), .inl (0, 96, none), .inl (0, 96, none), .inl (0, 96, none), .inl (0, 96, none), .inl (0, 96, none), .inl (0, 96, none), .inl (0, 96, none), .inl (0, 96, none), .inl (0, 96, none), .inl (0, 96, none), .inl (0, 96, none), .inl (0, 96, none), .inl (0, 96, none), .inl (0, 96, none), .inl (0, 96, none), .inr (3, [some (.ref 1), none, none, none, none, none, none, some (.ref 1010), some (.ref 23), none, none]), .inl (0, 96, none), .inr (2, [some (.ref 2), some (.ref 25), none, none, none, none, none, none, some (.ref 35), some (.ref 36)]), .inl (5, 9, some [some 26, some 27, some 28, some 29, some 30, some 31, some 32, some 33, some 34]), .inl (0, 10, none), .inl (0, 10, none), .inl (0, 10, none), .inl (0, 10, none), .inl (0, 10, none), .inl (0, 10, none), .inl (0, 10, none), .inl (0, 10, none), .inl (0, 10, none), .inl (0, 3, none), .inl (0, 10, none), .inr (2, [some (.ref 2), some (.ref 38), none, none, none, none, none, none, some (.ref 48), some (.ref 49)]), .inl (5, 9, some [some 39, some 40, some 41, some 42, some 43, some 44, some 45, some 46, some 47]), .inl (0, 10, none), .inl (0, 10, none), .inl (0, 10, none), .inl (0, 10, none), .inl (0, 10, none), .inl (0, 10, none), .inl (0, 10, none), .inl (0, 10, none), .inl (0, 10, none), .inl (0, 3, none), .inl (0, 10, none), .inr (2, [some (.ref 2), some (.ref 51), none, none, none, none, none, none, some (.ref 61), some (.ref 62)]), .inl (5, 9, some [some 52, some 53, some 54, some 55, some 56, some 57, some 58, some 59, some 60]), .inl (0, 10, none), .inl (0, 10, none), .inl (0, 10, none), .inl (0, 10, none), .inl (0, 10, none), .inl (0, 10, none), .inl (0, 10, none), .inl (0, 10, none), .inl (0, 10, none), .inl (0, 3, none), .inl (0, 10, none), .inr (1, [none, none, none]), .inl (0, 60, none), .inl (3, 4, some [some 67, some 69, some 71, some 73]), .inl (4, 5, some [some 75, some 78, some 81, some 84, some 87]), .inr (4, [none, none, some (.ref 68)]), .inl (0, 24, none), .inr (4, [none, none, some (.ref 70)]), .inl (0, 24, none), .inr (4, [none, none, some (.ref 72)]), .inl (0, 24, none), .inr (4, [none, none, some (.ref 74)]), .inl (0, 24, none), .inr (5, [none, none, none, none, some (.ref 76)]), .inr (4, [none, none, some (.ref 77)]), .inl (0, 24, none), .inr (5, [none, none, none, none, some (.ref 79)]), .inr (4, [none, none, some (.ref 80)]), .inl (0, 24, none), .inr (5, [none, none, none, none, some (.ref 82)]), .inr (4, [none, none, some (.ref 83)]), .inl (0, 24, none), .inr (5, [none, none, none, none, some (.ref 85)]), .inr (4, [none, none, some (.ref 86)]), .inl (0, 24, none), .inr (5, [none, none, none, none, some (.ref 88)]), .inr (4, [none, none, some (.ref 89)]), .inl (0, 24, none)]
def wc9_3 : List e_S := [.inr (6, [some (.ref 1), none, some (.ref 2), some (.ref 22), some (.ref 24), some (.ref 37), some (.ref 50), none, some (.ref 63), some (.ref 64), none, some (.ref 65), some (.ref 66)]), .inl (0, 96, none), .inr (0, [some (.ref 3), some (.ref 4), some (.ref 5), some (.ref 6), some (.ref 21)]), .inl (0, 14, none), .inl (0, 14, none), .inl (0, 14, none), .inl (5, 14, some [some 7, some 8, some 9, some 10, some 11, some 12, some 13, some 14, some 15, some 16, some 17, some 18, some 19, some 20]), .inl (0, 96, none), .inl (0, 96, none), .inl (0, 96, none), .inl (0, 96, none), .inl (0, 96, none), .inl (0, 96, none), .inl (0, 96, none), .inl (0, 96, none), .inl (0, 96, none), .inl (0, 96, none), .inl (0, 96, none), .inl (0, 96, none), .inl (0, 96, none), .inl (0, 96, none), .inl (0, 96, none), .inr (3, [some (.ref 1), none, none, none, none, none, none, some (.ref 1010), some (.ref 23), none, none]), .inl (0, 96, none), .inr (2, [some (.ref 2), some (.ref 25), none, none, none, none, none, none, some (.ref 35), some (.ref 36)]), .inl (5, 9, some [some 26, some 27, some 28, some 29, some 30, some 31, some 32, some 33, some 34]), .inl (0, 10, none), .inl (0, 10, none), .inl (0, 10, none), .inl (0, 10, none), .inl (0, 10, none), .inl (0, 10, none), .inl (0, 10, none), .inl (0, 10, none), .inl (0, 10, none), .inl (0, 3, none), .inl (0, 10, none), .inr (2, [some (.ref 2), some (.ref 38), none, none, none, none, none, none, some (.ref 48), some (.ref 49)]), .inl (5, 9, some [some 39, some 40, some 41, some 42, some 43, some 44, some 45, some 46, some 47]), .inl (0, 10, none), .inl (0, 10, none), .inl (0, 10, none), .inl (0, 10, none), .inl (0, 10, none), .inl (0, 10, none), .inl (0, 10, none), .inl (0, 10, none), .inl (0, 10, none), .inl (0, 3, none), .inl (0, 10, none), .inr (2, [some (.ref 2), some (.ref 51), none, none, none, none, none, none, some (.ref 61), some (.ref 62)]), .inl (5, 9, some [some 52, some 53, some 54, some 55, some 56, some 57, some 58, some 59, some 60]), .inl (0, 10, none), .inl (0, 10, none), .inl (0, 10, none), .inl (0, 10, none), .inl (0, 10, none), .inl (0, 10, none), .inl (0, 10, none), .inl (0, 10, none), .inl (0, 10, none), .inl (0, 3, none), .inl (0, 10, none), .inr (1, [none, none, none]), .inl (0, 60, none), .inl (3, 4, some [some 67, some 69, some 71, some 73]), .inl (4, 5, some [some 75, some 78, some 81, some 84, some 87]), .inr (4, [none, none, some (.ref 68)]), .inl (0, 24, none), .inr (4, [none, none, some (.ref 70)]), .inl (0, 24, none), .inr (4, [none, none, some (.ref 72)]), .inl (0, 24, none), .inr (4, [none, none, some (.ref 74)]), .inl (0, 24, none), .inr (5, [none, none, none, none, some (.ref 76)]), .inr (4, [none, none, some (.ref 77)]), .inl (0, 24, none), .inr (5, [none, none, none, none, some (.ref 79)]), .inr (4, [none, none, some (.ref 80)]), .inl (0, 24, none), .inr (5, [none, none, none, none, some (.ref 82)]), .inr (4, [none, none, some (.ref 83)]), .inl (0, 24, none), .inr (5, [none, none, none, none, some (.ref 85)]), .inr (4, [none, none, some (.ref 86)]), .inl (0, 24, none), .inr (5, [none, none, none, none, some (.ref 88)]), .inr (4, [none, none, some (.ref 89)]), .inl (0, 24, none), .inr (7, [some .null, some .null, some .null, none, some .null, some .null, some .null, none, none, none, none, none, none, none, some .null, some .null, some .null, none, none, some .null, none, some .null, some .null, some .null, some .null, some .null, some .null, some .null, some .null, some .null, some .null, some .null, some .null, none])]
def wc9_4 : List e_S := [.inr (6, [some (.ref 1), none, some (.ref 2), some (.ref 22), some (.ref 24), some (.ref 37), some (.ref 50), none, some (.ref 63), some (.ref 64), none, some (.ref 65), some (.ref 66)]), .inl (0, 96, none), .inr (0, [some (.ref 3), some (.ref 4), some (.ref 5), some (.ref 6), some (.ref 21)]), .inl (0, 14, none), .inl (0, 14, none), .inl (0, 14, none), .inl (5, 14, some [some 7, some 8, some 9, some 10, some 11, some 12, some 13, some 14, some 15, some 16, some 17, some 18, some 19, some 20]), .inl (0, 96, none), .inl (0, 96, none), .inl (0, 96, none), .inl (0, 96, none), .inl (0, 96, none), .inl (0, 96, none), .inl (0, 96, none), .inl (0, 96, none), .inl (0, 96, none), .inl (0, 96, none), .inl (0, 96, none), .inl (0, 96, none), .inl (0, 96, none), .inl (0, 96, none), .inl (0, 96, none), .inr (3, [some (.ref 1), none, none, none, none, none, none, some (.ref 1010), some (.ref 23), none, none]), .inl (0, 96, none), .inr (2, [some (.ref 2), some (.ref 25), none, none, none, none, none, none, some (.ref 35), some (.ref 36)]), .inl (5, 9, some [some 26, some 27, some 28, some 29, some 30, some 31, some 32, some 33, some 34]), .inl (0, 10, none), .inl (0, 10, none), .inl (0, 10, none), .inl (0, 10, none), .inl (0, 10, none), .inl (0, 10, none), .inl (0, 10, none), .inl (0, 10, none), .inl (0, 10, none), .inl (0, 3, none), .inl (0, 10, none), .inr (2, [some (.ref 2), some (.ref 38), none, none, none, none, none, none, some (.ref 48), some (.ref 49)]), .inl (5, 9, some [some 39, some 40, some 41, some 42, some 43, some 44, some 45, some 46, some 47]), .inl (0, 10, none), .inl (0, 10, none), .inl (0, 10, none), .inl (0, 10, none), .inl (0, 10, none), .inl (0, 10, none), .inl (0, 10, none), .inl (0, 10, none), .inl (0, 10, none), .inl (0, 3, none), .inl (0, 10, none), .inr (2, [some (.ref 2), some (.ref 51), none, none, none, none, none, none, some (.ref 61), some (.ref 62)]), .inl (5, 9, some [some 52, some 53, some 54, some 55, some 56, some 57, some 58, some 59, some 60]), .inl (0, 10, none), .inl (0, 10, none), .inl (0, 10, none), .inl (0, 10, none), .inl (0, 10, none), .inl (0, 10, none), .inl (0, 10, none), .inl (0, 10, none), .inl (0, 10, none), .inl (0, 3, none), .inl (0, 10, none), .inr (1, [none, none, none]), .inl (0, 60, none), .inl (3, 4, some [some 67, some 69, some 71, some 73]), .inl (4, 5, some [some 75, some 78, some 81, some 84, some 87]), .inr (4, [none, none, some (.ref 68)]), .inl (0, 24, none), .inr (4, [none, none, some (.ref 70)]), .inl (0, 24, none), .inr (4, [none, none, some (.ref 72)]), .inl (0, 24, none), .inr (4, [none, none, some (.ref 74)]), .inl (0, 24, none), .inr (5, [none, none, none, none, some (.ref 76)]), .inr (4, [none, none, some (.ref 77)]), .inl (0, 24, none), .inr (5, [none, none, none, none, some (.ref 79)]), .inr (4, [none, none, some (.ref 80)]), .inl (0, 24, none), .inr (5, [none, none, none, none, some (.ref 82)]), .inr (4, [none, none, some (.ref 83)]), .inl (0, 24, none), .inr (5, [none, none, none, none, some (.ref 85)]), .inr (4, [none, none, some (.ref 86)]), .inl (0, 24, none), .inr (5, [none, none, none, none, some (.ref 88)]), .inr (4, [none, none, some (.ref 89)]), .inl (0, 24, none), .inr (7, [some (.ref 91), some (.ref 92), some (.ref 93), none, some (.ref 94), some (.ref 95), some (.ref 96), none, none, none, none, none, none, none, some (.ref 97), some (.ref 98), some (.ref 99), none, none, some (.ref 100), none, some (.ref 101), some (.ref 102), some (.ref 103), some (.ref 104), some (.ref 105), some (.ref 106), some (.ref 107), some (.ref 108), some (.ref 109), some (.ref 110), some (.ref 111), some (.ref 112), none]), .inl (0, 1468, none), .inl (0, 1468, none), .inl (0, 1468, none), .inl (1, 10, none), .inl (0, 96, none), .inl (0, 96, none), .inl (2, 11, none), .inl (0, 4, none), .inl (0, 96, none), .inl (0, 96, none), .inl (1, 10, none), .inl (0, 96, none), .inl (0, 4, none), .inl (0, 4, none), .inl (0, 4, none), .inl (0, 96, none), .inl (0, 5, none), .inl (0, 5, none), .inl (0, 5, none), .inl (0, 120, none), .inl (0, 24, none), .inl (0, 60, none)]
def lwL : List Nat := [0, 1, 2, 3, 4, 5, 6, 7, 8, 9, 10, 11, 12, 13, 14, 15, 16, 17, 18, 19, 20, 21, 22, 23, 24, 25, 26, 27, 28, 29, 30, 31, 32, 33, 34, 35, 36, 37, 38, 39, 40, 41, 42, 43, 44, 45, 46, 47, 48, 49, 50, 51, 52, 53, 54, 55, 56, 57, 58, 59, 60, 61, 62, 63, 64, 65, 66, 67, 68, 69, 70, 71, 72, 73, 74, 75, 76, 77, 78, 79, 80, 81, 82, 83, 84, 85, 86, 87, 88, 89]
def lwM : List Nat := [90, 91, 92, 93, 94, 95, 96, 97, 98, 99, 100, 101, 102, 103, 104, 105, 106, 107, 108, 109, 110, 111, 112]
theorem lw_mem {M N K : e_M} {f : Nat → Int32} : (∀ c, c < 90 → e_mg lwM wc8_44.length (e_up (e_mg lwL wc7_53.length M N) 90 f) K c = N c) ∧ ∀ c, c < 23 → kM (e_mg lwM wc8_44.length (e_up (e_mg lwL wc7_53.length M N) 90 f) K) c = K c := by
  have sL : e_sb lwL wc9_2 wc7_53 = true := by decide +kernel
  have sM : e_sb lwM wc9_4 wc8_44 = true := by decide +kernel
  have oL : ∀ c, c < 90 → e_io lwL c = c := by decide +kernel
  have oM : ∀ c, c < 23 → e_io lwM c = 90 + c := by decide +kernel
  have nM : ∀ c, c < 90 → c ∉ lwM.take wc8_44.length := by decide +kernel
  refine ⟨fun c hc => ?_, fun c hc => ?_⟩
  · rw [e_mg_out (nM c hc)]
    unfold e_up
    rw [if_neg (by omega)]
    have := e_mg_in sL M N (j := c) hc
    rw [oL c hc] at this
    exact this
  · show e_mg lwM wc8_44.length _ K (e_io iM c) = K c
    rw [iM_io (by omega), ← oM c hc]
    exact e_mg_in sM _ K (j := c) hc
theorem lw_w : wc9_4 = w_LR 1010 := by
  have h : (List.range 113).all (fun k => e_so wc9_4[k]? (w_LR 1010)[k]?) = true := by decide +kernel
  apply List.ext_getElem?
  intro k
  by_cases hk : k < 113
  · exact e_so_eq (List.all_eq_true.mp h k (List.mem_range.mpr hk))
  · rw [List.getElem?_eq_none (show wc9_4.length ≤ k from Nat.not_lt.mp hk), List.getElem?_eq_none (by rw [w_LR_len]; omega)]
set_option maxRecDepth 100000 in
set_option maxHeartbeats 4000000 in
theorem lw_init {X0 : e_X} {M : e_M} (hX : e_ok 9 cL_law X0 wc9_0) (ha : e_aw X0 600000 7302250) (hL : (e_c X0).maxLocals = 4) (hR : (e_R X0).frames = 2048 ∧ (e_R X0).locals = 84000) (kont : ∀ (X' : e_X) (M : e_M), e_gr X0 0 X' 113 → e_ok 9 cL_law X' (w_LR 1010) → invL M → e_E X' (w_LR 1010) 18 (lo4 0) [] M) : e_E X0 wc9_0 0 [some (.ref 1004), none, none, none] [] M := by
  have G : e_gr X0 wc9_0.length X0 wc9_0.length := e_gr_0
  refine e_newo (ci := 6) (N := 13) (fs := [some .null, none, some .null, some .null, some .null, some .null, some .null, none, some .null, some .null, none, some .null, some .null]) hX ha e_in7 tyX7 tyX7_ok (e_tbl_at 61 (by decide +kernel) (by decide +kernel)) wIns7 wIni7 rfl wDef7 (by decide) (by decide) (by decide) (by decide +kernel) dL_law_0 (fun X1 g1 hX1 ha1 => ?_)
  replace hX : e_ok 9 cL_law X1 wc9_1 := hX1
  replace ha := ha1
  replace hR : (e_R X1).frames = 2048 ∧ (e_R X1).locals = 84000 := by rw [(e_gr_c g1).2.2]; exact hR
  replace hL : (e_c X1).maxLocals = 4 := by rw [(e_gr_c g1).2.1]; exact hL
  replace G := e_gr_t G g1 (by decide)
  clear hX1 ha1 g1
  show e_E X1 wc9_1 3 [some (.ref 1004), none, none, none] [.ref 0] _
  refine e_dup hX dL_law_3 rfl ?_
  refine e_callI (m := 89) (is := [0]) (is' := [0, 1, 2, 3, 4, 5, 6, 7, 8, 9, 10, 11, 12, 13, 14, 15, 16, 17, 18, 19, 20, 21, 22, 23, 24, 25, 26, 27, 28, 29, 30, 31, 32, 33, 34, 35, 36, 37, 38, 39, 40, 41, 42, 43, 44, 45, 46, 47, 48, 49, 50, 51, 52, 53, 54, 55, 56, 57, 58, 59, 60, 61, 62, 63, 64, 65, 66, 67, 68, 69, 70, 71, 72, 73, 74, 75, 76, 77, 78, 79, 80, 81, 82, 83, 84, 85, 86, 87, 88, 89]) (Sh0 := wc7_0) (Sh1 := wc7_53) (Sh' := wc9_2) (a0 := 0) (as0 := []) (rest := [.ref 0]) hX ha (by decide +kernel) (c7_init (e_g X1) _) (Or.inl kI9_9) rfl ⟨by rw [hR.1]; decide, by rw [hR.2]; decide⟩ (by decide) dL_law_4 (by decide) (by decide) rfl (by decide) (by decide +kernel) rfl (by decide +kernel) (by decide +kernel) (by decide +kernel) (by decide +kernel) (fun X2 N2 g1 hX1 ha1 hN2 => ?_)
  replace hX : e_ok 9 cL_law X2 wc9_2 := hX1
  replace ha := ha1
  replace hR : (e_R X2).frames = 2048 ∧ (e_R X2).locals = 84000 := by rw [(e_gr_c g1).2.2]; exact hR
  replace hL : (e_c X2).maxLocals = 4 := by rw [(e_gr_c g1).2.1]; exact hL
  replace G := e_gr_t G g1 (by decide)
  clear hX1 ha1 g1
  show e_E X2 wc9_2 7 [some (.ref 1004), none, none, none] [.ref 0] _
  refine e_astore_n hX dL_law_7 (by rw [hL]; decide) ?_
  show e_E X2 wc9_2 8 [some (.ref 1004), some (.ref 0), none, none] [] _
  refine e_newo (ci := 7) (N := 34) (fs := [some .null, some .null, some .null, none, some .null, some .null, some .null, none, none, none, none, none, none, none, some .null, some .null, some .null, none, none, some .null, none, some .null, some .null, some .null, some .null, some .null, some .null, some .null, some .null, some .null, some .null, some .null, some .null, none]) hX ha e_in8 tyX8 tyX8_ok (e_tbl_at 823 (by decide +kernel) (by decide +kernel)) wIns8 wIni8 rfl wDef8 (by decide) (by decide) (by decide) (by decide +kernel) dL_law_8 (fun X3 g1 hX1 ha1 => ?_)
  replace hX : e_ok 9 cL_law X3 wc9_3 := hX1
  replace ha := ha1
  replace hR : (e_R X3).frames = 2048 ∧ (e_R X3).locals = 84000 := by rw [(e_gr_c g1).2.2]; exact hR
  replace hL : (e_c X3).maxLocals = 4 := by rw [(e_gr_c g1).2.1]; exact hL
  replace G := e_gr_t G g1 (by decide)
  clear hX1 ha1 g1
  show e_E X3 wc9_3 11 [some (.ref 1004), some (.ref 0), none, none] [.ref 90] _
  refine e_dup hX dL_law_11 rfl ?_
  refine e_callI (m := 22) (is := [90]) (is' := [90, 91, 92, 93, 94, 95, 96, 97, 98, 99, 100, 101, 102, 103, 104, 105, 106, 107, 108, 109, 110, 111, 112]) (Sh0 := wc8_0) (Sh1 := wc8_44) (Sh' := wc9_4) (a0 := 0) (as0 := []) (rest := [.ref 90]) hX ha (by decide +kernel) (c8_init (e_g X3) _ (fun j => rfl)) (Or.inl kI9_12) rfl ⟨by rw [hR.1]; decide, by rw [hR.2]; decide⟩ (by decide) dL_law_12 (by decide) (by decide) rfl (by decide) (by decide +kernel) rfl (by decide +kernel) (by decide +kernel) (by decide +kernel) (by decide +kernel) (fun X4 N4 g1 hX1 ha1 hN4 => ?_)
  replace hX : e_ok 9 cL_law X4 wc9_4 := hX1
  replace ha := ha1
  replace hR : (e_R X4).frames = 2048 ∧ (e_R X4).locals = 84000 := by rw [(e_gr_c g1).2.2]; exact hR
  replace hL : (e_c X4).maxLocals = 4 := by rw [(e_gr_c g1).2.1]; exact hL
  replace G := e_gr_t G g1 (by decide)
  clear hX1 ha1 g1
  show e_E X4 wc9_4 15 [some (.ref 1004), some (.ref 0), none, none] [.ref 90] _
  refine e_astore_n hX dL_law_15 (by rw [hL]; decide) ?_
  show e_E X4 wc9_4 16 [some (.ref 1004), some (.ref 0), some (.ref 90), none] [] _
  refine e_iconst hX dL_law_16 ?_
  refine e_istore_n hX dL_law_17 (by rw [hL]; decide) ?_
  show e_E X4 wc9_4 18 [some (.ref 1004), some (.ref 0), some (.ref 90), some (.int (e_i0 0))] [] _
  rw [lw_w] at hX ⊢
  have e0 : e_i0 0 = nI (6 * 0) := by decide
  rw [e0]
  obtain ⟨i1, i2⟩ := lw_mem (M := e_up M wc9_0.length (fun _ => 0)) (N := N2) (K := N4) (f := fun _ => 0)
  exact kont X4 _ G hX (invL_0 (N := N2) (K := N4) i1 i2 hN2 hN4)
