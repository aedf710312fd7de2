theorem e_in0 : ∀ w ∈ u_ws RX0 TX0 5, w ∈ e_tbl := fun w h => List.mem_filter.mpr ((by decide +kernel : ∀ w ∈ u_ws RX0 TX0 5, w ∈ lw_tbl ∧ e_gd w = true) w h)
theorem e_in1 : ∀ w ∈ u_ws RX1 TX1 3, w ∈ e_tbl := fun w h => List.mem_filter.mpr ((by decide +kernel : ∀ w ∈ u_ws RX1 TX1 3, w ∈ lw_tbl ∧ e_gd w = true) w h)
theorem e_in2 : ∀ w ∈ u_ws RX2 TX2 10, w ∈ e_tbl := fun w h => List.mem_filter.mpr ((by decide +kernel : ∀ w ∈ u_ws RX2 TX2 10, w ∈ lw_tbl ∧ e_gd w = true) w h)
theorem e_in4 : ∀ w ∈ u_ws RX4 TX4 11, w ∈ e_tbl := fun w h => List.mem_filter.mpr ((by decide +kernel : ∀ w ∈ u_ws RX4 TX4 11, w ∈ lw_tbl ∧ e_gd w = true) w h)
theorem e_in5 : ∀ w ∈ u_ws RX5 TX5 3, w ∈ e_tbl := fun w h => List.mem_filter.mpr ((by decide +kernel : ∀ w ∈ u_ws RX5 TX5 3, w ∈ lw_tbl ∧ e_gd w = true) w h)
theorem e_in6 : ∀ w ∈ u_ws RX6 TX6 5, w ∈ e_tbl := fun w h => List.mem_filter.mpr ((by decide +kernel : ∀ w ∈ u_ws RX6 TX6 5, w ∈ lw_tbl ∧ e_gd w = true) w h)
theorem e_in7 : ∀ w ∈ u_ws RX7 TX7 13, w ∈ e_tbl := fun w h => List.mem_filter.mpr ((by decide +kernel : ∀ w ∈ u_ws RX7 TX7 13, w ∈ lw_tbl ∧ e_gd w = true) w h)
theorem e_in8 : ∀ w ∈ u_ws RX8 TX8 34, w ∈ e_tbl := fun w h => List.mem_filter.mpr ((by decide +kernel : ∀ w ∈ u_ws RX8 TX8 34, w ∈ lw_tbl ∧ e_gd w = true) w h)
/-- what a link of a field needs: the class (its place, its number), the field, whether it is an int -/
def e_lw (o idx ci j b : Nat) : Prop := ∃ (C : String) (T : u_T) (N : Nat) (ty : Nat → FieldType), vwCl[ci]? = some (C, T, N) ∧ j < N ∧ (∀ w ∈ u_ws C T N, w ∈ e_tbl) ∧ (∀ k, k < N → parseFieldDescriptor (T k).2.2.1 = some (ty k)) ∧ (∀ a, a < N → ∀ b, b < N → a ≠ b → (T a).2.1 ≠ (T b).2.1) ∧ Cond.fieldLink (e_ow o) idx C (T j).2.1 (T j).2.2.1 ∈ e_tbl ∧ (T j).1 = C ∧ (b = 0 → ty j = .int ∧ (T j).2.2.2 = false) ∧ (b = 1 → ty j = .boolean ∧ (T j).2.2.2 = false)
theorem e_lw_0_9 : e_lw 0 9 0 0 2 := ⟨RX0, TX0, 5, tyX0, rfl, by decide, e_in0, tyX0_ok, nmX0, e_tbl_at 77 (by decide +kernel) (by decide +kernel), rfl, (fun h => nomatch h), (fun h => nomatch h)⟩
theorem e_lw_7_218 : e_lw 7 218 0 0 2 := ⟨RX0, TX0, 5, tyX0, rfl, by decide, e_in0, tyX0_ok, nmX0, e_tbl_at 78 (by decide +kernel) (by decide +kernel), rfl, (fun h => nomatch h), (fun h => nomatch h)⟩
theorem e_lw_0_15 : e_lw 0 15 0 1 2 := ⟨RX0, TX0, 5, tyX0, rfl, by decide, e_in0, tyX0_ok, nmX0, e_tbl_at 79 (by decide +kernel) (by decide +kernel), rfl, (fun h => nomatch h), (fun h => nomatch h)⟩
theorem e_lw_7_221 : e_lw 7 221 0 1 2 := ⟨RX0, TX0, 5, tyX0, rfl, by decide, e_in0, tyX0_ok, nmX0, e_tbl_at 80 (by decide +kernel) (by decide +kernel), rfl, (fun h => nomatch h), (fun h => nomatch h)⟩
theorem e_lw_0_18 : e_lw 0 18 0 2 2 := ⟨RX0, TX0, 5, tyX0, rfl, by decide, e_in0, tyX0_ok, nmX0, e_tbl_at 81 (by decide +kernel) (by decide +kernel), rfl, (fun h => nomatch h), (fun h => nomatch h)⟩
theorem e_lw_0_23 : e_lw 0 23 0 3 2 := ⟨RX0, TX0, 5, tyX0, rfl, by decide, e_in0, tyX0_ok, nmX0, e_tbl_at 82 (by decide +kernel) (by decide +kernel), rfl, (fun h => nomatch h), (fun h => nomatch h)⟩
theorem e_lw_0_26 : e_lw 0 26 0 4 2 := ⟨RX0, TX0, 5, tyX0, rfl, by decide, e_in0, tyX0_ok, nmX0, e_tbl_at 83 (by decide +kernel) (by decide +kernel), rfl, (fun h => nomatch h), (fun h => nomatch h)⟩
theorem e_lw_4_46 : e_lw 4 46 3 0 2 := ⟨RX4, TX4, 11, tyX4, rfl, by decide, e_in4, tyX4_ok, nmX4, e_tbl_at 103 (by decide +kernel) (by decide +kernel), rfl, (fun h => nomatch h), (fun h => nomatch h)⟩
theorem e_lw_4_9 : e_lw 4 9 3 1 0 := ⟨RX4, TX4, 11, tyX4, rfl, by decide, e_in4, tyX4_ok, nmX4, e_tbl_at 104 (by decide +kernel) (by decide +kernel), rfl, (fun _ => ⟨rfl, rfl⟩), (fun h => nomatch h)⟩
theorem e_lw_4_15 : e_lw 4 15 3 2 0 := ⟨RX4, TX4, 11, tyX4, rfl, by decide, e_in4, tyX4_ok, nmX4, e_tbl_at 105 (by decide +kernel) (by decide +kernel), rfl, (fun _ => ⟨rfl, rfl⟩), (fun h => nomatch h)⟩
theorem e_lw_4_18 : e_lw 4 18 3 3 0 := ⟨RX4, TX4, 11, tyX4, rfl, by decide, e_in4, tyX4_ok, nmX4, e_tbl_at 106 (by decide +kernel) (by decide +kernel), rfl, (fun _ => ⟨rfl, rfl⟩), (fun h => nomatch h)⟩
theorem e_lw_4_21 : e_lw 4 21 3 4 0 := ⟨RX4, TX4, 11, tyX4, rfl, by decide, e_in4, tyX4_ok, nmX4, e_tbl_at 107 (by decide +kernel) (by decide +kernel), rfl, (fun _ => ⟨rfl, rfl⟩), (fun h => nomatch h)⟩
theorem e_lw_4_24 : e_lw 4 24 3 5 0 := ⟨RX4, TX4, 11, tyX4, rfl, by decide, e_in4, tyX4_ok, nmX4, e_tbl_at 108 (by decide +kernel) (by decide +kernel), rfl, (fun _ => ⟨rfl, rfl⟩), (fun h => nomatch h)⟩
theorem e_lw_4_27 : e_lw 4 27 3 6 0 := ⟨RX4, TX4, 11, tyX4, rfl, by decide, e_in4, tyX4_ok, nmX4, e_tbl_at 109 (by decide +kernel) (by decide +kernel), rfl, (fun _ => ⟨rfl, rfl⟩), (fun h => nomatch h)⟩
theorem e_lw_0_29 : e_lw 0 29 3 6 0 := ⟨RX4, TX4, 11, tyX4, rfl, by decide, e_in4, tyX4_ok, nmX4, e_tbl_at 110 (by decide +kernel) (by decide +kernel), rfl, (fun _ => ⟨rfl, rfl⟩), (fun h => nomatch h)⟩
theorem e_lw_7_215 : e_lw 7 215 3 6 0 := ⟨RX4, TX4, 11, tyX4, rfl, by decide, e_in4, tyX4_ok, nmX4, e_tbl_at 111 (by decide +kernel) (by decide +kernel), rfl, (fun _ => ⟨rfl, rfl⟩), (fun h => nomatch h)⟩
theorem e_lw_4_32 : e_lw 4 32 3 7 2 := ⟨RX4, TX4, 11, tyX4, rfl, by decide, e_in4, tyX4_ok, nmX4, e_tbl_at 112 (by decide +kernel) (by decide +kernel), rfl, (fun h => nomatch h), (fun h => nomatch h)⟩
theorem e_lw_4_36 : e_lw 4 36 3 8 2 := ⟨RX4, TX4, 11, tyX4, rfl, by decide, e_in4, tyX4_ok, nmX4, e_tbl_at 113 (by decide +kernel) (by decide +kernel), rfl, (fun h => nomatch h), (fun h => nomatch h)⟩
theorem e_lw_0_40 : e_lw 0 40 3 8 2 := ⟨RX4, TX4, 11, tyX4, rfl, by decide, e_in4, tyX4_ok, nmX4, e_tbl_at 114 (by decide +kernel) (by decide +kernel), rfl, (fun h => nomatch h), (fun h => nomatch h)⟩
theorem e_lw_4_40 : e_lw 4 40 3 9 0 := ⟨RX4, TX4, 11, tyX4, rfl, by decide, e_in4, tyX4_ok, nmX4, e_tbl_at 115 (by decide +kernel) (by decide +kernel), rfl, (fun _ => ⟨rfl, rfl⟩), (fun h => nomatch h)⟩
theorem e_lw_0_37 : e_lw 0 37 3 9 0 := ⟨RX4, TX4, 11, tyX4, rfl, by decide, e_in4, tyX4_ok, nmX4, e_tbl_at 116 (by decide +kernel) (by decide +kernel), rfl, (fun _ => ⟨rfl, rfl⟩), (fun h => nomatch h)⟩
theorem e_lw_4_43 : e_lw 4 43 3 10 0 := ⟨RX4, TX4, 11, tyX4, rfl, by decide, e_in4, tyX4_ok, nmX4, e_tbl_at 117 (by decide +kernel) (by decide +kernel), rfl, (fun _ => ⟨rfl, rfl⟩), (fun h => nomatch h)⟩
theorem e_lw_0_35 : e_lw 0 35 3 10 0 := ⟨RX4, TX4, 11, tyX4, rfl, by decide, e_in4, tyX4_ok, nmX4, e_tbl_at 118 (by decide +kernel) (by decide +kernel), rfl, (fun _ => ⟨rfl, rfl⟩), (fun h => nomatch h)⟩
theorem e_lw_2_42 : e_lw 2 42 2 0 2 := ⟨RX2, TX2, 10, tyX2, rfl, by decide, e_in2, tyX2_ok, nmX2, e_tbl_at 150 (by decide +kernel) (by decide +kernel), rfl, (fun h => nomatch h), (fun h => nomatch h)⟩
theorem e_lw_2_11 : e_lw 2 11 2 1 2 := ⟨RX2, TX2, 10, tyX2, rfl, by decide, e_in2, tyX2_ok, nmX2, e_tbl_at 151 (by decide +kernel) (by decide +kernel), rfl, (fun h => nomatch h), (fun h => nomatch h)⟩
theorem e_lw_7_100 : e_lw 7 100 2 1 2 := ⟨RX2, TX2, 10, tyX2, rfl, by decide, e_in2, tyX2_ok, nmX2, e_tbl_at 152 (by decide +kernel) (by decide +kernel), rfl, (fun h => nomatch h), (fun h => nomatch h)⟩
theorem e_lw_2_16 : e_lw 2 16 2 2 0 := ⟨RX2, TX2, 10, tyX2, rfl, by decide, e_in2, tyX2_ok, nmX2, e_tbl_at 153 (by decide +kernel) (by decide +kernel), rfl, (fun _ => ⟨rfl, rfl⟩), (fun h => nomatch h)⟩
theorem e_lw_7_84 : e_lw 7 84 2 2 0 := ⟨RX2, TX2, 10, tyX2, rfl, by decide, e_in2, tyX2_ok, nmX2, e_tbl_at 154 (by decide +kernel) (by decide +kernel), rfl, (fun _ => ⟨rfl, rfl⟩), (fun h => nomatch h)⟩
theorem e_lw_2_20 : e_lw 2 20 2 3 0 := ⟨RX2, TX2, 10, tyX2, rfl, by decide, e_in2, tyX2_ok, nmX2, e_tbl_at 155 (by decide +kernel) (by decide +kernel), rfl, (fun _ => ⟨rfl, rfl⟩), (fun h => nomatch h)⟩
theorem e_lw_7_120 : e_lw 7 120 2 3 0 := ⟨RX2, TX2, 10, tyX2, rfl, by decide, e_in2, tyX2_ok, nmX2, e_tbl_at 156 (by decide +kernel) (by decide +kernel), rfl, (fun _ => ⟨rfl, rfl⟩), (fun h => nomatch h)⟩
theorem e_lw_2_23 : e_lw 2 23 2 4 0 := ⟨RX2, TX2, 10, tyX2, rfl, by decide, e_in2, tyX2_ok, nmX2, e_tbl_at 157 (by decide +kernel) (by decide +kernel), rfl, (fun _ => ⟨rfl, rfl⟩), (fun h => nomatch h)⟩
theorem e_lw_7_123 : e_lw 7 123 2 4 0 := ⟨RX2, TX2, 10, tyX2, rfl, by decide, e_in2, tyX2_ok, nmX2, e_tbl_at 158 (by decide +kernel) (by decide +kernel), rfl, (fun _ => ⟨rfl, rfl⟩), (fun h => nomatch h)⟩
theorem e_lw_2_26 : e_lw 2 26 2 5 0 := ⟨RX2, TX2, 10, tyX2, rfl, by decide, e_in2, tyX2_ok, nmX2, e_tbl_at 159 (by decide +kernel) (by decide +kernel), rfl, (fun _ => ⟨rfl, rfl⟩), (fun h => nomatch h)⟩
theorem e_lw_7_138 : e_lw 7 138 2 5 0 := ⟨RX2, TX2, 10, tyX2, rfl, by decide, e_in2, tyX2_ok, nmX2, e_tbl_at 160 (by decide +kernel) (by decide +kernel), rfl, (fun _ => ⟨rfl, rfl⟩), (fun h => nomatch h)⟩
theorem e_lw_2_29 : e_lw 2 29 2 6 0 := ⟨RX2, TX2, 10, tyX2, rfl, by decide, e_in2, tyX2_ok, nmX2, e_tbl_at 161 (by decide +kernel) (by decide +kernel), rfl, (fun _ => ⟨rfl, rfl⟩), (fun h => nomatch h)⟩
theorem e_lw_7_135 : e_lw 7 135 2 6 0 := ⟨RX2, TX2, 10, tyX2, rfl, by decide, e_in2, tyX2_ok, nmX2, e_tbl_at 162 (by decide +kernel) (by decide +kernel), rfl, (fun _ => ⟨rfl, rfl⟩), (fun h => nomatch h)⟩
theorem e_lw_2_32 : e_lw 2 32 2 7 0 := ⟨RX2, TX2, 10, tyX2, rfl, by decide, e_in2, tyX2_ok, nmX2, e_tbl_at 163 (by decide +kernel) (by decide +kernel), rfl, (fun _ => ⟨rfl, rfl⟩), (fun h => nomatch h)⟩
theorem e_lw_7_208 : e_lw 7 208 2 7 0 := ⟨RX2, TX2, 10, tyX2, rfl, by decide, e_in2, tyX2_ok, nmX2, e_tbl_at 164 (by decide +kernel) (by decide +kernel), rfl, (fun _ => ⟨rfl, rfl⟩), (fun h => nomatch h)⟩
theorem e_lw_2_35 : e_lw 2 35 2 8 2 := ⟨RX2, TX2, 10, tyX2, rfl, by decide, e_in2, tyX2_ok, nmX2, e_tbl_at 165 (by decide +kernel) (by decide +kernel), rfl, (fun h => nomatch h), (fun h => nomatch h)⟩
theorem e_lw_7_194 : e_lw 7 194 2 8 2 := ⟨RX2, TX2, 10, tyX2, rfl, by decide, e_in2, tyX2_ok, nmX2, e_tbl_at 166 (by decide +kernel) (by decide +kernel), rfl, (fun h => nomatch h), (fun h => nomatch h)⟩
theorem e_lw_2_39 : e_lw 2 39 2 9 2 := ⟨RX2, TX2, 10, tyX2, rfl, by decide, e_in2, tyX2_ok, nmX2, e_tbl_at 167 (by decide +kernel) (by decide +kernel), rfl, (fun h => nomatch h), (fun h => nomatch h)⟩
theorem e_lw_1_7 : e_lw 1 7 1 0 1 := ⟨RX1, TX1, 3, tyX1, rfl, by decide, e_in1, tyX1_ok, nmX1, e_tbl_at 195 (by decide +kernel) (by decide +kernel), rfl, (fun h => nomatch h), (fun _ => ⟨rfl, rfl⟩)⟩
theorem e_lw_1_13 : e_lw 1 13 1 1 0 := ⟨RX1, TX1, 3, tyX1, rfl, by decide, e_in1, tyX1_ok, nmX1, e_tbl_at 196 (by decide +kernel) (by decide +kernel), rfl, (fun _ => ⟨rfl, rfl⟩), (fun h => nomatch h)⟩
theorem e_lw_7_163 : e_lw 7 163 1 1 0 := ⟨RX1, TX1, 3, tyX1, rfl, by decide, e_in1, tyX1_ok, nmX1, e_tbl_at 197 (by decide +kernel) (by decide +kernel), rfl, (fun _ => ⟨rfl, rfl⟩), (fun h => nomatch h)⟩
theorem e_lw_1_17 : e_lw 1 17 1 2 0 := ⟨RX1, TX1, 3, tyX1, rfl, by decide, e_in1, tyX1_ok, nmX1, e_tbl_at 198 (by decide +kernel) (by decide +kernel), rfl, (fun _ => ⟨rfl, rfl⟩), (fun h => nomatch h)⟩
theorem e_lw_7_166 : e_lw 7 166 1 2 0 := ⟨RX1, TX1, 3, tyX1, rfl, by decide, e_in1, tyX1_ok, nmX1, e_tbl_at 199 (by decide +kernel) (by decide +kernel), rfl, (fun _ => ⟨rfl, rfl⟩), (fun h => nomatch h)⟩
theorem e_lw_5_9 : e_lw 5 9 4 0 0 := ⟨RX5, TX5, 3, tyX5, rfl, by decide, e_in5, tyX5_ok, nmX5, e_tbl_at 216 (by decide +kernel) (by decide +kernel), rfl, (fun _ => ⟨rfl, rfl⟩), (fun h => nomatch h)⟩
theorem e_lw_7_186 : e_lw 7 186 4 0 0 := ⟨RX5, TX5, 3, tyX5, rfl, by decide, e_in5, tyX5_ok, nmX5, e_tbl_at 217 (by decide +kernel) (by decide +kernel), rfl, (fun _ => ⟨rfl, rfl⟩), (fun h => nomatch h)⟩
theorem e_lw_5_15 : e_lw 5 15 4 1 0 := ⟨RX5, TX5, 3, tyX5, rfl, by decide, e_in5, tyX5_ok, nmX5, e_tbl_at 218 (by decide +kernel) (by decide +kernel), rfl, (fun _ => ⟨rfl, rfl⟩), (fun h => nomatch h)⟩
theorem e_lw_7_246 : e_lw 7 246 4 1 0 := ⟨RX5, TX5, 3, tyX5, rfl, by decide, e_in5, tyX5_ok, nmX5, e_tbl_at 219 (by decide +kernel) (by decide +kernel), rfl, (fun _ => ⟨rfl, rfl⟩), (fun h => nomatch h)⟩
theorem e_lw_5_18 : e_lw 5 18 4 2 2 := ⟨RX5, TX5, 3, tyX5, rfl, by decide, e_in5, tyX5_ok, nmX5, e_tbl_at 220 (by decide +kernel) (by decide +kernel), rfl, (fun h => nomatch h), (fun h => nomatch h)⟩
theorem e_lw_7_235 : e_lw 7 235 4 2 2 := ⟨RX5, TX5, 3, tyX5, rfl, by decide, e_in5, tyX5_ok, nmX5, e_tbl_at 221 (by decide +kernel) (by decide +kernel), rfl, (fun h => nomatch h), (fun h => nomatch h)⟩
theorem e_lw_6_9 : e_lw 6 9 5 0 0 := ⟨RX6, TX6, 5, tyX6, rfl, by decide, e_in6, tyX6_ok, nmX6, e_tbl_at 236 (by decide +kernel) (by decide +kernel), rfl, (fun _ => ⟨rfl, rfl⟩), (fun h => nomatch h)⟩
theorem e_lw_7_261 : e_lw 7 261 5 0 0 := ⟨RX6, TX6, 5, tyX6, rfl, by decide, e_in6, tyX6_ok, nmX6, e_tbl_at 237 (by decide +kernel) (by decide +kernel), rfl, (fun _ => ⟨rfl, rfl⟩), (fun h => nomatch h)⟩
theorem e_lw_6_15 : e_lw 6 15 5 1 0 := ⟨RX6, TX6, 5, tyX6, rfl, by decide, e_in6, tyX6_ok, nmX6, e_tbl_at 238 (by decide +kernel) (by decide +kernel), rfl, (fun _ => ⟨rfl, rfl⟩), (fun h => nomatch h)⟩
theorem e_lw_7_264 : e_lw 7 264 5 1 0 := ⟨RX6, TX6, 5, tyX6, rfl, by decide, e_in6, tyX6_ok, nmX6, e_tbl_at 239 (by decide +kernel) (by decide +kernel), rfl, (fun _ => ⟨rfl, rfl⟩), (fun h => nomatch h)⟩
theorem e_lw_6_18 : e_lw 6 18 5 2 0 := ⟨RX6, TX6, 5, tyX6, rfl, by decide, e_in6, tyX6_ok, nmX6, e_tbl_at 240 (by decide +kernel) (by decide +kernel), rfl, (fun _ => ⟨rfl, rfl⟩), (fun h => nomatch h)⟩
theorem e_lw_7_267 : e_lw 7 267 5 2 0 := ⟨RX6, TX6, 5, tyX6, rfl, by decide, e_in6, tyX6_ok, nmX6, e_tbl_at 241 (by decide +kernel) (by decide +kernel), rfl, (fun _ => ⟨rfl, rfl⟩), (fun h => nomatch h)⟩
theorem e_lw_6_21 : e_lw 6 21 5 3 0 := ⟨RX6, TX6, 5, tyX6, rfl, by decide, e_in6, tyX6_ok, nmX6, e_tbl_at 242 (by decide +kernel) (by decide +kernel), rfl, (fun _ => ⟨rfl, rfl⟩), (fun h => nomatch h)⟩
theorem e_lw_7_277 : e_lw 7 277 5 3 0 := ⟨RX6, TX6, 5, tyX6, rfl, by decide, e_in6, tyX6_ok, nmX6, e_tbl_at 243 (by decide +kernel) (by decide +kernel), rfl, (fun _ => ⟨rfl, rfl⟩), (fun h => nomatch h)⟩
theorem e_lw_6_27 : e_lw 6 27 5 4 2 := ⟨RX6, TX6, 5, tyX6, rfl, by decide, e_in6, tyX6_ok, nmX6, e_tbl_at 244 (by decide +kernel) (by decide +kernel), rfl, (fun h => nomatch h), (fun h => nomatch h)⟩
theorem e_lw_7_270 : e_lw 7 270 5 4 2 := ⟨RX6, TX6, 5, tyX6, rfl, by decide, e_in6, tyX6_ok, nmX6, e_tbl_at 245 (by decide +kernel) (by decide +kernel), rfl, (fun h => nomatch h), (fun h => nomatch h)⟩
theorem e_lw_7_9 : e_lw 7 9 6 0 2 := ⟨RX7, TX7, 13, tyX7, rfl, by decide, e_in7, tyX7_ok, nmX7, e_tbl_at 257 (by decide +kernel) (by decide +kernel), rfl, (fun h => nomatch h), (fun h => nomatch h)⟩
theorem e_lw_7_13 : e_lw 7 13 6 1 0 := ⟨RX7, TX7, 13, tyX7, rfl, by decide, e_in7, tyX7_ok, nmX7, e_tbl_at 258 (by decide +kernel) (by decide +kernel), rfl, (fun _ => ⟨rfl, rfl⟩), (fun h => nomatch h)⟩
theorem e_lw_7_20 : e_lw 7 20 6 2 2 := ⟨RX7, TX7, 13, tyX7, rfl, by decide, e_in7, tyX7_ok, nmX7, e_tbl_at 259 (by decide +kernel) (by decide +kernel), rfl, (fun h => nomatch h), (fun h => nomatch h)⟩
theorem e_lw_7_29 : e_lw 7 29 6 3 2 := ⟨RX7, TX7, 13, tyX7, rfl, by decide, e_in7, tyX7_ok, nmX7, e_tbl_at 260 (by decide +kernel) (by decide +kernel), rfl, (fun h => nomatch h), (fun h => nomatch h)⟩
theorem e_lw_7_38 : e_lw 7 38 6 4 2 := ⟨RX7, TX7, 13, tyX7, rfl, by decide, e_in7, tyX7_ok, nmX7, e_tbl_at 261 (by decide +kernel) (by decide +kernel), rfl, (fun h => nomatch h), (fun h => nomatch h)⟩
theorem e_lw_7_42 : e_lw 7 42 6 5 2 := ⟨RX7, TX7, 13, tyX7, rfl, by decide, e_in7, tyX7_ok, nmX7, e_tbl_at 262 (by decide +kernel) (by decide +kernel), rfl, (fun h => nomatch h), (fun h => nomatch h)⟩
theorem e_lw_7_45 : e_lw 7 45 6 6 2 := ⟨RX7, TX7, 13, tyX7, rfl, by decide, e_in7, tyX7_ok, nmX7, e_tbl_at 263 (by decide +kernel) (by decide +kernel), rfl, (fun h => nomatch h), (fun h => nomatch h)⟩
theorem e_lw_7_48 : e_lw 7 48 6 7 1 := ⟨RX7, TX7, 13, tyX7, rfl, by decide, e_in7, tyX7_ok, nmX7, e_tbl_at 264 (by decide +kernel) (by decide +kernel), rfl, (fun h => nomatch h), (fun _ => ⟨rfl, rfl⟩)⟩
theorem e_lw_7_55 : e_lw 7 55 6 8 2 := ⟨RX7, TX7, 13, tyX7, rfl, by decide, e_in7, tyX7_ok, nmX7, e_tbl_at 265 (by decide +kernel) (by decide +kernel), rfl, (fun h => nomatch h), (fun h => nomatch h)⟩
theorem e_lw_7_59 : e_lw 7 59 6 9 2 := ⟨RX7, TX7, 13, tyX7, rfl, by decide, e_in7, tyX7_ok, nmX7, e_tbl_at 266 (by decide +kernel) (by decide +kernel), rfl, (fun h => nomatch h), (fun h => nomatch h)⟩
theorem e_lw_7_62 : e_lw 7 62 6 10 0 := ⟨RX7, TX7, 13, tyX7, rfl, by decide, e_in7, tyX7_ok, nmX7, e_tbl_at 267 (by decide +kernel) (by decide +kernel), rfl, (fun _ => ⟨rfl, rfl⟩), (fun h => nomatch h)⟩
theorem e_lw_7_67 : e_lw 7 67 6 11 2 := ⟨RX7, TX7, 13, tyX7, rfl, by decide, e_in7, tyX7_ok, nmX7, e_tbl_at 268 (by decide +kernel) (by decide +kernel), rfl, (fun h => nomatch h), (fun h => nomatch h)⟩
theorem e_lw_7_73 : e_lw 7 73 6 12 2 := ⟨RX7, TX7, 13, tyX7, rfl, by decide, e_in7, tyX7_ok, nmX7, e_tbl_at 269 (by decide +kernel) (by decide +kernel), rfl, (fun h => nomatch h), (fun h => nomatch h)⟩
theorem e_lw_8_9 : e_lw 8 9 7 0 2 := ⟨RX8, TX8, 34, tyX8, rfl, by decide, e_in8, tyX8_ok, nmX8, e_tbl_at 829 (by decide +kernel) (by decide +kernel), rfl, (fun h => nomatch h), (fun h => nomatch h)⟩
theorem e_lw_8_13 : e_lw 8 13 7 1 2 := ⟨RX8, TX8, 34, tyX8, rfl, by decide, e_in8, tyX8_ok, nmX8, e_tbl_at 830 (by decide +kernel) (by decide +kernel), rfl, (fun h => nomatch h), (fun h => nomatch h)⟩
theorem e_lw_8_16 : e_lw 8 16 7 2 2 := ⟨RX8, TX8, 34, tyX8, rfl, by decide, e_in8, tyX8_ok, nmX8, e_tbl_at 831 (by decide +kernel) (by decide +kernel), rfl, (fun h => nomatch h), (fun h => nomatch h)⟩
theorem e_lw_8_266 : e_lw 8 266 7 3 1 := ⟨RX8, TX8, 34, tyX8, rfl, by decide, e_in8, tyX8_ok, nmX8, e_tbl_at 832 (by decide +kernel) (by decide +kernel), rfl, (fun h => nomatch h), (fun _ => ⟨rfl, rfl⟩)⟩
theorem e_lw_8_19 : e_lw 8 19 7 4 2 := ⟨RX8, TX8, 34, tyX8, rfl, by decide, e_in8, tyX8_ok, nmX8, e_tbl_at 833 (by decide +kernel) (by decide +kernel), rfl, (fun h => nomatch h), (fun h => nomatch h)⟩
theorem e_lw_8_23 : e_lw 8 23 7 5 2 := ⟨RX8, TX8, 34, tyX8, rfl, by decide, e_in8, tyX8_ok, nmX8, e_tbl_at 834 (by decide +kernel) (by decide +kernel), rfl, (fun h => nomatch h), (fun h => nomatch h)⟩
theorem e_lw_8_26 : e_lw 8 26 7 6 2 := ⟨RX8, TX8, 34, tyX8, rfl, by decide, e_in8, tyX8_ok, nmX8, e_tbl_at 835 (by decide +kernel) (by decide +kernel), rfl, (fun h => nomatch h), (fun h => nomatch h)⟩
theorem e_lw_8_186 : e_lw 8 186 7 7 0 := ⟨RX8, TX8, 34, tyX8, rfl, by decide, e_in8, tyX8_ok, nmX8, e_tbl_at 836 (by decide +kernel) (by decide +kernel), rfl, (fun _ => ⟨rfl, rfl⟩), (fun h => nomatch h)⟩
theorem e_lw_8_190 : e_lw 8 190 7 8 0 := ⟨RX8, TX8, 34, tyX8, rfl, by decide, e_in8, tyX8_ok, nmX8, e_tbl_at 837 (by decide +kernel) (by decide +kernel), rfl, (fun _ => ⟨rfl, rfl⟩), (fun h => nomatch h)⟩
theorem e_lw_8_193 : e_lw 8 193 7 9 0 := ⟨RX8, TX8, 34, tyX8, rfl, by decide, e_in8, tyX8_ok, nmX8, e_tbl_at 838 (by decide +kernel) (by decide +kernel), rfl, (fun _ => ⟨rfl, rfl⟩), (fun h => nomatch h)⟩
theorem e_lw_8_199 : e_lw 8 199 7 10 0 := ⟨RX8, TX8, 34, tyX8, rfl, by decide, e_in8, tyX8_ok, nmX8, e_tbl_at 839 (by decide +kernel) (by decide +kernel), rfl, (fun _ => ⟨rfl, rfl⟩), (fun h => nomatch h)⟩
theorem e_lw_8_205 : e_lw 8 205 7 11 0 := ⟨RX8, TX8, 34, tyX8, rfl, by decide, e_in8, tyX8_ok, nmX8, e_tbl_at 840 (by decide +kernel) (by decide +kernel), rfl, (fun _ => ⟨rfl, rfl⟩), (fun h => nomatch h)⟩
theorem e_lw_8_196 : e_lw 8 196 7 12 0 := ⟨RX8, TX8, 34, tyX8, rfl, by decide, e_in8, tyX8_ok, nmX8, e_tbl_at 841 (by decide +kernel) (by decide +kernel), rfl, (fun _ => ⟨rfl, rfl⟩), (fun h => nomatch h)⟩
theorem e_lw_8_211 : e_lw 8 211 7 13 0 := ⟨RX8, TX8, 34, tyX8, rfl, by decide, e_in8, tyX8_ok, nmX8, e_tbl_at 842 (by decide +kernel) (by decide +kernel), rfl, (fun _ => ⟨rfl, rfl⟩), (fun h => nomatch h)⟩
theorem e_lw_8_29 : e_lw 8 29 7 14 2 := ⟨RX8, TX8, 34, tyX8, rfl, by decide, e_in8, tyX8_ok, nmX8, e_tbl_at 843 (by decide +kernel) (by decide +kernel), rfl, (fun h => nomatch h), (fun h => nomatch h)⟩
theorem e_lw_8_33 : e_lw 8 33 7 15 2 := ⟨RX8, TX8, 34, tyX8, rfl, by decide, e_in8, tyX8_ok, nmX8, e_tbl_at 844 (by decide +kernel) (by decide +kernel), rfl, (fun h => nomatch h), (fun h => nomatch h)⟩
theorem e_lw_8_36 : e_lw 8 36 7 16 2 := ⟨RX8, TX8, 34, tyX8, rfl, by decide, e_in8, tyX8_ok, nmX8, e_tbl_at 845 (by decide +kernel) (by decide +kernel), rfl, (fun h => nomatch h), (fun h => nomatch h)⟩
theorem e_lw_8_223 : e_lw 8 223 7 17 0 := ⟨RX8, TX8, 34, tyX8, rfl, by decide, e_in8, tyX8_ok, nmX8, e_tbl_at 846 (by decide +kernel) (by decide +kernel), rfl, (fun _ => ⟨rfl, rfl⟩), (fun h => nomatch h)⟩
theorem e_lw_8_229 : e_lw 8 229 7 18 0 := ⟨RX8, TX8, 34, tyX8, rfl, by decide, e_in8, tyX8_ok, nmX8, e_tbl_at 847 (by decide +kernel) (by decide +kernel), rfl, (fun _ => ⟨rfl, rfl⟩), (fun h => nomatch h)⟩
theorem e_lw_8_39 : e_lw 8 39 7 19 2 := ⟨RX8, TX8, 34, tyX8, rfl, by decide, e_in8, tyX8_ok, nmX8, e_tbl_at 848 (by decide +kernel) (by decide +kernel), rfl, (fun h => nomatch h), (fun h => nomatch h)⟩
theorem e_lw_8_217 : e_lw 8 217 7 20 0 := ⟨RX8, TX8, 34, tyX8, rfl, by decide, e_in8, tyX8_ok, nmX8, e_tbl_at 849 (by decide +kernel) (by decide +kernel), rfl, (fun _ => ⟨rfl, rfl⟩), (fun h => nomatch h)⟩
theorem e_lw_8_42 : e_lw 8 42 7 21 2 := ⟨RX8, TX8, 34, tyX8, rfl, by decide, e_in8, tyX8_ok, nmX8, e_tbl_at 850 (by decide +kernel) (by decide +kernel), rfl, (fun h => nomatch h), (fun h => nomatch h)⟩
theorem e_lw_8_45 : e_lw 8 45 7 22 2 := ⟨RX8, TX8, 34, tyX8, rfl, by decide, e_in8, tyX8_ok, nmX8, e_tbl_at 851 (by decide +kernel) (by decide +kernel), rfl, (fun h => nomatch h), (fun h => nomatch h)⟩
theorem e_lw_8_48 : e_lw 8 48 7 23 2 := ⟨RX8, TX8, 34, tyX8, rfl, by decide, e_in8, tyX8_ok, nmX8, e_tbl_at 852 (by decide +kernel) (by decide +kernel), rfl, (fun h => nomatch h), (fun h => nomatch h)⟩
theorem e_lw_8_51 : e_lw 8 51 7 24 2 := ⟨RX8, TX8, 34, tyX8, rfl, by decide, e_in8, tyX8_ok, nmX8, e_tbl_at 853 (by decide +kernel) (by decide +kernel), rfl, (fun h => nomatch h), (fun h => nomatch h)⟩
theorem e_lw_8_54 : e_lw 8 54 7 25 2 := ⟨RX8, TX8, 34, tyX8, rfl, by decide, e_in8, tyX8_ok, nmX8, e_tbl_at 854 (by decide +kernel) (by decide +kernel), rfl, (fun h => nomatch h), (fun h => nomatch h)⟩
theorem e_lw_8_57 : e_lw 8 57 7 26 2 := ⟨RX8, TX8, 34, tyX8, rfl, by decide, e_in8, tyX8_ok, nmX8, e_tbl_at 855 (by decide +kernel) (by decide +kernel), rfl, (fun h => nomatch h), (fun h => nomatch h)⟩
theorem e_lw_8_60 : e_lw 8 60 7 27 2 := ⟨RX8, TX8, 34, tyX8, rfl, by decide, e_in8, tyX8_ok, nmX8, e_tbl_at 856 (by decide +kernel) (by decide +kernel), rfl, (fun h => nomatch h), (fun h => nomatch h)⟩
theorem e_lw_8_63 : e_lw 8 63 7 28 2 := ⟨RX8, TX8, 34, tyX8, rfl, by decide, e_in8, tyX8_ok, nmX8, e_tbl_at 857 (by decide +kernel) (by decide +kernel), rfl, (fun h => nomatch h), (fun h => nomatch h)⟩
theorem e_lw_8_66 : e_lw 8 66 7 29 2 := ⟨RX8, TX8, 34, tyX8, rfl, by decide, e_in8, tyX8_ok, nmX8, e_tbl_at 858 (by decide +kernel) (by decide +kernel), rfl, (fun h => nomatch h), (fun h => nomatch h)⟩
theorem e_lw_8_69 : e_lw 8 69 7 30 2 := ⟨RX8, TX8, 34, tyX8, rfl, by decide, e_in8, tyX8_ok, nmX8, e_tbl_at 859 (by decide +kernel) (by decide +kernel), rfl, (fun h => nomatch h), (fun h => nomatch h)⟩
theorem e_lw_8_72 : e_lw 8 72 7 31 2 := ⟨RX8, TX8, 34, tyX8, rfl, by decide, e_in8, tyX8_ok, nmX8, e_tbl_at 860 (by decide +kernel) (by decide +kernel), rfl, (fun h => nomatch h), (fun h => nomatch h)⟩
theorem e_lw_8_75 : e_lw 8 75 7 32 2 := ⟨RX8, TX8, 34, tyX8, rfl, by decide, e_in8, tyX8_ok, nmX8, e_tbl_at 861 (by decide +kernel) (by decide +kernel), rfl, (fun h => nomatch h), (fun h => nomatch h)⟩
theorem e_lw_8_263 : e_lw 8 263 7 33 0 := ⟨RX8, TX8, 34, tyX8, rfl, by decide, e_in8, tyX8_ok, nmX8, e_tbl_at 862 (by decide +kernel) (by decide +kernel), rfl, (fun _ => ⟨rfl, rfl⟩), (fun h => nomatch h)⟩
def e_LK : List ((Nat × Nat) × Nat × Nat × Nat) := [((0, 9), 0, 0, 2), ((7, 218), 0, 0, 2), ((0, 15), 0, 1, 2), ((7, 221), 0, 1, 2), ((0, 18), 0, 2, 2), ((0, 23), 0, 3, 2), ((0, 26), 0, 4, 2), ((4, 46), 3, 0, 2), ((4, 9), 3, 1, 0), ((4, 15), 3, 2, 0), ((4, 18), 3, 3, 0), ((4, 21), 3, 4, 0), ((4, 24), 3, 5, 0), ((4, 27), 3, 6, 0), ((0, 29), 3, 6, 0), ((7, 215), 3, 6, 0), ((4, 32), 3, 7, 2), ((4, 36), 3, 8, 2), ((0, 40), 3, 8, 2), ((4, 40), 3, 9, 0), ((0, 37), 3, 9, 0), ((4, 43), 3, 10, 0), ((0, 35), 3, 10, 0), ((2, 42), 2, 0, 2), ((2, 11), 2, 1, 2), ((7, 100), 2, 1, 2), ((2, 16), 2, 2, 0), ((7, 84), 2, 2, 0), ((2, 20), 2, 3, 0), ((7, 120), 2, 3, 0), ((2, 23), 2, 4, 0), ((7, 123), 2, 4, 0), ((2, 26), 2, 5, 0), ((7, 138), 2, 5, 0), ((2, 29), 2, 6, 0), ((7, 135), 2, 6, 0), ((2, 32), 2, 7, 0), ((7, 208), 2, 7, 0), ((2, 35), 2, 8, 2), ((7, 194), 2, 8, 2), ((2, 39), 2, 9, 2), ((1, 7), 1, 0, 1), ((1, 13), 1, 1, 0), ((7, 163), 1, 1, 0), ((1, 17), 1, 2, 0), ((7, 166), 1, 2, 0), ((5, 9), 4, 0, 0), ((7, 186), 4, 0, 0), ((5, 15), 4, 1, 0), ((7, 246), 4, 1, 0), ((5, 18), 4, 2, 2), ((7, 235), 4, 2, 2), ((6, 9), 5, 0, 0), ((7, 261), 5, 0, 0), ((6, 15), 5, 1, 0), ((7, 264), 5, 1, 0), ((6, 18), 5, 2, 0), ((7, 267), 5, 2, 0), ((6, 21), 5, 3, 0), ((7, 277), 5, 3, 0), ((6, 27), 5, 4, 2), ((7, 270), 5, 4, 2), ((7, 9), 6, 0, 2), ((7, 13), 6, 1, 0), ((7, 20), 6, 2, 2), ((7, 29), 6, 3, 2), ((7, 38), 6, 4, 2), ((7, 42), 6, 5, 2), ((7, 45), 6, 6, 2), ((7, 48), 6, 7, 1), ((7, 55), 6, 8, 2), ((7, 59), 6, 9, 2), ((7, 62), 6, 10, 0), ((7, 67), 6, 11, 2), ((7, 73), 6, 12, 2), ((8, 9), 7, 0, 2), ((8, 13), 7, 1, 2), ((8, 16), 7, 2, 2), ((8, 266), 7, 3, 1), ((8, 19), 7, 4, 2), ((8, 23), 7, 5, 2), ((8, 26), 7, 6, 2), ((8, 186), 7, 7, 0), ((8, 190), 7, 8, 0), ((8, 193), 7, 9, 0), ((8, 199), 7, 10, 0), ((8, 205), 7, 11, 0), ((8, 196), 7, 12, 0), ((8, 211), 7, 13, 0), ((8, 29), 7, 14, 2), ((8, 33), 7, 15, 2), ((8, 36), 7, 16, 2), ((8, 223), 7, 17, 0), ((8, 229), 7, 18, 0), ((8, 39), 7, 19, 2), ((8, 217), 7, 20, 0), ((8, 42), 7, 21, 2), ((8, 45), 7, 22, 2), ((8, 48), 7, 23, 2), ((8, 51), 7, 24, 2), ((8, 54), 7, 25, 2), ((8, 57), 7, 26, 2), ((8, 60), 7, 27, 2), ((8, 63), 7, 28, 2), ((8, 66), 7, 29, 2), ((8, 69), 7, 30, 2), ((8, 72), 7, 31, 2), ((8, 75), 7, 32, 2), ((8, 263), 7, 33, 0)]
def e_lk (o idx : Nat) : Option (Nat × Nat × Nat) := e_LK.lookup (o, idx)
theorem e_LK_ok : ∀ q ∈ e_LK, e_lw q.1.1 q.1.2 q.2.1 q.2.2.1 q.2.2.2 := by
  intro q h
  simp only [e_LK, List.mem_cons, List.not_mem_nil, or_false] at h
  rcases h with rfl | rfl | rfl | rfl | rfl | rfl | rfl | rfl | rfl | rfl | rfl | rfl | rfl | rfl | rfl | rfl | rfl | rfl | rfl | rfl | rfl | rfl | rfl | rfl | rfl | rfl | rfl | rfl | rfl | rfl | rfl | rfl | rfl | rfl | rfl | rfl | rfl | rfl | rfl | rfl | rfl | rfl | rfl | rfl | rfl | rfl | rfl | rfl | rfl | rfl | rfl | rfl | rfl | rfl | rfl | rfl | rfl | rfl | rfl | rfl | rfl | rfl | rfl | rfl | rfl | rfl | rfl | rfl | rfl | rfl | rfl | rfl | rfl | rfl | rfl | rfl | rfl | rfl | rfl | rfl | rfl | rfl | rfl | rfl | rfl | rfl | rfl | rfl | rfl | rfl | rfl | rfl | rfl | rfl | rfl | rfl | rfl | rfl | rfl | rfl | rfl | rfl | rfl | rfl | rfl | rfl | rfl | rfl | rfl
  · exact e_lw_0_9
  · exact e_lw_7_218
  · exact e_lw_0_15
  · exact e_lw_7_221
  · exact e_lw_0_18
  · exact e_lw_0_23
  · exact e_lw_0_26
  · exact e_lw_4_46
  · exact e_lw_4_9
  · exact e_lw_4_15
  · exact e_lw_4_18
  · exact e_lw_4_21
  · exact e_lw_4_24
  · exact e_lw_4_27
  · exact e_lw_0_29
  · exact e_lw_7_215
  · exact e_lw_4_32
  · exact e_lw_4_36
  · exact e_lw_0_40
  · exact e_lw_4_40
  · exact e_lw_0_37
  · exact e_lw_4_43
  · exact e_lw_0_35
  · exact e_lw_2_42
  · exact e_lw_2_11
  · exact e_lw_7_100
  · exact e_lw_2_16
  · exact e_lw_7_84
  · exact e_lw_2_20
  · exact e_lw_7_120
  · exact e_lw_2_23
  · exact e_lw_7_123
  · exact e_lw_2_26
  · exact e_lw_7_138
  · exact e_lw_2_29
  · exact e_lw_7_135
  · exact e_lw_2_32
  · exact e_lw_7_208
  · exact e_lw_2_35
  · exact e_lw_7_194
  · exact e_lw_2_39
  · exact e_lw_1_7
  · exact e_lw_1_13
  · exact e_lw_7_163
  · exact e_lw_1_17
  · exact e_lw_7_166
  · exact e_lw_5_9
  · exact e_lw_7_186
  · exact e_lw_5_15
  · exact e_lw_7_246
  · exact e_lw_5_18
  · exact e_lw_7_235
  · exact e_lw_6_9
  · exact e_lw_7_261
  · exact e_lw_6_15
  · exact e_lw_7_264
  · exact e_lw_6_18
  · exact e_lw_7_267
  · exact e_lw_6_21
  · exact e_lw_7_277
  · exact e_lw_6_27
  · exact e_lw_7_270
  · exact e_lw_7_9
  · exact e_lw_7_13
  · exact e_lw_7_20
  · exact e_lw_7_29
  · exact e_lw_7_38
  · exact e_lw_7_42
  · exact e_lw_7_45
  · exact e_lw_7_48
  · exact e_lw_7_55
  · exact e_lw_7_59
  · exact e_lw_7_62
  · exact e_lw_7_67
  · exact e_lw_7_73
  · exact e_lw_8_9
  · exact e_lw_8_13
  · exact e_lw_8_16
  · exact e_lw_8_266
  · exact e_lw_8_19
  · exact e_lw_8_23
  · exact e_lw_8_26
  · exact e_lw_8_186
  · exact e_lw_8_190
  · exact e_lw_8_193
  · exact e_lw_8_199
  · exact e_lw_8_205
  · exact e_lw_8_196
  · exact e_lw_8_211
  · exact e_lw_8_29
  · exact e_lw_8_33
  · exact e_lw_8_36
  · exact e_lw_8_223
  · exact e_lw_8_229
  · exact e_lw_8_39
  · exact e_lw_8_217
  · exact e_lw_8_42
  · exact e_lw_8_45
  · exact e_lw_8_48
  · exact e_lw_8_51
  · exact e_lw_8_54
  · exact e_lw_8_57
  · exact e_lw_8_60
  · exact e_lw_8_63
  · exact e_lw_8_66
  · exact e_lw_8_69
  · exact e_lw_8_72
  · exact e_lw_8_75
  · exact e_lw_8_263
theorem e_lookup {α β : Type} [BEq α] [LawfulBEq α] {k : α} {v : β} : ∀ {l : List (α × β)}, l.lookup k = some v → (k, v) ∈ l := by
  intro l
  induction l with
  | nil => intro h; simp at h
  | cons x r ih =>
    intro h
    obtain ⟨a, b⟩ := x
    rw [List.lookup_cons] at h
    by_cases e : k == a
    · simp [e] at h
      have := eq_of_beq e
      subst this; subst h
      simp
    · simp [e] at h
      exact List.mem_cons_of_mem _ (ih h)
theorem e_lk_ok {o idx ci j b : Nat} (h : e_lk o idx = some (ci, j, b)) : e_lw o idx ci j b := e_LK_ok _ (e_lookup h)
theorem e_lk_0_9 : e_lk 0 9 = some (0, 0, 2) := by decide +kernel
theorem e_lk_7_218 : e_lk 7 218 = some (0, 0, 2) := by decide +kernel
theorem e_lk_0_15 : e_lk 0 15 = some (0, 1, 2) := by decide +kernel
theorem e_lk_7_221 : e_lk 7 221 = some (0, 1, 2) := by decide +kernel
theorem e_lk_0_18 : e_lk 0 18 = some (0, 2, 2) := by decide +kernel
theorem e_lk_0_23 : e_lk 0 23 = some (0, 3, 2) := by decide +kernel
theorem e_lk_0_26 : e_lk 0 26 = some (0, 4, 2) := by decide +kernel
theorem e_lk_4_46 : e_lk 4 46 = some (3, 0, 2) := by decide +kernel
theorem e_lk_4_9 : e_lk 4 9 = some (3, 1, 0) := by decide +kernel
theorem e_lk_4_15 : e_lk 4 15 = some (3, 2, 0) := by decide +kernel
theorem e_lk_4_18 : e_lk 4 18 = some (3, 3, 0) := by decide +kernel
theorem e_lk_4_21 : e_lk 4 21 = some (3, 4, 0) := by decide +kernel
theorem e_lk_4_24 : e_lk 4 24 = some (3, 5, 0) := by decide +kernel
theorem e_lk_4_27 : e_lk 4 27 = some (3, 6, 0) := by decide +kernel
theorem e_lk_0_29 : e_lk 0 29 = some (3, 6, 0) := by decide +kernel
theorem e_lk_7_215 : e_lk 7 215 = some (3, 6, 0) := by decide +kernel
theorem e_lk_4_32 : e_lk 4 32 = some (3, 7, 2) := by decide +kernel
theorem e_lk_4_36 : e_lk 4 36 = some (3, 8, 2) := by decide +kernel
theorem e_lk_0_40 : e_lk 0 40 = some (3, 8, 2) := by decide +kernel
theorem e_lk_4_40 : e_lk 4 40 = some (3, 9, 0) := by decide +kernel
theorem e_lk_0_37 : e_lk 0 37 = some (3, 9, 0) := by decide +kernel
theorem e_lk_4_43 : e_lk 4 43 = some (3, 10, 0) := by decide +kernel
theorem e_lk_0_35 : e_lk 0 35 = some (3, 10, 0) := by decide +kernel
theorem e_lk_2_42 : e_lk 2 42 = some (2, 0, 2) := by decide +kernel
theorem e_lk_2_11 : e_lk 2 11 = some (2, 1, 2) := by decide +kernel
theorem e_lk_7_100 : e_lk 7 100 = some (2, 1, 2) := by decide +kernel
theorem e_lk_2_16 : e_lk 2 16 = some (2, 2, 0) := by decide +kernel
theorem e_lk_7_84 : e_lk 7 84 = some (2, 2, 0) := by decide +kernel
theorem e_lk_2_20 : e_lk 2 20 = some (2, 3, 0) := by decide +kernel
theorem e_lk_7_120 : e_lk 7 120 = some (2, 3, 0) := by decide +kernel
theorem e_lk_2_23 : e_lk 2 23 = some (2, 4, 0) := by decide +kernel
theorem e_lk_7_123 : e_lk 7 123 = some (2, 4, 0) := by decide +kernel
theorem e_lk_2_26 : e_lk 2 26 = some (2, 5, 0) := by decide +kernel
theorem e_lk_7_138 : e_lk 7 138 = some (2, 5, 0) := by decide +kernel
theorem e_lk_2_29 : e_lk 2 29 = some (2, 6, 0) := by decide +kernel
theorem e_lk_7_135 : e_lk 7 135 = some (2, 6, 0) := by decide +kernel
theorem e_lk_2_32 : e_lk 2 32 = some (2, 7, 0) := by decide +kernel
theorem e_lk_7_208 : e_lk 7 208 = some (2, 7, 0) := by decide +kernel
theorem e_lk_2_35 : e_lk 2 35 = some (2, 8, 2) := by decide +kernel
theorem e_lk_7_194 : e_lk 7 194 = some (2, 8, 2) := by decide +kernel
theorem e_lk_2_39 : e_lk 2 39 = some (2, 9, 2) := by decide +kernel
theorem e_lk_1_7 : e_lk 1 7 = some (1, 0, 1) := by decide +kernel
theorem e_lk_1_13 : e_lk 1 13 = some (1, 1, 0) := by decide +kernel
theorem e_lk_7_163 : e_lk 7 163 = some (1, 1, 0) := by decide +kernel
theorem e_lk_1_17 : e_lk 1 17 = some (1, 2, 0) := by decide +kernel
theorem e_lk_7_166 : e_lk 7 166 = some (1, 2, 0) := by decide +kernel
theorem e_lk_5_9 : e_lk 5 9 = some (4, 0, 0) := by decide +kernel
theorem e_lk_7_186 : e_lk 7 186 = some (4, 0, 0) := by decide +kernel
theorem e_lk_5_15 : e_lk 5 15 = some (4, 1, 0) := by decide +kernel
theorem e_lk_7_246 : e_lk 7 246 = some (4, 1, 0) := by decide +kernel
theorem e_lk_5_18 : e_lk 5 18 = some (4, 2, 2) := by decide +kernel
theorem e_lk_7_235 : e_lk 7 235 = some (4, 2, 2) := by decide +kernel
theorem e_lk_6_9 : e_lk 6 9 = some (5, 0, 0) := by decide +kernel
theorem e_lk_7_261 : e_lk 7 261 = some (5, 0, 0) := by decide +kernel
theorem e_lk_6_15 : e_lk 6 15 = some (5, 1, 0) := by decide +kernel
theorem e_lk_7_264 : e_lk 7 264 = some (5, 1, 0) := by decide +kernel
theorem e_lk_6_18 : e_lk 6 18 = some (5, 2, 0) := by decide +kernel
theorem e_lk_7_267 : e_lk 7 267 = some (5, 2, 0) := by decide +kernel
theorem e_lk_6_21 : e_lk 6 21 = some (5, 3, 0) := by decide +kernel
theorem e_lk_7_277 : e_lk 7 277 = some (5, 3, 0) := by decide +kernel
theorem e_lk_6_27 : e_lk 6 27 = some (5, 4, 2) := by decide +kernel
theorem e_lk_7_270 : e_lk 7 270 = some (5, 4, 2) := by decide +kernel
theorem e_lk_7_9 : e_lk 7 9 = some (6, 0, 2) := by decide +kernel
theorem e_lk_7_13 : e_lk 7 13 = some (6, 1, 0) := by decide +kernel
theorem e_lk_7_20 : e_lk 7 20 = some (6, 2, 2) := by decide +kernel
theorem e_lk_7_29 : e_lk 7 29 = some (6, 3, 2) := by decide +kernel
theorem e_lk_7_38 : e_lk 7 38 = some (6, 4, 2) := by decide +kernel
theorem e_lk_7_42 : e_lk 7 42 = some (6, 5, 2) := by decide +kernel
theorem e_lk_7_45 : e_lk 7 45 = some (6, 6, 2) := by decide +kernel
theorem e_lk_7_48 : e_lk 7 48 = some (6, 7, 1) := by decide +kernel
theorem e_lk_7_55 : e_lk 7 55 = some (6, 8, 2) := by decide +kernel
theorem e_lk_7_59 : e_lk 7 59 = some (6, 9, 2) := by decide +kernel
theorem e_lk_7_62 : e_lk 7 62 = some (6, 10, 0) := by decide +kernel
theorem e_lk_7_67 : e_lk 7 67 = some (6, 11, 2) := by decide +kernel
theorem e_lk_7_73 : e_lk 7 73 = some (6, 12, 2) := by decide +kernel
theorem e_lk_8_9 : e_lk 8 9 = some (7, 0, 2) := by decide +kernel
theorem e_lk_8_13 : e_lk 8 13 = some (7, 1, 2) := by decide +kernel
theorem e_lk_8_16 : e_lk 8 16 = some (7, 2, 2) := by decide +kernel
theorem e_lk_8_266 : e_lk 8 266 = some (7, 3, 1) := by decide +kernel
theorem e_lk_8_19 : e_lk 8 19 = some (7, 4, 2) := by decide +kernel
theorem e_lk_8_23 : e_lk 8 23 = some (7, 5, 2) := by decide +kernel
theorem e_lk_8_26 : e_lk 8 26 = some (7, 6, 2) := by decide +kernel
theorem e_lk_8_186 : e_lk 8 186 = some (7, 7, 0) := by decide +kernel
theorem e_lk_8_190 : e_lk 8 190 = some (7, 8, 0) := by decide +kernel
theorem e_lk_8_193 : e_lk 8 193 = some (7, 9, 0) := by decide +kernel
theorem e_lk_8_199 : e_lk 8 199 = some (7, 10, 0) := by decide +kernel
theorem e_lk_8_205 : e_lk 8 205 = some (7, 11, 0) := by decide +kernel
theorem e_lk_8_196 : e_lk 8 196 = some (7, 12, 0) := by decide +kernel
theorem e_lk_8_211 : e_lk 8 211 = some (7, 13, 0) := by decide +kernel
theorem e_lk_8_29 : e_lk 8 29 = some (7, 14, 2) := by decide +kernel
theorem e_lk_8_33 : e_lk 8 33 = some (7, 15, 2) := by decide +kernel
theorem e_lk_8_36 : e_lk 8 36 = some (7, 16, 2) := by decide +kernel
theorem e_lk_8_223 : e_lk 8 223 = some (7, 17, 0) := by decide +kernel
theorem e_lk_8_229 : e_lk 8 229 = some (7, 18, 0) := by decide +kernel
theorem e_lk_8_39 : e_lk 8 39 = some (7, 19, 2) := by decide +kernel
theorem e_lk_8_217 : e_lk 8 217 = some (7, 20, 0) := by decide +kernel
theorem e_lk_8_42 : e_lk 8 42 = some (7, 21, 2) := by decide +kernel
theorem e_lk_8_45 : e_lk 8 45 = some (7, 22, 2) := by decide +kernel
theorem e_lk_8_48 : e_lk 8 48 = some (7, 23, 2) := by decide +kernel
theorem e_lk_8_51 : e_lk 8 51 = some (7, 24, 2) := by decide +kernel
theorem e_lk_8_54 : e_lk 8 54 = some (7, 25, 2) := by decide +kernel
theorem e_lk_8_57 : e_lk 8 57 = some (7, 26, 2) := by decide +kernel
theorem e_lk_8_60 : e_lk 8 60 = some (7, 27, 2) := by decide +kernel
theorem e_lk_8_63 : e_lk 8 63 = some (7, 28, 2) := by decide +kernel
theorem e_lk_8_66 : e_lk 8 66 = some (7, 29, 2) := by decide +kernel
theorem e_lk_8_69 : e_lk 8 69 = some (7, 30, 2) := by decide +kernel
theorem e_lk_8_72 : e_lk 8 72 = some (7, 31, 2) := by decide +kernel
theorem e_lk_8_75 : e_lk 8 75 = some (7, 32, 2) := by decide +kernel
theorem e_lk_8_263 : e_lk 8 263 = some (7, 33, 0) := by decide +kernel
def e_KC : List ((Nat × Nat) × Int32) := [((7, 83), -1000000001), ((7, 91), -1000000003), ((7, 116), -1000000012), ((2, 52), 1103515245), ((7, 151), -1000000005), ((7, 189), -1000000011), ((5, 32), -1000000005), ((7, 227), -1000000014), ((7, 234), -1000000013), ((7, 238), -99999), ((7, 239), 99999), ((7, 283), -1000000002), ((8, 90), -1000000001), ((8, 91), -1000000003), ((8, 123), -1000000012), ((8, 127), 1103515245), ((8, 167), -1000000005), ((8, 181), -1000000011), ((8, 255), -1000000014), ((8, 256), -1000000013), ((8, 257), -99999), ((8, 258), 99999), ((8, 262), -1000000002)]
def e_kc (o idx : Nat) : Option Int32 := e_KC.lookup (o, idx)
theorem e_KC_ok : ∀ q ∈ e_KC, Cond.constant (e_ow q.1.1) q.1.2 q.2 ∈ e_tbl := by
  intro q h
  simp only [e_KC, List.mem_cons, List.not_mem_nil, or_false] at h
  rcases h with rfl | rfl | rfl | rfl | rfl | rfl | rfl | rfl | rfl | rfl | rfl | rfl | rfl | rfl | rfl | rfl | rfl | rfl | rfl | rfl | rfl | rfl | rfl
  · exact e_tbl_at 311 (by decide +kernel) (by decide +kernel)
  · exact e_tbl_at 316 (by decide +kernel) (by decide +kernel)
  · exact e_tbl_at 367 (by decide +kernel) (by decide +kernel)
  · exact e_tbl_at 392 (by decide +kernel) (by decide +kernel)
  · exact e_tbl_at 452 (by decide +kernel) (by decide +kernel)
  · exact e_tbl_at 508 (by decide +kernel) (by decide +kernel)
  · exact e_tbl_at 521 (by decide +kernel) (by decide +kernel)
  · exact e_tbl_at 743 (by decide +kernel) (by decide +kernel)
  · exact e_tbl_at 753 (by decide +kernel) (by decide +kernel)
  · exact e_tbl_at 754 (by decide +kernel) (by decide +kernel)
  · exact e_tbl_at 755 (by decide +kernel) (by decide +kernel)
  · exact e_tbl_at 802 (by decide +kernel) (by decide +kernel)
  · exact e_tbl_at 944 (by decide +kernel) (by decide +kernel)
  · exact e_tbl_at 945 (by decide +kernel) (by decide +kernel)
  · exact e_tbl_at 999 (by decide +kernel) (by decide +kernel)
  · exact e_tbl_at 1024 (by decide +kernel) (by decide +kernel)
  · exact e_tbl_at 1085 (by decide +kernel) (by decide +kernel)
  · exact e_tbl_at 1129 (by decide +kernel) (by decide +kernel)
  · exact e_tbl_at 1209 (by decide +kernel) (by decide +kernel)
  · exact e_tbl_at 1214 (by decide +kernel) (by decide +kernel)
  · exact e_tbl_at 1215 (by decide +kernel) (by decide +kernel)
  · exact e_tbl_at 1216 (by decide +kernel) (by decide +kernel)
  · exact e_tbl_at 1248 (by decide +kernel) (by decide +kernel)
theorem e_kc_ok {o idx : Nat} {v : Int32} (h : e_kc o idx = some v) : Cond.constant (e_ow o) idx v ∈ e_tbl := e_KC_ok _ (e_lookup h)
theorem e_kc_7_83 : e_kc 7 83 = some (-1000000001) := by decide +kernel
theorem e_kc_7_91 : e_kc 7 91 = some (-1000000003) := by decide +kernel
theorem e_kc_7_116 : e_kc 7 116 = some (-1000000012) := by decide +kernel
theorem e_kc_2_52 : e_kc 2 52 = some (1103515245) := by decide +kernel
theorem e_kc_7_151 : e_kc 7 151 = some (-1000000005) := by decide +kernel
theorem e_kc_7_189 : e_kc 7 189 = some (-1000000011) := by decide +kernel
theorem e_kc_5_32 : e_kc 5 32 = some (-1000000005) := by decide +kernel
theorem e_kc_7_227 : e_kc 7 227 = some (-1000000014) := by decide +kernel
theorem e_kc_7_234 : e_kc 7 234 = some (-1000000013) := by decide +kernel
theorem e_kc_7_238 : e_kc 7 238 = some (-99999) := by decide +kernel
theorem e_kc_7_239 : e_kc 7 239 = some (99999) := by decide +kernel
theorem e_kc_7_283 : e_kc 7 283 = some (-1000000002) := by decide +kernel
theorem e_kc_8_90 : e_kc 8 90 = some (-1000000001) := by decide +kernel
theorem e_kc_8_91 : e_kc 8 91 = some (-1000000003) := by decide +kernel
theorem e_kc_8_123 : e_kc 8 123 = some (-1000000012) := by decide +kernel
theorem e_kc_8_127 : e_kc 8 127 = some (1103515245) := by decide +kernel
theorem e_kc_8_167 : e_kc 8 167 = some (-1000000005) := by decide +kernel
theorem e_kc_8_181 : e_kc 8 181 = some (-1000000011) := by decide +kernel
theorem e_kc_8_255 : e_kc 8 255 = some (-1000000014) := by decide +kernel
theorem e_kc_8_256 : e_kc 8 256 = some (-1000000013) := by decide +kernel
theorem e_kc_8_257 : e_kc 8 257 = some (-99999) := by decide +kernel
theorem e_kc_8_258 : e_kc 8 258 = some (99999) := by decide +kernel
theorem e_kc_8_262 : e_kc 8 262 = some (-1000000002) := by decide +kernel
