/-! ===== constructors: of the parts ===== -/
theorem wObj1 : Cond.instanceMethod objectInit ∈ e_tbl := (e_tbl_at 67 (by decide +kernel) (by decide +kernel))
theorem wObj2 : Cond.code objectInit ⟨#[0xb1]⟩ 1 none ∈ e_tbl := (e_tbl_at 68 (by decide +kernel) (by decide +kernel))
theorem wArr0 : Cond.arrayClass .int ∈ e_tbl := (e_tbl_at 95 (by decide +kernel) (by decide +kernel))
theorem wArr1 : Cond.arrayClass .boolean ∈ e_tbl := (e_tbl_at 932 (by decide +kernel) (by decide +kernel))
theorem wArr2 : Cond.arrayClass .char ∈ e_tbl := (e_tbl_at 933 (by decide +kernel) (by decide +kernel))
theorem wIns0 : Cond.instantiable RX0 5 ∈ e_tbl := (e_tbl_at 70 (by decide +kernel) (by decide +kernel))
theorem wIni0 : Cond.initialized RX0 ∈ e_tbl := (e_tbl_at 46 (by decide +kernel) (by decide +kernel))
theorem wDef0 : ∀ ad : Nat → Nat, ∀ j, j < 5 → defaultValue (tyX0 j) = vp_V (e_fv ad (fun _ => 0) 0 [some .null, some .null, some .null, some .null, some .null]) j := by
  intro ad j hj
  match j, hj with
  | 0, _ | 1, _ | 2, _ | 3, _ | 4, _ => rfl
theorem wIns1 : Cond.instantiable RX1 3 ∈ e_tbl := (e_tbl_at 190 (by decide +kernel) (by decide +kernel))
theorem wIni1 : Cond.initialized RX1 ∈ e_tbl := (e_tbl_at 49 (by decide +kernel) (by decide +kernel))
theorem wDef1 : ∀ ad : Nat → Nat, ∀ j, j < 3 → defaultValue (tyX1 j) = vp_V (e_fv ad (fun _ => 0) 0 [none, none, none]) j := by
  intro ad j hj
  match j, hj with
  | 0, _ | 1, _ | 2, _ => rfl
theorem wIns2 : Cond.instantiable RX2 10 ∈ e_tbl := (e_tbl_at 144 (by decide +kernel) (by decide +kernel))
theorem wIni2 : Cond.initialized RX2 ∈ e_tbl := (e_tbl_at 48 (by decide +kernel) (by decide +kernel))
theorem wDef2 : ∀ ad : Nat → Nat, ∀ j, j < 10 → defaultValue (tyX2 j) = vp_V (e_fv ad (fun _ => 0) 0 [some .null, some .null, none, none, none, none, none, none, some .null, some .null]) j := by
  intro ad j hj
  match j, hj with
  | 0, _ | 1, _ | 2, _ | 3, _ | 4, _ | 5, _ | 6, _ | 7, _ | 8, _ | 9, _ => rfl
theorem wIns4 : Cond.instantiable RX4 11 ∈ e_tbl := (e_tbl_at 97 (by decide +kernel) (by decide +kernel))
theorem wIni4 : Cond.initialized RX4 ∈ e_tbl := (e_tbl_at 47 (by decide +kernel) (by decide +kernel))
theorem wDef4 : ∀ ad : Nat → Nat, ∀ j, j < 11 → defaultValue (tyX4 j) = vp_V (e_fv ad (fun _ => 0) 0 [some .null, none, none, none, none, none, none, some .null, some .null, none, none]) j := by
  intro ad j hj
  match j, hj with
  | 0, _ | 1, _ | 2, _ | 3, _ | 4, _ | 5, _ | 6, _ | 7, _ | 8, _ | 9, _ | 10, _ => rfl
theorem wIns5 : Cond.instantiable RX5 3 ∈ e_tbl := (e_tbl_at 211 (by decide +kernel) (by decide +kernel))
theorem wIni5 : Cond.initialized RX5 ∈ e_tbl := (e_tbl_at 50 (by decide +kernel) (by decide +kernel))
theorem wDef5 : ∀ ad : Nat → Nat, ∀ j, j < 3 → defaultValue (tyX5 j) = vp_V (e_fv ad (fun _ => 0) 0 [none, none, some .null]) j := by
  intro ad j hj
  match j, hj with
  | 0, _ | 1, _ | 2, _ => rfl
theorem wIns6 : Cond.instantiable RX6 5 ∈ e_tbl := (e_tbl_at 229 (by decide +kernel) (by decide +kernel))
theorem wIni6 : Cond.initialized RX6 ∈ e_tbl := (e_tbl_at 51 (by decide +kernel) (by decide +kernel))
theorem wDef6 : ∀ ad : Nat → Nat, ∀ j, j < 5 → defaultValue (tyX6 j) = vp_V (e_fv ad (fun _ => 0) 0 [none, none, none, none, some .null]) j := by
  intro ad j hj
  match j, hj with
  | 0, _ | 1, _ | 2, _ | 3, _ | 4, _ => rfl
theorem wIns7 : Cond.instantiable RX7 13 ∈ e_tbl := (e_tbl_at 62 (by decide +kernel) (by decide +kernel))
theorem wIni7 : Cond.initialized RX7 ∈ e_tbl := (e_tbl_at 45 (by decide +kernel) (by decide +kernel))
theorem wDef7 : ∀ ad : Nat → Nat, ∀ j, j < 13 → defaultValue (tyX7 j) = vp_V (e_fv ad (fun _ => 0) 0 [some .null, none, some .null, some .null, some .null, some .null, some .null, none, some .null, some .null, none, some .null, some .null]) j := by
  intro ad j hj
  match j, hj with
  | 0, _ | 1, _ | 2, _ | 3, _ | 4, _ | 5, _ | 6, _ | 7, _ | 8, _ | 9, _ | 10, _ | 11, _ | 12, _ => rfl
theorem wIns8 : Cond.instantiable RX8 34 ∈ e_tbl := (e_tbl_at 824 (by decide +kernel) (by decide +kernel))
theorem wIni8 : Cond.initialized RX8 ∈ e_tbl := (e_tbl_at 52 (by decide +kernel) (by decide +kernel))
theorem wDef8 : ∀ ad : Nat → Nat, ∀ j, j < 34 → defaultValue (tyX8 j) = vp_V (e_fv ad (fun _ => 0) 0 [some .null, some .null, some .null, none, some .null, some .null, some .null, none, none, none, none, none, none, none, some .null, some .null, some .null, none, none, some .null, none, some .null, some .null, some .null, some .null, some .null, some .null, some .null, some .null, some .null, some .null, some .null, some .null, none]) j := by
  intro ad j hj
  match j, hj with
  | 0, _ | 1, _ | 2, _ | 3, _ | 4, _ | 5, _ | 6, _ | 7, _ | 8, _ | 9, _ | 10, _ | 11, _ | 12, _ | 13, _ | 14, _ | 15, _ | 16, _ | 17, _ | 18, _ | 19, _ | 20, _ | 21, _ | 22, _ | 23, _ | 24, _ | 25, _ | 26, _ | 27, _ | 28, _ | 29, _ | 30, _ | 31, _ | 32, _ | 33, _ => rfl
  | j + 34, h => exact absurd h (by omega)
theorem kI9_9 : e_wI 9 9 yX7_init cX7_init 2 0 := ⟨⟨(e_tbl_at 63 (by decide +kernel) (by decide +kernel)), (e_tbl_at 64 (by decide +kernel) (by decide +kernel)), (e_tbl_at 45 (by decide +kernel) (by decide +kernel)), (e_tbl_at 65 (by decide +kernel) (by decide +kernel))⟩, ⟨by decide, by decide, by decide⟩, by decide, rfl⟩
theorem kI7_19 : e_wJ 7 19 yX0_init cX0_init 1 0 := ⟨⟨List.mem_of_getElem? (i := 0) rfl, (e_tbl_at 72 (by decide +kernel) (by decide +kernel)), (e_tbl_at 46 (by decide +kernel) (by decide +kernel)), (e_tbl_at 73 (by decide +kernel) (by decide +kernel))⟩, ⟨by decide, by decide, by decide⟩, by decide, rfl⟩
theorem kI7_26 : e_wI 7 26 yX4_init cX4_init 2 1 := ⟨⟨(e_tbl_at 98 (by decide +kernel) (by decide +kernel)), (e_tbl_at 99 (by decide +kernel) (by decide +kernel)), (e_tbl_at 47 (by decide +kernel) (by decide +kernel)), (e_tbl_at 100 (by decide +kernel) (by decide +kernel))⟩, ⟨by decide, by decide, by decide⟩, by decide, rfl⟩
theorem kI7_35 : e_wI 7 35 yX2_init cX2_init 2 1 := ⟨⟨(e_tbl_at 145 (by decide +kernel) (by decide +kernel)), (e_tbl_at 146 (by decide +kernel) (by decide +kernel)), (e_tbl_at 48 (by decide +kernel) (by decide +kernel)), (e_tbl_at 147 (by decide +kernel) (by decide +kernel))⟩, ⟨by decide, by decide, by decide⟩, by decide, rfl⟩
theorem kI7_54 : e_wJ 7 54 yX1_init cX1_init 1 0 := ⟨⟨List.mem_of_getElem? (i := 1) rfl, (e_tbl_at 192 (by decide +kernel) (by decide +kernel)), (e_tbl_at 49 (by decide +kernel) (by decide +kernel)), (e_tbl_at 193 (by decide +kernel) (by decide +kernel))⟩, ⟨by decide, by decide, by decide⟩, by decide, rfl⟩
theorem kI7_77 : e_wJ 7 77 yX5_init cX5_init 1 0 := ⟨⟨List.mem_of_getElem? (i := 2) rfl, (e_tbl_at 213 (by decide +kernel) (by decide +kernel)), (e_tbl_at 50 (by decide +kernel) (by decide +kernel)), (e_tbl_at 214 (by decide +kernel) (by decide +kernel))⟩, ⟨by decide, by decide, by decide⟩, by decide, rfl⟩
theorem kI7_78 : e_wJ 7 78 yX6_init cX6_init 1 0 := ⟨⟨List.mem_of_getElem? (i := 3) rfl, (e_tbl_at 231 (by decide +kernel) (by decide +kernel)), (e_tbl_at 51 (by decide +kernel) (by decide +kernel)), (e_tbl_at 232 (by decide +kernel) (by decide +kernel))⟩, ⟨by decide, by decide, by decide⟩, by decide, rfl⟩
theorem kI6_26 : e_wJ 6 26 yX5_init cX5_init 1 0 := ⟨⟨List.mem_of_getElem? (i := 4) rfl, (e_tbl_at 213 (by decide +kernel) (by decide +kernel)), (e_tbl_at 50 (by decide +kernel) (by decide +kernel)), (e_tbl_at 214 (by decide +kernel) (by decide +kernel))⟩, ⟨by decide, by decide, by decide⟩, by decide, rfl⟩
theorem kI9_12 : e_wI 9 12 yX8_init cX8_init 1 0 := ⟨⟨(e_tbl_at 825 (by decide +kernel) (by decide +kernel)), (e_tbl_at 826 (by decide +kernel) (by decide +kernel)), (e_tbl_at 52 (by decide +kernel) (by decide +kernel)), (e_tbl_at 827 (by decide +kernel) (by decide +kernel))⟩, ⟨by decide, by decide, by decide⟩, by decide, rfl⟩
def wc5_0 : List e_S := [.inr (4, [none, none, some .null])]
def wc5_1 : List e_S := [.inr (4, [none, none, some .null]), .inl (0, 24, none)]
def wc5_2 : List e_S := [.inr (4, [none, none, some (.ref 1)]), .inl (0, 24, none)]
set_option maxRecDepth 100000 in
set_option maxHeartbeats 4000000 in
theorem c5_init (g : e_G) (M : e_M) : e_CN g 1 1 24 yX5_init cX5_init 1 [.ref 0] wc5_0 M wc5_2 (fun N => N 0 0 = -1 ∧ N 0 1 = 0 ∧ ∀ i, N 1 i = 0) := by
  refine e_CN_of 5 (by decide) rfl rfl (by simp [Value.category]) (Nat.le_of_ble_eq_true rfl) ?_
  intro X0 hX ha hL hg hR hi ret
  have G : e_gr X0 wc5_0.length X0 wc5_0.length := e_gr_0
  show e_E X0 wc5_0 0 [some (.ref 0)] [] _
  refine e_aload_n hX dX5_init_0 rfl ?_
  refine e_obj hX dX5_init_1 (e_tbl_at 215 (by decide +kernel) (by decide +kernel)) wObj1 wObj2 ⟨by rw [hR.1]; decide, by rw [hR.2]; decide⟩ (by decide) ?_
  refine e_aload_n hX dX5_init_4 rfl ?_
  refine e_iconst hX dX5_init_5 ?_
  refine e_putfI hX dX5_init_6 e_lk_5_9 rfl ?_
  rw [show ((e_i0 (-1)) : Int32) = (-1) from by decide]
  refine e_aload_n hX dX5_init_9 rfl ?_
  refine e_iconst hX dX5_init_10 ?_
  refine e_putfI hX dX5_init_11 e_lk_5_15 rfl ?_
  rw [show ((e_i0 0) : Int32) = 0 from by decide]
  refine e_aload_n hX dX5_init_14 rfl ?_
  refine e_bipush hX dX5_init_15 ?_
  refine e_newa (t := 0) (N := 24) (ty := .int) hX ha rfl rfl wArr0 ha.2.1.1.1 (by decide) (by decide) (by decide) (by decide) (by decide) (by decide) (by decide +kernel) dX5_init_17 (fun X1 g1 hX1 ha1 => ?_)
  replace hX : e_ok 5 cX5_init X1 wc5_1 := hX1
  replace ha := ha1
  replace hR : (e_R X1).frames = 1 ∧ (e_R X1).locals = 40 * 1 := by rw [(e_gr_c g1).2.2]; exact hR
  replace hi : (e_me X1).name = "<init>" := by rw [(e_gr_c g1).1]; exact hi
  replace hL : (e_c X1).maxLocals = 1 := by rw [(e_gr_c g1).2.1]; exact hL
  replace G := e_gr_t G g1 (by decide)
  clear hX1 ha1 g1
  show e_E X1 wc5_1 19 [some (.ref 0)] [.ref 1, .ref 0] _
  refine e_putF (ty0 := .array .int) hX dX5_init_19 e_lk_5_18 (fun C T N h => by have h : some (RX5, TX5, 3) = some (C, T, N) := h; cases h; exact ⟨rfl, rfl, by decide +kernel⟩) (fun q => ⟨rfl, rfl⟩) rfl (by decide) hi ?_
  replace hX : e_ok 5 cX5_init X1 wc5_2 := e_ok_sh (Sh := wc5_1) rfl hX
  show e_E X1 wc5_2 22 [some (.ref 0)] [] _
  exact ret X1 _ _ 22 G hX dX5_init_22 (by exact ⟨rfl, rfl, fun i => rfl⟩)
def wc6_0 : List e_S := [.inr (5, [none, none, none, none, some .null])]
def wc6_1 : List e_S := [.inr (5, [none, none, none, none, some .null]), .inr (4, [none, none, some .null])]
def wc6_2 : List e_S := [.inr (5, [none, none, none, none, some .null]), .inr (4, [none, none, some (.ref 2)]), .inl (0, 24, none)]
def wc6_3 : List e_S := [.inr (5, [none, none, none, none, some (.ref 1)]), .inr (4, [none, none, some (.ref 2)]), .inl (0, 24, none)]
set_option maxRecDepth 100000 in
set_option maxHeartbeats 4000000 in
theorem c6_init (g : e_G) (M : e_M) : e_CN g 2 2 27 yX6_init cX6_init 1 [.ref 0] wc6_0 M wc6_3 (fun N => N 0 0 = 0) := by
  refine e_CN_of 6 (by decide) rfl rfl (by simp [Value.category]) (Nat.le_of_ble_eq_true rfl) ?_
  intro X0 hX ha hL hg hR hi ret
  have G : e_gr X0 wc6_0.length X0 wc6_0.length := e_gr_0
  show e_E X0 wc6_0 0 [some (.ref 0)] [] _
  refine e_aload_n hX dX6_init_0 rfl ?_
  refine e_obj hX dX6_init_1 (e_tbl_at 233 (by decide +kernel) (by decide +kernel)) wObj1 wObj2 ⟨by rw [hR.1]; decide, by rw [hR.2]; decide⟩ (by decide) ?_
  refine e_aload_n hX dX6_init_4 rfl ?_
  refine e_iconst hX dX6_init_5 ?_
  refine e_putfI hX dX6_init_6 e_lk_6_9 rfl ?_
  rw [show ((e_i0 0) : Int32) = 0 from by decide]
  refine e_aload_n hX dX6_init_9 rfl ?_
  refine e_iconst hX dX6_init_10 ?_
  refine e_putfI hX dX6_init_11 e_lk_6_15 rfl ?_
  rw [show ((e_i0 0) : Int32) = 0 from by decide]
  refine e_aload_n hX dX6_init_14 rfl ?_
  refine e_iconst hX dX6_init_15 ?_
  refine e_putfI hX dX6_init_16 e_lk_6_18 rfl ?_
  rw [show ((e_i0 0) : Int32) = 0 from by decide]
  refine e_aload_n hX dX6_init_19 rfl ?_
  refine e_iconst hX dX6_init_20 ?_
  refine e_putfI hX dX6_init_21 e_lk_6_21 rfl ?_
  rw [show ((e_i0 0) : Int32) = 0 from by decide]
  refine e_aload_n hX dX6_init_24 rfl ?_
  refine e_newo (ci := 4) (N := 3) (fs := [none, none, some .null]) hX ha e_in5 tyX5 tyX5_ok (e_tbl_at 234 (by decide +kernel) (by decide +kernel)) wIns5 wIni5 rfl wDef5 (by decide) (by decide) (by decide) (by decide +kernel) dX6_init_25 (fun X1 g1 hX1 ha1 => ?_)
  replace hX : e_ok 6 cX6_init X1 wc6_1 := hX1
  replace ha := ha1
  replace hR : (e_R X1).frames = 2 ∧ (e_R X1).locals = 40 * 2 := by rw [(e_gr_c g1).2.2]; exact hR
  replace hi : (e_me X1).name = "<init>" := by rw [(e_gr_c g1).1]; exact hi
  replace hL : (e_c X1).maxLocals = 1 := by rw [(e_gr_c g1).2.1]; exact hL
  replace G := e_gr_t G g1 (by decide)
  clear hX1 ha1 g1
  show e_E X1 wc6_1 28 [some (.ref 0)] [.ref 1, .ref 0] _
  refine e_dup hX dX6_init_28 rfl ?_
  refine e_callI (m := 1) (is := [1]) (is' := [1, 2]) (Sh0 := wc5_0) (Sh1 := wc5_2) (Sh' := wc6_2) (a0 := 0) (as0 := []) (rest := [.ref 1, .ref 0]) hX ha (by decide +kernel) (c5_init (e_g X1) _) (Or.inr kI6_26) rfl ⟨by rw [hR.1]; decide, by rw [hR.2]; decide⟩ (by decide) dX6_init_29 (by decide) (by decide) rfl (by decide) (by decide +kernel) rfl (by decide +kernel) (by decide +kernel) (by decide +kernel) (by decide +kernel) (fun X2 N2 g1 hX1 ha1 hN2 => ?_)
  replace hX : e_ok 6 cX6_init X2 wc6_2 := hX1
  replace ha := ha1
  replace hR : (e_R X2).frames = 2 ∧ (e_R X2).locals = 40 * 2 := by rw [(e_gr_c g1).2.2]; exact hR
  replace hi : (e_me X2).name = "<init>" := by rw [(e_gr_c g1).1]; exact hi
  replace hL : (e_c X2).maxLocals = 1 := by rw [(e_gr_c g1).2.1]; exact hL
  replace G := e_gr_t G g1 (by decide)
  clear hX1 ha1 g1
  show e_E X2 wc6_2 32 [some (.ref 0)] [.ref 1, .ref 0] _
  refine e_putF (ty0 := .object "LastLight$Sheet") hX dX6_init_32 e_lk_6_27 (fun C T N h => by have h : some (RX6, TX6, 5) = some (C, T, N) := h; cases h; exact ⟨rfl, rfl, by decide +kernel⟩) (fun q => ⟨rfl, rfl⟩) rfl (by decide) hi ?_
  replace hX : e_ok 6 cX6_init X2 wc6_3 := e_ok_sh (Sh := wc6_2) rfl hX
  show e_E X2 wc6_3 35 [some (.ref 0)] [] _
  exact ret X2 _ _ 35 G hX dX6_init_35 (by rfl)
def wc1_0 : List e_S := [.inr (1, [none, none, none])]
set_option maxRecDepth 100000 in
set_option maxHeartbeats 4000000 in
theorem c1_init (g : e_G) (M : e_M) : e_CN g 1 0 0 yX1_init cX1_init 1 [.ref 0] wc1_0 M wc1_0 (fun _ => True) := by
  refine e_CN_of 1 (by decide) rfl rfl (by simp [Value.category]) (Nat.le_of_ble_eq_true rfl) ?_
  intro X0 hX ha hL hg hR hi ret
  have G : e_gr X0 wc1_0.length X0 wc1_0.length := e_gr_0
  show e_E X0 wc1_0 0 [some (.ref 0)] [] _
  refine e_aload_n hX dX1_init_0 rfl ?_
  refine e_obj hX dX1_init_1 (e_tbl_at 194 (by decide +kernel) (by decide +kernel)) wObj1 wObj2 ⟨by rw [hR.1]; decide, by rw [hR.2]; decide⟩ (by decide) ?_
  refine e_aload_n hX dX1_init_4 rfl ?_
  refine e_iconst hX dX1_init_5 ?_
  refine e_putfZ hX dX1_init_6 e_lk_1_7 ⟨by decide, by decide⟩ rfl ?_
  rw [show ((e_i0 1) : Int32) = 1 from by decide]
  refine e_aload_n hX dX1_init_9 rfl ?_
  refine e_iconst hX dX1_init_10 ?_
  refine e_putfI hX dX1_init_11 e_lk_1_13 rfl ?_
  rw [show ((e_i0 0) : Int32) = 0 from by decide]
  refine e_aload_n hX dX1_init_14 rfl ?_
  refine e_iconst hX dX1_init_15 ?_
  refine e_putfI hX dX1_init_16 e_lk_1_17 rfl ?_
  rw [show ((e_i0 0) : Int32) = 0 from by decide]
  exact ret X0 _ _ 19 G hX dX1_init_19 (trivial)
def wc4_0 : List e_S := [.inr (3, [some .null, none, none, none, none, none, none, some .null, some .null, none, none]), .inl (0, 96, none)]
def wc4_1 : List e_S := [.inr (3, [some .null, none, none, none, none, none, none, some (.ref 1010), some .null, none, none]), .inl (0, 96, none)]
def wc4_2 : List e_S := [.inr (3, [some .null, none, none, none, none, none, none, some (.ref 1010), some .null, none, none]), .inl (0, 96, none), .inl (0, 96, none)]
def wc4_3 : List e_S := [.inr (3, [some .null, none, none, none, none, none, none, some (.ref 1010), some (.ref 2), none, none]), .inl (0, 96, none), .inl (0, 96, none)]
def wc4_4 : List e_S := [.inr (3, [some (.ref 1), none, none, none, none, none, none, some (.ref 1010), some (.ref 2), none, none]), .inl (0, 96, none), .inl (0, 96, none)]
set_option maxRecDepth 100000 in
set_option maxHeartbeats 4000000 in
theorem c4_init (g : e_G) (M : e_M) : e_CN g 1 1 96 yX4_init cX4_init 2 [.ref 0, .ref 1] wc4_0 M wc4_4 (fun N => ∀ i, N 1 i = M 1 i) := by
  refine e_CN_of 4 (by decide) rfl rfl (by simp [Value.category]) (Nat.le_of_ble_eq_true rfl) ?_
  intro X0 hX ha hL hg hR hi ret
  have G : e_gr X0 wc4_0.length X0 wc4_0.length := e_gr_0
  show e_E X0 wc4_0 0 [some (.ref 0), some (.ref 1)] [] _
  refine e_aload_n hX dX4_init_0 rfl ?_
  refine e_obj hX dX4_init_1 (e_tbl_at 101 (by decide +kernel) (by decide +kernel)) wObj1 wObj2 ⟨by rw [hR.1]; decide, by rw [hR.2]; decide⟩ (by decide) ?_
  refine e_aload_n hX dX4_init_4 rfl ?_
  refine e_iconst hX dX4_init_5 ?_
  refine e_putfI hX dX4_init_6 e_lk_4_9 rfl ?_
  rw [show ((e_i0 0) : Int32) = 0 from by decide]
  refine e_aload_n hX dX4_init_9 rfl ?_
  refine e_iconst hX dX4_init_10 ?_
  refine e_putfI hX dX4_init_11 e_lk_4_15 rfl ?_
  rw [show ((e_i0 0) : Int32) = 0 from by decide]
  refine e_aload_n hX dX4_init_14 rfl ?_
  refine e_iconst hX dX4_init_15 ?_
  refine e_putfI hX dX4_init_16 e_lk_4_18 rfl ?_
  rw [show ((e_i0 0) : Int32) = 0 from by decide]
  refine e_aload_n hX dX4_init_19 rfl ?_
  refine e_iconst hX dX4_init_20 ?_
  refine e_putfI hX dX4_init_21 e_lk_4_21 rfl ?_
  rw [show ((e_i0 0) : Int32) = 0 from by decide]
  refine e_aload_n hX dX4_init_24 rfl ?_
  refine e_iconst hX dX4_init_25 ?_
  refine e_putfI hX dX4_init_26 e_lk_4_24 rfl ?_
  rw [show ((e_i0 (-1)) : Int32) = (-1) from by decide]
  refine e_aload_n hX dX4_init_29 rfl ?_
  refine e_iconst hX dX4_init_30 ?_
  refine e_putfI hX dX4_init_31 e_lk_4_27 rfl ?_
  rw [show ((e_i0 0) : Int32) = 0 from by decide]
  refine e_aload_n hX dX4_init_34 rfl ?_
  refine e_ldcS 0 (by decide) hX dX4_init_35 rfl ?_
  show e_E X0 wc4_0 37 [some (.ref 0), some (.ref 1)] [.ref 1010, .ref 0] _
  refine e_putG (ty0 := .object "java/lang/String") hX dX4_init_37 e_lk_4_32 (fun C T N h => by have h : some (RX4, TX4, 11) = some (C, T, N) := h; cases h; exact ⟨rfl, by decide +kernel⟩) (fun q => ⟨rfl, rfl⟩) rfl (by decide) ?_
  replace hX : e_ok 4 cX4_init X0 wc4_1 := e_ok_sh (Sh := wc4_0) rfl hX
  show e_E X0 wc4_1 40 [some (.ref 0), some (.ref 1)] [] _
  refine e_aload_n hX dX4_init_40 rfl ?_
  refine e_bipush hX dX4_init_41 ?_
  refine e_newa (t := 0) (N := 96) (ty := .int) hX ha rfl rfl wArr0 ha.2.1.1.1 (by decide) (by decide) (by decide) (by decide) (by decide) (by decide) (by decide +kernel) dX4_init_43 (fun X1 g1 hX1 ha1 => ?_)
  replace hX : e_ok 4 cX4_init X1 wc4_2 := hX1
  replace ha := ha1
  replace hR : (e_R X1).frames = 1 ∧ (e_R X1).locals = 40 * 1 := by rw [(e_gr_c g1).2.2]; exact hR
  replace hi : (e_me X1).name = "<init>" := by rw [(e_gr_c g1).1]; exact hi
  replace hL : (e_c X1).maxLocals = 2 := by rw [(e_gr_c g1).2.1]; exact hL
  replace G := e_gr_t G g1 (by decide)
  clear hX1 ha1 g1
  show e_E X1 wc4_2 45 [some (.ref 0), some (.ref 1)] [.ref 2, .ref 0] _
  refine e_putF (ty0 := .array .int) hX dX4_init_45 e_lk_4_36 (fun C T N h => by have h : some (RX4, TX4, 11) = some (C, T, N) := h; cases h; exact ⟨rfl, rfl, by decide +kernel⟩) (fun q => ⟨rfl, rfl⟩) rfl (by decide) hi ?_
  replace hX : e_ok 4 cX4_init X1 wc4_3 := e_ok_sh (Sh := wc4_2) rfl hX
  show e_E X1 wc4_3 48 [some (.ref 0), some (.ref 1)] [] _
  refine e_aload_n hX dX4_init_48 rfl ?_
  refine e_iconst hX dX4_init_49 ?_
  refine e_putfI hX dX4_init_50 e_lk_4_40 rfl ?_
  rw [show ((e_i0 0) : Int32) = 0 from by decide]
  refine e_aload_n hX dX4_init_53 rfl ?_
  refine e_iconst hX dX4_init_54 ?_
  refine e_putfI hX dX4_init_55 e_lk_4_43 rfl ?_
  rw [show ((e_i0 0) : Int32) = 0 from by decide]
  refine e_aload_n hX dX4_init_58 rfl ?_
  refine e_aload_n hX dX4_init_59 rfl ?_
  refine e_putF (ty0 := .array .int) hX dX4_init_60 e_lk_4_46 (fun C T N h => by have h : some (RX4, TX4, 11) = some (C, T, N) := h; cases h; exact ⟨rfl, rfl, by decide +kernel⟩) (fun q => ⟨rfl, rfl⟩) rfl (by decide) hi ?_
  replace hX : e_ok 4 cX4_init X1 wc4_4 := e_ok_sh (Sh := wc4_3) rfl hX
  show e_E X1 wc4_4 63 [some (.ref 0), some (.ref 1)] [] _
  exact ret X1 _ _ 63 G hX dX4_init_63 (fun i => rfl)
def wc0_0 : List e_S := [.inr (0, [some .null, some .null, some .null, some .null, some .null])]
def wc0_1 : List e_S := [.inr (0, [some .null, some .null, some .null, some .null, some .null]), .inl (0, 14, none)]
def wc0_2 : List e_S := [.inr (0, [some (.ref 1), some .null, some .null, some .null, some .null]), .inl (0, 14, none)]
def wc0_3 : List e_S := [.inr (0, [some (.ref 1), some .null, some .null, some .null, some .null]), .inl (0, 14, none), .inl (0, 14, none)]
def wc0_4 : List e_S := [.inr (0, [some (.ref 1), some (.ref 2), some .null, some .null, some .null]), .inl (0, 14, none), .inl (0, 14, none)]
def wc0_5 : List e_S := [.inr (0, [some (.ref 1), some (.ref 2), some .null, some .null, some .null]), .inl (0, 14, none), .inl (0, 14, none), .inl (0, 14, none)]
def wc0_6 : List e_S := [.inr (0, [some (.ref 1), some (.ref 2), some (.ref 3), some .null, some .null]), .inl (0, 14, none), .inl (0, 14, none), .inl (0, 14, none)]
def wc0_7 : List e_S := [.inr (0, [some (.ref 1), some (.ref 2), some (.ref 3), some .null, some .null]), .inl (0, 14, none), .inl (0, 14, none), .inl (0, 14, none), .inl (5, 14, some [some 5, some 6, some 7, some 8, some 9, some 10, some 11, some 12, some 13, some 14, some 15, some 16, some 17, some 18]), .inl (0, 96, none), .inl (0, 96, none), .inl (0, 96, none), .inl (0, 96, none), .inl (0, 96, none), .inl (0, 96, none), .inl (0, 96, none), .inl (0, 96, none), .inl (0, 96, none), .inl (0, 96, none), .inl (0, 96, none), .inl (0, 96, none), .inl (0, 96, none), .inl (0, 96, none)]
def wc0_8 : List e_S := [.inr (0, [some (.ref 1), some (.ref 2), some (.ref 3), some (.ref 4), some .null]), .inl (0, 14, none), .inl (0, 14, none), .inl (0, 14, none), .inl (5, 14, some [some 5, some 6, some 7, some 8, some 9, some 10, some 11, some 12, some 13, some 14, some 15, some 16, some 17, some 18]), .inl (0, 96, none), .inl (0, 96, none), .inl (0, 96, none), .inl (0, 96, none), .inl (0, 96, none), .inl (0, 96, none), .inl (0, 96, none), .inl (0, 96, none), .inl (0, 96, none), .inl (0, 96, none), .inl (0, 96, none), .inl (0, 96, none), .inl (0, 96, none), .inl (0, 96, none)]
def wc0_9 : List e_S := [.inr (0, [some (.ref 1), some (.ref 2), some (.ref 3), some (.ref 4), some .null]), .inl (0, 14, none), .inl (0, 14, none), .inl (0, 14, none), .inl (5, 14, some [some 5, some 6, some 7, some 8, some 9, some 10, some 11, some 12, some 13, some 14, some 15, some 16, some 17, some 18]), .inl (0, 96, none), .inl (0, 96, none), .inl (0, 96, none), .inl (0, 96, none), .inl (0, 96, none), .inl (0, 96, none), .inl (0, 96, none), .inl (0, 96, none), .inl (0, 96, none), .inl (0, 96, none), .inl (0, 96, none), .inl (0, 96, none), .inl (0, 96, none), .inl (0, 96, none), .inl (0, 96, none)]
def wc0_10 : List e_S := [.inr (0, [some (.ref 1), some (.ref 2), some (.ref 3), some (.ref 4), some (.ref 19)]), .inl (0, 14, none), .inl (0, 14, none), .inl (0, 14, none), .inl (5, 14, some [some 5, some 6, some 7, some 8, some 9, some 10, some 11, some 12, some 13, some 14, some 15, some 16, some 17, some 18]), .inl (0, 96, none), .inl (0, 96, none), .inl (0, 96, none), .inl (0, 96, none), .inl (0, 96, none), .inl (0, 96, none), .inl (0, 96, none), .inl (0, 96, none), .inl (0, 96, none), .inl (0, 96, none), .inl (0, 96, none), .inl (0, 96, none), .inl (0, 96, none), .inl (0, 96, none), .inl (0, 96, none)]
set_option maxRecDepth 100000 in
set_option maxHeartbeats 4000000 in
theorem c0_init (g : e_G) (M : e_M) : e_CN g 1 19 1496 yX0_init cX0_init 1 [.ref 0] wc0_0 M wc0_10 (fun _ => True) := by
  refine e_CN_of 0 (by decide) rfl rfl (by simp [Value.category]) (Nat.le_of_ble_eq_true rfl) ?_
  intro X0 hX ha hL hg hR hi ret
  have G : e_gr X0 wc0_0.length X0 wc0_0.length := e_gr_0
  show e_E X0 wc0_0 0 [some (.ref 0)] [] _
  refine e_aload_n hX dX0_init_0 rfl ?_
  refine e_obj hX dX0_init_1 (e_tbl_at 74 (by decide +kernel) (by decide +kernel)) wObj1 wObj2 ⟨by rw [hR.1]; decide, by rw [hR.2]; decide⟩ (by decide) ?_
  refine e_aload_n hX dX0_init_4 rfl ?_
  refine e_bipush hX dX0_init_5 ?_
  refine e_newa (t := 0) (N := 14) (ty := .int) hX ha rfl rfl wArr0 ha.2.1.1.1 (by decide) (by decide) (by decide) (by decide) (by decide) (by decide) (by decide +kernel) dX0_init_7 (fun X1 g1 hX1 ha1 => ?_)
  replace hX : e_ok 0 cX0_init X1 wc0_1 := hX1
  replace ha := ha1
  replace hR : (e_R X1).frames = 1 ∧ (e_R X1).locals = 40 * 1 := by rw [(e_gr_c g1).2.2]; exact hR
  replace hi : (e_me X1).name = "<init>" := by rw [(e_gr_c g1).1]; exact hi
  replace hL : (e_c X1).maxLocals = 1 := by rw [(e_gr_c g1).2.1]; exact hL
  replace G := e_gr_t G g1 (by decide)
  clear hX1 ha1 g1
  show e_E X1 wc0_1 9 [some (.ref 0)] [.ref 1, .ref 0] _
  refine e_putF (ty0 := .array .int) hX dX0_init_9 e_lk_0_9 (fun C T N h => by have h : some (RX0, TX0, 5) = some (C, T, N) := h; cases h; exact ⟨rfl, rfl, by decide +kernel⟩) (fun q => ⟨rfl, rfl⟩) rfl (by decide) hi ?_
  replace hX : e_ok 0 cX0_init X1 wc0_2 := e_ok_sh (Sh := wc0_1) rfl hX
  show e_E X1 wc0_2 12 [some (.ref 0)] [] _
  refine e_aload_n hX dX0_init_12 rfl ?_
  refine e_bipush hX dX0_init_13 ?_
  refine e_newa (t := 0) (N := 14) (ty := .int) hX ha rfl rfl wArr0 ha.2.1.1.1 (by decide) (by decide) (by decide) (by decide) (by decide) (by decide) (by decide +kernel) dX0_init_15 (fun X2 g1 hX1 ha1 => ?_)
  replace hX : e_ok 0 cX0_init X2 wc0_3 := hX1
  replace ha := ha1
  replace hR : (e_R X2).frames = 1 ∧ (e_R X2).locals = 40 * 1 := by rw [(e_gr_c g1).2.2]; exact hR
  replace hi : (e_me X2).name = "<init>" := by rw [(e_gr_c g1).1]; exact hi
  replace hL : (e_c X2).maxLocals = 1 := by rw [(e_gr_c g1).2.1]; exact hL
  replace G := e_gr_t G g1 (by decide)
  clear hX1 ha1 g1
  show e_E X2 wc0_3 17 [some (.ref 0)] [.ref 2, .ref 0] _
  refine e_putF (ty0 := .array .int) hX dX0_init_17 e_lk_0_15 (fun C T N h => by have h : some (RX0, TX0, 5) = some (C, T, N) := h; cases h; exact ⟨rfl, rfl, by decide +kernel⟩) (fun q => ⟨rfl, rfl⟩) rfl (by decide) hi ?_
  replace hX : e_ok 0 cX0_init X2 wc0_4 := e_ok_sh (Sh := wc0_3) rfl hX
  show e_E X2 wc0_4 20 [some (.ref 0)] [] _
  refine e_aload_n hX dX0_init_20 rfl ?_
  refine e_bipush hX dX0_init_21 ?_
  refine e_newa (t := 0) (N := 14) (ty := .int) hX ha rfl rfl wArr0 ha.2.1.1.1 (by decide) (by decide) (by decide) (by decide) (by decide) (by decide) (by decide +kernel) dX0_init_23 (fun X3 g1 hX1 ha1 => ?_)
  replace hX : e_ok 0 cX0_init X3 wc0_5 := hX1
  replace ha := ha1
  replace hR : (e_R X3).frames = 1 ∧ (e_R X3).locals = 40 * 1 := by rw [(e_gr_c g1).2.2]; exact hR
  replace hi : (e_me X3).name = "<init>" := by rw [(e_gr_c g1).1]; exact hi
  replace hL : (e_c X3).maxLocals = 1 := by rw [(e_gr_c g1).2.1]; exact hL
  replace G := e_gr_t G g1 (by decide)
  clear hX1 ha1 g1
  show e_E X3 wc0_5 25 [some (.ref 0)] [.ref 3, .ref 0] _
  refine e_putF (ty0 := .array .int) hX dX0_init_25 e_lk_0_18 (fun C T N h => by have h : some (RX0, TX0, 5) = some (C, T, N) := h; cases h; exact ⟨rfl, rfl, by decide +kernel⟩) (fun q => ⟨rfl, rfl⟩) rfl (by decide) hi ?_
  replace hX : e_ok 0 cX0_init X3 wc0_6 := e_ok_sh (Sh := wc0_5) rfl hX
  show e_E X3 wc0_6 28 [some (.ref 0)] [] _
  refine e_aload_n hX dX0_init_28 rfl ?_
  refine e_bipush hX dX0_init_29 ?_
  refine e_bipush hX dX0_init_31 ?_
  refine e_newm (N := 14) (K := 96) hX ha (e_tbl_at 75 (by decide +kernel) (by decide +kernel)) wArr0 (by decide) (by decide) (by decide) (by decide) (by decide) (by decide) (by decide) (by decide) (by decide) (by decide +kernel) dX0_init_33 (fun X4 g1 hX1 ha1 => ?_)
  replace hX : e_ok 0 cX0_init X4 wc0_7 := hX1
  replace ha := ha1
  replace hR : (e_R X4).frames = 1 ∧ (e_R X4).locals = 40 * 1 := by rw [(e_gr_c g1).2.2]; exact hR
  replace hi : (e_me X4).name = "<init>" := by rw [(e_gr_c g1).1]; exact hi
  replace hL : (e_c X4).maxLocals = 1 := by rw [(e_gr_c g1).2.1]; exact hL
  replace G := e_gr_t G g1 (by decide)
  clear hX1 ha1 g1
  show e_E X4 wc0_7 37 [some (.ref 0)] [.ref 4, .ref 0] _
  refine e_putF (ty0 := .array (.array .int)) hX dX0_init_37 e_lk_0_23 (fun C T N h => by have h : some (RX0, TX0, 5) = some (C, T, N) := h; cases h; exact ⟨rfl, rfl, by decide +kernel⟩) (fun q => ⟨rfl, rfl⟩) rfl (by decide) hi ?_
  replace hX : e_ok 0 cX0_init X4 wc0_8 := e_ok_sh (Sh := wc0_7) rfl hX
  show e_E X4 wc0_8 40 [some (.ref 0)] [] _
  refine e_aload_n hX dX0_init_40 rfl ?_
  refine e_bipush hX dX0_init_41 ?_
  refine e_newa (t := 0) (N := 96) (ty := .int) hX ha rfl rfl wArr0 ha.2.1.1.1 (by decide) (by decide) (by decide) (by decide) (by decide) (by decide) (by decide +kernel) dX0_init_43 (fun X5 g1 hX1 ha1 => ?_)
  replace hX : e_ok 0 cX0_init X5 wc0_9 := hX1
  replace ha := ha1
  replace hR : (e_R X5).frames = 1 ∧ (e_R X5).locals = 40 * 1 := by rw [(e_gr_c g1).2.2]; exact hR
  replace hi : (e_me X5).name = "<init>" := by rw [(e_gr_c g1).1]; exact hi
  replace hL : (e_c X5).maxLocals = 1 := by rw [(e_gr_c g1).2.1]; exact hL
  replace G := e_gr_t G g1 (by decide)
  clear hX1 ha1 g1
  show e_E X5 wc0_9 45 [some (.ref 0)] [.ref 19, .ref 0] _
  refine e_putF (ty0 := .array .int) hX dX0_init_45 e_lk_0_26 (fun C T N h => by have h : some (RX0, TX0, 5) = some (C, T, N) := h; cases h; exact ⟨rfl, rfl, by decide +kernel⟩) (fun q => ⟨rfl, rfl⟩) rfl (by decide) hi ?_
  replace hX : e_ok 0 cX0_init X5 wc0_10 := e_ok_sh (Sh := wc0_9) rfl hX
  show e_E X5 wc0_10 48 [some (.ref 0)] [] _
  exact ret X5 _ _ 48 G hX dX0_init_48 (trivial)
def wc2_0 : List e_S := [.inr (2, [some .null, some .null, none, none, none, none, none, none, some .null, some .null]), .inr (0, [some (.ref 2), some (.ref 3), some (.ref 4), some (.ref 5), some (.ref 20)]), .inl (0, 14, none), .inl (0, 14, none), .inl (0, 14, none), .inl (5, 14, some [some 6, some 7, some 8, some 9, some 10, some 11, some 12, some 13, some 14, some 15, some 16, some 17, some 18, some 19]), .inl (0, 96, none), .inl (0, 96, none), .inl (0, 96, none), .inl (0, 96, none), .inl (0, 96, none), .inl (0, 96, none), .inl (0, 96, none), .inl (0, 96, none), .inl (0, 96, none), .inl (0, 96, none), .inl (0, 96, none), .inl (0, 96, none), .inl (0, 96, none), .inl (0, 96, none), .inl (0, 96, none)]
def wc2_1 : List e_S := [.inr (2, [some .null, some .null, none, none, none, none, none, none, some .null, some .null]), .inr (0, [some (.ref 2), some (.ref 3), some (.ref 4), some (.ref 5), some (.ref 20)]), .inl (0, 14, none), .inl (0, 14, none), .inl (0, 14, none), .inl (5, 14, some [some 6, some 7, some 8, some 9, some 10, some 11, some 12, some 13, some 14, some 15, some 16, some 17, some 18, some 19]), .inl (0, 96, none), .inl (0, 96, none), .inl (0, 96, none), .inl (0, 96, none), .inl (0, 96, none), .inl (0, 96, none), .inl (0, 96, none), .inl (0, 96, none), .inl (0, 96, none), .inl (0, 96, none), .inl (0, 96, none), .inl (0, 96, none), .inl (0, 96, none), .inl (0, 96, none), .inl (0, 96, none), .inl (5, 9, some [some 22, some 23, some 24, some 25, some 26, some 27, some 28, some 29, some 30]), .inl (0, 10, none), .inl (0, 10, none), .inl (0, 10, none), .inl (0, 10, none), .inl (0, 10, none), .inl (0, 10, none), .inl (0, 10, none), .inl (0, 10, none), .inl (0, 10, none)]
def wc2_2 : List e_S := [.inr (2, [some .null, some (.ref 21), none, none, none, none, none, none, some .null, some .null]), .inr (0, [some (.ref 2), some (.ref 3), some (.ref 4), some (.ref 5), some (.ref 20)]), .inl (0, 14, none), .inl (0, 14, none), .inl (0, 14, none), .inl (5, 14, some [some 6, some 7, some 8, some 9, some 10, some 11, some 12, some 13, some 14, some 15, some 16, some 17, some 18, some 19]), .inl (0, 96, none), .inl (0, 96, none), .inl (0, 96, none), .inl (0, 96, none), .inl (0, 96, none), .inl (0, 96, none), .inl (0, 96, none), .inl (0, 96, none), .inl (0, 96, none), .inl (0, 96, none), .inl (0, 96, none), .inl (0, 96, none), .inl (0, 96, none), .inl (0, 96, none), .inl (0, 96, none), .inl (5, 9, some [some 22, some 23, some 24, some 25, some 26, some 27, some 28, some 29, some 30]), .inl (0, 10, none), .inl (0, 10, none), .inl (0, 10, none), .inl (0, 10, none), .inl (0, 10, none), .inl (0, 10, none), .inl (0, 10, none), .inl (0, 10, none), .inl (0, 10, none)]
def wc2_3 : List e_S := [.inr (2, [some .null, some (.ref 21), none, none, none, none, none, none, some .null, some .null]), .inr (0, [some (.ref 2), some (.ref 3), some (.ref 4), some (.ref 5), some (.ref 20)]), .inl (0, 14, none), .inl (0, 14, none), .inl (0, 14, none), .inl (5, 14, some [some 6, some 7, some 8, some 9, some 10, some 11, some 12, some 13, some 14, some 15, some 16, some 17, some 18, some 19]), .inl (0, 96, none), .inl (0, 96, none), .inl (0, 96, none), .inl (0, 96, none), .inl (0, 96, none), .inl (0, 96, none), .inl (0, 96, none), .inl (0, 96, none), .inl (0, 96, none), .inl (0, 96, none), .inl (0, 96, none), .inl (0, 96, none), .inl (0, 96, none), .inl (0, 96, none), .inl (0, 96, none), .inl (5, 9, some [some 22, some 23, some 24, some 25, some 26, some 27, some 28, some 29, some 30]), .inl (0, 10, none), .inl (0, 10, none), .inl (0, 10, none), .inl (0, 10, none), .inl (0, 10, none), .inl (0, 10, none), .inl (0, 10, none), .inl (0, 10, none), .inl (0, 10, none), .inl (0, 3, none)]
def wc2_4 : List e_S := [.inr (2, [some .null, some (.ref 21), none, none, none, none, none, none, some (.ref 31), some .null]), .inr (0, [some (.ref 2), some (.ref 3), some (.ref 4), some (.ref 5), some (.ref 20)]), .inl (0, 14, none), .inl (0, 14, none), .inl (0, 14, none), .inl (5, 14, some [some 6, some 7, some 8, some 9, some 10, some 11, some 12, some 13, some 14, some 15, some 16, some 17, some 18, some 19]), .inl (0, 96, none), .inl (0, 96, none), .inl (0, 96, none), .inl (0, 96, none), .inl (0, 96, none), .inl (0, 96, none), .inl (0, 96, none), .inl (0, 96, none), .inl (0, 96, none), .inl (0, 96, none), .inl (0, 96, none), .inl (0, 96, none), .inl (0, 96, none), .inl (0, 96, none), .inl (0, 96, none), .inl (5, 9, some [some 22, some 23, some 24, some 25, some 26, some 27, some 28, some 29, some 30]), .inl (0, 10, none), .inl (0, 10, none), .inl (0, 10, none), .inl (0, 10, none), .inl (0, 10, none), .inl (0, 10, none), .inl (0, 10, none), .inl (0, 10, none), .inl (0, 10, none), .inl (0, 3, none)]
def wc2_5 : List e_S := [.inr (2, [some .null, some (.ref 21), none, none, none, none, none, none, some (.ref 31), some .null]), .inr (0, [some (.ref 2), some (.ref 3), some (.ref 4), some (.ref 5), some (.ref 20)]), .inl (0, 14, none), .inl (0, 14, none), .inl (0, 14, none), .inl (5, 14, some [some 6, some 7, some 8, some 9, some 10, some 11, some 12, some 13, some 14, some 15, some 16, some 17, some 18, some 19]), .inl (0, 96, none), .inl (0, 96, none), .inl (0, 96, none), .inl (0, 96, none), .inl (0, 96, none), .inl (0, 96, none), .inl (0, 96, none), .inl (0, 96, none), .inl (0, 96, none), .inl (0, 96, none), .inl (0, 96, none), .inl (0, 96, none), .inl (0, 96, none), .inl (0, 96, none), .inl (0, 96, none), .inl (5, 9, some [some 22, some 23, some 24, some 25, some 26, some 27, some 28, some 29, some 30]), .inl (0, 10, none), .inl (0, 10, none), .inl (0, 10, none), .inl (0, 10, none), .inl (0, 10, none), .inl (0, 10, none), .inl (0, 10, none), .inl (0, 10, none), .inl (0, 10, none), .inl (0, 3, none), .inl (0, 10, none)]
def wc2_6 : List e_S := [.inr (2, [some .null, some (.ref 21), none, none, none, none, none, none, some (.ref 31), some (.ref 32)]), .inr (0, [some (.ref 2), some (.ref 3), some (.ref 4), some (.ref 5), some (.ref 20)]), .inl (0, 14, none), .inl (0, 14, none), .inl (0, 14, none), .inl (5, 14, some [some 6, some 7, some 8, some 9, some 10, some 11, some 12, some 13, some 14, some 15, some 16, some 17, some 18, some 19]), .inl (0, 96, none), .inl (0, 96, none), .inl (0, 96, none), .inl (0, 96, none), .inl (0, 96, none), .inl (0, 96, none), .inl (0, 96, none), .inl (0, 96, none), .inl (0, 96, none), .inl (0, 96, none), .inl (0, 96, none), .inl (0, 96, none), .inl (0, 96, none), .inl (0, 96, none), .inl (0, 96, none), .inl (5, 9, some [some 22, some 23, some 24, some 25, some 26, some 27, some 28, some 29, some 30]), .inl (0, 10, none), .inl (0, 10, none), .inl (0, 10, none), .inl (0, 10, none), .inl (0, 10, none), .inl (0, 10, none), .inl (0, 10, none), .inl (0, 10, none), .inl (0, 10, none), .inl (0, 3, none), .inl (0, 10, none)]
def wc2_7 : List e_S := [.inr (2, [some (.ref 1), some (.ref 21), none, none, none, none, none, none, some (.ref 31), some (.ref 32)]), .inr (0, [some (.ref 2), some (.ref 3), some (.ref 4), some (.ref 5), some (.ref 20)]), .inl (0, 14, none), .inl (0, 14, none), .inl (0, 14, none), .inl (5, 14, some [some 6, some 7, some 8, some 9, some 10, some 11, some 12, some 13, some 14, some 15, some 16, some 17, some 18, some 19]), .inl (0, 96, none), .inl (0, 96, none), .inl (0, 96, none), .inl (0, 96, none), .inl (0, 96, none), .inl (0, 96, none), .inl (0, 96, none), .inl (0, 96, none), .inl (0, 96, none), .inl (0, 96, none), .inl (0, 96, none), .inl (0, 96, none), .inl (0, 96, none), .inl (0, 96, none), .inl (0, 96, none), .inl (5, 9, some [some 22, some 23, some 24, some 25, some 26, some 27, some 28, some 29, some 30]), .inl (0, 10, none), .inl (0, 10, none), .inl (0, 10, none), .inl (0, 10, none), .inl (0, 10, none), .inl (0, 10, none), .inl (0, 10, none), .inl (0, 10, none), .inl (0, 10, none), .inl (0, 3, none), .inl (0, 10, none)]
set_option maxRecDepth 100000 in
set_option maxHeartbeats 4000000 in
theorem c2_init (g : e_G) (M : e_M) : e_CN g 1 12 112 yX2_init cX2_init 2 [.ref 0, .ref 1] wc2_0 M wc2_7 (fun N => (N 0 2 = 0 ∧ N 0 3 = 0 ∧ N 0 4 = 10 ∧ N 0 5 = 0 ∧ N 0 6 = 1 ∧ N 0 7 = 0) ∧ N 31 0 = -1 ∧ N 31 1 = -1 ∧ N 31 2 = -1) := by
  refine e_CN_of 2 (by decide) rfl rfl (by simp [Value.category]) (Nat.le_of_ble_eq_true rfl) ?_
  intro X0 hX ha hL hg hR hi ret
  have G : e_gr X0 wc2_0.length X0 wc2_0.length := e_gr_0
  show e_E X0 wc2_0 0 [some (.ref 0), some (.ref 1)] [] _
  refine e_aload_n hX dX2_init_0 rfl ?_
  refine e_obj hX dX2_init_1 (e_tbl_at 148 (by decide +kernel) (by decide +kernel)) wObj1 wObj2 ⟨by rw [hR.1]; decide, by rw [hR.2]; decide⟩ (by decide) ?_
  refine e_aload_n hX dX2_init_4 rfl ?_
  refine e_bipush hX dX2_init_5 ?_
  refine e_bipush hX dX2_init_7 ?_
  refine e_newm (N := 9) (K := 10) hX ha (e_tbl_at 149 (by decide +kernel) (by decide +kernel)) wArr0 (by decide) (by decide) (by decide) (by decide) (by decide) (by decide) (by decide) (by decide) (by decide) (by decide +kernel) dX2_init_9 (fun X1 g1 hX1 ha1 => ?_)
  replace hX : e_ok 2 cX2_init X1 wc2_1 := hX1
  replace ha := ha1
  replace hR : (e_R X1).frames = 1 ∧ (e_R X1).locals = 40 * 1 := by rw [(e_gr_c g1).2.2]; exact hR
  replace hi : (e_me X1).name = "<init>" := by rw [(e_gr_c g1).1]; exact hi
  replace hL : (e_c X1).maxLocals = 2 := by rw [(e_gr_c g1).2.1]; exact hL
  replace G := e_gr_t G g1 (by decide)
  clear hX1 ha1 g1
  show e_E X1 wc2_1 13 [some (.ref 0), some (.ref 1)] [.ref 21, .ref 0] _
  refine e_putF (ty0 := .array (.array .int)) hX dX2_init_13 e_lk_2_11 (fun C T N h => by have h : some (RX2, TX2, 10) = some (C, T, N) := h; cases h; exact ⟨rfl, rfl, by decide +kernel⟩) (fun q => ⟨rfl, rfl⟩) rfl (by decide) hi ?_
  replace hX : e_ok 2 cX2_init X1 wc2_2 := e_ok_sh (Sh := wc2_1) rfl hX
  show e_E X1 wc2_2 16 [some (.ref 0), some (.ref 1)] [] _
  refine e_aload_n hX dX2_init_16 rfl ?_
  refine e_iconst hX dX2_init_17 ?_
  refine e_putfI hX dX2_init_18 e_lk_2_16 rfl ?_
  rw [show ((e_i0 0) : Int32) = 0 from by decide]
  refine e_aload_n hX dX2_init_21 rfl ?_
  refine e_iconst hX dX2_init_22 ?_
  refine e_putfI hX dX2_init_23 e_lk_2_20 rfl ?_
  rw [show ((e_i0 0) : Int32) = 0 from by decide]
  refine e_aload_n hX dX2_init_26 rfl ?_
  refine e_bipush hX dX2_init_27 ?_
  refine e_putfI hX dX2_init_29 e_lk_2_23 rfl ?_
  rw [show ((e_i8 10) : Int32) = 10 from by decide]
  refine e_aload_n hX dX2_init_32 rfl ?_
  refine e_iconst hX dX2_init_33 ?_
  refine e_putfI hX dX2_init_34 e_lk_2_26 rfl ?_
  rw [show ((e_i0 0) : Int32) = 0 from by decide]
  refine e_aload_n hX dX2_init_37 rfl ?_
  refine e_iconst hX dX2_init_38 ?_
  refine e_putfI hX dX2_init_39 e_lk_2_29 rfl ?_
  rw [show ((e_i0 1) : Int32) = 1 from by decide]
  refine e_aload_n hX dX2_init_42 rfl ?_
  refine e_iconst hX dX2_init_43 ?_
  refine e_putfI hX dX2_init_44 e_lk_2_32 rfl ?_
  rw [show ((e_i0 0) : Int32) = 0 from by decide]
  refine e_aload_n hX dX2_init_47 rfl ?_
  refine e_iconst hX dX2_init_48 ?_
  refine e_newa (t := 0) (N := 3) (ty := .int) hX ha rfl rfl wArr0 ha.2.1.1.1 (by decide) (by decide) (by decide) (by decide) (by decide) (by decide) (by decide +kernel) dX2_init_49 (fun X2 g1 hX1 ha1 => ?_)
  replace hX : e_ok 2 cX2_init X2 wc2_3 := hX1
  replace ha := ha1
  replace hR : (e_R X2).frames = 1 ∧ (e_R X2).locals = 40 * 1 := by rw [(e_gr_c g1).2.2]; exact hR
  replace hi : (e_me X2).name = "<init>" := by rw [(e_gr_c g1).1]; exact hi
  replace hL : (e_c X2).maxLocals = 2 := by rw [(e_gr_c g1).2.1]; exact hL
  replace G := e_gr_t G g1 (by decide)
  clear hX1 ha1 g1
  show e_E X2 wc2_3 51 [some (.ref 0), some (.ref 1)] [.ref 31, .ref 0] _
  refine e_dup hX dX2_init_51 rfl ?_
  refine e_iconst hX dX2_init_52 ?_
  refine e_iconst hX dX2_init_53 ?_
  refine e_iastore hX dX2_init_54 rfl (by unfold vp_in; decide) ?_
  rw [show ((e_i0 0) : Int32).toNatClampNeg = 0 from by decide, show ((e_i0 (-1)) : Int32) = (-1) from by decide]
  refine e_dup hX dX2_init_55 rfl ?_
  refine e_iconst hX dX2_init_56 ?_
  refine e_iconst hX dX2_init_57 ?_
  refine e_iastore hX dX2_init_58 rfl (by unfold vp_in; decide) ?_
  rw [show ((e_i0 1) : Int32).toNatClampNeg = 1 from by decide, show ((e_i0 (-1)) : Int32) = (-1) from by decide]
  refine e_dup hX dX2_init_59 rfl ?_
  refine e_iconst hX dX2_init_60 ?_
  refine e_iconst hX dX2_init_61 ?_
  refine e_iastore hX dX2_init_62 rfl (by unfold vp_in; decide) ?_
  rw [show ((e_i0 2) : Int32).toNatClampNeg = 2 from by decide, show ((e_i0 (-1)) : Int32) = (-1) from by decide]
  refine e_putF (ty0 := .array .int) hX dX2_init_63 e_lk_2_35 (fun C T N h => by have h : some (RX2, TX2, 10) = some (C, T, N) := h; cases h; exact ⟨rfl, rfl, by decide +kernel⟩) (fun q => ⟨rfl, rfl⟩) rfl (by decide) hi ?_
  replace hX : e_ok 2 cX2_init X2 wc2_4 := e_ok_sh (Sh := wc2_3) rfl hX
  show e_E X2 wc2_4 66 [some (.ref 0), some (.ref 1)] [] _
  refine e_aload_n hX dX2_init_66 rfl ?_
  refine e_bipush hX dX2_init_67 ?_
  refine e_newa (t := 0) (N := 10) (ty := .int) hX ha rfl rfl wArr0 ha.2.1.1.1 (by decide) (by decide) (by decide) (by decide) (by decide) (by decide) (by decide +kernel) dX2_init_69 (fun X3 g1 hX1 ha1 => ?_)
  replace hX : e_ok 2 cX2_init X3 wc2_5 := hX1
  replace ha := ha1
  replace hR : (e_R X3).frames = 1 ∧ (e_R X3).locals = 40 * 1 := by rw [(e_gr_c g1).2.2]; exact hR
  replace hi : (e_me X3).name = "<init>" := by rw [(e_gr_c g1).1]; exact hi
  replace hL : (e_c X3).maxLocals = 2 := by rw [(e_gr_c g1).2.1]; exact hL
  replace G := e_gr_t G g1 (by decide)
  clear hX1 ha1 g1
  show e_E X3 wc2_5 71 [some (.ref 0), some (.ref 1)] [.ref 32, .ref 0] _
  refine e_putF (ty0 := .array .int) hX dX2_init_71 e_lk_2_39 (fun C T N h => by have h : some (RX2, TX2, 10) = some (C, T, N) := h; cases h; exact ⟨rfl, rfl, by decide +kernel⟩) (fun q => ⟨rfl, rfl⟩) rfl (by decide) hi ?_
  replace hX : e_ok 2 cX2_init X3 wc2_6 := e_ok_sh (Sh := wc2_5) rfl hX
  show e_E X3 wc2_6 74 [some (.ref 0), some (.ref 1)] [] _
  refine e_aload_n hX dX2_init_74 rfl ?_
  refine e_aload_n hX dX2_init_75 rfl ?_
  refine e_putF (ty0 := .object "LastLight$Book") hX dX2_init_76 e_lk_2_42 (fun C T N h => by have h : some (RX2, TX2, 10) = some (C, T, N) := h; cases h; exact ⟨rfl, rfl, by decide +kernel⟩) (fun q => ⟨rfl, rfl⟩) rfl (by decide) hi ?_
  replace hX : e_ok 2 cX2_init X3 wc2_7 := e_ok_sh (Sh := wc2_6) rfl hX
  show e_E X3 wc2_7 79 [some (.ref 0), some (.ref 1)] [] _
  exact ret X3 _ _ 79 G hX dX2_init_79 (by exact ⟨⟨rfl, rfl, rfl, rfl, rfl, rfl⟩, rfl, rfl, rfl⟩)
