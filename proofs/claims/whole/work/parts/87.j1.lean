/-! ===== the JDK's Strings: constants that nobody writes ===== -/
section JS
variable {X : e_X} {Sh : List e_S} {pc : Nat} {lo : List (Option Value)} {st : List Value} {M : e_M} {o : Nat} {cc : ByteArray}
theorem e_strv {i : Nat} (hi : i < 15) (hX : e_ok 10 cc X Sh) (hd : decode cc pc = .ok (.getfield 9, 3)) (k : e_E X Sh (pc + 3) lo (.ref (1030 + i) :: st) M) : e_E X Sh pc lo (.ref (1010 + i) :: st) M :=
  fun H locs ls hP hS hl => vk_getf hX.x hX.b (hX.c.2.2.2.2.1.1 i hi).2.2.1 hS hX.o (hX.t (.fieldLink "java/lang/String" 9 "java/lang/String" "value" "[B") (List.mem_filter.mpr (by decide +kernel))) (fun x hx => hx) hd (k H locs ls hP hS hl)
theorem e_strc {i : Nat} (hi : i < 15) (hX : e_ok 10 cc X Sh) (hd : decode cc pc = .ok (.getfield 15, 3)) (k : e_E X Sh (pc + 3) lo (.int 0 :: st) M) : e_E X Sh pc lo (.ref (1010 + i) :: st) M :=
  fun H locs ls hP hS hl => vk_getf hX.x hX.b (hX.c.2.2.2.2.1.1 i hi).2.1 hS hX.o (hX.t (.fieldLink "java/lang/String" 15 "java/lang/String" "coder" "B") (List.mem_filter.mpr (by decide +kernel))) (fun x hx => hx) hd (k H locs ls hP hS hl)
theorem e_strl {i : Nat} (hi : i < 15) (hX : e_ok o cc X Sh) (hd : decode cc pc = .ok (.arraylength, 1)) (k : e_E X Sh (pc + 1) lo (.int (nI (e_len.getD i 0)) :: st) M) : e_E X Sh pc lo (.ref (1030 + i) :: st) M :=
  fun H locs ls hP hS hl => va_tlen hX.x hX.b (hX.c.2.2.2.2.1.1 i hi).2.2.2 hS rfl hd (k H locs ls hP hS hl)
theorem e_strb {i : Nat} {j : Int32} (hi : i < 15) (hX : e_ok o cc X Sh) (hd : decode cc pc = .ok (.baload, 1)) (hj : vp_in j (e_len.getD i 0)) (k : e_E X Sh (pc + 1) lo (.int ((e_byt.getD i []).getD j.toNatClampNeg 0) :: st) M) : e_E X Sh pc lo (.int j :: .ref (1030 + i) :: st) M :=
  fun H locs ls hP hS hl => va_tb hX.x hX.b (hX.c.2.2.2.2.1.1 i hi).2.2.2 hS hj rfl hd (k H locs ls hP hS hl)
theorem e_sb_0 : e_sb [] Sh [] = true := by simp [e_sb]
theorem e_callVs0 {d idx n nL i : Nat} {y : MethodName} {cy : ByteArray} {rt : Option FieldType} {as : List Int32} {rest : List Value} {v : Int32} (hi : i < 15) (hX : e_ok o cc X Sh) (hC : ∀ M, e_C (e_g X) d y cy nL rt (.ref (1010 + i) :: as.map Value.int) [] M (fun r _ => r = some (.int v))) (hw : e_wV o idx y cy nL rt n) (hy : y.cls = "java/lang/String") (hn : as.length = n) (hR : d + 1 ≤ (e_R X).frames ∧ 40 * (d + 1) ≤ (e_R X).locals) (hr : rest.length ≤ 4) (hd : decode cc pc = .ok (.invokevirtual idx, 3))
    (k : e_E X Sh (pc + 3) lo (.int v :: rest) M) : e_E X Sh pc lo ((as.map Value.int).reverse ++ .ref (e_io [] (1010 + i)) :: rest) M := by
  intro H locs ls hP hS hl
  obtain ⟨⟨w1, w2, w3, w4, w7⟩, w5, w6⟩ := hw
  have hcv : ∀ f : Nat → Nat, (as.map Value.int).map (e_cv f) = as.map Value.int := fun f => by rw [List.map_map]; exact List.map_congr_left (fun _ _ => rfl)
  have hrv : ∃ cell : Cell, H[e_ad X (e_io [] (1010 + i))]? = some cell ∧ cell.vm.isStatics = false ∧ (e_s X).vm.findClass y.cls = some cell.cls := by
    rw [e_io_big [] (show 1000 ≤ 1010 + i by omega), hy]
    exact vk_recv (adK := fun i => e_ad X (1010 + i)) (i := i) hX.c.2.2.2.2.1 hi hS
  refine e_after (is := []) (Sh0 := []) (as0 := .ref (1010 + i) :: as.map Value.int) hX e_sb_0 hP hS hl ?_ (P := fun r _ => r = some (.int v)) (fun r N h => by subst h; exact k)
  refine va_runV (C := y.cls) (b := e_ad X (e_io [] (1010 + i))) (As := (as.map Value.int).map (e_cv (fun j => e_ad X (e_io [] j)))) (n := n) (nL := (e_c X).maxLocals) ⟨hX.x, hX.b, rfl, hX.o, hX.t⟩ (hC (fun j => M (e_io [] j)) (fun j => e_ad X (e_io [] j))) (cwV n hX.t (e_gin (by intro w h; simp only [List.mem_cons, List.not_mem_nil, or_false] at h; rcases h with rfl | rfl | rfl | rfl <;> assumption) w7) rfl rfl rfl ⟨rfl, w5⟩ ⟨hR.1, ?_⟩) ⟨e_Pc_blind _ _ _ _ _, hrv, fun U hU hW => e_pre (Sh0 := []) (as0 := .ref (1010 + i) :: as.map Value.int) hX e_sb_0 hP hS U hU hW⟩ rfl (by rw [List.length_map, List.length_map]; exact hn) hl.1 ?_ (lv_room (e_rl4 hr)) hd ⟨hX.r.1, hX.r.2⟩
  · show 8 + (nL + 11) + 40 * d ≤ _
    have := hR.2
    omega
  · show List.map _ _ = _
    rw [List.map_append, List.map_reverse, hcv, hcv]
    rfl
theorem e_callVs {d idx n nL i : Nat} {y : MethodName} {cy : ByteArray} {rt : Option FieldType} (as : List Int32) {rest : List Value} {v : Int32} (hi : i < 15) (hX : e_ok o cc X Sh) (hC : ∀ M, e_C (e_g X) d y cy nL rt (.ref (1010 + i) :: as.map Value.int) [] M (fun r _ => r = some (.int v))) (hw : e_wV o idx y cy nL rt n) (hy : y.cls = "java/lang/String") (hn : as.length = n) (hR : d + 1 ≤ (e_R X).frames ∧ 40 * (d + 1) ≤ (e_R X).locals) (hr : rest.length ≤ 4) (hd : decode cc pc = .ok (.invokevirtual idx, 3))
    (k : e_E X Sh (pc + 3) lo (.int v :: rest) M) : e_E X Sh pc lo ((as.map Value.int).reverse ++ .ref (1010 + i) :: rest) M := by
  have h := e_callVs0 (lo := lo) (rest := rest) hi hX hC hw hy hn hR hr hd k
  rw [e_io_big [] (show 1000 ≤ 1010 + i by omega)] at h
  exact h
end JS
theorem c10_coder (g : e_G) {i : Nat} (hi : i < 15) (M : e_M) : e_C g 0 yJ0_coder_7d493 cJ0_coder_7d493 1 (some .byte) [.ref (1010 + i)] [] M (fun r _ => r = some (.int 0)) := by
  refine e_C_of 10 (by decide) rfl (by simp [Value.category]) (Nat.le_of_ble_eq_true rfl) ?_
  intro X hX hE hL hg hR
  refine e_getst hX dJ0_coder_7d493_0 rfl ?_
  refine e_if hX dJ0_coder_7d493_3 (by decide) (fun h => absurd (show (1 : Int32) = 0 from h) (by decide)) (fun _ => ?_)
  refine e_aload_n hX dJ0_coder_7d493_6 rfl ?_
  refine e_strc hi hX dJ0_coder_7d493_7 ?_
  refine e_goto hX dJ0_coder_7d493_10 (by decide) ?_
  exact hE 14 _ M (some (.int 0)) ⟨dJ0_coder_7d493_14, .byte, rfl, rfl⟩ rfl
theorem c10_isLatin1 (g : e_G) {i : Nat} (hi : i < 15) (M : e_M) : e_C g 0 yJ0_isLatin1_aae02 cJ0_isLatin1_aae02 1 (some .boolean) (.ref (1010 + i) :: ([] : List Int32).map Value.int) [] M (fun r _ => r = some (.int 1)) := by
  refine e_C_of 10 (by decide) rfl (by simp [Value.category]) (Nat.le_of_ble_eq_true rfl) ?_
  intro X hX hE hL hg hR
  refine e_getst hX dJ0_isLatin1_aae02_0 rfl ?_
  refine e_if hX dJ0_isLatin1_aae02_3 (by decide) (fun h => absurd (show (1 : Int32) = 0 from h) (by decide)) (fun _ => ?_)
  refine e_aload_n hX dJ0_isLatin1_aae02_6 rfl ?_
  refine e_strc hi hX dJ0_isLatin1_aae02_7 ?_
  refine e_if hX dJ0_isLatin1_aae02_10 (by decide) (fun h => absurd (show ¬ (0 : Int32) = 0 from h) (by decide)) (fun _ => ?_)
  refine e_iconst hX dJ0_isLatin1_aae02_13 ?_
  refine e_goto hX dJ0_isLatin1_aae02_14 (by decide) ?_
  exact hE 18 _ M (some (.int 1)) ⟨dJ0_isLatin1_aae02_18, .boolean, rfl, rfl⟩ rfl
theorem js_len : ∀ i, i < 15 → nI (e_len.getD i 0) >>> ((0 : Int32) &&& 31) = nI (e_len.getD i 0) := by decide
theorem c10_length (g : e_G) {i : Nat} (hi : i < 15) (M : e_M) : e_C g 1 yJ0_length_8abf5 cJ0_length_8abf5 1 (some .int) (.ref (1010 + i) :: ([] : List Int32).map Value.int) [] M (fun r _ => r = some (.int (nI (e_len.getD i 0)))) := by
  refine e_C_of 10 (by decide) rfl (by simp [Value.category]) (Nat.le_of_ble_eq_true rfl) ?_
  intro X hX hE hL hg hR
  refine e_aload_n hX dJ0_length_8abf5_0 rfl ?_
  refine e_strv hi hX dJ0_length_8abf5_1 ?_
  refine e_strl hi hX dJ0_length_8abf5_4 ?_
  refine e_aload_n hX dJ0_length_8abf5_5 rfl ?_
  refine e_callVs [] (rest := [.int (nI (e_len.getD i 0))]) hi hX (fun M => c10_coder (e_g X) hi M) k_10_335 rfl rfl (e_rr hR (by decide)) (Nat.le_of_ble_eq_true rfl) dJ0_length_8abf5_6 ?_
  refine e_ishr hX dJ0_length_8abf5_9 ?_
  rw [js_len i hi]
  exact hE 10 _ M (some (.int (nI (e_len.getD i 0)))) ⟨dJ0_length_8abf5_10, .int, rfl, rfl⟩ rfl
