theorem c11_indexOf (g : e_G) {i c : Nat} (hi : i < 15) (h0 : 0 < e_len.getD i 0) (hc : c < 256) (M : e_M) : e_C g 1 yJ1_indexOf_4cfef cJ1_indexOf_4cfef 4 (some .int) [.ref (1030 + i), .int (nI c), .int 0, .int (nI (e_len.getD i 0))] [] M (fun r _ => r = some (.int (jx i (nI c)))) := by
  refine e_C_of 11 (by decide) rfl (by simp [Value.category]) (Nat.le_of_ble_eq_true rfl) ?_
  intro X hX hE hL hg hR
  have h4 := (jb_n i hi).1
  have em : ∀ v : Int32, (if v < v then v else v) = v := fun v => ite_self v
  refine e_iload_n hX dJ1_indexOf_4cfef_0 rfl ?_
  refine e_callS0 (as0 := [.int (nI c)]) (rest := []) hX (Nat.le_of_ble_eq_true rfl) (c11_canEncode (e_g X) hc M) k_11_88 rfl (e_rr hR (by decide)) (Nat.le_of_ble_eq_true rfl) dJ1_indexOf_4cfef_1 (fun r N h => ?_)
  subst h
  refine e_if hX dJ1_indexOf_4cfef_4 (by decide) (fun _ => ?_) (fun h => absurd (show ¬ (1 : Int32) = 0 by decide) h)
  refine e_iload_n (pc := 9) hX dJ1_indexOf_4cfef_9 rfl ?_
  refine e_iconst hX dJ1_indexOf_4cfef_10 ?_
  refine x_max hX (e_tbl_at 663 (by decide +kernel) (by decide +kernel)) (e_rr (d := 0) hR (by decide)) _ _ [] _ [0, 0] rfl trivial (Nat.le_of_ble_eq_true rfl) dJ1_indexOf_4cfef_11 ?_
  show e_E X [] 14 _ [.int (if (0 : Int32) < 0 then 0 else 0)] N
  rw [em 0]
  refine e_istore_n hX dJ1_indexOf_4cfef_14 (by rw [hL]; decide) ?_
  refine e_iload_n hX dJ1_indexOf_4cfef_15 rfl ?_
  refine e_aload_n hX dJ1_indexOf_4cfef_16 rfl ?_
  refine e_strl hi hX dJ1_indexOf_4cfef_17 ?_
  refine x_min hX (e_tbl_at 664 (by decide +kernel) (by decide +kernel)) (e_rr (d := 0) hR (by decide)) _ _ [] _ [nI (e_len.getD i 0), nI (e_len.getD i 0)] rfl trivial (Nat.le_of_ble_eq_true rfl) dJ1_indexOf_4cfef_18 ?_
  show e_E X [] 21 _ [.int (if nI (e_len.getD i 0) < nI (e_len.getD i 0) then nI (e_len.getD i 0) else nI (e_len.getD i 0))] N
  rw [em]
  refine e_istore_n hX dJ1_indexOf_4cfef_21 (by rw [hL]; decide) ?_
  refine e_iload_n hX dJ1_indexOf_4cfef_22 rfl ?_
  refine e_iload_n hX dJ1_indexOf_4cfef_23 rfl ?_
  refine e_icmp hX dJ1_indexOf_4cfef_24 (by decide) (fun _ => ?_) (fun h => absurd (show nI 0 < nI (e_len.getD i 0) from nI_lt h0 (by omega)) h)
  refine e_aload_n (pc := 29) hX dJ1_indexOf_4cfef_29 rfl ?_
  refine e_iload_n hX dJ1_indexOf_4cfef_30 rfl ?_
  refine e_iload_n hX dJ1_indexOf_4cfef_31 rfl ?_
  refine e_iload_n hX dJ1_indexOf_4cfef_32 rfl ?_
  refine e_callS0 (as0 := [.ref (1030 + i), .int (nI c), .int 0, .int (nI (e_len.getD i 0))]) (rest := []) hX (Nat.le_of_ble_eq_true rfl) (c11_indexOfChar (e_g X) hi hc N) k_11_95 rfl (e_rr hR (by decide)) (Nat.le_of_ble_eq_true rfl) dJ1_indexOf_4cfef_33 (fun r N h => ?_)
  subst h
  exact hE 36 _ N (some (.int (jx i (nI c)))) ⟨dJ1_indexOf_4cfef_36, .int, rfl, rfl⟩ rfl
theorem c10_indexOf2 (g : e_G) {i c : Nat} (hi : i < 15) (h0 : 0 < e_len.getD i 0) (hc : c < 256) (M : e_M) : e_C g 2 yJ0_indexOf_7cf53 cJ0_indexOf_7cf53 3 (some .int) (.ref (1010 + i) :: [nI c, 0].map Value.int) [] M (fun r _ => r = some (.int (jx i (nI c)))) := by
  refine e_C_of 10 (by decide) rfl (by simp [Value.category]) (Nat.le_of_ble_eq_true rfl) ?_
  intro X hX hE hL hg hR
  refine e_aload_n hX dJ0_indexOf_7cf53_0 rfl ?_
  refine e_callVs [] (rest := []) hi hX (fun M => c10_isLatin1 (e_g X) hi M) k_10_492 rfl rfl (e_rr hR (by decide)) (Nat.le_of_ble_eq_true rfl) dJ0_indexOf_7cf53_1 ?_
  refine e_if hX dJ0_indexOf_7cf53_4 (by decide) (fun h => absurd (show (1 : Int32) = 0 from h) (by decide)) (fun _ => ?_)
  refine e_aload_n hX dJ0_indexOf_7cf53_7 rfl ?_
  refine e_strv hi hX dJ0_indexOf_7cf53_8 ?_
  refine e_iload_n hX dJ0_indexOf_7cf53_11 rfl ?_
  refine e_iload_n hX dJ0_indexOf_7cf53_12 rfl ?_
  refine e_aload_n hX dJ0_indexOf_7cf53_13 rfl ?_
  refine e_callVs [] (rest := [.int 0, .int (nI c), .ref (1030 + i)]) hi hX (fun M => c10_length (e_g X) hi M) k_10_505 rfl rfl (e_rr hR (by decide)) (Nat.le_of_ble_eq_true rfl) dJ0_indexOf_7cf53_14 ?_
  refine e_callS0 (as0 := [.ref (1030 + i), .int (nI c), .int 0, .int (nI (e_len.getD i 0))]) (rest := []) hX (Nat.le_of_ble_eq_true rfl) (c11_indexOf (e_g X) hi h0 hc M) k_10_637 rfl (e_rr hR (by decide)) (Nat.le_of_ble_eq_true rfl) dJ0_indexOf_7cf53_17 (fun r N h => ?_)
  subst h
  refine e_goto hX dJ0_indexOf_7cf53_20 (by decide) ?_
  exact hE 36 _ N (some (.int (jx i (nI c)))) ⟨dJ0_indexOf_7cf53_36, .int, rfl, rfl⟩ rfl
theorem c10_indexOf (g : e_G) {i c : Nat} (hi : i < 15) (h0 : 0 < e_len.getD i 0) (hc : c < 256) (M : e_M) : e_C g 3 yJ0_indexOf_0f7a4 cJ0_indexOf_0f7a4 2 (some .int) (.ref (1010 + i) :: [nI c].map Value.int) [] M (fun r _ => r = some (.int (jx i (nI c)))) := by
  refine e_C_of 10 (by decide) rfl (by simp [Value.category]) (Nat.le_of_ble_eq_true rfl) ?_
  intro X hX hE hL hg hR
  refine e_aload_n hX dJ0_indexOf_0f7a4_0 rfl ?_
  refine e_iload_n hX dJ0_indexOf_0f7a4_1 rfl ?_
  refine e_iconst hX dJ0_indexOf_0f7a4_2 ?_
  refine e_callVs [nI c, 0] (rest := []) hi hX (fun M => c10_indexOf2 (e_g X) hi h0 hc M) k_10_633 rfl rfl (e_rr hR (by decide)) (Nat.le_of_ble_eq_true rfl) dJ0_indexOf_0f7a4_3 ?_
  exact hE 6 _ M (some (.int (jx i (nI c)))) ⟨dJ0_indexOf_0f7a4_6, .int, rfl, rfl⟩ rfl
