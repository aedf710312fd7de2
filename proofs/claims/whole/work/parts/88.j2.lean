/-! ===== charAt, indexOf ===== -/
theorem dP_0 : decode cJ3_checkIndex_8e157 0 = .ok (.iload_n 0, 1) := by decide +kernel
theorem dP_1 : decode cJ3_checkIndex_8e157 1 = .ok (.ifCond .lt 8, 3) := by decide +kernel
theorem dP_4 : decode cJ3_checkIndex_8e157 4 = .ok (.iload_n 0, 1) := by decide +kernel
theorem dP_5 : decode cJ3_checkIndex_8e157 5 = .ok (.iload_n 1, 1) := by decide +kernel
theorem dP_6 : decode cJ3_checkIndex_8e157 6 = .ok (.if_icmp .lt 10, 3) := by decide +kernel
theorem dP_16 : decode cJ3_checkIndex_8e157 16 = .ok (.iload_n 0, 1) := by decide +kernel
theorem dP_17 : decode cJ3_checkIndex_8e157 17 = .ok (.ireturn, 1) := by decide +kernel
theorem c12_checkIndex (g : e_G) {j n : Int32} (h1 : ¬ j < 0) (h2 : j < n) (v : Value) (hv : v.category = 1) (M : e_M) : e_C g 0 yJ3_checkIndex_8e157 cJ3_checkIndex_8e157 3 (some .int) [.int j, .int n, v] [] M (fun r _ => r = some (.int j)) := by
  refine e_C_of 12 (by decide) rfl (by simp [hv]; simp [Value.category]) (Nat.le_of_ble_eq_true rfl) ?_
  intro X hX hE hL hg hR
  refine e_iload_n hX dP_0 rfl ?_
  refine e_if hX dP_1 (by decide) (fun h => absurd (show j < 0 from h) h1) (fun _ => ?_)
  refine e_iload_n hX dP_4 rfl ?_
  refine e_iload_n hX dP_5 rfl ?_
  refine e_icmp hX dP_6 (by decide) (fun _ => ?_) (fun h => absurd h2 h)
  refine e_iload_n (pc := 16) hX dP_16 rfl ?_
  exact hE 17 _ M (some (.int j)) ⟨dP_17, .int, rfl, rfl⟩ rfl
theorem c10_checkIndex (g : e_G) {j n : Int32} (h1 : ¬ j < 0) (h2 : j < n) (M : e_M) : e_C g 1 yJ0_checkIndex_df160 cJ0_checkIndex_df160 2 none [.int j, .int n] [] M (fun r _ => r = none) := by
  refine e_C_of 10 (by decide) rfl (by simp [Value.category]) (Nat.le_of_ble_eq_true rfl) ?_
  intro X hX hE hL hg hR
  refine e_iload_n hX dJ0_checkIndex_df160_0 rfl ?_
  refine e_iload_n hX dJ0_checkIndex_df160_1 rfl ?_
  have call : ∀ v : Value, v.category = 1 → e_E X [] 5 [some (.int j), some (.int n)] [v, .int n, .int j] M := by
    intro v hv
    refine e_callS0 (as0 := [.int j, .int n, v]) (rest := []) hX (Nat.le_of_ble_eq_true rfl) (c12_checkIndex (e_g X) h1 h2 v hv M) k_10_1059 rfl (e_rr hR (by decide)) (Nat.le_of_ble_eq_true rfl) dJ0_checkIndex_df160_5 (fun r N h => ?_)
    subst h
    refine e_pop (v := .int j) hX dJ0_checkIndex_df160_8 rfl ?_
    exact hE 9 _ N none ⟨dJ0_checkIndex_df160_9, rfl⟩ rfl
  exact e_getsq hX dJ0_checkIndex_df160_2 (call .null rfl) (call (.ref 1003) rfl)
def jb (i k : Nat) : Int32 := (e_byt.getD i []).getD k 0
theorem jb_c : ∀ i, i < 15 → ∀ k, k < e_len.getD i 0 → (((jb i k) &&& (e_i16 255)).toUInt32 % 65536).toInt32 = jb i k := by decide +kernel
theorem jb_n : ∀ i, i < 15 → e_len.getD i 0 ≤ 4 ∧ e_len.getD i 0 = (e_byt.getD i []).length := by decide
theorem jb_r : ∀ i, i < 15 → ∀ k, k < e_len.getD i 0 → narrow .char (.int (jb i k)) = .int (jb i k) := by decide +kernel
theorem c11_charAt (g : e_G) {i k : Nat} (hi : i < 15) (hk : k < e_len.getD i 0) (M : e_M) : e_C g 2 yJ1_charAt_3b067 cJ1_charAt_3b067 2 (some .char) [.ref (1030 + i), .int (nI k)] [] M (fun r _ => r = some (.int (jb i k))) := by
  refine e_C_of 11 (by decide) rfl (by simp [Value.category]) (Nat.le_of_ble_eq_true rfl) ?_
  intro X hX hE hL hg hR
  have h4 := (jb_n i hi).1
  refine e_iload_n hX dJ1_charAt_3b067_0 rfl ?_
  refine e_aload_n hX dJ1_charAt_3b067_1 rfl ?_
  refine e_strl hi hX dJ1_charAt_3b067_2 ?_
  refine e_callS0 (as0 := [.int (nI k), .int (nI (e_len.getD i 0))]) (rest := []) hX (Nat.le_of_ble_eq_true rfl) (c10_checkIndex (e_g X) (nI_pos (by omega)) (nI_lt hk (by omega)) M) k_11_9 rfl (e_rr hR (by decide)) (Nat.le_of_ble_eq_true rfl) dJ1_charAt_3b067_3 (fun r N h => ?_)
  subst h
  refine e_aload_n hX dJ1_charAt_3b067_6 rfl ?_
  refine e_iload_n hX dJ1_charAt_3b067_7 rfl ?_
  refine e_strb hi hX dJ1_charAt_3b067_8 (vp_in_nI hk (by omega)) ?_
  rw [nI_clamp (show k < 2 ^ 31 by omega)]
  refine e_sipush hX dJ1_charAt_3b067_9 ?_
  refine e_iand hX dJ1_charAt_3b067_12 ?_
  refine e_i2c hX dJ1_charAt_3b067_13 ?_
  rw [show (e_byt.getD i []).getD k 0 = jb i k from rfl, jb_c i hi k hk]
  exact hE 14 _ N (some (.int (jb i k))) ⟨dJ1_charAt_3b067_14, .char, rfl, jb_r i hi k hk⟩ rfl
theorem c10_charAt (g : e_G) {i k : Nat} (hi : i < 15) (hk : k < e_len.getD i 0) (M : e_M) : e_C g 3 yJ0_charAt_5068e cJ0_charAt_5068e 2 (some .char) (.ref (1010 + i) :: [nI k].map Value.int) [] M (fun r _ => r = some (.int (jb i k))) := by
  refine e_C_of 10 (by decide) rfl (by simp [Value.category]) (Nat.le_of_ble_eq_true rfl) ?_
  intro X hX hE hL hg hR
  refine e_aload_n hX dJ0_charAt_5068e_0 rfl ?_
  refine e_callVs [] (rest := []) hi hX (fun M => c10_isLatin1 (e_g X) hi M) k_10_492 rfl rfl (e_rr hR (by decide)) (Nat.le_of_ble_eq_true rfl) dJ0_charAt_5068e_1 ?_
  refine e_if hX dJ0_charAt_5068e_4 (by decide) (fun h => absurd (show (1 : Int32) = 0 from h) (by decide)) (fun _ => ?_)
  refine e_aload_n hX dJ0_charAt_5068e_7 rfl ?_
  refine e_strv hi hX dJ0_charAt_5068e_8 ?_
  refine e_iload_n hX dJ0_charAt_5068e_11 rfl ?_
  refine e_callS0 (as0 := [.ref (1030 + i), .int (nI k)]) (rest := []) hX (Nat.le_of_ble_eq_true rfl) (c11_charAt (e_g X) hi hk M) k_10_495 rfl (e_rr hR (by decide)) (Nat.le_of_ble_eq_true rfl) dJ0_charAt_5068e_12 (fun r N h => ?_)
  subst h
  exact hE 15 _ N (some (.int (jb i k))) ⟨dJ0_charAt_5068e_15, .char, rfl, jb_r i hi k hk⟩ rfl
/-- the place of x in a row from k on, or -1 -/
def js (x : Int32) : List Int32 → Nat → Int32
  | [], _ => -1
  | b :: r, k => if b = x then nI k else js x r (k + 1)
def jx (i : Nat) (x : Int32) : Int32 := js x (e_byt.getD i []) 0
theorem jb_x : ∀ i, i < 15 → ∀ k, k < e_len.getD i 0 → ∀ c, c < 256 → (jb i k = (nI c).toInt8.toInt32 ↔ jb i k = nI c) := by decide +kernel
theorem c11_indexOfChar (g : e_G) {i c : Nat} (hi : i < 15) (hc : c < 256) (M : e_M) : e_C g 0 yJ1_indexOfChar_4cfef cJ1_indexOfChar_4cfef 6 (some .int) [.ref (1030 + i), .int (nI c), .int 0, .int (nI (e_len.getD i 0))] [] M (fun r _ => r = some (.int (jx i (nI c)))) := by
  refine e_C_of 11 (by decide) rfl (by simp [Value.category]) (Nat.le_of_ble_eq_true rfl) ?_
  intro X hX hE hL hg hR
  obtain ⟨h4, hn⟩ := jb_n i hi
  have e1 : e_i0 1 = 1 := by decide
  have loop : ∀ (j k : Nat), k + j = e_len.getD i 0 → js (nI c) ((e_byt.getD i []).drop k) k = jx i (nI c) → e_E X [] 7 [some (.ref (1030 + i)), some (.int (nI c)), some (.int 0), some (.int (nI (e_len.getD i 0))), some (.int (nI c).toInt8.toInt32), some (.int (nI k))] [] M := by
    intro j
    induction j with
    | zero =>
      intro k hk hr
      have hk : k = e_len.getD i 0 := by omega
      subst hk
      rw [hn, List.drop_length] at hr
      refine e_iload hX dJ1_indexOfChar_4cfef_7 rfl ?_
      refine e_iload_n hX dJ1_indexOfChar_4cfef_9 rfl ?_
      refine e_icmp hX dJ1_indexOfChar_4cfef_10 (by decide) (fun _ => ?_) (fun h => absurd (show nI (e_len.getD i 0) ≤ nI (e_len.getD i 0) from Int32.le_refl _) h)
      refine e_iconst (pc := 31) hX dJ1_indexOfChar_4cfef_31 ?_
      exact hE 32 _ M (some (.int (-1))) ⟨dJ1_indexOfChar_4cfef_32, .int, rfl, rfl⟩ (by rw [← hr]; rfl)
    | succ j ih =>
      intro k hk hr
      have hk' : k < e_len.getD i 0 := by omega
      have hkl : k < (e_byt.getD i []).length := by omega
      refine e_iload hX dJ1_indexOfChar_4cfef_7 rfl ?_
      refine e_iload_n hX dJ1_indexOfChar_4cfef_9 rfl ?_
      refine e_icmp hX dJ1_indexOfChar_4cfef_10 (by decide) (fun h => absurd (show nI (e_len.getD i 0) ≤ nI k from h) (Int32.not_le.mpr (nI_lt hk' (by omega)))) (fun _ => ?_)
      refine e_aload_n hX dJ1_indexOfChar_4cfef_13 rfl ?_
      refine e_iload hX dJ1_indexOfChar_4cfef_14 rfl ?_
      refine e_strb hi hX dJ1_indexOfChar_4cfef_16 (vp_in_nI hk' (by omega)) ?_
      rw [nI_clamp (show k < 2 ^ 31 by omega), show (e_byt.getD i []).getD k 0 = jb i k from rfl]
      refine e_iload hX dJ1_indexOfChar_4cfef_17 rfl ?_
      have hb : (e_byt.getD i [])[k] = jb i k := by
        unfold jb
        rw [List.getD_eq_getElem?_getD (l := e_byt.getD i []), List.getElem?_eq_getElem hkl]
        rfl
      rw [List.drop_eq_getElem_cons hkl, hb] at hr
      refine e_icmp hX dJ1_indexOfChar_4cfef_19 (by decide) (fun h => ?_) (fun h => ?_)
      · have h' : ¬ jb i k = nI c := fun z => (show ¬ jb i k = (nI c).toInt8.toInt32 from h) ((jb_x i hi k hk' c hc).mpr z)
        rw [js, if_neg h'] at hr
        refine e_iinc (pc := 25) hX dJ1_indexOfChar_4cfef_25 rfl (by rw [hL]; decide) ?_
        rw [e1, ← nI_succ]
        refine e_goto hX dJ1_indexOfChar_4cfef_28 (by decide) ?_
        exact ih (k + 1) (by omega) hr
      · have h' : jb i k = nI c := (jb_x i hi k hk' c hc).mp (Classical.not_not.mp (show ¬ ¬ jb i k = (nI c).toInt8.toInt32 from h))
        rw [js, if_pos h'] at hr
        refine e_iload hX dJ1_indexOfChar_4cfef_22 rfl ?_
        exact hE 24 _ M (some (.int (nI k))) ⟨dJ1_indexOfChar_4cfef_24, .int, rfl, rfl⟩ (by rw [← hr])
  refine e_iload_n hX dJ1_indexOfChar_4cfef_0 rfl ?_
  refine e_i2b hX dJ1_indexOfChar_4cfef_1 ?_
  refine e_istore hX dJ1_indexOfChar_4cfef_2 (by rw [hL]; decide) ?_
  refine e_iload_n hX dJ1_indexOfChar_4cfef_4 rfl ?_
  refine e_istore hX dJ1_indexOfChar_4cfef_5 (by rw [hL]; decide) ?_
  exact loop (e_len.getD i 0) 0 (by omega) rfl
theorem c11_canEncode (g : e_G) {c : Nat} (hc : c < 256) (M : e_M) : e_C g 0 yJ1_canEncode_9a6ad cJ1_canEncode_9a6ad 1 (some .boolean) [.int (nI c)] [] M (fun r _ => r = some (.int 1)) := by
  refine e_C_of 11 (by decide) rfl (by simp [Value.category]) (Nat.le_of_ble_eq_true rfl) ?_
  intro X hX hE hL hg hR
  refine e_iload_n hX dJ1_canEncode_9a6ad_0 rfl ?_
  refine e_if hX dJ1_canEncode_9a6ad_1 (by decide) (fun h => absurd (show nI c < 0 from h) (nI_pos (by omega))) (fun _ => ?_)
  refine e_iload_n hX dJ1_canEncode_9a6ad_4 rfl ?_
  refine e_sipush hX dJ1_canEncode_9a6ad_5 ?_
  refine e_icmp hX dJ1_canEncode_9a6ad_8 (by decide) (fun h => absurd (show nI 255 < nI c from h) (fun z => by have := (nI_ltI (a := 255) (b := c) (by decide) (by omega)).mp z; omega)) (fun _ => ?_)
  refine e_iconst hX dJ1_canEncode_9a6ad_11 ?_
  refine e_goto hX dJ1_canEncode_9a6ad_12 (by decide) ?_
  exact hE 16 _ M (some (.int 1)) ⟨dJ1_canEncode_9a6ad_16, .boolean, rfl, rfl⟩ rfl
