/-! ===== the law: its loop ===== -/
theorem and_63 (x : Int32) : ∃ c, c < 64 ∧ x &&& e_i8 63 = nI c := by
  have e : e_i8 63 = 63 := by decide
  have hle : x.toBitVec.toNat &&& 63 ≤ 63 := Nat.and_le_right
  refine ⟨x.toBitVec.toNat &&& 63, by omega, ?_⟩
  rw [e]
  apply Int32.toBitVec_inj.mp
  apply BitVec.eq_of_toNat_eq
  rw [Int32.toBitVec_and, BitVec.toNat_and]
  show x.toBitVec.toNat &&& 63 = (BitVec.ofNat 32 (x.toBitVec.toNat &&& 63)).toNat
  rw [BitVec.toNat_ofNat, Nat.mod_eq_of_lt (by omega)]
theorem lw_cmp {L a : Nat} (hL : L ≤ 3072) (ha : a ≤ 4000) : nI L - e_i8 6 < nI a ↔ L < a + 6 := by
  have e6 : e_i8 6 = nI 6 := by decide
  rw [e6]
  by_cases h : 6 ≤ L
  · rw [pk_sub h, nI_ltI (by omega) (by omega)]
    omega
  · have neg : nI L - nI 6 < 0 := by
      have : L = 0 ∨ L = 1 ∨ L = 2 ∨ L = 3 ∨ L = 4 ∨ L = 5 := by omega
      rcases this with rfl | rfl | rfl | rfl | rfl | rfl <;> decide
    exact ⟨fun _ => by omega, fun _ => Int32.lt_of_lt_of_le neg (nI_pos' (by omega))⟩
set_option maxRecDepth 100000 in
set_option maxHeartbeats 4000000 in
theorem lw_loop {X : e_X} {L : Nat} {xs : Nat → Int32} (hX0 : e_ok 9 cL_law X (w_LR 1010)) (hs : sc X L xs) (hL : L ≤ 3072) (hR : e_R X = room_1) (hm : (e_c X).maxLocals = 4) (fin : ∀ (q t : Nat) (M : e_M), e_E X (w_LR q) 1424 (lo4 t) [] M) : ∀ (r t : Nat), t + r = L / 6 → ∀ (q : Nat) (M : e_M), oknq q → invL M → e_E X (w_LR q) 18 (lo4 t) [] M := by
  have hXq : ∀ q, e_ok 9 cL_law X (w_LR q) := fun q => e_ok_sh (Sh := w_LR 1010) rfl hX0
  intro r
  induction r with
  | zero =>
    intro t ht q M hq hI
    have hX := hXq q
    refine e_iload_n hX dL_law_18 rfl ?_
    refine e_aload_n hX dL_law_19 rfl ?_
    refine e_sl hX hs dL_law_20 ?_
    refine e_bipush hX dL_law_21 ?_
    refine e_isub hX dL_law_23 ?_
    refine e_icmp hX dL_law_24 (by decide) (fun _ => fin q t M) (fun z => absurd (show e_cm .gt _ _ from (lw_cmp hL (by omega)).mpr (by omega)) z)
  | succ r ih =>
    intro t ht q M hq hI
    have hX := hXq q
    have ht6 : 6 * t + 6 ≤ L := by omega
    have next : ∀ (q' : Nat) (M2 : e_M), oknq q' → invL M2 → e_E X (w_LR q') 1418 (lo4 t) [] M2 := by
      intro q' M2 hq' hI2
      refine e_iinc (hXq q') dL_law_1418 rfl (by rw [hm]; decide) ?_
      refine e_goto (hXq q') dL_law_1421 (by decide) ?_
      have e6 : nI (6 * t) + e_i0 6 = nI (6 * (t + 1)) := by rw [show e_i0 6 = nI 6 from by decide, nI_add]; rfl
      show e_E X (w_LR q') 18 [some (.ref 1004), some (.ref 0), some (.ref 90), some (.int (nI (6 * t) + e_i0 6))] [] M2
      rw [e6]
      exact ih (t + 1) (by omega) q' M2 hq' hI2
    obtain ⟨p, hp, hp2⟩ := inv_7 hI.2
    refine e_iload_n hX dL_law_18 rfl ?_
    refine e_aload_n hX dL_law_19 rfl ?_
    refine e_sl hX hs dL_law_20 ?_
    refine e_bipush hX dL_law_21 ?_
    refine e_isub hX dL_law_23 ?_
    refine e_icmp hX dL_law_24 (by decide) (fun z => absurd ((lw_cmp hL (by omega)).mp z) (by omega)) (fun _ => ?_)
    refine e_aload_n hX dL_law_27 rfl ?_
    refine e_iload_n hX dL_law_28 rfl ?_
    refine e_sa hX hs (vp_in_nI (by omega) (by omega)) dL_law_29 ?_
    refine e_bipush hX dL_law_30 ?_
    refine e_iand hX dL_law_32 ?_
    refine e_tswitch hX dL_law_33 (by decide) (by decide) (fun _ => next q M hq hI) ?_
    exact (And.intro (fun _ => And.intro (by decide) (lc_0 hX hs hR ht6 hL hI (fun M2 h => next q M2 hq h))) (And.intro (fun _ => And.intro (by decide) (lc_1 hX hs hR ht6 hL hI (fun M2 h => next q M2 hq h))) (And.intro (fun _ => And.intro (by decide) (lc_2 hX hs hR ht6 hL hI (fun M2 h => next q M2 hq h))) (And.intro (fun _ => And.intro (by decide) (lc_3 hX hs hR ht6 hL hI (fun M2 h => next q M2 hq h))) (And.intro (fun _ => And.intro (by decide) (lc_4 hX hs hR ht6 hL hI (fun M2 h => next q M2 hq h))) (And.intro (fun _ => And.intro (by decide) (lc_5 hX hs hR ht6 hL hI (fun M2 h => next q M2 hq h))) (And.intro (fun _ => And.intro (by decide) (lc_6 hX hs hR ht6 hL hI (fun M2 h => next q M2 hq h))) (And.intro (fun _ => And.intro (by decide) (lc_7 hX hs hR ht6 hL hI (fun M2 h => next q M2 hq h))) (And.intro (fun _ => And.intro (by decide) (lc_8 hX hs hR ht6 hL hI (fun M2 h => next q M2 hq h))) (And.intro (fun _ => And.intro (by decide) (lc_9 hX hs hR ht6 hL hI (fun M2 h => next q M2 hq h))) (And.intro (fun _ => And.intro (by decide) (lc_10 hX hs hR ht6 hL hI (fun M2 h => next q M2 hq h))) (And.intro (fun _ => And.intro (by decide) (lc_11 hX hs hR ht6 hL hI (fun M2 h => next q M2 hq h))) (And.intro (fun _ => And.intro (by decide) (lc_12 hX hs hR ht6 hL hI (fun M2 h => next q M2 hq h))) (And.intro (fun _ => And.intro (by decide) (lc_13 hX hs hR ht6 hL hI (fun M2 h => next q M2 hq h))) (And.intro (fun _ => And.intro (by decide) (lc_14 hX hs hR ht6 hL hI (fun M2 h => next q M2 hq h))) (And.intro (fun _ => And.intro (by decide) (lc_15 hX hs hR ht6 hL hI (fun M2 h => next q M2 hq h))) (And.intro (fun _ => And.intro (by decide) (lc_16 hX hs hR ht6 hL hI (fun M2 h => next q M2 hq h))) (And.intro (fun _ => And.intro (by decide) (lc_17 hX hs hR ht6 hL hI (fun M2 h => next q M2 hq h))) (And.intro (fun _ => And.intro (by decide) (lc_18 hX hs hR ht6 hL hI (fun M2 h => next q M2 hq h))) (And.intro (fun _ => And.intro (by decide) (lc_19 hX hs hR ht6 hL hI (fun M2 h => next q M2 hq h))) (And.intro (fun _ => And.intro (by decide) (lc_20 hX hs hR ht6 hL hI (fun M2 h => next q M2 hq h))) (And.intro (fun _ => And.intro (by decide) (lc_21 hX hs hR ht6 hL hI (fun M2 h => next q M2 hq h))) (And.intro (fun _ => And.intro (by decide) (lc_22 hX hs hR ht6 hL hI (fun M2 h => next q M2 hq h))) (And.intro (fun _ => And.intro (by decide) (lw_text hX hR hq hI hp hp2 next rfl rfl)) (And.intro (fun _ => And.intro (by decide) (lc_24 hX hs hR ht6 hL hI (fun M2 h => next q M2 hq h))) (And.intro (fun _ => And.intro (by decide) (lc_25 hX hs hR ht6 hL hI (fun M2 h => next q M2 hq h))) (And.intro (fun _ => And.intro (by decide) (lc_26 hX hs hR ht6 hL hI (fun M2 h => next q M2 hq h))) (And.intro (fun _ => And.intro (by decide) (lc_27 hX hs hR ht6 hL hI (fun M2 h => next q M2 hq h))) (And.intro (fun _ => And.intro (by decide) (lc_28 hX hs hR ht6 hL hI (fun M2 h => next q M2 hq h))) (And.intro (fun _ => And.intro (by decide) (lc_29 hX hs hR ht6 hL hI (fun M2 h => next q M2 hq h))) (And.intro (fun _ => And.intro (by decide) (lc_30 hX hs hR ht6 hL hI (fun M2 h => next q M2 hq h))) (And.intro (fun _ => And.intro (by decide) (lc_31 hX hs hR ht6 hL hI (fun M2 h => next q M2 hq h))) (And.intro (fun _ => And.intro (by decide) (lc_32 hX hs hR ht6 hL hI (fun M2 h => next q M2 hq h))) (And.intro (fun _ => And.intro (by decide) (lc_33 hX hs hR ht6 hL hI (fun M2 h => next q M2 hq h))) (And.intro (fun _ => And.intro (by decide) (lc_34 hX hs hR ht6 hL hI (fun M2 h => next q M2 hq h))) (And.intro (fun _ => And.intro (by decide) (lc_35 hX hs hR ht6 hL hI (fun M2 h => next q M2 hq h))) (And.intro (fun _ => And.intro (by decide) (lc_36 hX hs hR ht6 hL hI (fun M2 h => next q M2 hq h))) (And.intro (fun _ => And.intro (by decide) (lc_37 hX hs hR ht6 hL hI (fun M2 h => next q M2 hq h))) (And.intro (fun _ => And.intro (by decide) (lc_38 hX hs hR ht6 hL hI (fun M2 h => next q M2 hq h))) (And.intro (fun _ => And.intro (by decide) (lc_39 hX hs hR ht6 hL hI (fun M2 h => next q M2 hq h))) trivial))))))))))))))))))))))))))))))))))))))))
