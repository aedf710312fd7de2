/-! ===== the Reader: reading ===== -/
theorem jx_lev : ∀ lev, lev < 5 → ∀ c, c < 256 → ((¬ p_sg (nI c) = 0 ∧ p_rk (p_sg (nI c)) = nI (lev + 1)) ↔ 0 ≤ jx (10 + lev) (nI c)) := by decide +kernel
theorem jx_tr : ∀ c, c < 256 → ¬ p_sg (nI c) = 0 → tr (p_sg (nI c)) = 20000 + nI c := by decide +kernel
theorem jx_nm : ∀ w, w < 3 → ∀ c, c < 256 → jx (2 + 2 * w) (nI c) = p_nm (nI w) (nI c) := by decide +kernel
theorem jx_7 : ∀ c, c < 256 → (0 ≤ jx 7 (nI c) ↔ nI c = 33) := by decide +kernel
theorem jx_8 : ∀ c, c < 256 → (0 ≤ jx 8 (nI c) ↔ nI c = 40) := by decide +kernel
theorem jx_9 : ∀ c, c < 256 → (0 ≤ jx 9 (nI c) ↔ nI c = 41) := by decide +kernel
/-- the tape holds bytes -/
def okby (T : Nat → Int32) : Prop := ∀ i, i < 96 → ∃ c, c < 256 ∧ T i = nI c
def ou (cs : List Int32) (K : e_M) : Prop := K 0 9 = nI cs.length ∧ (∀ k, k < cs.length → K 2 k = tr (cs.getD k 0)) ∧ K 0 10 = nI (cP cs)
def rs (T : Nat → Int32) (n z : Nat) (s : Tk) (cs : List Int32) (K : e_M) : Prop := (K 1 = T ∧ K 0 1 = nI n) ∧ (ct s K ∧ tw T n s ∧ tkv s) ∧ K 0 5 = -1 ∧ ou cs K ∧ cs.length + z ≤ s.2.1
def bad (p : Nat) (K : e_M) : Prop := K 0 5 = nI p ∧ p ≤ 96 ∧ 0 ≤ K 0 9 ∧ K 0 9 ≤ 96
def frr (M N : e_M) : Prop := (∀ c, ¬ c = 0 → ¬ c = 2 → N c = M c) ∧ N 0 1 = M 0 1 ∧ N 0 6 = M 0 6
theorem frr_t {M N K : e_M} (h : frr M N) (h2 : frr N K) : frr M K := ⟨fun c a b => (h2.1 c a b).trans (h.1 c a b), h2.2.1.trans h.2.1, h2.2.2.trans h.2.2⟩
theorem frr_q {M N : e_M} (h : kq M N) : frr M N := ⟨fun c a _ => h.1 c a, h.2 1 (by decide) (by decide) (by decide), h.2 6 (by decide) (by decide) (by decide)⟩
theorem cP_app : ∀ (a b : List Int32), cP (a ++ b) = cP a + cP b := by
  intro a b
  induction a with
  | nil => simp [cP]
  | cons x l ih => simp only [List.cons_append, cP, ih]; omega
theorem ou_q {cs : List Int32} {K N : e_M} (h : ou cs K) (hq : kq K N) : ou cs N := ⟨(hq.2 9 (by decide) (by decide) (by decide)).trans h.1, fun k hk => by rw [hq.1 2 (by decide)]; exact h.2.1 k hk, (hq.2 10 (by decide) (by decide) (by decide)).trans h.2.2⟩
theorem getD_app {cs : List Int32} {c : Int32} {k : Nat} (h : k < cs.length) : (cs ++ [c]).getD k 0 = cs.getD k 0 := by
  rw [List.getD_eq_getElem?_getD, List.getD_eq_getElem?_getD, List.getElem?_append_left h]
theorem getD_app_e {cs : List Int32} {c : Int32} : (cs ++ [c]).getD cs.length 0 = c := by
  rw [List.getD_eq_getElem?_getD, List.getElem?_append_right (Nat.le_refl _)]
  simp
/-- a code that is put, a sign: below 0 -/
theorem ou_neg {cs : List Int32} {K : e_M} {c : Int32} (h : ou cs K) (hc : ¬ 0 ≤ c) : ou (cs ++ [c]) (e_st (e_st K 2 cs.length (tr c)) 0 9 (nI cs.length + 1)) := by
  refine ⟨by rw [List.length_append]; exact (show _ = nI (cs.length + 1) from by rw [nI_succ]; simp [e_st_r]), fun k hk => ?_, ?_⟩
  · rw [List.length_append] at hk
    have hk : k < cs.length + 1 := hk
    by_cases e : k = cs.length
    · subst e
      rw [getD_app_e]; simp [e_st_r]
    · rw [getD_app (by omega), ← h.2.1 k (by omega)]; simp [e_st_r, e]
  · rw [cP_app]
    have : cP [c] = 0 := by simp [cP, hc]
    rw [this, Nat.add_zero, ← h.2.2]
    simp [e_st_r]
theorem ou_pos {cs : List Int32} {K : e_M} {c : Int32} (h : ou cs K) (hc : 0 ≤ c) : ou (cs ++ [c]) (e_st (e_st (e_st K 2 cs.length c) 0 9 (nI cs.length + 1)) 0 10 (nI (cP cs) + 1)) := by
  refine ⟨by rw [List.length_append]; exact (show _ = nI (cs.length + 1) from by rw [nI_succ]; simp [e_st_r]), fun k hk => ?_, ?_⟩
  · rw [List.length_append] at hk
    have hk : k < cs.length + 1 := hk
    by_cases e : k = cs.length
    · subst e
      rw [getD_app_e]; simp [e_st_r, tr, hc]
    · rw [getD_app (by omega), ← h.2.1 k (by omega)]; simp [e_st_r, e]
  · rw [cP_app]
    have : cP [c] = 1 := by simp [cP, hc]
    rw [this, nI_succ]
    simp [e_st_r]
theorem x_at {X : e_X} {cc : ByteArray} {pc D n q : Nat} {s : Tk} {rest : List Value} {lo : List (Option Value)} {K : e_M} {T : Nat → Int32} (hT : K 1 = T) (hX : e_ok 4 cc X (w_Rd q)) (hR : e_R X = e_rm D) (hD : 2 ≤ D) (hn : K 0 1 = nI n) (h96 : n ≤ 96) (hs : ct s K) (hw : tw T n s) (ht : s.2.2.1 = 1 ∨ s.2.2.1 = 2 ∨ s.2.2.1 = 3) (hr : rest.length ≤ 4) (hd : decode cc pc = .ok (.invokevirtual 55, 3))
    (kk : ∀ N, ct (adv T n s) N → tw T n (adv T n s) → kq K N → e_E X (w_Rd q) (pc + 3) lo rest N) : e_E X (w_Rd q) pc lo (.ref 0 :: rest) K := by
  subst hT
  exact x_ad hX hR hD hn h96 hs hw ht hr hd kk
theorem ct_3 {s : Tk} {K : e_M} (h : ct s K) : K 0 2 = 3 ↔ s.2.2.1 = 3 := by
  rcases h.2.2 with ⟨a, b⟩ | ⟨a, b⟩ | ⟨a, b, c⟩ | ⟨a, b⟩ | ⟨a, b | ⟨b, -⟩⟩ <;> rw [a, b] <;> decide
/-- is the token one of these signs? -/
theorem x_si {X : e_X} {cc : ByteArray} {pc D n q i z : Nat} {s : Tk} {rest : List Value} {lo : List (Option Value)} {K : e_M} {T : Nat → Int32} {cs : List Int32} (hX : e_ok 4 cc X (w_Rd q)) (hR : e_R X = e_rm D) (hD : 5 ≤ D) (hi : i < 15) (h0 : 0 < e_len.getD i 0) (hb : okby T) (h : rs T n z s cs K) (h96 : n ≤ 96) (hr : rest.length ≤ 4) (hd : decode cc pc = .ok (.invokevirtual 92, 3))
    (kk : e_E X (w_Rd q) (pc + 3) lo (.int (if s.2.2.1 = 3 ∧ 0 ≤ jx i (T s.2.1) then 1 else 0) :: rest) K) : e_E X (w_Rd q) pc lo (.ref (1010 + i) :: .ref 0 :: rest) K := by
  obtain ⟨⟨rfl, hn⟩, ⟨hc, hw, -⟩, -⟩ := h
  by_cases h3 : s.2.2.1 = 3
  · have hlt := tko_lt hw.1 (by rw [h3]; decide)
    obtain ⟨c, c1, c2⟩ := hb s.2.1 (by omega)
    refine e_callV0 (a0 := 0) (as0 := [.ref (1010 + i)]) (rest := rest) hX (Nat.le_of_ble_eq_true rfl) (c4_isSignOf (e_g X) K hi h0 s.2.1 c hc.1 (fun _ => ⟨by omega, c2, c1⟩)) k_4_92 rfl rfl rfl (e_rr hR (by omega)) hr hd (fun r N hN => ?_)
    obtain ⟨rfl, rfl⟩ := hN
    have e : (N 0 2 = 3 ∧ 0 ≤ jx i (N 1 s.2.1)) ↔ (s.2.2.1 = 3 ∧ 0 ≤ jx i (N 1 s.2.1)) := by rw [ct_3 hc]
    simp only [e]
    exact kk
  · have h3' : ¬ K 0 2 = 3 := fun z => h3 ((ct_3 hc).mp z)
    refine e_callV0 (a0 := 0) (as0 := [.ref (1010 + i)]) (rest := rest) hX (Nat.le_of_ble_eq_true rfl) (c4_isSignOf (e_g X) K hi h0 s.2.1 0 hc.1 (fun z => absurd z h3')) k_4_92 rfl rfl rfl (e_rr hR (by omega)) hr hd (fun r N hN => ?_)
    obtain ⟨rfl, rfl⟩ := hN
    have e : (N 0 2 = 3 ∧ 0 ≤ jx i (N 1 s.2.1)) ↔ (s.2.2.1 = 3 ∧ 0 ≤ jx i (N 1 s.2.1)) := by rw [ct_3 hc]
    simp only [e]
    exact kk
def f4_putPiece (as : List Int32) (M : e_M) : Prop × Option Int32 × e_M := (False, none, M)
set_option maxRecDepth 40000 in
set_option maxHeartbeats 1000001 in
theorem c4_putPiece {q n z : Nat} (g : e_G) (K : e_M) {T : Nat → Int32} {s : Tk} {cs : List Int32} (c : Int32) (h : rs T n z s cs K) (h96 : n ≤ 96) (ht : s.2.2.1 = 1 ∨ s.2.2.1 = 2) (hc : 0 ≤ c) : e_C g 2 yX4_putPiece cX4_putPiece 2 none [.ref 0, .int c] (w_Rd q) K (fun r N => r = none ∧ frr K N ∧ rs T n z (adv T n s) (cs ++ [c]) N) := by
  refine e_C_of 4 (by decide) rfl (by simp [Value.category]) (Nat.le_of_ble_eq_true rfl) ?_
  intro X hX hE hL hg hR
  obtain ⟨⟨hT, hn⟩, ⟨h1, hw, hv⟩, h5, ho, hl⟩ := h
  have hlt := tko_lt hw.1 (by rcases ht with z | z <;> rw [z] <;> decide)
  have h9 := ho.1
  have h10 := ho.2.2
  have a1 : nI cs.length < 96 := nI_lt (b := 96) (by omega) (by decide)
  have a2 : 0 ≤ nI cs.length := nI_pos' (by omega)
  have a3 : nI cs.length ≤ 96 := nI_le (b := 96) (by omega) (by decide)
  have a4 : (nI cs.length).toNatClampNeg = cs.length := nI_clamp (by omega)
  have ho2 := ou_pos ho hc
  have hf : frr K (e_st (e_st (e_st K 2 cs.length c) 0 9 (nI cs.length + 1)) 0 10 (nI (cP cs) + 1)) := by
    refine ⟨fun b b0 b2 => ?_, by simp [e_st_r], by simp [e_st_r]⟩
    simp [e_st, b0, b2]
  refine e_wp_ok 9999 9999 hX hE hL (fn := [(97, some 0, 1, f4_put)]) (List.forall_mem_cons.mpr ⟨(e_foV (a := 0) hX (Nat.le_of_ble_eq_true (rfl : Nat.ble (w_Rd q).length 1000 = true)) k_4_97 rfl rfl (e_rr hR (by decide)) (fun as M h1 h2 => c4_put (e_g X) M as h1 h2)), (fun _ h => absurd h List.not_mem_nil)⟩) 30 ?_; simp only [Nat.reduceAdd, Nat.reduceSub, Nat.reduceLT, Nat.reduceEqDiff, ↓reduceIte, true_and, and_true, Int.reduceAdd, Int.reduceLE, Int.reduceToNat, Int.reduceNeg, Int.reduceNatCast', Int.reduceNatCast, List.map_cons, List.map_nil, List.length_cons, List.length_nil, List.cons_append, List.nil_append, List.replicate_succ, List.replicate_zero, w_kt, Classical.not_not, Int32.reduceToNatClampNeg, List.size_toArray, Int.reduceSub, Int.reduceEq, not_false_eq_true, x_n2, x_n3, x_n6, x_n9, x_n10, x_n60, x_n100, x_n600, x_n1000, e_st_r, x_isi, x_vi, x_isl, x_vl, x_isa, x_va, x_iadd, x_isub, x_imul, x_iand, x_ior, x_ishl, x_ishr, x_iushr, x_idiv, x_irem, x_ineg, x_ladd, x_lsub, x_lcmp, x_lneg, x_i2l, x_l2i, x_i2s, x_i2b, x_i2c, x_iconst, x_bipush, x_sipush, x_lconst, x_iload_n, x_iload, x_lload_n, x_lload, x_aload_n, x_aload, x_istore_n, x_istore, x_astore_n, x_astore, x_lstore_n, x_lstore, x_iinc, x_dup_int, x_pop_int, x_dup_ref, x_pop_ref, x_dup2, x_if_icmp, x_ifCond, x_goto, x_iaload, x_baload, x_caload, x_iastore, x_bastore, x_invokevirtual, x_invokestatic, x_ireturn, x_lreturn, x_areturn, x_return_, x_tableswitch, x_lookupswitch, x_nx, x_wp, x_kp, x_kq, x_tw0, x_tws, x_lw0, x_lws, x_wp0, x_dm, x_gi, x_gl, x_ga, x_g0, x_gs, x_s0, x_s1, x_s2, x_k0, x_k1, x_k2, x_k3, x_f0, x_f1, x_f2, x_f3, x_os, x_osn, x_gf1, x_gf2, x_ceq, x_cne, x_clt, x_cge, x_cgt, x_cle, x_nri, x_nz0, x_fz0, x_vn0, x_nz1, x_fz1, x_vn1, x_rl0, x_rl1, x_rl2, x_rl3, x_rl4, x_go, x_ps1, x_ps0, x_pi0, x_pis, x_cl0, x_clv, x_cls, x_clvn, x_clsn, x_r1, x_tn, x_tr3, x_tr4, x_tr5, x_i0, x_i1, x_i2, x_i3, x_i4, x_i5, x_i6, x_i7, x_i8, x_i9, x_i10, x_i11, x_i12, x_i13, x_i14, x_i15, x_i16, x_i17, x_i18, x_i19, x_i20, x_i21, x_i22, x_i23, x_i24, x_i25, x_i26, x_i27, x_i28, x_i29, x_i30, x_i31, x_i32, x_i33, x_i34, x_i35, x_i36, x_i37, x_i38, x_i39, x_i40, x_i41, x_i42, x_i43, x_i44, x_i45, x_im12, x_im11, x_im10, x_im9, x_im8, x_im7, x_im6, x_im5, x_im4, x_im3, x_im2, x_im1, x_i60, x_i61, x_i62, x_i124, x_i47, x_i100, x_bm10, x_bm100, x_bm11, x_bm2, x_bm3, x_bm4, x_bm5, x_bm6, x_bm60, x_bm7, x_bm8, x_bm9, x_b10, x_b100, x_b101, x_b102, x_b105, x_b11, x_b110, x_b112, x_b114, x_b117, x_b119, x_b12, x_b120, x_b122, x_b124, x_b14, x_b16, x_b17, x_b20, x_b24, x_b30, x_b32, x_b33, x_b40, x_b41, x_b48, x_b50, x_b57, x_b59, x_b6, x_b60, x_b63, x_b7, x_b8, x_b9, x_b90, x_b96, x_b97, x_b98, x_b99, x_w1000, x_w10000, x_w10001, x_w1023, x_w12345, x_w1468, x_w200, x_w20000, x_w20033, x_w255, x_w300, x_w580, x_w599, x_w600, x_w9999, x_nrb, x_nrb2, x_in0_3, x_in1_3, x_in2_3, x_in0_4, x_in1_4, x_in2_4, x_in3_4, x_in0_5, x_in1_5, x_in2_5, x_in3_5, x_in4_5, x_in0_6, x_in1_6, x_in2_6, x_in3_6, x_in4_6, x_in5_6, x_in0_9, x_in1_9, x_in2_9, x_in3_9, x_in4_9, x_in5_9, x_in6_9, x_in7_9, x_in8_9, x_in0_10, x_in1_10, x_in2_10, x_in3_10, x_in4_10, x_in5_10, x_in6_10, x_in7_10, x_in8_10, x_in9_10, x_in0_11, x_in1_11, x_in2_11, x_in3_11, x_in4_11, x_in5_11, x_in6_11, x_in7_11, x_in8_11, x_in9_11, x_in10_11, x_in0_14, x_in1_14, x_in2_14, x_in3_14, x_in4_14, x_in5_14, x_in6_14, x_in7_14, x_in8_14, x_in9_14, x_in10_14, x_in11_14, x_in12_14, x_in13_14, x_in0_24, x_in1_24, x_in2_24, x_in3_24, x_in4_24, x_in5_24, x_in6_24, x_in7_24, x_in8_24, x_in9_24, x_in10_24, x_in11_24, x_in12_24, x_in13_24, x_in14_24, x_in15_24, x_in0_60, x_in1_60, x_in2_60, x_in3_60, x_in4_60, x_in5_60, x_in6_60, x_in7_60, x_in8_60, x_in9_60, x_in10_60, x_in11_60, x_in12_60, x_in13_60, x_in14_60, x_in15_60, x_in0_96, x_in1_96, x_in2_96, x_in3_96, x_in4_96, x_in5_96, x_in6_96, x_in7_96, x_in8_96, x_in9_96, x_in10_96, x_in11_96, x_in12_96, x_in13_96, x_in14_96, x_in15_96, x_in0_120, x_in1_120, x_in2_120, x_in3_120, x_in4_120, x_in5_120, x_in6_120, x_in7_120, x_in8_120, x_in9_120, x_in10_120, x_in11_120, x_in12_120, x_in13_120, x_in14_120, x_in15_120, x_in0_1468, x_in1_1468, x_in2_1468, x_in3_1468, x_in4_1468, x_in5_1468, x_in6_1468, x_in7_1468, x_in8_1468, x_in9_1468, x_in10_1468, x_in11_1468, x_in12_1468, x_in13_1468, x_in14_1468, x_in15_1468, w_Rd_g4_46_0, w_Rd_g4_9_0, w_Rd_p4_9_0, w_Rd_g4_15_0, w_Rd_p4_15_0, w_Rd_g4_18_0, w_Rd_p4_18_0, w_Rd_g4_21_0, w_Rd_p4_21_0, w_Rd_g4_24_0, w_Rd_p4_24_0, w_Rd_g4_27_0, w_Rd_p4_27_0, w_Rd_g4_32_0, w_Rd_g4_36_0, w_Rd_g4_40_0, w_Rd_p4_40_0, w_Rd_g4_43_0, w_Rd_p4_43_0, w_Rd_i1, w_Rd_l1, w_Rd_i2, w_Rd_l2, w_Rd_t1000, w_Rd_tl1000, w_Rd_t1001, w_Rd_tl1001, w_Rd_t1002, w_Rd_tl1002, dX4_putPiece_0, dX4_putPiece_1, dX4_putPiece_2, dX4_putPiece_5, dX4_putPiece_6, dX4_putPiece_7, dX4_putPiece_10, dX4_putPiece_11, dX4_putPiece_12, dX4_putPiece_15, dX4_putPiece_16, dX4_putPiece_19, f4_putPiece, f4_put, x_po, x_oi, x_on, x_b0, x_n1e, eq_self, not_true_eq_false, not_false_eq_true, false_implies, forall_const, implies_true, and_true, true_and, false_and, and_self, if_false, if_true, h9, h10, a1, a2, a3, a4]
  refine x_at (T := T) (s := s) (n := n) (rest := []) ((hf.1 1 (by decide) (by decide)).trans hT) hX hR (by decide) (hf.2.1.trans hn) h96 ⟨by simpa [e_st_r] using h1.1, by simpa [e_st_r] using h1.2.1, by simpa [e_st_r] using h1.2.2⟩ hw (by rcases ht with z | z <;> simp [z]) (Nat.le_of_ble_eq_true rfl) dX4_putPiece_16 (fun N b1 b2 b3 => ?_)
  have hN := frr_t hf (frr_q b3)
  have hlt2 := (adv_ok (T := T) (n := n) (s := s) hlt.2).2
  exact hE 19 _ N none ⟨dX4_putPiece_19, rfl⟩ ⟨rfl, hN, ⟨(hN.1 1 (by decide) (by decide)).trans hT, hN.2.1.trans hn⟩, ⟨b1, b2, adv_v⟩, (b3.2 5 (by decide) (by decide) (by decide)).trans (by simpa [e_st_r] using h5), ou_q ho2 b3, by rw [List.length_append]; show cs.length + 1 + z ≤ _; omega⟩
