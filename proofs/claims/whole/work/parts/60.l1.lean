/-! ===== LastLight: the world L; its houses at 24 (now), 37 (image), 50 (thought) ===== -/
def iH (h : Nat) : List Nat := [h, h + 1, h + 2, h + 3, h + 4, h + 5, h + 6, h + 7, h + 8, h + 9, h + 10, h + 11, h + 12, 2, 3, 4, 5, 6, 7, 8, 9, 10, 11, 12, 13, 14, 15, 16, 17, 18, 19, 20, 21]
theorem iH_1 {h j : Nat} (hj : j < 13) : e_io (iH h) j = h + j := by
  have : j = 0 ∨ j = 1 ∨ j = 2 ∨ j = 3 ∨ j = 4 ∨ j = 5 ∨ j = 6 ∨ j = 7 ∨ j = 8 ∨ j = 9 ∨ j = 10 ∨ j = 11 ∨ j = 12 := by omega
  rcases this with rfl | rfl | rfl | rfl | rfl | rfl | rfl | rfl | rfl | rfl | rfl | rfl | rfl <;> rfl
theorem iH_2 {h j : Nat} (h1 : 13 ≤ j) (hj : j < 33) : e_io (iH h) j = j - 11 := by
  have : j = 13 ∨ j = 14 ∨ j = 15 ∨ j = 16 ∨ j = 17 ∨ j = 18 ∨ j = 19 ∨ j = 20 ∨ j = 21 ∨ j = 22 ∨ j = 23 ∨ j = 24 ∨ j = 25 ∨ j = 26 ∨ j = 27 ∨ j = 28 ∨ j = 29 ∨ j = 30 ∨ j = 31 ∨ j = 32 := by omega
  rcases this with rfl | rfl | rfl | rfl | rfl | rfl | rfl | rfl | rfl | rfl | rfl | rfl | rfl | rfl | rfl | rfl | rfl | rfl | rfl | rfl <;> rfl
abbrev okh (h : Nat) : Prop := h = 24 ∨ h = 37 ∨ h = 50
theorem iH_sb {q h : Nat} (hh : okh h) : e_sb (iH h) (w_L q) w_H = true := by
  rcases hh with rfl | rfl | rfl <;> rfl
theorem hr_ext {A : Nat → Int32} {M N : e_M} (h : hr A M) (e : ∀ j, j < 32 → N j = M j) (h14 : tA A ≤ 14) : hr A N :=
  hr_mv h (by rw [e 0 (by decide)]; exact h.1) rfl rfl (fun _ _ => rfl) (fun l w hl hw => by rw [e (2 + w) (by omega)]; exact h.2.1 l w hl hw) (e 11 (by decide)) (fun c _ h2 => e c h2) h14
def hHs (h : Nat) (A : Nat → Int32) (M : e_M) : Prop := hr A (fun j => M (e_io (iH h) j))
theorem hHs_call {q h : Nat} (hh : okh h) {A : Nat → Int32} {M N : e_M} (hN : hr A N) (h14 : tA A ≤ 14) : hHs h A (e_mg (iH h) 33 M N) :=
  hr_ext hN (fun j hj => e_mg_in (iH_sb (q := q) hh) M N (show j < 33 by omega)) h14
/-- outside of the house h (and the book's stack) nothing has changed -/
def fh (h : Nat) (M N : e_M) : Prop := ∀ c, ¬ (h ≤ c ∧ c < h + 13) → ¬ c = 21 → N c = M c
theorem fh_call {q h : Nat} (hh : okh h) {M N : e_M} (hN : hf (fun j => M (e_io (iH h) j)) N) : fh h M (e_mg (iH h) 33 M N) := by
  intro c c1 c2
  by_cases hm : c ∈ (iH h).take 33
  · obtain ⟨j, hj, rfl⟩ := e_mg_mem (Sh0 := w_H) (iH_sb (q := q) hh) hm
    have hj : j < 33 := hj
    have e : e_mg (iH h) 33 M N (e_io (iH h) j) = N j := e_mg_in (iH_sb (q := q) hh) M N (show j < w_H.length from hj)
    rw [e]
    by_cases h13 : j < 13
    · rw [iH_1 h13] at c1; exact absurd ⟨by omega, by omega⟩ c1
    · have h32 : ¬ j = 32 := fun z => by subst z; exact c2 rfl
      exact hN j (by omega) h32
  · exact e_mg_out hm
theorem fh_0 {h : Nat} {M : e_M} : fh h M M := fun _ _ _ => rfl
theorem fh_t {h : Nat} {M N K : e_M} (h1 : fh h M N) (h2 : fh h N K) : fh h M K := fun c c1 c2 => by rw [h2 c c1 c2]; exact h1 c c1 c2
theorem hHs_fr {h : Nat} {A : Nat → Int32} {M N : e_M} (hA : hHs h A M) (h14 : tA A ≤ 14) (h1 : ∀ c, h ≤ c → c < h + 13 → N c = M c) (h2 : ∀ c, 2 ≤ c → c < 21 → N c = M c) : hHs h A N :=
  hr_ext hA (fun j hj => by
    show N (e_io (iH h) j) = M (e_io (iH h) j)
    by_cases h13 : j < 13
    · rw [iH_1 h13]; exact h1 _ (by omega) (by omega)
    · rw [iH_2 (by omega) (by omega)]; exact h2 _ (by omega) (by omega)) h14
theorem hHs_o {h h' : Nat} (hh : okh h) (hh' : okh h') (hne : ¬ h = h') {A : Nat → Int32} {M N : e_M} (hA : hHs h A M) (h14 : tA A ≤ 14) (hf : fh h' M N) : hHs h A N :=
  hHs_fr hA h14 (fun c c1 c2 => hf c (by rcases hh with rfl | rfl | rfl <;> rcases hh' with rfl | rfl | rfl <;> omega) (by rcases hh with rfl | rfl | rfl <;> omega)) (fun c c1 c2 => hf c (by rcases hh' with rfl | rfl | rfl <;> omega) (by omega))
/-- a call of a house's method -/
theorem x_H {X : e_X} {cc cy : ByteArray} {q h d idx n nL pc : Nat} {y : MethodName} {rt : Option FieldType} {as : List Int32} {rest : List Value} {lo : List (Option Value)} {M : e_M} {P : Option Value → e_M → Prop} (hh : okh h) (hX : e_ok 7 cc X (w_L q)) (hC : e_C (e_g X) d y cy nL rt (.ref 0 :: as.map Value.int) w_H (fun j => M (e_io (iH h) j)) P) (hw : e_wV 7 idx y cy nL rt n) (hy : y.cls = RX2) (hn : as.length = n) (hR : d + 1 ≤ (e_R X).frames ∧ 40 * (d + 1) ≤ (e_R X).locals) (hr : rest.length ≤ 4) (hd : decode cc pc = .ok (.invokevirtual idx, 3))
    (k : ∀ (r : Option Value) (N : e_M), P r N → e_E X (w_L q) (pc + 3) lo ((r.map (e_cv (e_io (iH h)))).toList ++ rest) (e_mg (iH h) 33 M N)) : e_E X (w_L q) pc lo ((as.map Value.int).reverse ++ .ref h :: rest) M := by
  have hcv : (as.map Value.int).map (e_cv (e_io (iH h))) = as.map Value.int := by rw [List.map_map]; exact List.map_congr_left (fun _ _ => rfl)
  have hc : vwCl[2]? = some (y.cls, TX2, 10) := by rw [hy]; rfl
  have e := e_callV (is := iH h) (M := M) (lo := lo) (rest := rest) (as0 := as.map Value.int) (Sh0 := w_H) hX (iH_sb hh) hC hw rfl hc (by rw [List.length_map]; exact hn) hR hr hd k
  rw [hcv, iH_1 (by decide), Nat.add_zero] at e
  exact e
/-! LastLight against the reference -/
def shr (M K : e_M) (j : Nat) : Prop := M (67 + 2 * j) 0 = K 14 j ∧ M (67 + 2 * j) 1 = K 15 j ∧ ∀ i, i < 24 → M (68 + 2 * j) i = K 16 (24 * j + i)
def slr (M K : e_M) (j : Nat) : Prop := M (75 + 3 * j) 0 = K 17 j ∧ (K 17 j = 1 → M (75 + 3 * j) 1 = K 18 j ∧ (0 ≤ K 18 j ∧ K 18 j ≤ 5) ∧ a_worth (K 18 j) (M (75 + 3 * j) 2 / 10) = K 19 j) ∧ (K 17 j = 2 → M (76 + 3 * j) 1 = K 18 j ∧ ∀ i, i < 24 → M (77 + 3 * j) i = K 20 (24 * j + i)) ∧ (K 17 j = 3 → M (75 + 3 * j) 3 = K 18 j)
def rel (M K : e_M) : Prop := (hHs 24 (K 1) M ∧ (¬ K 0 3 = 0 → hHs 37 (K 2) M)) ∧ (M 0 7 = K 0 3 ∧ M 0 1 = K 0 7 ∧ M 0 10 = K 0 33) ∧ (∀ i, i < 96 → M 1 i = K 6 i) ∧ (∀ i, i < 60 → M 64 i = K 22 i) ∧ (∀ j, j < 4 → shr M K j) ∧ ∀ j, j < 5 → slr M K j
/-- bounds of what a row tells -/
def okV (A : Nat → Int32) : Prop := (∀ l, l < nA A → 0 ≤ fA A 0 l ∧ fA A 0 l ≤ 5) ∧ ∃ n, A 2 = nI n ∧ n ≤ 9999 ∧ ∀ l, l < nA A → ∃ r, fA A 7 l = nI r ∧ r ≤ 599 * n
def okR (A : Nat → Int32) : Prop := okB A ∧ okV A
def okK (K : e_M) : Prop := (okR (K 1) ∧ (¬ K 0 3 = 0 → okR (K 2) ∧ tA (K 2) ≤ tA (K 1)) ∧ (K 0 3 = 0 ∨ K 0 3 = 1)) ∧ K 13 3 = 0 ∧ (∃ p, K 0 7 = nI p ∧ p ≤ 96) ∧ (∃ m, K 0 33 = nI m ∧ m ≤ 60) ∧ okS K ∧ okH K ∧ (∀ b, 1468 ≤ b → K 1 b = 0 ∧ K 2 b = 0 ∧ K 3 b = 0) ∧ (∀ j, j < 4 → (K 14 j = -1 ∧ K 15 j = 0 ∨ K 14 j = 0 ∨ K 14 j = 1) ∧ ∀ i, i < 24 → K 16 (24 * j + i) = NON ∨ -99999 ≤ K 16 (24 * j + i) ∧ K 16 (24 * j + i) ≤ 99999) ∧ ∀ j, j < 5 → K 17 j = 0 ∨ K 17 j = 1 ∨ K 17 j = 2 ∨ K 17 j = 3
section RL
variable {M K : e_M}
theorem rel_n (h : rel M K) : M 24 2 = K 1 1 ∧ M 24 3 = K 1 3 ∧ M 24 4 = K 1 4 ∧ M 24 5 = K 1 2 ∧ M 24 6 = K 1 0 ∧ M 24 7 = K 1 5 := by
  obtain ⟨a1, a2, a3, a4, a5, a6⟩ := h.1.1.1
  exact ⟨a2, a4, a5, a3, a1, a6⟩
theorem rel_f (h : rel M K) {l w : Nat} (hl : l < nA (K 1)) (hw : w < 9) : M (26 + w) l = fA (K 1) w l := by
  have := h.1.1.2.1 l w hl hw
  simp only [iH_1 (show 2 + w < 13 by omega)] at this
  rw [show 26 + w = 24 + (2 + w) by omega]
  exact this
theorem rel_c (h : rel M K) {k : Nat} (hk : k < 3) : M 35 k = a_cts (K 1) (nI k) (tA (K 1)) := h.1.1.2.2.1 k hk
theorem rel_b (h : rel M K) {t : Nat} (ht : t < tA (K 1)) (h14 : t < 14) : M 3 t = K 1 (96 + 2 * t) / 1000 ∧ M 4 t = K 1 (97 + 2 * t) ∧ M 5 t = nI (mA (K 1) t) ∧ ∀ k, k < mA (K 1) t → M (7 + t) k = tr (cA (K 1) t k) := by
  obtain ⟨b1, b2, b3, b4⟩ := h.1.1.2.2.2 t ht
  refine ⟨b1, b2, b3, fun k hk => ?_⟩
  have := b4 k hk
  simp only [iH_2 (show 13 ≤ 18 + t by omega) (show 18 + t < 33 by omega)] at this
  rw [show 7 + t = 18 + t - 11 by omega]
  exact this
end RL
def f7_lodges (as : List Int32) (M : e_M) : Prop × Option Int32 × e_M := match as with
  | [l] => (True, some (if 0 ≤ l ∧ l ≤ M 24 2 - 1 then 1 else 0), M)
  | _ => (False, none, M)
set_option maxRecDepth 40000 in
set_option maxHeartbeats 4000000 in
theorem c7_lodges {q : Nat} (g : e_G) (M : e_M) (as : List Int32) (hl : as.length = 1) (hp : (f7_lodges as M).1) : e_C g 1 yX7_lodges cX7_lodges 2 (some (.boolean)) (.ref 0 :: as.map Value.int) (w_L q) M (e_po (f7_lodges as M)) := by
  obtain ⟨l, rfl⟩ := e_l1 hl
  refine e_C_of 7 (by decide) rfl (by simp [Value.category]) (Nat.le_of_ble_eq_true rfl) ?_
  intro X hX hE hL hg hR
  refine e_wp_ok 9999 9999 hX hE hL (fn := [(96, none, 3, f7_within)]) (List.forall_mem_cons.mpr ⟨(e_foS hX (Nat.le_of_ble_eq_true (rfl : Nat.ble (w_L q).length 1000 = true)) k_7_96 (e_rr hR (by decide)) (fun as M h1 h2 => c7_within _ (Nat.le_of_ble_eq_true (rfl : Nat.ble (w_L q).length 1000 = true)) (e_g X) M as h1 h2)), (fun _ h => absurd h List.not_mem_nil)⟩) 40 ?_
  simp only [Nat.reduceAdd, Nat.reduceSub, Nat.reduceLT, Nat.reduceEqDiff, ↓reduceIte, true_and, and_true, Int.reduceAdd, Int.reduceLE, Int.reduceToNat, Int.reduceNeg, Int.reduceNatCast', Int.reduceNatCast, List.map_cons, List.map_nil, List.length_cons, List.length_nil, List.cons_append, List.nil_append, List.replicate_succ, List.replicate_zero, w_kt, Classical.not_not, Int32.reduceToNatClampNeg, List.size_toArray, Int.reduceSub, Int.reduceEq, not_false_eq_true, x_n2, x_n3, x_n6, x_n9, x_n10, x_n60, x_n100, x_n600, x_n1000, e_st_r, x_isi, x_vi, x_isl, x_vl, x_isa, x_va, x_iadd, x_isub, x_imul, x_iand, x_ior, x_ishl, x_ishr, x_iushr, x_idiv, x_irem, x_ineg, x_ladd, x_lsub, x_lcmp, x_lneg, x_i2l, x_l2i, x_i2s, x_i2b, x_i2c, x_iconst, x_bipush, x_sipush, x_lconst, x_iload_n, x_iload, x_lload_n, x_lload, x_aload_n, x_aload, x_istore_n, x_istore, x_astore_n, x_astore, x_lstore_n, x_lstore, x_iinc, x_dup_int, x_pop_int, x_dup_ref, x_pop_ref, x_dup2, x_if_icmp, x_ifCond, x_goto, x_iaload, x_baload, x_caload, x_iastore, x_bastore, x_invokevirtual, x_invokestatic, x_ireturn, x_lreturn, x_areturn, x_return_, x_tableswitch, x_lookupswitch, x_nx, x_wp, x_kp, x_kq, x_tw0, x_tws, x_lw0, x_lws, x_wp0, x_dm, x_gi, x_gl, x_ga, x_g0, x_gs, x_s0, x_s1, x_s2, x_k0, x_k1, x_k2, x_k3, x_f0, x_f1, x_f2, x_f3, x_os, x_osn, x_gf1, x_gf2, x_ceq, x_cne, x_clt, x_cge, x_cgt, x_cle, x_nri, x_nz0, x_fz0, x_vn0, x_nz1, x_fz1, x_vn1, x_rl0, x_rl1, x_rl2, x_rl3, x_rl4, x_go, x_ps1, x_ps0, x_pi0, x_pis, x_cl0, x_clv, x_cls, x_clvn, x_clsn, x_r1, x_tn, x_tr3, x_tr4, x_tr5, x_i0, x_i1, x_i2, x_i3, x_i4, x_i5, x_i6, x_i7, x_i8, x_i9, x_i10, x_i11, x_i12, x_i13, x_i14, x_i15, x_i16, x_i17, x_i18, x_i19, x_i20, x_i21, x_i22, x_i23, x_i24, x_i25, x_i26, x_i27, x_i28, x_i29, x_i30, x_i31, x_i32, x_i33, x_i34, x_i35, x_i36, x_i37, x_i38, x_i39, x_i40, x_i41, x_i42, x_i43, x_i44, x_i45, x_im12, x_im11, x_im10, x_im9, x_im8, x_im7, x_im6, x_im5, x_im4, x_im3, x_im2, x_im1, x_i60, x_i61, x_i62, x_i124, x_i47, x_i100, x_bm10, x_bm100, x_bm11, x_bm2, x_bm3, x_bm4, x_bm5, x_bm6, x_bm60, x_bm7, x_bm8, x_bm9, x_b10, x_b100, x_b101, x_b102, x_b105, x_b11, x_b110, x_b112, x_b114, x_b117, x_b119, x_b12, x_b120, x_b122, x_b124, x_b14, x_b16, x_b17, x_b20, x_b24, x_b30, x_b32, x_b33, x_b40, x_b41, x_b48, x_b50, x_b57, x_b59, x_b6, x_b60, x_b63, x_b7, x_b8, x_b9, x_b90, x_b96, x_b97, x_b98, x_b99, x_w1000, x_w10000, x_w10001, x_w1023, x_w12345, x_w1468, x_w200, x_w20000, x_w20033, x_w255, x_w300, x_w580, x_w599, x_w600, x_w9999, x_nrb, x_nrb2, x_in0_3, x_in1_3, x_in2_3, x_in0_4, x_in1_4, x_in2_4, x_in3_4, x_in0_5, x_in1_5, x_in2_5, x_in3_5, x_in4_5, x_in0_6, x_in1_6, x_in2_6, x_in3_6, x_in4_6, x_in5_6, x_in0_9, x_in1_9, x_in2_9, x_in3_9, x_in4_9, x_in5_9, x_in6_9, x_in7_9, x_in8_9, x_in0_10, x_in1_10, x_in2_10, x_in3_10, x_in4_10, x_in5_10, x_in6_10, x_in7_10, x_in8_10, x_in9_10, x_in0_11, x_in1_11, x_in2_11, x_in3_11, x_in4_11, x_in5_11, x_in6_11, x_in7_11, x_in8_11, x_in9_11, x_in10_11, x_in0_14, x_in1_14, x_in2_14, x_in3_14, x_in4_14, x_in5_14, x_in6_14, x_in7_14, x_in8_14, x_in9_14, x_in10_14, x_in11_14, x_in12_14, x_in13_14, x_in0_24, x_in1_24, x_in2_24, x_in3_24, x_in4_24, x_in5_24, x_in6_24, x_in7_24, x_in8_24, x_in9_24, x_in10_24, x_in11_24, x_in12_24, x_in13_24, x_in14_24, x_in15_24, x_in0_60, x_in1_60, x_in2_60, x_in3_60, x_in4_60, x_in5_60, x_in6_60, x_in7_60, x_in8_60, x_in9_60, x_in10_60, x_in11_60, x_in12_60, x_in13_60, x_in14_60, x_in15_60, x_in0_96, x_in1_96, x_in2_96, x_in3_96, x_in4_96, x_in5_96, x_in6_96, x_in7_96, x_in8_96, x_in9_96, x_in10_96, x_in11_96, x_in12_96, x_in13_96, x_in14_96, x_in15_96, x_in0_120, x_in1_120, x_in2_120, x_in3_120, x_in4_120, x_in5_120, x_in6_120, x_in7_120, x_in8_120, x_in9_120, x_in10_120, x_in11_120, x_in12_120, x_in13_120, x_in14_120, x_in15_120, x_in0_1468, x_in1_1468, x_in2_1468, x_in3_1468, x_in4_1468, x_in5_1468, x_in6_1468, x_in7_1468, x_in8_1468, x_in9_1468, x_in10_1468, x_in11_1468, x_in12_1468, x_in13_1468, x_in14_1468, x_in15_1468, w_L_g7_218_2, w_L_g7_221_2, w_L_g7_215_22, w_L_p7_215_22, w_L_g7_100_24, w_L_g7_100_37, w_L_g7_100_50, w_L_g7_84_24, w_L_p7_84_24, w_L_g7_84_37, w_L_p7_84_37, w_L_g7_84_50, w_L_p7_84_50, w_L_g7_120_24, w_L_p7_120_24, w_L_g7_120_37, w_L_p7_120_37, w_L_g7_120_50, w_L_p7_120_50, w_L_g7_123_24, w_L_p7_123_24, w_L_g7_123_37, w_L_p7_123_37, w_L_g7_123_50, w_L_p7_123_50, w_L_g7_138_24, w_L_p7_138_24, w_L_g7_138_37, w_L_p7_138_37, w_L_g7_138_50, w_L_p7_138_50, w_L_g7_135_24, w_L_p7_135_24, w_L_g7_135_37, w_L_p7_135_37, w_L_g7_135_50, w_L_p7_135_50, w_L_g7_208_24, w_L_p7_208_24, w_L_g7_208_37, w_L_p7_208_37, w_L_g7_208_50, w_L_p7_208_50, w_L_g7_194_24, w_L_g7_194_37, w_L_g7_194_50, w_L_g7_163_63, w_L_p7_163_63, w_L_g7_166_63, w_L_p7_166_63, w_L_g7_186_67, w_L_p7_186_67, w_L_g7_186_69, w_L_p7_186_69, w_L_g7_186_71, w_L_p7_186_71, w_L_g7_186_73, w_L_p7_186_73, w_L_g7_186_76, w_L_p7_186_76, w_L_g7_186_79, w_L_p7_186_79, w_L_g7_186_82, w_L_p7_186_82, w_L_g7_186_85, w_L_p7_186_85, w_L_g7_186_88, w_L_p7_186_88, w_L_g7_246_67, w_L_p7_246_67, w_L_g7_246_69, w_L_p7_246_69, w_L_g7_246_71, w_L_p7_246_71, w_L_g7_246_73, w_L_p7_246_73, w_L_g7_246_76, w_L_p7_246_76, w_L_g7_246_79, w_L_p7_246_79, w_L_g7_246_82, w_L_p7_246_82, w_L_g7_246_85, w_L_p7_246_85, w_L_g7_246_88, w_L_p7_246_88, w_L_g7_235_67, w_L_g7_235_69, w_L_g7_235_71, w_L_g7_235_73, w_L_g7_235_76, w_L_g7_235_79, w_L_g7_235_82, w_L_g7_235_85, w_L_g7_235_88, w_L_g7_261_75, w_L_p7_261_75, w_L_g7_261_78, w_L_p7_261_78, w_L_g7_261_81, w_L_p7_261_81, w_L_g7_261_84, w_L_p7_261_84, w_L_g7_261_87, w_L_p7_261_87, w_L_g7_264_75, w_L_p7_264_75, w_L_g7_264_78, w_L_p7_264_78, w_L_g7_264_81, w_L_p7_264_81, w_L_g7_264_84, w_L_p7_264_84, w_L_g7_264_87, w_L_p7_264_87, w_L_g7_267_75, w_L_p7_267_75, w_L_g7_267_78, w_L_p7_267_78, w_L_g7_267_81, w_L_p7_267_81, w_L_g7_267_84, w_L_p7_267_84, w_L_g7_267_87, w_L_p7_267_87, w_L_g7_277_75, w_L_p7_277_75, w_L_g7_277_78, w_L_p7_277_78, w_L_g7_277_81, w_L_p7_277_81, w_L_g7_277_84, w_L_p7_277_84, w_L_g7_277_87, w_L_p7_277_87, w_L_g7_270_75, w_L_g7_270_78, w_L_g7_270_81, w_L_g7_270_84, w_L_g7_270_87, w_L_g7_9_0, w_L_g7_13_0, w_L_p7_13_0, w_L_g7_20_0, w_L_g7_29_0, w_L_g7_38_0, w_L_g7_42_0, w_L_g7_45_0, w_L_g7_48_0, w_L_p7_48_0, w_L_g7_55_0, w_L_g7_59_0, w_L_g7_62_0, w_L_p7_62_0, w_L_g7_67_0, w_L_g7_73_0, w_L_i1, w_L_l1, w_L_i3, w_L_l3, w_L_i4, w_L_l4, w_L_i5, w_L_l5, w_L_q6_0, w_L_q6_1, w_L_q6_2, w_L_q6_3, w_L_q6_4, w_L_q6_5, w_L_q6_6, w_L_q6_7, w_L_q6_8, w_L_q6_9, w_L_q6_10, w_L_q6_11, w_L_q6_12, w_L_q6_13, w_L_i7, w_L_l7, w_L_i8, w_L_l8, w_L_i9, w_L_l9, w_L_i10, w_L_l10, w_L_i11, w_L_l11, w_L_i12, w_L_l12, w_L_i13, w_L_l13, w_L_i14, w_L_l14, w_L_i15, w_L_l15, w_L_i16, w_L_l16, w_L_i17, w_L_l17, w_L_i18, w_L_l18, w_L_i19, w_L_l19, w_L_i20, w_L_l20, w_L_i21, w_L_l21, w_L_i23, w_L_l23, w_L_q25_0, w_L_q25_1, w_L_q25_2, w_L_q25_3, w_L_q25_4, w_L_q25_5, w_L_q25_6, w_L_q25_7, w_L_q25_8, w_L_i26, w_L_l26, w_L_i27, w_L_l27, w_L_i28, w_L_l28, w_L_i29, w_L_l29, w_L_i30, w_L_l30, w_L_i31, w_L_l31, w_L_i32, w_L_l32, w_L_i33, w_L_l33, w_L_i34, w_L_l34, w_L_i35, w_L_l35, w_L_i36, w_L_l36, w_L_q38_0, w_L_q38_1, w_L_q38_2, w_L_q38_3, w_L_q38_4, w_L_q38_5, w_L_q38_6, w_L_q38_7, w_L_q38_8, w_L_i39, w_L_l39, w_L_i40, w_L_l40, w_L_i41, w_L_l41, w_L_i42, w_L_l42, w_L_i43, w_L_l43, w_L_i44, w_L_l44, w_L_i45, w_L_l45, w_L_i46, w_L_l46, w_L_i47, w_L_l47, w_L_i48, w_L_l48, w_L_i49, w_L_l49, w_L_q51_0, w_L_q51_1, w_L_q51_2, w_L_q51_3, w_L_q51_4, w_L_q51_5, w_L_q51_6, w_L_q51_7, w_L_q51_8, w_L_i52, w_L_l52, w_L_i53, w_L_l53, w_L_i54, w_L_l54, w_L_i55, w_L_l55, w_L_i56, w_L_l56, w_L_i57, w_L_l57, w_L_i58, w_L_l58, w_L_i59, w_L_l59, w_L_i60, w_L_l60, w_L_i61, w_L_l61, w_L_i62, w_L_l62, w_L_i64, w_L_l64, w_L_q65_0, w_L_q65_1, w_L_q65_2, w_L_q65_3, w_L_q66_0, w_L_q66_1, w_L_q66_2, w_L_q66_3, w_L_q66_4, w_L_i68, w_L_l68, w_L_i70, w_L_l70, w_L_i72, w_L_l72, w_L_i74, w_L_l74, w_L_i77, w_L_l77, w_L_i80, w_L_l80, w_L_i83, w_L_l83, w_L_i86, w_L_l86, w_L_i89, w_L_l89, w_L_t1000, w_L_tl1000, w_L_t1001, w_L_tl1001, w_L_t1002, w_L_tl1002, dX7_lodges_0, dX7_lodges_1, dX7_lodges_2, dX7_lodges_3, dX7_lodges_6, dX7_lodges_9, dX7_lodges_10, dX7_lodges_11, dX7_lodges_14, f7_lodges, f7_within, x_po, x_oi, x_on]
