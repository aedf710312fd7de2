/-! ===== okK is kept: the row of now ===== -/
theorem okK_cg {K K' : e_M} (h : okK K) (h0 : ∀ b, b = 3 ∨ b = 7 ∨ b = 33 → K' 0 b = K 0 b) (hK : ∀ c, (c = 1 ∨ c = 2 ∨ c = 3 ∨ (14 ≤ c ∧ c ≤ 20)) → K' c = K c) (h13 : K' 13 3 = 0) : okK K' := by
  obtain ⟨⟨a1, a2, a3⟩, -, a5, a6, a7, a8, a9, a10, a11⟩ := h
  refine ⟨⟨?_, ?_, ?_⟩, h13, ?_, ?_, ?_, ?_, ?_, ?_, ?_⟩
  · rw [hK 1 (by omega)]; exact a1
  · rw [hK 1 (by omega), hK 2 (by omega), h0 3 (by omega)]; exact a2
  · rw [h0 3 (by omega)]; exact a3
  · rw [h0 7 (by omega)]; exact a5
  · rw [h0 33 (by omega)]; exact a6
  · intro j hj; unfold szR; rw [hK 15 (by omega)]; exact a7 j hj
  · intro j hj; rw [hK 17 (by omega), hK 18 (by omega)]; exact a8 j hj
  · intro b hb; rw [hK 1 (by omega), hK 2 (by omega), hK 3 (by omega)]; exact a9 b hb
  · intro j hj; rw [hK 14 (by omega), hK 15 (by omega), hK 16 (by omega)]; exact a10 j hj
  · intro j hj; rw [hK 17 (by omega)]; exact a11 j hj
theorem okK_1 {K K' : e_M} (h : okK K) (hK : ∀ c, ¬ c = 1 → K' c = K c) (hA : okR (K' 1)) (ht : tA (K 1) ≤ tA (K' 1)) (hz : ∀ b, 1468 ≤ b → K' 1 b = 0) : okK K' := by
  obtain ⟨⟨a1, a2, a3⟩, a4, a5, a6, a7, a8, a9, a10, a11⟩ := h
  refine ⟨⟨hA, ?_, ?_⟩, ?_, ?_, ?_, ?_, ?_, ?_, ?_, ?_⟩
  · rw [hK 2 (by decide), hK 0 (by decide)]; exact fun z => ⟨(a2 z).1, Nat.le_trans (a2 z).2 ht⟩
  · rw [hK 0 (by decide)]; exact a3
  · rw [hK 13 (by decide)]; exact a4
  · rw [hK 0 (by decide)]; exact a5
  · rw [hK 0 (by decide)]; exact a6
  · intro j hj; unfold szR; rw [hK 15 (by decide)]; exact a7 j hj
  · intro j hj; rw [hK 17 (by decide), hK 18 (by decide)]; exact a8 j hj
  · intro b hb; rw [hK 2 (by decide), hK 3 (by decide)]; exact ⟨hz b hb, (a9 b hb).2⟩
  · intro j hj; rw [hK 14 (by decide), hK 15 (by decide), hK 16 (by decide)]; exact a10 j hj
  · intro j hj; rw [hK 17 (by decide)]; exact a11 j hj
/-- a number of the row's head -/
theorem okR_h {A : Nat → Int32} {b : Nat} {v : Int32} (h : okR A) (hb : b = 0 ∨ b = 3 ∨ b = 4) (h3 : b = 3 → v = 0 ∨ v = 1 ∨ v = 2 ∨ v = 3) : okR (upd A b v) ∧ tA (upd A b v) = tA A := by
  obtain ⟨⟨⟨⟨a1, a2⟩, a3, a4⟩, a5⟩, a6, n, a7, a8, a9⟩ := h
  have en : nA (upd A b v) = nA A := nA_upd (by omega)
  have ef : ∀ w l, fA (upd A b v) w l = fA A w l := fun w l => by unfold fA; rw [pk_un (by omega)]
  refine ⟨⟨⟨⟨⟨by rw [en, pk_un (by omega)]; exact a1, by rw [en]; exact a2⟩, okT_cg (pk_un (by omega)) (fun c hc => pk_un (by omega)) a3, fun l hl => ?_⟩, ?_⟩, fun l hl => ?_, n, by rw [pk_un (by omega)]; exact a7, a8, fun l hl => ?_⟩, tA_upd (by omega)⟩
  · rw [en] at hl; rw [ef]; exact a4 l hl
  · by_cases hb3 : b = 3
    · rw [hb3, pk_us]; exact h3 hb3
    · rw [pk_un (by omega)]; exact a5
  · rw [en] at hl; rw [ef]; exact a6 l hl
  · rw [en] at hl; rw [ef]; exact a9 l hl
theorem okK_h {K : e_M} {b : Nat} {v : Int32} (h : okK K) (hb : b = 0 ∨ b = 3 ∨ b = 4) (h3 : b = 3 → v = 0 ∨ v = 1 ∨ v = 2 ∨ v = 3) : okK (e_st K 1 b v) := by
  obtain ⟨g1, g2⟩ := okR_h (v := v) h.1.1 hb h3
  refine okK_1 h (fun c hc => e_st_n hc) (by rw [e_st_1]; exact g1) (by rw [e_st_1, g2]; exact Nat.le_refl _) (fun c hc => ?_)
  rw [e_st_1, pk_un (by omega)]
  exact (h.2.2.2.2.2.2.1 c hc).1
/-- a fact of a lodger -/
theorem okK_f {K : e_M} {l w : Nat} {v : Int32} (h : okK K) (hl : l < nA (K 1)) (hw : w < 5) (h0 : w = 0 → 0 ≤ v ∧ v ≤ 5) (h1 : w = 1 → v = 0 ∨ v = 1 ∨ v = 2) : okK (e_st K 1 (6 + 9 * l + w) v) := by
  obtain ⟨⟨⟨⟨a1, a2⟩, a3, a4⟩, a5⟩, a6, n, a7, a8, a9⟩ := h.1.1
  have en : nA (upd (K 1) (6 + 9 * l + w) v) = nA (K 1) := nA_upd (by omega)
  have hA : okR (upd (K 1) (6 + 9 * l + w) v) := by
    refine ⟨⟨⟨⟨by rw [en, pk_un (by omega)]; exact a1, by rw [en]; exact a2⟩, okT_cg (pk_un (by omega)) (fun c hc => pk_un (by omega)) a3, fun k hk => ?_⟩, by rw [pk_un (by omega)]; exact a5⟩, fun k hk => ?_, n, by rw [pk_un (by omega)]; exact a7, a8, fun k hk => ?_⟩
    · rw [en] at hk
      rw [fA_upd (by omega) (by decide)]
      split
      · rename_i z; exact h1 z.2.symm
      · exact a4 k hk
    · rw [en] at hk
      rw [fA_upd (by omega) (by decide)]
      split
      · rename_i z; exact h0 z.2.symm
      · exact a6 k hk
    · rw [en] at hk
      rw [fA_upd (by omega) (by decide), if_neg (by omega)]
      exact a9 k hk
  refine okK_1 h (fun c hc => e_st_n hc) (by rw [e_st_1]; exact hA) (by rw [e_st_1, tA_upd (by omega)]; exact Nat.le_refl _) (fun c hc => ?_)
  rw [e_st_1, pk_un (by omega)]
  exact (h.2.2.2.2.2.2.1 c hc).1
/-- one comes -/
theorem okK_c {K : e_M} {k s w : Int32} (h : okK K) (h10 : nA (K 1) < 10) (hk : 0 ≤ k ∧ k ≤ 5) (hs : s = 0 ∨ s = 1 ∨ s = 2) : okK (a_com K k s w) := by
  obtain ⟨⟨⟨⟨a1, a2⟩, a3, a4⟩, a5⟩, a6, n, a7, a8, a9⟩ := h.1.1
  have u : ∀ b, b < 6 → ¬ b = 1 → c_A (K 1) k s w b = K 1 b := fun b h1 h2 => by unfold c_A; rw [if_neg h2, if_neg (by omega), if_neg (by omega), if_neg (by omega), if_neg (by omega)]
  have u1 : c_A (K 1) k s w 1 = nI (nA (K 1) + 1) := by rw [nI_succ]; rfl
  have un : nA (c_A (K 1) k s w) = nA (K 1) + 1 := by rw [show nA (c_A (K 1) k s w) = (c_A (K 1) k s w 1).toNatClampNeg from rfl, u1]; exact nI_clamp (by omega)
  have u96 : ∀ b, 96 ≤ b → c_A (K 1) k s w b = K 1 b := fun b hb => by unfold c_A; rw [if_neg (by omega), if_neg (by omega), if_neg (by omega), if_neg (by omega), if_neg (by omega)]
  have uf : ∀ v l, v < 9 → l < nA (K 1) → fA (c_A (K 1) k s w) v l = fA (K 1) v l := fun v l hv hl => by
    unfold fA c_A
    rw [if_neg (by omega), if_neg (by omega), if_neg (by omega), if_neg (by omega), if_neg (by omega)]
  have f0 : fA (c_A (K 1) k s w) 0 (nA (K 1)) = k := by unfold fA c_A; rw [if_neg (by omega), if_pos rfl]
  have f1 : fA (c_A (K 1) k s w) 1 (nA (K 1)) = s := by unfold fA c_A; rw [if_neg (by omega), if_neg (by omega), if_pos rfl]
  have f7 : fA (c_A (K 1) k s w) 7 (nA (K 1)) = 0 := by unfold fA c_A; rw [if_neg (by omega), if_neg (by omega), if_neg (by omega), if_neg (by omega), if_pos ⟨by omega, by omega⟩]
  have ut : tA (c_A (K 1) k s w) = tA (K 1) := by unfold tA; rw [u 5 (by decide) (by decide)]
  have hA : okR (c_A (K 1) k s w) := by
    refine ⟨⟨⟨⟨by rw [un, u1], by rw [un]; omega⟩, okT_cg (u 5 (by decide) (by decide)) u96 a3, fun l hl => ?_⟩, by rw [u 3 (by decide) (by decide)]; exact a5⟩, fun l hl => ?_, n, by rw [u 2 (by decide) (by decide)]; exact a7, a8, fun l hl => ?_⟩
    · rw [un] at hl
      by_cases e : l = nA (K 1)
      · rw [e, f1]; exact hs
      · rw [uf 1 l (by decide) (by omega)]; exact a4 l (by omega)
    · rw [un] at hl
      by_cases e : l = nA (K 1)
      · rw [e, f0]; exact hk
      · rw [uf 0 l (by decide) (by omega)]; exact a6 l (by omega)
    · rw [un] at hl
      by_cases e : l = nA (K 1)
      · rw [e, f7]; exact ⟨0, nI_0.symm, Nat.zero_le _⟩
      · rw [uf 7 l (by decide) (by omega)]; exact a9 l (by omega)
  refine okK_1 h (fun c hc => a_com_o hc) (by rw [c_A_R]; exact hA) (by rw [c_A_R, ut]; exact Nat.le_refl _) (fun b hb => ?_)
  rw [c_A_R, u96 b (by omega)]
  exact (h.2.2.2.2.2.2.1 b hb).1
theorem rem_b {z : Int32} {m : Nat} (h0 : 0 < m) (hm : m < 2 ^ 24) : ∃ k, k < m ∧ e_rem (e_ush z 8) (nI m) = nI k := by
  obtain ⟨q, hq, hqe⟩ := a_ush8 z
  refine ⟨q % m, Nat.mod_lt _ h0, ?_⟩
  rw [hqe]
  exact a_remn (by omega) h0 (by omega)
theorem okK_d {K : e_M} (h : okK K) : ∀ k, nA (K 1) + k ≤ 10 → okK (d_n K k) := by
  intro k
  induction k with
  | zero => intro _; exact h
  | succ k ih =>
    intro hk
    have h1 := ih (by omega)
    obtain ⟨-, d2⟩ := d_n_n h.1.1.1.1.1.1 k (by have : nA (K 1) = nR K := rfl; omega)
    have h2 := okK_h (v := a_z (d_n K k 1 0)) h1 (Or.inl rfl) (fun z => absurd z (by decide))
    have h3 := okK_h (v := a_z (a_z (d_n K k 1 0))) h2 (Or.inl rfl) (fun z => absurd z (by decide))
    have h4 := okK_h (v := a_z (a_z (a_z (d_n K k 1 0)))) h3 (Or.inl rfl) (fun z => absurd z (by decide))
    have en : nA (e_st (e_st (e_st (d_n K k) 1 0 (a_z (d_n K k 1 0))) 1 0 (a_z (a_z (d_n K k 1 0)))) 1 0 (a_z (a_z (a_z (d_n K k 1 0)))) 1) = nR (d_n K k) := by simp only [nA, nR, e_st_r]; simp
    refine okK_c h4 (by rw [en, d2]; have : nA (K 1) = nR K := rfl; omega) ?_ ?_
    · obtain ⟨j, hj, e⟩ := rem_b (z := a_z (d_n K k 1 0)) (m := 6) (by decide) (by decide)
      rw [show (6 : Int32) = nI 6 from rfl, e]
      exact ⟨nI_pos' (by omega), nI_le (b := 5) (by omega) (by decide)⟩
    · obtain ⟨j, hj, e⟩ := rem_b (z := a_z (a_z (d_n K k 1 0))) (m := 3) (by decide) (by decide)
      rw [show (3 : Int32) = nI 3 from rfl, e]
      have : j = 0 ∨ j = 1 ∨ j = 2 := by omega
      rcases this with rfl | rfl | rfl
      · exact Or.inl rfl
      · exact Or.inr (Or.inl rfl)
      · exact Or.inr (Or.inr rfl)
theorem okR_I {A : Nat → Int32} (h : okR A) (m : Nat) (hm : ∃ t, A 2 = nI t ∧ t + m ≤ 9999) : okR (n_I A m) := by
  obtain ⟨hB, a6, n, a7, a8, a9⟩ := h
  obtain ⟨t, ht, htm⟩ := hm
  have etn : t = n := nI_inj (by omega) (by omega) (ht.symm.trans a7)
  have hr := rdV_I hB.1 ⟨a7, a9⟩ m
  refine ⟨okB_I hB m, fun l hl => ?_, n + m, hr.1, by omega, hr.2⟩
  rw [nA_I hB] at hl
  have : ∀ k, fA (n_I A k) 0 l = fA A 0 l := by
    intro k
    induction k with
    | zero => rfl
    | succ k ih =>
      show fA (n_F (n_I A k)) 0 l = _
      rw [n_F_f (by rw [nA_I hB]; exact hl) (by decide)]
      simp
      exact ih
  rw [this]
  exact a6 l hl
theorem okK_n {K : e_M} {n : Int32} (h : okK K) (hn : ¬ n < 0) : okK (e_up K 1 (n_I (K 1) (q_nn (K 1) n).toNatClampNeg)) := by
  have e1 : e_up K 1 (n_I (K 1) (q_nn (K 1) n).toNatClampNeg) 1 = n_I (K 1) (q_nn (K 1) n).toNatClampNeg := by simp [e_up]
  have hI : ∀ b, 96 ≤ b → n_I (K 1) (q_nn (K 1) n).toNatClampNeg b = K 1 b := fun b hb => n_I_o h.1.1.1.1 hb _
  have h5 : ∀ m, n_I (K 1) m 5 = K 1 5 := by
    intro m
    induction m with
    | zero => rfl
    | succ m ih => rw [← ih]; exact n_F_o (by decide) (by decide) (by omega)
  have hm : ∃ t, K 1 2 = nI t ∧ t + (q_nn (K 1) n).toNatClampNeg ≤ 9999 := by
    obtain ⟨t', ht', ht2, -⟩ := h.1.1.2.2
    refine ⟨t', ht', ?_⟩
    rw [← q_nn_min (n := n) ht' ht2 hn]
    have es : (9999 : Int32) - K 1 2 = nI (9999 - t') := by rw [ht', show (9999 : Int32) = nI 9999 from rfl]; exact pk_sub ht2
    have hle : (if 9999 - K 1 2 < n then 9999 - K 1 2 else n).toNatClampNeg ≤ 9999 - t' := by
      rw [es]
      by_cases hlt : nI (9999 - t') < n
      · rw [if_pos hlt, nI_clamp (by omega)]; exact Nat.le_refl _
      · rw [if_neg hlt]
        obtain ⟨j, hj, rfl⟩ := nI_of hn
        rw [nI_clamp hj]
        exact Nat.le_of_not_lt (fun z => hlt (nI_lt z hj))
    omega
  exact okK_1 h (fun c hc => by simp [e_up, hc]) (by rw [e1]; exact okR_I h.1.1 _ hm) (by rw [e1]; unfold tA; rw [h5]; exact Nat.le_refl _) (fun b hb => by rw [e1, hI b (by omega)]; exact (h.2.2.2.2.2.2.1 b hb).1)
/-! the other cells -/
theorem okK_po {K : e_M} {j : Nat} (h : okK K) : ∀ k, k ≤ nA (K 1) → okK (a_po K j k).2 := by
  intro k
  induction k with
  | zero => intro _; exact h
  | succ k ih =>
    intro hk
    exact okK_f (w := 2) (ih (by omega)) (by rw [a_po_n]; omega) (by decide) (fun z => absurd z (by decide)) (fun z => absurd z (by decide))
theorem okK_keep {K : e_M} (h : okK K) : okK (e_st (e_up K 2 (a_cp (K 1) (K 2) 1468)) 0 3 1) := by
  have hz := h.2.2.2.2.2.2.1
  have e2 : a_cp (K 1) (K 2) 1468 = K 1 := a_cp_all (fun b hb => by rw [(hz b hb).1, (hz b hb).2.1])
  rw [e2]
  have eK : ∀ c, ¬ c = 0 → ¬ c = 2 → e_st (e_up K 2 (K 1)) 0 3 1 c = K c := fun c c0 c2 => by funext b; simp [e_st_r, e_up_r, c0, c2]
  have eK2 : e_st (e_up K 2 (K 1)) 0 3 1 2 = K 1 := by funext b; simp [e_st_r, e_up_r]
  have eK0 : ∀ b, ¬ b = 3 → e_st (e_up K 2 (K 1)) 0 3 1 0 b = K 0 b := fun b hb => by simp [e_st_r, e_up_r, hb]
  obtain ⟨⟨a1, a2, a3⟩, a4, a5, a6, a7, a8, a9, a10, a11⟩ := h
  refine ⟨⟨?_, fun _ => ?_, ?_⟩, ?_, ?_, ?_, ?_, ?_, ?_, ?_, ?_⟩
  · rw [eK 1 (by decide) (by decide)]; exact a1
  · rw [eK 1 (by decide) (by decide), eK2]; exact ⟨a1, Nat.le_refl _⟩
  · right; simp [e_st_r]
  · rw [eK 13 (by decide) (by decide)]; exact a4
  · rw [eK0 7 (by decide)]; exact a5
  · rw [eK0 33 (by decide)]; exact a6
  · intro j hj; unfold szR; rw [eK 15 (by decide) (by decide)]; exact a7 j hj
  · intro j hj; rw [eK 17 (by decide) (by decide), eK 18 (by decide) (by decide)]; exact a8 j hj
  · intro b hb; rw [eK 1 (by decide) (by decide), eK2, eK 3 (by decide) (by decide)]; exact ⟨(a9 b hb).1, (a9 b hb).1, (a9 b hb).2.2⟩
  · intro j hj; rw [eK 14 (by decide) (by decide), eK 15 (by decide) (by decide), eK 16 (by decide) (by decide)]; exact a10 j hj
  · intro j hj; rw [eK 17 (by decide) (by decide)]; exact a11 j hj
theorem okK_back {K : e_M} (h : okK K) (hi : ¬ K 0 3 = 0) : okK (e_up K 1 (a_cp (K 2) (K 1) 1468)) := by
  have hz := h.2.2.2.2.2.2.1
  have e2 : a_cp (K 2) (K 1) 1468 = K 2 := a_cp_all (fun b hb => by rw [(hz b hb).1, (hz b hb).2.1])
  rw [e2]
  have e1 : e_up K 1 (K 2) 1 = K 2 := by simp [e_up]
  have eK : ∀ c, ¬ c = 1 → e_up K 1 (K 2) c = K c := fun c hc => by simp [e_up, hc]
  obtain ⟨⟨a1, a2, a3⟩, a4, a5, a6, a7, a8, a9, a10, a11⟩ := h
  refine ⟨⟨?_, fun _ => ?_, ?_⟩, ?_, ?_, ?_, ?_, ?_, ?_, ?_, ?_⟩
  · rw [e1]; exact (a2 hi).1
  · rw [e1, eK 2 (by decide)]; exact ⟨(a2 hi).1, Nat.le_refl _⟩
  · rw [eK 0 (by decide)]; exact a3
  · rw [eK 13 (by decide)]; exact a4
  · rw [eK 0 (by decide)]; exact a5
  · rw [eK 0 (by decide)]; exact a6
  · intro j hj; unfold szR; rw [eK 15 (by decide)]; exact a7 j hj
  · intro j hj; rw [eK 17 (by decide), eK 18 (by decide)]; exact a8 j hj
  · intro b hb; rw [e1, eK 2 (by decide), eK 3 (by decide)]; exact ⟨(a9 b hb).2.1, (a9 b hb).2⟩
  · intro j hj; rw [eK 14 (by decide), eK 15 (by decide), eK 16 (by decide)]; exact a10 j hj
  · intro j hj; rw [eK 17 (by decide)]; exact a11 j hj
/-- the object's numbers: the tape's bytes, those that wait; the tape and the row of those -/
theorem okK_o {K K' : e_M} (h : okK K) (hK : ∀ c, ¬ c = 0 → ¬ c = 6 → ¬ c = 22 → K' c = K c) (h3 : K' 0 3 = K 0 3) (h7 : ∃ p, K' 0 7 = nI p ∧ p ≤ 96) (h33 : ∃ m, K' 0 33 = nI m ∧ m ≤ 60) : okK K' := by
  obtain ⟨⟨a1, a2, a3⟩, a4, a5, a6, a7, a8, a9, a10, a11⟩ := h
  refine ⟨⟨?_, ?_, ?_⟩, ?_, h7, h33, ?_, ?_, ?_, ?_, ?_⟩
  · rw [hK 1 (by decide) (by decide) (by decide)]; exact a1
  · rw [hK 1 (by decide) (by decide) (by decide), hK 2 (by decide) (by decide) (by decide), h3]; exact a2
  · rw [h3]; exact a3
  · rw [hK 13 (by decide) (by decide) (by decide)]; exact a4
  · intro j hj; unfold szR; rw [hK 15 (by decide) (by decide) (by decide)]; exact a7 j hj
  · intro j hj; rw [hK 17 (by decide) (by decide) (by decide), hK 18 (by decide) (by decide) (by decide)]; exact a8 j hj
  · intro b hb; rw [hK 1 (by decide) (by decide) (by decide), hK 2 (by decide) (by decide) (by decide), hK 3 (by decide) (by decide) (by decide)]; exact a9 b hb
  · intro j hj; rw [hK 14 (by decide) (by decide) (by decide), hK 15 (by decide) (by decide) (by decide), hK 16 (by decide) (by decide) (by decide)]; exact a10 j hj
  · intro j hj; rw [hK 17 (by decide) (by decide) (by decide)]; exact a11 j hj
/-- sheets and slots -/
theorem okK_s {K K' : e_M} (h : okK K) (hK : ∀ c, c < 14 → K' c = K c) (hS : okS K') (hH : okH K') (hs : ∀ j, j < 4 → (K' 14 j = -1 ∧ K' 15 j = 0 ∨ K' 14 j = 0 ∨ K' 14 j = 1) ∧ ∀ i, i < 24 → K' 16 (24 * j + i) = NON ∨ -99999 ≤ K' 16 (24 * j + i) ∧ K' 16 (24 * j + i) ≤ 99999) (ht : ∀ j, j < 5 → K' 17 j = 0 ∨ K' 17 j = 1 ∨ K' 17 j = 2 ∨ K' 17 j = 3) : okK K' := by
  obtain ⟨⟨a1, a2, a3⟩, a4, a5, a6, a7, a8, a9, a10, a11⟩ := h
  refine ⟨⟨?_, ?_, ?_⟩, ?_, ?_, ?_, hS, hH, ?_, hs, ht⟩
  · rw [hK 1 (by decide)]; exact a1
  · rw [hK 1 (by decide), hK 2 (by decide), hK 0 (by decide)]; exact a2
  · rw [hK 0 (by decide)]; exact a3
  · rw [hK 13 (by decide)]; exact a4
  · rw [hK 0 (by decide)]; exact a5
  · rw [hK 0 (by decide)]; exact a6
  · intro b hb; rw [hK 1 (by decide), hK 2 (by decide), hK 3 (by decide)]; exact a9 b hb
theorem okK_sh {K : e_M} {j : Nat} {so n : Int32} (h : okK K) (hj : j < 4) (hso : so = -1 ∧ n = 0 ∨ so = 0 ∨ so = 1) (hn : 0 ≤ n ∧ n ≤ 24) : okK (a_sh K j so n) := by
  have eK : ∀ c, ¬ c = 14 → ¬ c = 15 → ¬ c = 16 → a_sh K j so n c = K c := fun c c1 c2 c3 => by funext b; simp [a_sh, e_up_r, e_st_r, c1, c2, c3]
  have e14 : ∀ i, a_sh K j so n 14 i = if i = j then so else K 14 i := fun i => by simp [a_sh, e_up_r, e_st_r]
  have e15 : ∀ i, a_sh K j so n 15 i = if i = j then n else K 15 i := fun i => by simp [a_sh, e_up_r, e_st_r]
  have e16 : ∀ i, a_sh K j so n 16 i = if 24 * j ≤ i ∧ i < 24 * j + 24 then 0 else K 16 i := fun i => by simp [a_sh, e_up_r, a_zr]
  obtain ⟨z, hz, hnz⟩ := up_ex (n := 24) rfl (by decide) hn
  obtain ⟨⟨a1, a2, a3⟩, a4, a5, a6, a7, a8, a9, a10, a11⟩ := id h
  refine okK_s h (fun c hc => eK c (by omega) (by omega) (by omega)) (fun i hi => ?_) (fun i hi => ?_) (fun i hi => ⟨?_, fun u hu => ?_⟩) (fun i hi => ?_)
  · unfold szR
    rw [e15]
    by_cases hij : i = j
    · rw [if_pos hij, hnz, nI_clamp (by omega)]; exact ⟨rfl, hz⟩
    · rw [if_neg hij]; exact a7 i hi
  · rw [eK 17 (by decide) (by decide) (by decide), eK 18 (by decide) (by decide) (by decide)]; exact a8 i hi
  · rw [e14, e15]
    by_cases hij : i = j
    · rw [if_pos hij, if_pos hij]; exact hso
    · rw [if_neg hij, if_neg hij]; exact (a10 i hi).1
  · rw [e16]
    split
    · right; decide
    · exact (a10 i hi).2 u hu
  · rw [eK 17 (by decide) (by decide) (by decide)]; exact a11 i hi
theorem okK_16 {K K' : e_M} (h : okK K) (hK : ∀ c, ¬ c = 16 → ¬ c = 21 → K' c = K c) (h16 : ∀ i, i < 96 → K' 16 i = NON ∨ -99999 ≤ K' 16 i ∧ K' 16 i ≤ 99999) : okK K' := by
  obtain ⟨⟨a1, a2, a3⟩, a4, a5, a6, a7, a8, a9, a10, a11⟩ := id h
  refine okK_s h (fun c hc => hK c (by omega) (by omega)) (fun i hi => ?_) (fun i hi => ?_) (fun i hi => ⟨?_, fun u hu => h16 _ (by omega)⟩) (fun i hi => ?_)
  · unfold szR; rw [hK 15 (by decide) (by decide)]; exact a7 i hi
  · rw [hK 17 (by decide) (by decide), hK 18 (by decide) (by decide)]; exact a8 i hi
  · rw [hK 14 (by decide) (by decide), hK 15 (by decide) (by decide)]; exact (a10 i hi).1
  · rw [hK 17 (by decide) (by decide)]; exact a11 i hi
theorem okK_v {K : e_M} (h : okK K) {i : Nat} (hi : i < 96) : K 16 i = NON ∨ -99999 ≤ K 16 i ∧ K 16 i ≤ 99999 := by
  have := (h.2.2.2.2.2.2.2.1 (i / 24) (by omega)).2 (i % 24) (by omega)
  rw [show 24 * (i / 24) + i % 24 = i by omega] at this
  exact this
theorem okK_cp {K : e_M} {a b m : Nat} (h : okK K) (ha : a + m ≤ 96) (hb : b + m ≤ 96) : okK (a_cpm K a b m) := by
  refine okK_16 h (fun c c1 c2 => by simp [a_cpm, e_up, c1, c2]) (fun i hi => ?_)
  have e : a_cpm K a b m 16 = va_cpy (K 16) (K 16) a b m := by simp [a_cpm, e_up]
  rw [e]
  by_cases hr : b ≤ i ∧ i < b + m
  · rw [pk_cpy_in hr.1 hr.2]; exact okK_v h (by omega)
  · rw [pk_cpy_out (by omega)]; exact okK_v h hi
theorem okK_mk {K : e_M} {i : Nat} {v : Int32} (h : okK K) (hv : v = NON ∨ -99999 ≤ v ∧ v ≤ 99999) : okK (e_st K 16 i v) := by
  refine okK_16 h (fun c c1 _ => e_st_o c c1) (fun k hk => ?_)
  rw [e_st_r, if_pos rfl]
  split
  · exact hv
  · exact okK_v h hk
theorem sh_b (v : Int32) : -99999 ≤ v.toInt16.toInt32 ∧ v.toInt16.toInt32 ≤ 99999 := by
  have a := Int16.le_toInt v.toInt16
  have b := Int16.toInt_lt v.toInt16
  rw [Int32.le_iff_toInt_le, Int32.le_iff_toInt_le, Int16.toInt_toInt32, show (-99999 : Int32).toInt = -99999 from rfl, show (99999 : Int32).toInt = 99999 from rfl]
  omega
theorem okK_ly {K K' : e_M} {j : Nat} {t : Int32} (h : okK K) (hK : ∀ c, ¬ c = 17 → ¬ c = 18 → ¬ c = 19 → ¬ c = 20 → K' c = K c) (h17 : ∀ i, K' 17 i = if i = j then t else K 17 i) (h18 : ∀ i, ¬ i = j → K' 18 i = K 18 i) (ht : t = 0 ∨ t = 1 ∨ t = 2 ∨ t = 3) (h2 : t = 2 → ∃ m, m ≤ 24 ∧ K' 18 j = nI m) : okK K' := by
  obtain ⟨⟨a1, a2, a3⟩, a4, a5, a6, a7, a8, a9, a10, a11⟩ := id h
  refine okK_s h (fun c hc => hK c (by omega) (by omega) (by omega) (by omega)) (fun i hi => ?_) (fun i hi h2' => ?_) (fun i hi => ?_) (fun i hi => ?_)
  · unfold szR; rw [hK 15 (by decide) (by decide) (by decide) (by decide)]; exact a7 i hi
  · rw [h17] at h2'
    by_cases hij : i = j
    · rw [if_pos hij] at h2'; rw [hij]; exact h2 h2'
    · rw [if_neg hij] at h2'; rw [h18 i hij]; exact a8 i hi h2'
  · rw [hK 14 (by decide) (by decide) (by decide) (by decide), hK 15 (by decide) (by decide) (by decide) (by decide), hK 16 (by decide) (by decide) (by decide) (by decide)]; exact a10 i hi
  · rw [h17]
    split
    · exact ht
    · exact a11 i hi
