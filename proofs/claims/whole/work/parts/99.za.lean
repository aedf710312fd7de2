/-! ===== the law: each call of the class against that of the reference (pure) ===== -/
def inv (K : e_M) : Prop := okK K ∧ okc0 K ∧ okby (K 6)
theorem inv_k {K K' : e_M} (h : inv K) (hk : okK K') (h6 : K' 6 = K 6) (h7 : K' 7 = K 7) (h8 : K' 8 = K 8) : inv K' := by
  refine ⟨hk, ?_, by rw [h6]; exact h.2.2⟩
  unfold okc0
  rw [h7, h8]
  exact h.2.1
theorem rel_K {M K K' : e_M} (h : rel M K) (hK : ∀ c, (c < 3 ∨ c = 6 ∨ (14 ≤ c ∧ c ≤ 22)) → K' c = K c) : rel M K' := by
  obtain ⟨⟨a1, a2⟩, a3, a4, a5, a6, a7⟩ := h
  refine ⟨⟨?_, ?_⟩, ?_, ?_, ?_, fun j hj => ?_, fun j hj => ?_⟩
  · rw [hK 1 (by omega)]; exact a1
  · rw [hK 0 (by omega), hK 2 (by omega)]; exact a2
  · rw [hK 0 (by omega)]; exact a3
  · rw [hK 6 (by omega)]; exact a4
  · rw [hK 22 (by omega)]; exact a5
  · unfold shr; rw [hK 14 (by omega), hK 15 (by omega), hK 16 (by omega)]; exact a6 j hj
  · unfold slr; rw [hK 17 (by omega), hK 18 (by omega), hK 19 (by omega), hK 20 (by omega)]; exact a7 j hj
/-- only cells from 3 on, but none that counts, are new -/
theorem pr_K {N K K' : e_M} (h : inv K) (hr : rel N K) (h13 : K' 13 3 = 0) (hK : ∀ c, ¬ c = 4 → ¬ c = 5 → ¬ c = 12 → ¬ c = 13 → K' c = K c) : rel N K' ∧ inv K' :=
  ⟨rel_K hr (fun c hc => hK c (by omega) (by omega) (by omega) (by omega)), inv_k h (okK_cg h.1 (fun b hb => by rw [hK 0 (by decide) (by decide) (by decide) (by decide)]) (fun c hc => hK c (by omega) (by omega) (by omega) (by omega)) h13) (hK 6 (by decide) (by decide) (by decide) (by decide)) (hK 7 (by decide) (by decide) (by decide) (by decide)) (hK 8 (by decide) (by decide) (by decide) (by decide))⟩
section PR
variable {N K K' : e_M} {r r' : Option Value}
theorem pr_th {V : Int32} (h : inv K) (h7 : r = some (.int V) ∧ rel N K) (h8 : r' = some (.int V) ∧ th0 K K') : r' = r ∧ rel N K' ∧ inv K' :=
  ⟨h8.1.trans h7.1.symm, pr_K h h7.2 h8.2.1 h8.2.2⟩
theorem pr_f {q : Prop × Option Int32 × e_M} {V : Int32} {KV : e_M} (h7 : r = some (.int V) ∧ rel N KV) (h8 : e_po q r' K') (hv : q.2.1 = some V) (hk : q.2.2 = KV) (hi : inv KV) : r' = r ∧ rel N K' ∧ inv K' := by
  obtain ⟨h8a, h8b⟩ := h8
  rw [h8a, hv, h8b, hk, h7.1]
  exact ⟨rfl, h7.2, hi⟩
theorem pr_g {q : Prop × Option Int32 × e_M} {V : Int32} (h : inv K) (h7 : r = some (.int V) ∧ rel N K) (h8 : e_po q r' K') (hv : q.2.1 = some V) (h13 : q.2.2 13 3 = 0) (hK : ∀ c, ¬ c = 4 → ¬ c = 5 → ¬ c = 12 → ¬ c = 13 → q.2.2 c = K c) : r' = r ∧ rel N K' ∧ inv K' := by
  obtain ⟨h8a, h8b⟩ := h8
  rw [h8a, hv, h8b, h7.1]
  exact ⟨rfl, pr_K h h7.2 h13 hK⟩
theorem inv_n (h : inv K) : okn K := h.1.1.1.1.1.1
theorem inv_t (h : inv K) : okt K := ⟨h.1.1.1.1.1.2.1.1, h.1.1.1.1.1.2.1.2.1⟩
theorem inv_T (h : inv K) : okT (K 1) := h.1.1.1.1.1.2.1
theorem inv_A (h : inv K) : okA (K 1) := h.1.1.1.1.1
theorem inv_3 (h : inv K) : K 13 3 = 0 := h.1.2.1
theorem inv_S (h : inv K) : okS K := h.1.2.2.2.2.1
theorem inv_H (h : inv K) : okH K := h.1.2.2.2.2.2.1
theorem in_3 {x : Int32} {n : Nat} (hn : n < 2 ^ 31) (h : 0 ≤ x ∧ x ≤ nI n) : ∃ k, k ≤ n ∧ x = nI k := up_ex (n := n) rfl hn h
theorem pr_burns {l x : Int32} (h : inv K) (h7 : r = some (.int (if (0 ≤ l ∧ l ≤ K 1 1 - 1) ∧ 0 ≤ x ∧ x ≤ 59 then a_brn (K 1) l.toNatClampNeg x else BAD)) ∧ rel N K) (h8 : e_po (f8_burns [l, x] K) r' K') : r' = r ∧ rel N K' ∧ inv K' := by
  refine pr_g h h7 h8 rfl ?_ (fun c c4 c5 c12 c13 => ?_)
  · show (if (0 ≤ l ∧ l ≤ K 1 1 - 1) ∧ 0 ≤ x ∧ x ≤ 59 then a_bm K l.toNatClampNeg x else K) 13 3 = 0
    split
    · rw [a_bm_3]; exact inv_3 h
    · exact inv_3 h
  · show (if (0 ≤ l ∧ l ≤ K 1 1 - 1) ∧ 0 ≤ x ∧ x ≤ 59 then a_bm K l.toNatClampNeg x else K) c = K c
    split
    · exact a_bm_o c12 c13
    · rfl
theorem a_fm_o {M : e_M} {key a b : Int32} {c : Nat} (h1 : ¬ c = 12) (h2 : ¬ c = 13) : a_fm M key a b c = M c := by
  unfold a_fm
  split
  · simp [a_m2, e_st, h2]
  · simp [e_up, a_m2, e_st, h1, h2]
theorem a_fm_3 {M : e_M} {key a b : Int32} : a_fm M key a b 13 3 = M 13 3 := by
  unfold a_fm
  split
  · simp [a_m2, e_st_r]
  · rw [e_up_r, if_neg (by decide)]; simp [a_m2, e_st_r]
theorem pr_fee (h : inv K) (h7 : r = some (.int (a_txt (K 1) 1 (K 1 4) (a_f3 (K 1 2) (K 1 4) 0))) ∧ rel N K) (h8 : e_po (f8_fee [] K) r' K') : r' = r ∧ rel N K' ∧ inv K' :=
  pr_g h h7 h8 rfl (a_fm_3.trans (inv_3 h)) (fun c _ _ c12 c13 => a_fm_o c12 c13)
theorem pr_fine {l : Int32} (h : inv K) (h7 : r = some (.int (if 0 ≤ l ∧ l ≤ K 1 1 - 1 then a_txt (K 1) 2 (fR K 7 l.toNatClampNeg) (a_f3 (fR K 7 l.toNatClampNeg) (fR K 8 l.toNatClampNeg) 0) else BAD)) ∧ rel N K) (h8 : e_po (f8_fine [l] K) r' K') : r' = r ∧ rel N K' ∧ inv K' := by
  refine pr_g h h7 h8 rfl ?_ (fun c c4 c5 c12 c13 => ?_)
  · show (if 0 ≤ l ∧ l ≤ K 1 1 - 1 then a_fm K 2 (fR K 7 l.toNatClampNeg) (fR K 8 l.toNatClampNeg) else K) 13 3 = 0
    split
    · rw [a_fm_3]; exact inv_3 h
    · exact inv_3 h
  · show (if 0 ≤ l ∧ l ≤ K 1 1 - 1 then a_fm K 2 (fR K 7 l.toNatClampNeg) (fR K 8 l.toNatClampNeg) else K) c = K c
    split
    · exact a_fm_o c12 c13
    · rfl
theorem inv_st1 {b : Nat} {v : Int32} (h : inv K) (hk : okK (e_st K 1 b v)) : inv (e_st K 1 b v) := inv_k h hk (e_st_o 6 (by decide)) (e_st_o 7 (by decide)) (e_st_o 8 (by decide))
theorem iv_turns {l k : Int32} (h : inv K) : inv (if (0 ≤ l ∧ l ≤ K 1 1 - 1) ∧ 0 ≤ k ∧ k ≤ 5 then e_st K 1 (6 + 9 * l.toNatClampNeg + 0) k else K) := by
  split
  · rename_i z
    have hn := inv_n h
    obtain ⟨j, hj, rfl⟩ := in_ex hn.1 (by have := hn.2; omega) z.1
    rw [nI_clamp (by have := hn.2; omega)]
    exact inv_st1 h (okK_f (w := 0) h.1 hj (by decide) (fun _ => z.2) (fun y => absurd y (by decide)))
  · exact h
theorem iv_set {l w v : Int32} (h : inv K) : inv (if k_set K l w v then e_st K 1 (6 + 9 * l.toNatClampNeg + w.toNatClampNeg) v else K) := by
  split
  · rename_i z
    have hn := inv_n h
    obtain ⟨z1, ⟨z2, z3⟩, z4, z5⟩ := z
    obtain ⟨j, hj, rfl⟩ := in_ex hn.1 (by have := hn.2; omega) z1
    obtain ⟨i, hi, rfl⟩ := in_3 (x := w) (n := 4) (by decide) ⟨Int32.le_trans (by decide) z2, z3⟩
    rw [nI_clamp (by have := hn.2; omega), nI_clamp (by omega)]
    refine inv_st1 h (okK_f (w := i) h.1 hj (by omega) (fun y => ?_) (fun y => ?_))
    · rw [y] at z2; exact absurd z2 (by decide)
    · subst y
      have e3 : ¬ nI 1 = 3 := by decide
      have e1 : nI 1 = 1 := rfl
      rw [if_neg e3] at z4
      rw [if_pos e1] at z5
      obtain ⟨u, hu, rfl⟩ := in_3 (x := v) (n := 2) (by decide) ⟨z4, z5⟩
      have : u = 0 ∨ u = 1 ∨ u = 2 := by omega
      rcases this with rfl | rfl | rfl
      · left; rfl
      · right; left; rfl
      · right; right; rfl
  · exact h
theorem iv_rule {w v : Int32} (h : inv K) : inv (if w = 0 ∧ 0 ≤ v ∧ v ≤ 3 then e_st K 1 3 v else if w = 1 ∧ 0 ≤ v ∧ v ≤ 99 then e_st K 1 4 v else K) := by
  split
  · rename_i z
    obtain ⟨u, hu, rfl⟩ := in_3 (x := v) (n := 3) (by decide) z.2
    refine inv_st1 h (okK_h h.1 (by omega) (fun _ => ?_))
    have : u = 0 ∨ u = 1 ∨ u = 2 ∨ u = 3 := by omega
    rcases this with rfl | rfl | rfl | rfl
    · left; rfl
    · right; left; rfl
    · right; right; left; rfl
    · right; right; right; rfl
  · split
    · exact inv_st1 h (okK_h h.1 (by omega) (fun z => absurd z (by decide)))
    · exact h
theorem iv_seed {v : Int32} (h : inv K) : inv (e_st K 1 0 v) := inv_st1 h (okK_h h.1 (by omega) (fun z => absurd z (by decide)))
theorem iv_lodger {k s w : Int32} (h : inv K) : inv (if k_lod k s w ∧ ¬ K 1 1 = 10 then a_com K k s w else K) := by
  split
  · rename_i z
    have hn := inv_n h
    obtain ⟨⟨z1, z2, z3⟩, z4⟩ := z
    obtain ⟨u, hu, rfl⟩ := in_3 (x := s) (n := 2) (by decide) z2
    have hlt : nA (K 1) < 10 := by
      have h10 : nR K ≤ 10 := hn.2
      refine Nat.lt_of_le_of_ne h10 (fun y => z4 ?_)
      have y : nR K = 10 := y
      rw [hn.1, y]; rfl
    refine inv_k h (okK_c h.1 hlt z1 ?_) (a_com_o (by decide)) (a_com_o (by decide)) (a_com_o (by decide))
    have : u = 0 ∨ u = 1 ∨ u = 2 := by omega
    rcases this with rfl | rfl | rfl
    · left; rfl
    · right; left; rfl
    · right; right; rfl
  · exact h
theorem d_n_o {c : Nat} (hc : ¬ c = 1) : ∀ k, d_n K k c = K c := by
  intro k
  induction k with
  | zero => rfl
  | succ k ih =>
    rw [d_n, ← ih]
    unfold d_1
    rw [a_com_o hc, e_st_o c hc, e_st_o c hc, e_st_o c hc]
theorem iv_deal {n : Int32} (h : inv K) : inv (if 1 ≤ n ∧ n ≤ 10 then d_n K (min n.toNatClampNeg (10 - nR K)) else K) := by
  split
  · have hn := inv_n h
    refine inv_k h (okK_d h.1 _ ?_) (d_n_o (by decide) _) (d_n_o (by decide) _) (d_n_o (by decide) _)
    have : nA (K 1) = nR K := rfl
    have := hn.2
    omega
  · exact h
theorem pr_nights {n : Int32} (h : inv K) (h7 : if 1 ≤ n ∧ n ≤ 100 then r = some (.int (n_T (K 1) (q_nn (K 1) n).toNatClampNeg)) ∧ rel N (e_up K 1 (n_I (K 1) (q_nn (K 1) n).toNatClampNeg)) else r = some (.int BAD) ∧ rel N K) (h8 : if 1 ≤ n ∧ n ≤ 100 then n_Q K (q_nn (K 1) n).toNatClampNeg r' K' else r' = some (.int BAD) ∧ K' = K) : r' = r ∧ rel N K' ∧ inv K' := by
  by_cases hc : 1 ≤ n ∧ n ≤ 100
  · rw [if_pos hc] at h7 h8
    obtain ⟨b1, b2, b3, b4⟩ := h8
    have h0 : ¬ n < 0 := fun z => absurd (Int32.lt_of_le_of_lt hc.1 z) (by decide)
    have hi : inv (e_up K 1 (n_I (K 1) (q_nn (K 1) n).toNatClampNeg)) := inv_k h (okK_n h.1 h0) (by simp [e_up]) (by simp [e_up]) (by simp [e_up])
    refine ⟨b1.trans h7.1.symm, pr_K hi h7.2 b3 (fun c c4 c5 c12 c13 => ?_)⟩
    by_cases c1 : c = 1
    · subst c1; rw [b2]; simp [e_up]
    · rw [b4 c c1 c4 c12 c13]; simp [e_up, c1]
  · rw [if_neg hc] at h7 h8
    rw [h8.1, h8.2, h7.1]
    exact ⟨rfl, h7.2, h⟩
theorem iv_o {K2 : e_M} (h : inv K) (hK : ∀ c, ¬ c = 0 → ¬ c = 22 → K2 c = K c) (h3 : K2 0 3 = K 0 3) (h7 : ∃ p, K2 0 7 = nI p ∧ p ≤ 96) (h33 : ∃ m, K2 0 33 = nI m ∧ m ≤ 60) : inv K2 :=
  inv_k h (okK_o h.1 (fun c a _ b => hK c a b) h3 h7 h33) (hK 6 (by decide) (by decide)) (hK 7 (by decide) (by decide)) (hK 8 (by decide) (by decide))
theorem inv_7 (h : inv K) : ∃ p, K 0 7 = nI p ∧ p ≤ 96 := h.1.2.2.1
theorem inv_33 (h : inv K) : ∃ m, K 0 33 = nI m ∧ m ≤ 60 := h.1.2.2.2.1
theorem pr_check {n : Int32} {m : Nat} (h : inv K) (hm : K 0 33 = nI m) (hm60 : m ≤ 60) (h7 : r = some (.int (if 1 ≤ n ∧ n ≤ 30 then (if K 0 3 = 0 then NOO else q_ck K n (K 0 33).toNatClampNeg) else BAD)) ∧ rel N (e_st K 0 33 0)) (h8 : r' = some (.int (if 1 ≤ n ∧ n ≤ 30 then (if K 0 3 = 0 then NOO else q_ck K n m) else BAD)) ∧ ck K K') : r' = r ∧ rel N K' ∧ inv K' := by
  rw [hm, nI_clamp (by omega)] at h7
  obtain ⟨b1, c0, c13, c3, cc⟩ := h8
  have e0 : ∀ b, K' 0 b = e_st K 0 33 0 0 b := fun b => by rw [c0, e_st_s]
  have e0' : K' 0 = e_st K 0 33 0 0 := funext e0
  have i1 : inv (e_st K 0 33 0) := iv_o h (fun c c0 _ => e_st_o c c0) (by simp [e_st_r]) (by obtain ⟨p, hp, hp2⟩ := inv_7 h; exact ⟨p, by simp [e_st_r, hp], hp2⟩) ⟨0, by simp [e_st_r]; rfl, by decide⟩
  have eK : ∀ c, ¬ c = 3 → ¬ c = 4 → ¬ c = 12 → ¬ c = 13 → K' c = e_st K 0 33 0 c := fun c z3 z4 z12 z13 => by
    by_cases z0 : c = 0
    · subst z0; exact e0'
    · rw [cc c z0 z3 z4 z12 z13, e_st_o c z0]
  refine ⟨b1.trans h7.1.symm, rel_K h7.2 (fun c hc => eK c (by omega) (by omega) (by omega) (by omega)), inv_k i1 ?_ (eK 6 (by decide) (by decide) (by decide) (by decide)) (eK 7 (by decide) (by decide) (by decide) (by decide)) (eK 8 (by decide) (by decide) (by decide) (by decide))⟩
  obtain ⟨⟨a1, a2, a3⟩, a4, a5, a6, a7, a8, a9, a10, a11⟩ := i1.1
  have E : ∀ c, (c = 0 ∨ c = 1 ∨ c = 2 ∨ 14 ≤ c) → K' c = e_st K 0 33 0 c := fun c hc => eK c (by omega) (by omega) (by omega) (by omega)
  refine ⟨⟨?_, ?_, ?_⟩, c13, ?_, ?_, ?_, ?_, ?_, ?_, ?_⟩
  · rw [E 1 (by omega)]; exact a1
  · rw [E 1 (by omega), E 2 (by omega), E 0 (by omega)]; exact a2
  · rw [E 0 (by omega)]; exact a3
  · rw [E 0 (by omega)]; exact a5
  · rw [E 0 (by omega)]; exact a6
  · intro j hj; unfold szR; rw [E 15 (by omega)]; exact a7 j hj
  · intro j hj; rw [E 17 (by omega), E 18 (by omega)]; exact a8 j hj
  · intro b hb; rw [E 1 (by omega), E 2 (by omega)]; exact ⟨(a9 b hb).1, (a9 b hb).2.1, c3 b hb⟩
  · intro j hj; rw [E 14 (by omega), E 15 (by omega), E 16 (by omega)]; exact a10 j hj
  · intro j hj; rw [E 17 (by omega)]; exact a11 j hj
theorem iv_trim {n : Int32} (h : inv K) : inv (if 0 ≤ n ∧ n ≤ K 0 7 then e_st K 0 7 n else K) := by
  split
  · rename_i z
    obtain ⟨p, hp, hp2⟩ := inv_7 h
    rw [hp] at z
    obtain ⟨u, hu, rfl⟩ := in_3 (n := p) (by omega) z
    exact iv_o h (fun c c0 _ => e_st_o c c0) (by simp [e_st_r]) ⟨u, by simp [e_st_r], by omega⟩ (by obtain ⟨m, hm, hm2⟩ := inv_33 h; exact ⟨m, by simp [e_st_r, hm], hm2⟩)
  · exact h
theorem iv_tell {v : Int32} (h : inv K) : inv (if K 0 33 = 60 then K else e_st (e_st K 22 (K 0 33).toNatClampNeg v) 0 33 (K 0 33 + 1)) := by
  split
  · exact h
  · rename_i z
    obtain ⟨m, hm, hm2⟩ := inv_33 h
    have hlt : m < 60 := Nat.lt_of_le_of_ne hm2 (fun y => z (by rw [hm, y]; rfl))
    exact iv_o h (fun c c0 c22 => by rw [e_st_o c c0, e_st_o c c22]) (by simp [e_st_r]) (by obtain ⟨p, hp, hp2⟩ := inv_7 h; exact ⟨p, by simp [e_st_r, hp], hp2⟩) ⟨m + 1, by simp [e_st_r]; rw [hm, nI_succ], by omega⟩
theorem hp_tell (h : inv K) : K 0 33 = 60 ∨ vp_in (K 0 33) 60 := by
  obtain ⟨m, hm, hm2⟩ := inv_33 h
  by_cases e : m = 60
  · left; rw [hm, e]; rfl
  · right; rw [hm]; exact vp_in_nI (by omega) (by decide)
theorem hp_feed (h : inv K) : K 0 7 = nI (pR K) ∧ pR K ≤ 96 := by
  obtain ⟨p, hp, hp2⟩ := inv_7 h
  have e : pR K = p := by unfold pR; rw [hp, nI_clamp (by omega)]
  rw [e]
  exact ⟨hp, hp2⟩
theorem iv_feed {a b c : Int32} (h : inv K) : inv (if K 0 7 + 12 ≤ 96 then e_st (e_up K 6 (a_fd (K 6) (pR K) a b c 12)) 0 7 (K 0 7 + 12) else K) := by
  split
  · rename_i z
    obtain ⟨p, hp, hp2⟩ := inv_7 h
    have e12 : K 0 7 + 12 = nI (p + 12) := by rw [hp, show (12 : Int32) = nI 12 from rfl, nI_add]
    have hle : p + 12 ≤ 96 := by
      rw [e12] at z
      exact Nat.le_of_not_lt (fun y => absurd z (Int32.not_le.mpr (nI_lt (b := p + 12) y (by omega))))
    have e6 : e_st (e_up K 6 (a_fd (K 6) (pR K) a b c 12)) 0 7 (K 0 7 + 12) 6 = a_fd (K 6) (pR K) a b c 12 := by rw [e_st_o 6 (by decide)]; simp [e_up]
    refine ⟨okK_o h.1 (fun c c0 c6 _ => by rw [e_st_o c c0]; simp [e_up, c6]) (by simp [e_st_r, e_up_r]) ⟨p + 12, by simp [e_st_r]; exact e12, hle⟩ (by obtain ⟨m, hm, hm2⟩ := inv_33 h; exact ⟨m, by simp [e_st_r, e_up_r, hm], hm2⟩), ?_, by rw [e6]; exact okby_fd h.2.2⟩
    have e7 : e_st (e_up K 6 (a_fd (K 6) (pR K) a b c 12)) 0 7 (K 0 7 + 12) 7 = K 7 := by rw [e_st_o 7 (by decide)]; simp [e_up]
    have e8 : e_st (e_up K 6 (a_fd (K 6) (pR K) a b c 12)) 0 7 (K 0 7 + 12) 8 = K 8 := by rw [e_st_o 8 (by decide)]; simp [e_up]
    unfold okc0
    rw [e7, e8]
    exact h.2.1
  · exact h
theorem iv_hi {K2 : e_M} (h : inv K) (hk : okK K2) (hK : ∀ c, c < 14 → K2 c = K c) : inv K2 := inv_k h hk (hK 6 (by decide)) (hK 7 (by decide)) (hK 8 (by decide))
theorem iv_sheet {s so n : Int32} (h : inv K) : inv ((f8_sheet [s, so, n] K).2.2) := by
  show inv (if (0 ≤ s ∧ s ≤ 3) ∧ -1 ≤ so ∧ so ≤ 1 then (if so < 0 then a_sh K s.toNatClampNeg so 0 else if n ≤ 24 then (if 0 ≤ n then a_sh K s.toNatClampNeg so n else K) else K) else K)
  have key : ∀ (j : Nat) (so n : Int32), j < 4 → (so = -1 ∧ n = 0 ∨ so = 0 ∨ so = 1) → (0 ≤ n ∧ n ≤ 24) → inv (a_sh K j so n) := fun j so n hj h1 h2 => iv_hi h (okK_sh h.1 hj h1 h2) (fun c hc => by funext b; simp [a_sh, e_up_r, e_st_r, show ¬ c = 14 by omega, show ¬ c = 15 by omega, show ¬ c = 16 by omega])
  split
  · rename_i z
    obtain ⟨z1, z2, z3⟩ := z
    obtain ⟨u, hu, rfl⟩ := in_3 (x := s) (n := 3) (by decide) z1
    rw [nI_clamp (by omega)]
    split
    · rename_i y
      have e : so = -1 := by
        apply Int32.le_antisymm _ z2
        rw [Int32.le_iff_toInt_le]
        rw [Int32.lt_iff_toInt_lt] at y
        have e0 : (0 : Int32).toInt = 0 := rfl
        have e1 : (-1 : Int32).toInt = -1 := rfl
        omega
      exact key u so 0 (by omega) (Or.inl ⟨e, rfl⟩) (by decide)
    · rename_i y
      obtain ⟨t, ht, e⟩ := in_3 (x := so) (n := 1) (by decide) ⟨Int32.not_lt.mp y, z3⟩
      have hso : so = 0 ∨ so = 1 := by
        have : t = 0 ∨ t = 1 := by omega
        rcases this with rfl | rfl
        · left; exact e
        · right; exact e
      split
      · rename_i w
        split
        · rename_i w2
          exact key u so n (by omega) (Or.inr hso) ⟨w2, w⟩
        · exact h
      · exact h
  · exact h
theorem iv_mark {s p v : Int32} (h : inv K) : inv ((f8_mark [s, p, v] K).2.2) := by
  have key : ∀ (i : Nat) (x : Int32), (x = NON ∨ -99999 ≤ x ∧ x ≤ 99999) → inv (e_st K 16 i x) := fun i x hx => iv_hi h (okK_mk h.1 hx) (fun c hc => e_st_o c (by omega))
  show inv (if 0 ≤ s ∧ s ≤ 3 then (if 0 ≤ K 14 s.toNatClampNeg then (if 0 ≤ p ∧ p ≤ K 15 s.toNatClampNeg - 1 then (if K 14 s.toNatClampNeg = 0 then (if v = NON then K else e_st K 16 (24 * s.toNatClampNeg + p.toNatClampNeg) v.toInt16.toInt32) else if K 14 s.toNatClampNeg = 1 then (if v = NON then e_st K 16 (24 * s.toNatClampNeg + p.toNatClampNeg) v else if -99999 ≤ v ∧ v ≤ 99999 then e_st K 16 (24 * s.toNatClampNeg + p.toNatClampNeg) v else K) else e_st K 16 (24 * s.toNatClampNeg + p.toNatClampNeg) v) else K) else K) else K)
  by_cases c1 : 0 ≤ s ∧ s ≤ 3
  · rw [if_pos c1]
    by_cases c2 : 0 ≤ K 14 s.toNatClampNeg
    · rw [if_pos c2]
      by_cases c3 : 0 ≤ p ∧ p ≤ K 15 s.toNatClampNeg - 1
      · rw [if_pos c3]
        obtain ⟨u, hu, rfl⟩ := in_3 (x := s) (n := 3) (by decide) c1
        rw [nI_clamp (by omega)] at c2 ⊢
        by_cases c4 : K 14 u = 0
        · rw [if_pos c4]
          split
          · exact h
          · exact key _ _ (Or.inr (sh_b v))
        · rw [if_neg c4]
          by_cases c5 : K 14 u = 1
          · rw [if_pos c5]
            split
            · rename_i z; exact key _ _ (Or.inl z)
            · split
              · rename_i z; exact key _ _ (Or.inr z)
              · exact h
          · exfalso
            rcases (h.1.2.2.2.2.2.2.2.1 u (by omega)).1 with ⟨z, -⟩ | z | z
            · rw [z] at c2; exact absurd c2 (by decide)
            · exact c4 z
            · exact c5 z
      · rw [if_neg c3]; exact h
    · rw [if_neg c2]; exact h
  · rw [if_neg c1]; exact h
theorem iv_pour {s : Int32} (h : inv K) : inv ((f8_pour [s] K).2.2) := by
  show inv (if 0 ≤ s ∧ s ≤ 3 then (if 0 ≤ K 14 s.toNatClampNeg then (a_po K s.toNatClampNeg (min (szR K s.toNatClampNeg) (nR K))).2 else K) else K)
  split
  · split
    · refine inv_k h (okK_po h.1 _ (Nat.min_le_right _ _)) ?_ ?_ ?_ <;> (funext b; exact a_po_o _ _ _ (Or.inl (by decide)))
    · exact h
  · exact h
theorem iv_copy {f p t u m : Int32} (h : inv K) : inv ((f8_copy [f, p, t, u, m] K).2.2) := by
  show inv (if k_cp K f p t u m then a_cpm K (24 * f.toNatClampNeg + p.toNatClampNeg) (24 * t.toNatClampNeg + u.toNatClampNeg) m.toNatClampNeg else K)
  split
  · rename_i z
    obtain ⟨⟨z1, z2⟩, -, -, p0, u0, m0, z6, z7⟩ := z
    obtain ⟨fj, hf, rfl⟩ := in_3 (x := f) (n := 3) (by decide) z1
    obtain ⟨tj, ht, rfl⟩ := in_3 (x := t) (n := 3) (by decide) z2
    rw [nI_clamp (show fj < 2 ^ 31 by omega)] at z6 ⊢
    rw [nI_clamp (show tj < 2 ^ 31 by omega)] at z7 ⊢
    obtain ⟨a1, a2⟩ := inv_S h fj (by omega)
    obtain ⟨b1, b2⟩ := inv_S h tj (by omega)
    obtain ⟨pj, mj, ep, em, l1⟩ := cp_ex a1 a2 p0 m0 (Int32.not_lt.mp z6)
    obtain ⟨uj, mk, eu, em2, l2⟩ := cp_ex b1 b2 u0 m0 z7
    have hmm : mk = mj := by
      have := congrArg Int32.toNatClampNeg (em2.symm.trans em)
      rw [nI_clamp (by omega), nI_clamp (by omega)] at this
      exact this
    rw [ep, eu, em, nI_clamp (by omega), nI_clamp (by omega), nI_clamp (by omega)]
    exact iv_hi h (okK_cp h.1 (by omega) (by omega)) (fun c hc => by simp [a_cpm, e_up, show ¬ c = 16 by omega, show ¬ c = 21 by omega])
  · exact h
theorem iv_keep (h : inv K) : inv (e_st (e_up K 2 (a_cp (K 1) (K 2) 1468)) 0 3 1) := inv_k h (okK_keep h.1) (by rw [e_st_o 6 (by decide)]; simp [e_up]) (by rw [e_st_o 7 (by decide)]; simp [e_up]) (by rw [e_st_o 8 (by decide)]; simp [e_up])
theorem iv_back (h : inv K) : inv (if K 0 3 = 0 then K else e_up K 1 (a_cp (K 2) (K 1) 1468)) := by
  split
  · exact h
  · rename_i z
    exact inv_k h (okK_back h.1 z) (by simp [e_up]) (by simp [e_up]) (by simp [e_up])
theorem iv_lay {s t k : Int32} (h : inv K) : inv ((f8_lay [s, t, k] K).2.2) := by
  show inv (if (0 ≤ s ∧ s ≤ 4) ∧ 0 ≤ t ∧ t ≤ 3 then (if t = 1 then (if 0 ≤ k ∧ k ≤ K 1 1 - 1 then a_l3 K s.toNatClampNeg 1 (fR K 0 k.toNatClampNeg) (a_worth (fR K 0 k.toNatClampNeg) (fR K 2 k.toNatClampNeg / 10)) else K) else if t = 2 then (if 0 ≤ k ∧ k ≤ 3 then (if 0 ≤ K 14 k.toNatClampNeg then e_up (a_l3 K s.toNatClampNeg 2 (K 15 k.toNatClampNeg) 0) 20 (va_cpy (K 16) (K 20) (24 * k.toNatClampNeg) (24 * s.toNatClampNeg) 24) else K) else K) else a_l3 K s.toNatClampNeg t k 0) else K)
  have l3o : ∀ (j : Nat) (t a b : Int32) c, ¬ c = 17 → ¬ c = 18 → ¬ c = 19 → a_l3 K j t a b c = K c := fun j t a b c c1 c2 c3 => by unfold a_l3; rw [e_st_o c c3, e_st_o c c2, e_st_o c c1]
  have l317 : ∀ (j : Nat) (t a b : Int32) i, a_l3 K j t a b 17 i = if i = j then t else K 17 i := fun j t a b i => by simp [a_l3, e_st_r]
  have l318 : ∀ (j : Nat) (t a b : Int32) i, a_l3 K j t a b 18 i = if i = j then a else K 18 i := fun j t a b i => by simp [a_l3, e_st_r]
  have key : ∀ (j : Nat) (t a b : Int32), (t = 0 ∨ t = 1 ∨ t = 3) → inv (a_l3 K j t a b) := fun j t a b ht => iv_hi h (okK_ly (j := j) (t := t) h.1 (fun c c1 c2 c3 _ => l3o j t a b c c1 c2 c3) (l317 j t a b) (fun i hi => by rw [l318, if_neg hi]) (by rcases ht with z | z | z <;> simp [z]) (fun z => by rw [z] at ht; exact absurd ht (by decide))) (fun c hc => l3o j t a b c (by omega) (by omega) (by omega))
  split
  · rename_i z
    split
    · split
      · exact key _ _ _ _ (Or.inr (Or.inl rfl))
      · exact h
    · rename_i n1
      split
      · split
        · rename_i zk
          split
          · obtain ⟨u, hu, rfl⟩ := in_3 (x := k) (n := 3) (by decide) zk
            rw [nI_clamp (show u < 2 ^ 31 by omega)]
            obtain ⟨a1, a2⟩ := inv_S h u (by omega)
            refine iv_hi h (okK_ly (j := s.toNatClampNeg) (t := 2) h.1 (fun c c1 c2 c3 c4 => ?_) (fun i => ?_) (fun i hi => ?_) (by decide) (fun _ => ⟨szR K u, a2, ?_⟩)) (fun c hc => ?_)
            · simp only [e_up, if_neg c4]; exact l3o _ _ _ _ c c1 c2 c3
            · rw [e_up_r, if_neg (by decide)]; exact l317 _ _ _ _ i
            · funext; rw [e_up_r, if_neg (by decide), l318, if_neg hi]
            · rw [e_up_r, if_neg (by decide), l318, if_pos rfl]; exact a1
            · simp only [e_up, if_neg (show ¬ c = 20 by omega)]; exact l3o _ _ _ _ c (by omega) (by omega) (by omega)
          · exact h
        · exact h
      · rename_i n2
        obtain ⟨u, hu, rfl⟩ := in_3 (x := t) (n := 3) (by decide) z.2
        refine key _ _ _ _ ?_
        have : u = 0 ∨ u = 1 ∨ u = 2 ∨ u = 3 := by omega
        rcases this with rfl | rfl | rfl | rfl
        · left; rfl
        · exact absurd rfl n1
        · exact absurd rfl n2
        · right; right; rfl
  · exact h
end PR
