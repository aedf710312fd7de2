/-! ===== the tape holds bytes; the keys' letters stay ===== -/
theorem and_255 (x : Int32) : ∃ c, c < 256 ∧ x &&& 255 = nI c := by
  have hle : x.toBitVec.toNat &&& 255 ≤ 255 := Nat.and_le_right
  refine ⟨x.toBitVec.toNat &&& 255, by omega, ?_⟩
  apply Int32.toBitVec_inj.mp
  apply BitVec.eq_of_toNat_eq
  rw [Int32.toBitVec_and, BitVec.toNat_and]
  show x.toBitVec.toNat &&& 255 = (BitVec.ofNat 32 (x.toBitVec.toNat &&& 255)).toNat
  rw [BitVec.toNat_ofNat, Nat.mod_eq_of_lt (by omega)]
theorem okby_fd {f : Nat → Int32} {p k : Nat} {a b c : Int32} (h : okby f) : okby (a_fd f p a b c k) := by
  intro i hi
  unfold a_fd
  by_cases z : p ≤ i ∧ i < p + k
  · rw [if_pos z]
    exact and_255 _
  · rw [if_neg z]
    exact h i hi
/-! ===== text: the relation behind it (pure) ===== -/
def tP (n : Nat) (K : e_M) (r : Option Value) (N : e_M) : Prop := tf K N ∧ ((∃ p, rdX (K 6) n (K 0 11) = .inl p ∧ r = some (.int (-100 - nI p)) ∧ N 1 = K 1) ∨ (∃ w c, rdX (K 6) n (K 0 11) = .inr (w, c) ∧ w < 3 ∧ (if K 1 5 = 14 then r = some (.int FUL) ∧ N 1 = K 1 else r = some (.int (K 1 5)) ∧ N 1 = txA (K 1) w c)))
theorem tx_dm : ∀ w, w < 3 → ∀ l, l < 97 → (1000 * nI w + nI l) / 1000 = nI w ∧ e_rem (1000 * nI w + nI l) 1000 = nI l := by decide +kernel
theorem cP_rev : ∀ c : List Int32, cP c.reverse = cP c := by
  intro c
  induction c with
  | nil => rfl
  | cons x l ih => rw [List.reverse_cons, cP_app, ih]; simp [cP]
section TX
variable {A : Nat → Int32} {w : Nat} {c : List Int32}
theorem tx_lo {b : Nat} (hb : b < 96) (h5 : ¬ b = 5) : txA A w c b = A b := by
  unfold txA
  rw [if_neg h5, if_neg (by omega), if_neg (by omega), if_neg (by omega)]
theorem tx_5 : txA A w c 5 = A 5 + 1 := by unfold txA; rw [if_pos rfl]
theorem tx_h {t : Nat} (ht : t = tA A) : txA A w c (96 + 2 * t) = 1000 * nI w + nI c.length := by
  unfold txA
  rw [← ht, if_neg (by omega), if_pos rfl]
theorem tx_h1 {t : Nat} (ht : t = tA A) : txA A w c (97 + 2 * t) = nI (cP c) := by
  unfold txA
  rw [← ht, if_neg (by omega), if_neg (by omega), if_pos (by omega), cP_rev]
theorem tx_o {t : Nat} (ht : t < tA A) (h14 : tA A < 14) : txA A w c (96 + 2 * t) = A (96 + 2 * t) ∧ txA A w c (97 + 2 * t) = A (97 + 2 * t) := by
  unfold txA
  rw [if_neg (by omega), if_neg (by omega), if_neg (by omega), if_neg (by omega), if_neg (by omega), if_neg (by omega), if_neg (by omega), if_neg (by omega)]
  exact ⟨rfl, rfl⟩
theorem tx_c {t k : Nat} (ht : t = tA A) (hk : k < c.length) (hl : c.length ≤ 96) (h14 : t < 14) : cA (txA A w c) t k = c.getD k 0 := by
  unfold cA txA
  rw [← ht, if_neg (by omega), if_neg (by omega), if_neg (by omega), if_pos (by omega), show 124 + 96 * t + k - (124 + 96 * t) = k by omega]
theorem tx_co {t k : Nat} (ht : t < tA A) (hk : k < 96) (h14 : tA A < 14) : cA (txA A w c) t k = cA A t k := by
  unfold cA txA
  rw [if_neg (by omega), if_neg (by omega), if_neg (by omega), if_neg (by omega)]
theorem tx_hi {b : Nat} (h14 : tA A < 14) (hl : c.length ≤ 96) (hb : 1468 ≤ b) : txA A w c b = A b := by
  unfold txA
  rw [if_neg (by omega), if_neg (by omega), if_neg (by omega), if_neg (by omega)]
theorem tx_tA (h5 : A 5 = nI (tA A)) (h14 : tA A < 14) : tA (txA A w c) = tA A + 1 := by
  show (txA A w c 5).toNatClampNeg = _
  rw [tx_5, h5, ← nI_succ, nI_clamp (by omega)]
theorem tx_mA {t : Nat} (ht : t = tA A) (hw : w < 3) (hl : c.length ≤ 96) : mA (txA A w c) t = c.length := by
  unfold mA
  rw [tx_h ht, (tx_dm w hw c.length (by omega)).2, nI_clamp (by omega)]
theorem tx_mo {t : Nat} (ht : t < tA A) (h14 : tA A < 14) : mA (txA A w c) t = mA A t := by
  unfold mA
  rw [(tx_o ht h14).1]
theorem tx_cts {k : Int32} (h14 : tA A < 14) : ∀ t, t ≤ tA A → a_cts (txA A w c) k t = a_cts A k t := by
  intro t
  induction t with
  | zero => intro _; rfl
  | succ t ih => intro ht; rw [a_cts, a_cts, (tx_o (by omega) h14).1, ih (by omega)]
end TX
/-- what text makes of the class's memory -/
def tM (t w : Nat) (c : List Int32) (M N : e_M) : Prop := (N 0 1 = 0 ∧ (∀ b, ¬ b = 1 → N 0 b = M 0 b)) ∧ (∀ a, ¬ a = 0 → ¬ a = 3 → ¬ a = 4 → ¬ a = 5 → ¬ a = 7 + t → ¬ a = 22 → ¬ a = 23 → ¬ a = 24 → ¬ a = 35 → N a = M a) ∧ (N 3 = upd (M 3) t (nI w) ∧ N 4 = upd (M 4) t (nI (cP c)) ∧ N 5 = upd (M 5) t (nI c.length)) ∧ (∀ k, k < c.length → N (7 + t) k = tr (c.getD k 0)) ∧ N 35 = upd (M 35) w (nI t) ∧ (∀ b, ¬ b = 7 → N 24 b = M 24 b) ∧ N 24 7 = nI (t + 1)
theorem rel_tx {M N K K' : e_M} {t w : Nat} {c : List Int32} (h : rel M K) (ho : okK K) (ht : t = tA (K 1)) (h14 : t < 14) (hw : w < 3) (hl : c.length ≤ 96) (hf : tf K K') (h1 : K' 1 = txA (K 1) w c) (hN : tM t w c M N) : rel N K' := by
  obtain ⟨⟨a1, a2⟩, a3, ⟨a4, a5, a6⟩, a7, a8, a9, a10⟩ := hN
  have okt : okT (K 1) := ho.1.1.1.1.2.1
  obtain ⟨h10, hn10⟩ : K 1 1 = nI (nA (K 1)) ∧ nA (K 1) ≤ 10 := ho.1.1.1.1.1
  have hh14 : tA (K 1) < 14 := by omega
  have hmv : ∀ {r : Nat}, r < tA (K 1) → mA (K 1) r ≤ 96 := fun hr => (okt.2.2 _ hr).2.1.1
  refine ⟨⟨?_, ?_⟩, ⟨?_, ?_, ?_⟩, ?_, ?_, ?_, ?_⟩
  · have hh : hr (K 1) (fun j => M (e_io (iH 24) j)) := h.1.1
    have nA' : nA (K' 1) = nA (K 1) := by unfold nA; rw [h1, tx_lo (by decide) (by decide)]
    refine ⟨⟨?_, ?_, ?_, ?_, ?_, ?_⟩, ?_, ?_, ?_⟩
    · show N 24 6 = K' 1 0
      rw [a9 6 (by decide), h1, tx_lo (by decide) (by decide)]; exact hh.1.1
    · show N 24 2 = K' 1 1
      rw [a9 2 (by decide), h1, tx_lo (by decide) (by decide)]; exact hh.1.2.1
    · show N 24 5 = K' 1 2
      rw [a9 5 (by decide), h1, tx_lo (by decide) (by decide)]; exact hh.1.2.2.1
    · show N 24 3 = K' 1 3
      rw [a9 3 (by decide), h1, tx_lo (by decide) (by decide)]; exact hh.1.2.2.2.1
    · show N 24 4 = K' 1 4
      rw [a9 4 (by decide), h1, tx_lo (by decide) (by decide)]; exact hh.1.2.2.2.2.1
    · show N 24 7 = K' 1 5
      rw [a10, h1, tx_5, okt.1, ← nI_succ, ht]
    · intro l v hlt hv
      rw [nA'] at hlt
      show N (e_io (iH 24) (2 + v)) l = _
      have e := hh.2.1 l v hlt hv
      simp only [iH_1 (show 2 + v < 13 by omega)] at e ⊢
      rw [a3 (24 + (2 + v)) (by omega) (by omega) (by omega) (by omega) (by omega) (by omega) (by omega) (by omega) (by omega), e, h1]
      unfold fA
      rw [tx_lo (by omega) (by omega)]
    · intro k hk
      show N 35 k = _
      rw [h1, tx_tA okt.1 hh14, a_cts, tx_h rfl, (tx_dm w hw c.length (by omega)).1, tx_cts hh14 _ (Nat.le_refl _), a8]
      by_cases e : k = w
      · rw [e, pk_us, if_pos rfl, ht]
      · rw [pk_un e, if_neg (fun z => e (nI_inj (by omega) (by omega) z).symm)]
        exact hh.2.2.1 k hk
    · intro r hr
      rw [h1, tx_tA okt.1 hh14] at hr
      by_cases e : r = tA (K 1)
      · have hm : mA (K' 1) r = c.length := by rw [h1]; exact tx_mA e hw hl
        have er : r = t := by omega
        refine ⟨?_, ?_, ?_, ?_⟩
        · show N 3 r = _
          rw [h1, tx_h e, (tx_dm w hw c.length (by omega)).1, a4, er, pk_us]
        · show N 4 r = _
          rw [h1, tx_h1 e, a5, er, pk_us]
        · show N 5 r = _
          rw [hm, a6, er, pk_us]
        · intro k hk
          rw [hm] at hk
          show N (e_io (iH 24) (18 + r)) k = _
          rw [iH_2 (show 13 ≤ 18 + r by omega) (show 18 + r < 33 by omega), show 18 + r - 11 = 7 + t by omega, a7 k hk, h1, tx_c e hk hl (by omega)]
      · have hr : r < tA (K 1) := by omega
        obtain ⟨b1, b2, b3, b4⟩ := hh.2.2.2 r hr
        have hm : mA (K' 1) r = mA (K 1) r := by rw [h1]; exact tx_mo hr hh14
        have hm96 := hmv hr
        have er : ¬ r = t := by omega
        refine ⟨?_, ?_, ?_, ?_⟩
        · show N 3 r = _
          rw [h1, (tx_o hr hh14).1, a4, pk_un er]; exact b1
        · show N 4 r = _
          rw [h1, (tx_o hr hh14).2, a5, pk_un er]; exact b2
        · show N 5 r = _
          rw [hm, a6, pk_un er]; exact b3
        · intro k hk
          rw [hm] at hk
          have e := b4 k hk
          show N (e_io (iH 24) (18 + r)) k = _
          simp only [iH_2 (show 13 ≤ 18 + r by omega) (show 18 + r < 33 by omega)] at e ⊢
          rw [a3 (18 + r - 11) (by omega) (by omega) (by omega) (by omega) (by omega) (by omega) (by omega) (by omega) (by omega), e, h1, tx_co hr (by omega) hh14]
  · intro h3
    rw [hf.2.2 3 (by omega)] at h3
    have hh : hr (K 2) (fun j => M (e_io (iH 37) j)) := h.1.2 h3
    have h2t : tA (K 2) ≤ tA (K 1) := (ho.1.2.1 h3).2
    rw [hf.1 2 (by decide) (by decide) (by decide) (by decide) (by decide)]
    have ec : ∀ j, j < 13 → N (e_io (iH 37) j) = M (e_io (iH 37) j) := fun j hj => by
      rw [iH_1 hj]
      exact a3 (37 + j) (by omega) (by omega) (by omega) (by omega) (by omega) (by omega) (by omega) (by omega) (by omega)
    refine ⟨?_, ?_, ?_, ?_⟩
    · have h := hh.1
      simp only [← ec 0 (by decide)] at h
      exact h
    · intro l v hlt hv
      simp only [ec (2 + v) (by omega)]
      exact hh.2.1 l v hlt hv
    · intro k hk
      simp only [ec 11 (by decide)]
      exact hh.2.2.1 k hk
    · intro r hr
      obtain ⟨b1, b2, b3, b4⟩ := hh.2.2.2 r hr
      have er : ¬ r = t := by omega
      refine ⟨?_, ?_, ?_, ?_⟩
      · show N 3 r = _
        rw [a4, pk_un er]; exact b1
      · show N 4 r = _
        rw [a5, pk_un er]; exact b2
      · show N 5 r = _
        rw [a6, pk_un er]; exact b3
      · intro k hk
        have e := b4 k hk
        show N (e_io (iH 37) (18 + r)) k = _
        simp only [iH_2 (show 13 ≤ 18 + r by omega) (show 18 + r < 33 by omega)] at e ⊢
        rw [a3 (18 + r - 11) (by omega) (by omega) (by omega) (by omega) (by omega) (by omega) (by omega) (by omega) (by omega), e]
  · rw [a2 7 (by decide), hf.2.2 3 (by omega)]; exact h.2.1.1
  · rw [a1, hf.2.1]
  · rw [a2 10 (by decide), hf.2.2 33 (by omega)]; exact h.2.1.2.2
  · intro i hi
    rw [a3 1 (by omega) (by omega) (by omega) (by omega) (by omega) (by omega) (by omega) (by omega) (by omega), hf.1 6 (by decide) (by decide) (by decide) (by decide) (by decide)]
    exact h.2.2.1 i hi
  · intro i hi
    rw [a3 64 (by omega) (by omega) (by omega) (by omega) (by omega) (by omega) (by omega) (by omega) (by omega), hf.1 22 (by decide) (by decide) (by decide) (by decide) (by decide)]
    exact h.2.2.2.1 i hi
  all_goals
    have eM : ∀ a, 36 ≤ a → N a = M a := fun a ha => a3 a (by omega) (by omega) (by omega) (by omega) (by omega) (by omega) (by omega) (by omega) (by omega)
    have eK : ∀ a, 12 ≤ a → K' a = K a := fun a ha => hf.1 a (by omega) (by omega) (by omega) (by omega) (by omega)
  · intro j hj
    unfold shr
    rw [eM (67 + 2 * j) (by omega), eM (68 + 2 * j) (by omega), eK 14 (by decide), eK 15 (by decide), eK 16 (by decide)]
    exact h.2.2.2.2.1 j hj
  · intro j hj
    unfold slr
    rw [eM (75 + 3 * j) (by omega), eM (76 + 3 * j) (by omega), eM (77 + 3 * j) (by omega), eK 17 (by decide), eK 18 (by decide), eK 19 (by decide), eK 20 (by decide)]
    exact h.2.2.2.2.2 j hj
/-- text that writes nothing -/
theorem rel_t0 {M N K K' : e_M} (h : rel M K) (ho : okK K) (hf : tf K K') (h1 : K' 1 = K 1) (h0 : N 0 1 = 0) (hb : ∀ b, ¬ b = 1 → N 0 b = M 0 b) (ha : ∀ a, ¬ a = 0 → ¬ a = 22 → ¬ a = 23 → N a = M a) : rel N K' := by
  have e2 : K' 2 = K 2 := hf.1 2 (by decide) (by decide) (by decide) (by decide) (by decide)
  have eM : ∀ a, 24 ≤ a → N a = M a := fun a h => ha a (by omega) (by omega) (by omega)
  have eK : ∀ a, 12 ≤ a → K' a = K a := fun a ha => hf.1 a (by omega) (by omega) (by omega) (by omega) (by omega)
  refine ⟨⟨?_, fun h3 => ?_⟩, ⟨?_, ?_, ?_⟩, fun i hi => ?_, fun i hi => ?_, fun j hj => ?_, fun j hj => ?_⟩
  · rw [h1]
    exact hHs_fr h.1.1 ho.1.1.1.1.2.1.2.1 (fun c c1 c2 => ha c (by omega) (by omega) (by omega)) (fun c c1 c2 => ha c (by omega) (by omega) (by omega))
  · rw [hf.2.2 3 (by omega)] at h3
    rw [e2]
    exact hHs_fr (h.1.2 h3) (Nat.le_trans (ho.1.2.1 h3).2 ho.1.1.1.1.2.1.2.1) (fun c c1 c2 => ha c (by omega) (by omega) (by omega)) (fun c c1 c2 => ha c (by omega) (by omega) (by omega))
  · rw [hb 7 (by decide), hf.2.2 3 (by omega)]; exact h.2.1.1
  · rw [h0, hf.2.1]
  · rw [hb 10 (by decide), hf.2.2 33 (by omega)]; exact h.2.1.2.2
  · rw [ha 1 (by decide) (by decide) (by decide), hf.1 6 (by decide) (by decide) (by decide) (by decide) (by decide)]
    exact h.2.2.1 i hi
  · rw [eM 64 (by decide), eK 22 (by decide)]
    exact h.2.2.2.1 i hi
  · unfold shr
    rw [eM (67 + 2 * j) (by omega), eM (68 + 2 * j) (by omega), eK 14 (by decide), eK 15 (by decide), eK 16 (by decide)]
    exact h.2.2.2.2.1 j hj
  · unfold slr
    rw [eM (75 + 3 * j) (by omega), eM (76 + 3 * j) (by omega), eM (77 + 3 * j) (by omega), eK 17 (by decide), eK 18 (by decide), eK 19 (by decide), eK 20 (by decide)]
    exact h.2.2.2.2.2 j hj
