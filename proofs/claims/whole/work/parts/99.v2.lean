/-! ===== the Reader: the key ===== -/
theorem kB_j : ∀ w, w < 3 → e_len.getD (1 + 2 * w) 0 = kN w ∧ ∀ k, k < kN w → jb (1 + 2 * w) k = kB.getD (kO w + k) 0 := by decide
theorem mt_w {T : Nat → Int32} {s : Tk} {w : Nat} (hw : w < 3) : (s.1 - s.2.1 = e_len.getD (1 + 2 * w) 0 ∧ wdp T (1 + 2 * w) s.2.1) ↔ mt T s w := by
  obtain ⟨h1, h2⟩ := kB_j w hw
  unfold wdp
  rw [h1]
  refine and_congr_right (fun _ => ⟨fun h k hk => by rw [h k hk, h2 k hk], fun h k hk => by rw [h k hk, h2 k hk]⟩)
theorem x_iw {X : e_X} {cc : ByteArray} {pc D n q w : Nat} {s : Tk} {rest : List Value} {lo : List (Option Value)} {K : e_M} {T : Nat → Int32} (hT : K 1 = T) (hX : e_ok 4 cc X (w_Rd q)) (hR : e_R X = e_rm D) (hD : 5 ≤ D) (hw3 : w < 3) (h96 : n ≤ 96) (hs : ct s K) (hw : tw T n s) (hr : rest.length ≤ 4) (hd : decode cc pc = .ok (.invokevirtual 70, 3))
    (kk : e_E X (w_Rd q) (pc + 3) lo (.int (if s.2.2.1 = 1 ∧ mt T s w then 1 else 0) :: rest) K) : e_E X (w_Rd q) pc lo (.ref (1010 + (1 + 2 * w)) :: .ref 0 :: rest) K := by
  subst hT
  have hl2 := hw.1.2.1
  refine e_callV0 (a0 := 0) (as0 := [.ref (1010 + (1 + 2 * w))]) (rest := rest) hX (Nat.le_of_ble_eq_true rfl) (c4_isWord (e_g X) K (i := 1 + 2 * w) (by omega) s.2.1 s.1 hw.1.1 (by omega) hs.1 hs.2.1) k_4_70 rfl rfl rfl (e_rr hR (by omega)) hr hd (fun r N hN => ?_)
  obtain ⟨rfl, rfl⟩ := hN
  have e : (N 0 2 = 1 ∧ s.1 - s.2.1 = e_len.getD (1 + 2 * w) 0 ∧ wdp (N 1) (1 + 2 * w) s.2.1) ↔ (s.2.2.1 = 1 ∧ mt (N 1) s w) := by
    rw [mt_w hw3]
    have : N 0 2 = 1 ↔ s.2.2.1 = 1 := by
      rcases hs.2.2 with ⟨a, b⟩ | ⟨a, b⟩ | ⟨a, b, c⟩ | ⟨a, b⟩ | ⟨a, b | ⟨b, -⟩⟩ <;> rw [a, b] <;> decide
    rw [this]
  simp only [e]
  exact kk
def kP (T : Nat → Int32) (n q : Nat) (s : Tk) (K : e_M) (r : Option Value) (Sh : List e_S) (N : e_M) : Prop := r = none ∧ N 1 = K 1 ∧ ((kw T s = none ∧ Sh = w_Rd q ∧ bad s.2.1 N) ∨ ∃ w, w < 3 ∧ kw T s = some w ∧ Sh = w_Rd (1010 + (2 + 2 * w)) ∧ N 0 6 = nI w ∧ rs T n 0 (adv T n s) [] N)
set_option maxRecDepth 40000 in
set_option maxHeartbeats 1000001 in
theorem c4_readKey {q n : Nat} (g : e_G) (K : e_M) {T : Nat → Int32} {s : Tk} (h : rs T n 0 s [] K) (h96 : n ≤ 96) : e_CW g 5 yX4_readKey cX4_readKey 1 none [.ref 0] (w_Rd q) K (kP T n q s K) := by
  refine e_CW_of 4 (by decide) rfl (by simp [Value.category]) (Nat.le_of_ble_eq_true rfl) ?_
  intro X hX hE hL hg hR
  obtain ⟨⟨hT, hn⟩, ⟨h1, hw, hv⟩, h5, ho, hl⟩ := id h
  have t74 : ∀ w, w < 3 → kw T s = some w → s.2.2.1 = 1 → e_E X (w_Rd (1010 + (2 + 2 * w))) 74 [some (.ref 0)] [] (e_st K 0 6 (nI w)) := by
    intro w hw3 hk ht
    have hX' : e_ok 4 cX4_readKey X (w_Rd (1010 + (2 + 2 * w))) := e_ok_sh rfl hX
    refine e_aload_n hX' dX4_readKey_74 rfl ?_
    refine x_at (T := T) (s := s) (n := n) (rest := []) (K := e_st K 0 6 (nI w)) (by rw [← hT]; rfl) hX' hR (by decide) (by simpa [e_st_r] using hn) h96 ⟨by simpa [e_st_r] using h1.1, by simpa [e_st_r] using h1.2.1, by simpa [e_st_r] using h1.2.2⟩ hw (Or.inl ht) (Nat.le_of_ble_eq_true rfl) dX4_readKey_75 (fun N b1 b2 b3 => ?_)
    refine hE 78 _ (w_Rd (1010 + (2 + 2 * w))) N none ⟨dX4_readKey_78, rfl⟩ ⟨rfl, ?_, Or.inr ⟨w, hw3, hk, rfl, ?_, ⟨?_, ?_⟩, ⟨b1, b2, adv_v⟩, ?_, ?_, Nat.zero_le _⟩⟩
    · rw [b3.1 1 (by decide)]; rfl
    · rw [b3.2 6 (by decide) (by decide) (by decide)]; simp [e_st_r]
    · rw [b3.1 1 (by decide), ← hT]; rfl
    · rw [b3.2 1 (by decide) (by decide) (by decide), ← hn]; simp [e_st_r]
    · rw [b3.2 5 (by decide) (by decide) (by decide), ← h5]; simp [e_st_r]
    · refine ou_q ⟨?_, fun k hk => absurd hk (Nat.not_lt_zero _), ?_⟩ b3
      · rw [← ho.1]; simp [e_st_r]
      · rw [← ho.2.2]; simp [e_st_r]
  have n1 : ∀ p : Prop, [Decidable p] → ¬ p → (if p then (1 : Int32) else 0) = 0 := fun p _ h => if_neg h
  refine e_aload_n hX dX4_readKey_0 rfl ?_
  refine e_ldcS 1 (by decide) hX dX4_readKey_1 rfl ?_
  refine x_iw (w := 0) (rest := []) hT hX hR (by decide) (by decide) h96 h1 hw (Nat.le_of_ble_eq_true rfl) dX4_readKey_3 ?_
  by_cases c0 : s.2.2.1 = 1 ∧ mt T s 0
  · have hk : kw T s = some 0 := by unfold kw; rw [if_pos c0.1, if_pos c0.2]
    rw [if_pos c0]
    refine e_if hX dX4_readKey_6 (by decide) (fun y => absurd (show (1 : Int32) = 0 from y) (by decide)) (fun _ => ?_)
    refine e_aload_n hX dX4_readKey_9 rfl ?_
    refine e_iconst hX dX4_readKey_10 ?_
    refine e_putfI (ci := 3) (j := 6) hX dX4_readKey_11 (by decide) rfl ?_
    refine e_aload_n hX dX4_readKey_14 rfl ?_
    refine e_ldcS 2 (by decide) hX dX4_readKey_15 rfl ?_
    refine e_putN hX dX4_readKey_17 ?_
    refine e_goto (e_ok_sh rfl hX) dX4_readKey_20 (by decide) ?_
    exact t74 0 (by decide) hk c0.1
  · rw [if_neg c0]
    refine e_if hX dX4_readKey_6 (by decide) (fun _ => ?_) (fun y => absurd (show (0 : Int32) = 0 from rfl) y)
    refine e_aload_n (pc := 23) hX dX4_readKey_23 rfl ?_
    refine e_ldcS 3 (by decide) hX dX4_readKey_24 rfl ?_
    refine x_iw (w := 1) (rest := []) hT hX hR (by decide) (by decide) h96 h1 hw (Nat.le_of_ble_eq_true rfl) dX4_readKey_26 ?_
    by_cases c1 : s.2.2.1 = 1 ∧ mt T s 1
    · have hk : kw T s = some 1 := by unfold kw; rw [if_pos c1.1, if_neg (fun y => c0 ⟨c1.1, y⟩), if_pos c1.2]
      rw [if_pos c1]
      refine e_if hX dX4_readKey_29 (by decide) (fun y => absurd (show (1 : Int32) = 0 from y) (by decide)) (fun _ => ?_)
      refine e_aload_n hX dX4_readKey_32 rfl ?_
      refine e_iconst hX dX4_readKey_33 ?_
      refine e_putfI (ci := 3) (j := 6) hX dX4_readKey_34 (by decide) rfl ?_
      refine e_aload_n hX dX4_readKey_37 rfl ?_
      refine e_ldcS 4 (by decide) hX dX4_readKey_38 rfl ?_
      refine e_putN hX dX4_readKey_40 ?_
      refine e_goto (e_ok_sh rfl hX) dX4_readKey_43 (by decide) ?_
      exact t74 1 (by decide) hk c1.1
    · rw [if_neg c1]
      refine e_if hX dX4_readKey_29 (by decide) (fun _ => ?_) (fun y => absurd (show (0 : Int32) = 0 from rfl) y)
      refine e_aload_n (pc := 46) hX dX4_readKey_46 rfl ?_
      refine e_ldcS 5 (by decide) hX dX4_readKey_47 rfl ?_
      refine x_iw (w := 2) (rest := []) hT hX hR (by decide) (by decide) h96 h1 hw (Nat.le_of_ble_eq_true rfl) dX4_readKey_49 ?_
      by_cases c2 : s.2.2.1 = 1 ∧ mt T s 2
      · have hk : kw T s = some 2 := by unfold kw; rw [if_pos c2.1, if_neg (fun y => c0 ⟨c2.1, y⟩), if_neg (fun y => c1 ⟨c2.1, y⟩), if_pos c2.2]
        rw [if_pos c2]
        refine e_if hX dX4_readKey_52 (by decide) (fun y => absurd (show (1 : Int32) = 0 from y) (by decide)) (fun _ => ?_)
        refine e_aload_n hX dX4_readKey_55 rfl ?_
        refine e_iconst hX dX4_readKey_56 ?_
        refine e_putfI (ci := 3) (j := 6) hX dX4_readKey_57 (by decide) rfl ?_
        refine e_aload_n hX dX4_readKey_60 rfl ?_
        refine e_ldcS 6 (by decide) hX dX4_readKey_61 rfl ?_
        refine e_putN hX dX4_readKey_63 ?_
        refine e_goto (e_ok_sh rfl hX) dX4_readKey_66 (by decide) ?_
        exact t74 2 (by decide) hk c2.1
      · rw [if_neg c2]
        have hk : kw T s = none := by
          unfold kw
          by_cases ht : s.2.2.1 = 1
          · rw [if_pos ht, if_neg (fun y => c0 ⟨ht, y⟩), if_neg (fun y => c1 ⟨ht, y⟩), if_neg (fun y => c2 ⟨ht, y⟩)]
          · rw [if_neg ht]
        have hbd := rs_bad h h96
        have e5 : (f4_fail [] K).2.2 = e_st K 0 5 (nI s.2.1) := by
          show (if K 0 5 < 0 then e_st K 0 5 (K 0 3) else K) = _
          rw [if_pos (by rw [h5]; decide), h1.1]
        refine e_if hX dX4_readKey_52 (by decide) (fun _ => ?_) (fun y => absurd (show (0 : Int32) = 0 from rfl) y)
        refine e_aload_n (pc := 69) hX dX4_readKey_69 rfl ?_
        refine e_callV0 (a0 := 0) (as0 := []) (rest := []) hX (Nat.le_of_ble_eq_true rfl) (c4_fail (e_g X) K [] rfl trivial) k_4_65 rfl rfl rfl (e_rr hR (by omega)) (Nat.le_of_ble_eq_true rfl) dX4_readKey_70 (fun r N hN => ?_)
        obtain ⟨rfl, rfl⟩ := hN
        rw [e5]
        exact hE 73 _ (w_Rd q) _ none ⟨dX4_readKey_73, rfl⟩ ⟨rfl, hbd.2.1 1 (by decide) (by decide), Or.inl ⟨hk, rfl, hbd.1⟩⟩
