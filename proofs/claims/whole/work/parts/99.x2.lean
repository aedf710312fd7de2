/-! ===== what is read depends on the tape's bytes alone ===== -/
section CGR
variable {T T' : Nat → Int32} {n : Nat}
theorem sp_cg (h : ∀ i, i < n → T i = T' i) : ∀ j p, p + j ≤ n → k_sp T j p = k_sp T' j p := by
  intro j
  induction j with
  | zero => intro p _; rfl
  | succ j ih => intro p hp; rw [k_sp, k_sp, h p (by omega), ih (p + 1) (by omega)]
theorem lt_cg (h : ∀ i, i < n → T i = T' i) : ∀ j p, p + j ≤ n → k_lt T j p = k_lt T' j p := by
  intro j
  induction j with
  | zero => intro p _; rfl
  | succ j ih => intro p hp; rw [k_lt, k_lt, h p (by omega), ih (p + 1) (by omega)]
theorem fg_cg (h : ∀ i, i < n → T i = T' i) {f : Nat} : ∀ j p v, p + j ≤ n → k_fg T f j p v = k_fg T' f j p v := by
  intro j
  induction j with
  | zero => intro p v _; rfl
  | succ j ih => intro p v hp; rw [k_fg, k_fg, h p (by omega), ih (p + 1) _ (by omega)]
theorem go_cg (h : ∀ i, i < n → T i = T' i) {p : Nat} {e v : Int32} (hp : p ≤ n) : k_go T n p e v = k_go T' n p e v := by
  unfold k_go
  rw [sp_cg h (n - p) p (by omega)]
  have hf := (k_sp_le (T := T') (n - p) p).2
  generalize k_sp T' (n - p) p = f at hf
  by_cases c : f = n
  · simp only [if_pos c]
  · simp only [if_neg c]
    rw [h f (by omega), lt_cg h (n - f) f (by omega), fg_cg h (n - f) f 0 (by omega)]
theorem adv_cg (h : ∀ i, i < n → T i = T' i) {s : Tk} (hs : s.1 ≤ n) : adv T n s = adv T' n s := go_cg h hs
theorem rdO_cg (h : ∀ i, i < n → T i = T' i) {sub sub' : Tk → Res} {lev : Nat} (hs : ∀ t, tko n t → sub t = sub' t) (ho : ∀ t s1 c1, tko n t → sub' t = .inr (s1, c1) → tko n s1) : ∀ (i : Nat) (s : Tk) (cs : List Int32), tko n s → rdO T n sub lev i s cs = rdO T' n sub' lev i s cs := by
  intro i
  induction i with
  | zero => intro s cs _; rfl
  | succ i ih =>
    intro s cs ht
    rw [rdO, rdO]
    by_cases hc : ¬ sgn s = 0 ∧ p_rk (sgn s) = nI (lev + 1)
    · rw [if_pos hc, if_pos hc]
      have hlt := tko_lt ht (by rw [sgn_3 hc.1]; decide)
      have ha := (adv_ok (T := T') (n := n) (s := s) hlt.2).1
      rw [adv_cg h hlt.2, hs _ ha]
      cases hq : sub' (adv T' n s) with
      | inl p => rfl
      | inr q => exact ih q.1 _ (ho _ q.1 q.2 ha hq)
    · rw [if_neg hc, if_neg hc]
theorem rd_cg (h : ∀ i, i < n → T i = T' i) {key : Int32} : ∀ (f lev pa no : Nat) (s : Tk), tko n s → rd T n key f lev pa no s = rd T' n key f lev pa no s := by
  intro f
  induction f with
  | zero => intro lev pa no s _; rfl
  | succ f ih =>
    intro lev pa no s ht
    rw [rd, rd]
    by_cases hl : lev < 5
    · rw [if_pos hl, if_pos hl, ih _ _ _ s ht]
      cases hq : rd T' n key f (lev + 1) pa no s with
      | inl p => rfl
      | inr q => exact rdO_cg h (fun t h1 => ih _ _ _ t h1) (fun t s1 c1 h1 h2 => (rd_ok f _ _ _ t s1 c1 h1 h2).1) _ q.1 q.2 (rd_ok f _ _ _ s q.1 q.2 ht hq).1
    · rw [if_neg hl, if_neg hl]
      have ha := adv_cg (s := s) h ht.2.1
      have hk := (adv_ok (T := T') (n := n) (s := s) ht.2.1).1
      rw [ha, ih _ _ _ _ hk, ih _ _ _ _ hk]
      by_cases c1 : isA key s
      · rw [if_pos c1, if_pos c1]
      · rw [if_neg c1, if_neg c1]
        by_cases c2 : s.2.2.1 = 3 ∧ s.2.2.2.1 = 33 ∧ no < 8
        · rw [if_pos c2, if_pos c2]
        · rw [if_neg c2, if_neg c2]
          by_cases c3 : s.2.2.1 = 3 ∧ s.2.2.2.1 = 40 ∧ pa < 8
          · rw [if_pos c3, if_pos c3]
            cases hq : rd T' n key f 0 (pa + 1) no (adv T' n s) with
            | inl p => rfl
            | inr q =>
              have hk2 := (rd_ok f _ _ _ _ q.1 q.2 hk hq).1
              simp only [adv_cg h hk2.2.1]
          · rw [if_neg c3, if_neg c3]
theorem rdX_cg (h : ∀ i, i < n → T i = T' i) {v : Int32} : rdX T n v = rdX T' n v := by
  have h0 := go_cg h (p := 0) (e := -1) (v := v) (Nat.zero_le _)
  have hk := (adv_ok (T := T') (n := n) (s := (0, 0, 0, v, -1)) (Nat.zero_le _)).1
  have hk : tko n (k_go T' n 0 (-1) v) := hk
  unfold rdX
  rw [h0]
  generalize k_go T' n 0 (-1) v = s at hk
  have hm : ∀ w, mt T s w ↔ mt T' s w := by
    intro w
    refine and_congr_right (fun hl => ⟨fun z k hk' => ?_, fun z k hk' => ?_⟩)
    · rw [← h (s.2.1 + k) (by have := hk.2.1; omega)]; exact z k hk'
    · rw [h (s.2.1 + k) (by have := hk.2.1; omega)]; exact z k hk'
  have hw : kw T s = kw T' s := by unfold kw; simp only [hm]
  rw [hw]
  cases hq : kw T' s with
  | none => rfl
  | some w =>
    simp only []
    unfold rdT
    rw [adv_cg h hk.2.1, rd_cg h _ _ _ _ _ (adv_ok (T := T') (n := n) (s := s) hk.2.1).1]
end CGR
