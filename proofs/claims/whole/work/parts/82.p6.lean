/-! ===== the parser as recursive descent; what settle does ===== -/
abbrev Res : Type := Nat ⊕ (Tk × List Int32)
def rdO (T : Nat → Int32) (n : Nat) (sub : Tk → Res) (lev : Nat) : Nat → Tk → List Int32 → Res
  | 0, s, cs => .inr (s, cs)
  | i + 1, s, cs => if ¬ sgn s = 0 ∧ p_rk (sgn s) = nI (lev + 1) then (match sub (adv T n s) with
      | .inl p => .inl p
      | .inr q => rdO T n sub lev i q.1 (cs ++ (q.2 ++ [sgn s]))) else .inr (s, cs)
/-- fuel, level (5: a piece), open brackets, open nots -/
def rd (T : Nat → Int32) (n : Nat) (key : Int32) : Nat → Nat → Nat → Nat → Tk → Res
  | 0, _, _, _, s => .inl s.2.1
  | f + 1, lev, pa, no, s => if lev < 5 then (match rd T n key f (lev + 1) pa no s with
      | .inl p => .inl p
      | .inr q => rdO T n (fun t => rd T n key f (lev + 1) pa no t) lev (if lev = 2 then 1 else 96) q.1 q.2)
    else if isA key s then .inr (adv T n s, [cdA key s])
    else if s.2.2.1 = 3 ∧ s.2.2.2.1 = 33 ∧ no < 8 then (match rd T n key f 5 pa (no + 1) (adv T n s) with
      | .inl p => .inl p
      | .inr q => .inr (q.1, q.2 ++ [-10]))
    else if s.2.2.1 = 3 ∧ s.2.2.2.1 = 40 ∧ pa < 8 then (match rd T n key f 0 (pa + 1) no (adv T n s) with
      | .inl p => .inl p
      | .inr q => if q.1.2.2.1 = 3 ∧ q.1.2.2.2.1 = 41 then .inr (adv T n q.1, q.2) else .inl q.1.2.1)
    else .inl s.2.1
theorem tko_lt {n : Nat} {s : Tk} (h : tko n s) (h0 : ¬ s.2.2.1 = 0) : s.2.1 < s.1 ∧ s.1 ≤ n := ⟨h.2.2.2 h0, h.2.1⟩
theorem sgn_3 {s : Tk} (h : ¬ sgn s = 0) : s.2.2.1 = 3 := Classical.byContradiction (fun z => h (if_neg z))
theorem rdO_ok {T : Nat → Int32} {n lev : Nat} {sub : Tk → Res} (hs : ∀ t s1 c1, tko n t → sub t = .inr (s1, c1) → tko n s1 ∧ t.2.1 < s1.2.1) : ∀ (i : Nat) (s : Tk) (cs : List Int32) (s1 : Tk) (c1 : List Int32), tko n s → rdO T n sub lev i s cs = .inr (s1, c1) → tko n s1 ∧ s.2.1 ≤ s1.2.1 := by
  intro i
  induction i with
  | zero =>
    intro s cs s1 c1 ht h
    rw [rdO] at h
    injection h with h
    injection h with h1 h2
    subst h1
    exact ⟨ht, Nat.le_refl _⟩
  | succ i ih =>
    intro s cs s1 c1 ht h
    rw [rdO] at h
    by_cases hc : ¬ sgn s = 0 ∧ p_rk (sgn s) = nI (lev + 1)
    · rw [if_pos hc] at h
      have hlt := tko_lt ht (by rw [sgn_3 hc.1]; decide)
      obtain ⟨a1, a2⟩ := adv_ok (T := T) (n := n) (s := s) hlt.2
      cases hq : sub (adv T n s) with
      | inl p => rw [hq] at h; cases h
      | inr q =>
        rw [hq] at h
        obtain ⟨b1, b2⟩ := hs _ q.1 q.2 a1 hq
        obtain ⟨c1', c2⟩ := ih q.1 _ s1 c1 b1 h
        exact ⟨c1', by omega⟩
    · rw [if_neg hc] at h
      injection h with h
      injection h with h1 h2
      subst h1
      exact ⟨ht, Nat.le_refl _⟩
theorem rd_ok {T : Nat → Int32} {n : Nat} {key : Int32} : ∀ (f lev pa no : Nat) (s s1 : Tk) (c1 : List Int32), tko n s → rd T n key f lev pa no s = .inr (s1, c1) → tko n s1 ∧ s.2.1 < s1.2.1 := by
  intro f
  induction f with
  | zero => intro lev pa no s s1 c1 _ h; cases h
  | succ f ih =>
    intro lev pa no s s1 c1 ht h
    rw [rd] at h
    by_cases hl : lev < 5
    · rw [if_pos hl] at h
      cases hq : rd T n key f (lev + 1) pa no s with
      | inl p => rw [hq] at h; cases h
      | inr q =>
        rw [hq] at h
        obtain ⟨a1, a2⟩ := ih _ _ _ s q.1 q.2 ht hq
        obtain ⟨b1, b2⟩ := rdO_ok (fun t s1 c1 ht h => ih _ _ _ t s1 c1 ht h) _ q.1 q.2 s1 c1 a1 h
        exact ⟨b1, by omega⟩
    · rw [if_neg hl] at h
      by_cases hA : isA key s
      · rw [if_pos hA] at h
        injection h with h
        injection h with h1 h2
        have hlt := tko_lt ht (by rcases hA with z | z; · rw [z]; decide
                                  · rw [z.1]; decide)
        obtain ⟨a1, a2⟩ := adv_ok (T := T) (n := n) (s := s) hlt.2
        rw [← h1]
        exact ⟨a1, by omega⟩
      · rw [if_neg hA] at h
        by_cases hN : s.2.2.1 = 3 ∧ s.2.2.2.1 = 33 ∧ no < 8
        · rw [if_pos hN] at h
          have hlt := tko_lt ht (by rw [hN.1]; decide)
          obtain ⟨a1, a2⟩ := adv_ok (T := T) (n := n) (s := s) hlt.2
          cases hq : rd T n key f 5 pa (no + 1) (adv T n s) with
          | inl p => rw [hq] at h; cases h
          | inr q =>
            rw [hq] at h
            injection h with h
            injection h with h1 h2
            obtain ⟨b1, b2⟩ := ih _ _ _ _ q.1 q.2 a1 hq
            rw [← h1]
            exact ⟨b1, by omega⟩
        · rw [if_neg hN] at h
          by_cases hO : s.2.2.1 = 3 ∧ s.2.2.2.1 = 40 ∧ pa < 8
          · rw [if_pos hO] at h
            have hlt := tko_lt ht (by rw [hO.1]; decide)
            obtain ⟨a1, a2⟩ := adv_ok (T := T) (n := n) (s := s) hlt.2
            cases hq : rd T n key f 0 (pa + 1) no (adv T n s) with
            | inl p => rw [hq] at h; cases h
            | inr q =>
              rw [hq] at h
              obtain ⟨b1, b2⟩ := ih _ _ _ _ q.1 q.2 a1 hq
              by_cases hc : q.1.2.2.1 = 3 ∧ q.1.2.2.2.1 = 41
              · simp only [if_pos hc] at h
                injection h with h
                injection h with h1 h2
                have hlt2 := tko_lt b1 (by rw [hc.1]; decide)
                obtain ⟨d1, d2⟩ := adv_ok (T := T) (n := n) (s := q.1) hlt2.2
                rw [← h1]
                exact ⟨d1, by omega⟩
              · simp only [if_neg hc] at h; cases h
          · rw [if_neg hO] at h; cases h
/-! settle -/
def stb (r : Int32) (ws : List Int32) : Prop := ∀ cs, s_set r ws cs = (ws, cs)
theorem stb_c {r x : Int32} {ws : List Int32} (h : x = -11 ∨ p_rk x < r) : stb r (x :: ws) := fun cs => by rw [s_set, if_pos h]
theorem stb_0 {r : Int32} : stb r [] := fun _ => rfl
theorem s_set_ge {r : Int32} : ∀ (ws cs : List Int32), cs.length ≤ (s_set r ws cs).2.length := by
  intro ws
  induction ws with
  | nil => intro cs; exact Nat.le_refl _
  | cons x l ih =>
    intro cs
    rw [s_set]
    split
    · exact Nat.le_refl _
    · have := ih (x :: cs); simp only [List.length_cons] at this; omega
theorem stb_up {r r' : Int32} (h : r ≤ r') : ∀ {ws : List Int32}, stb r ws → stb r' ws := by
  intro ws hs
  cases ws with
  | nil => exact stb_0
  | cons x l =>
    by_cases hx : x = -11 ∨ p_rk x < r
    · exact stb_c (hx.imp id (fun z => Int32.lt_of_lt_of_le z h))
    · have h3 := hs []
      rw [s_set, if_neg hx] at h3
      have h2 := s_set_ge (r := r) l [x]
      rw [h3] at h2
      exact absurd h2 (by simp)
theorem s_set_comp {r r' : Int32} (h : r ≤ r') : ∀ (ws cs : List Int32), s_set r ws cs = s_set r (s_set r' ws cs).1 (s_set r' ws cs).2 := by
  intro ws
  induction ws with
  | nil => intro cs; rfl
  | cons x l ih =>
    intro cs
    by_cases hx : x = -11 ∨ p_rk x < r'
    · rw [stb_c hx]
    · have hx' : ¬ (x = -11 ∨ p_rk x < r) := fun z => hx (z.imp id (fun y => Int32.lt_of_lt_of_le y h))
      have e1 : s_set r' (x :: l) cs = s_set r' l (x :: cs) := by rw [s_set, if_neg hx]
      have e2 : s_set r (x :: l) cs = s_set r l (x :: cs) := by rw [s_set, if_neg hx']
      rw [e1, e2]
      exact ih (x :: cs)
def ng (ws : List Int32) : Prop := ∀ x ∈ ws, x < 0
theorem cP_set {r : Int32} : ∀ (ws cs : List Int32), ng ws → cP (s_set r ws cs).2 = cP cs := by
  intro ws
  induction ws with
  | nil => intro cs _; rfl
  | cons x l ih =>
    intro cs hn
    rw [s_set]
    split
    · rfl
    · rw [ih (x :: cs) (fun y hy => hn y (List.mem_cons_of_mem _ hy)), cP, if_neg (Int32.not_le.mpr (hn x List.mem_cons_self))]
      rfl
theorem ng_set {r : Int32} : ∀ (ws cs : List Int32), ng ws → ng (s_set r ws cs).1 := by
  intro ws
  induction ws with
  | nil => intro cs h; exact h
  | cons x l ih =>
    intro cs hn
    rw [s_set]
    split
    · exact hn
    · exact ih (x :: cs) (fun y hy => hn y (List.mem_cons_of_mem _ hy))
theorem sg_facts {v : Int32} (h : ¬ p_sg v = 0) : p_sg v < 0 ∧ ¬ p_sg v = -10 ∧ ¬ p_sg v = -11 ∧ (p_rk (p_sg v) = 1 ∨ p_rk (p_sg v) = 2 ∨ p_rk (p_sg v) = 3 ∨ p_rk (p_sg v) = 4 ∨ p_rk (p_sg v) = 5) := by
  have : p_sg v = -2 ∨ p_sg v = -8 ∨ p_sg v = -6 ∨ p_sg v = -7 ∨ p_sg v = -9 ∨ p_sg v = -3 ∨ p_sg v = -4 ∨ p_sg v = -5 ∨ p_sg v = -1 ∨ p_sg v = 0 := by
    unfold p_sg
    repeat' split
    all_goals simp
  rcases this with z | z | z | z | z | z | z | z | z | z
  any_goals (rw [z]; decide)
  exact absurd z h
theorem sgn_facts {s : Tk} (h : ¬ sgn s = 0) : sgn s < 0 ∧ ¬ sgn s = -10 ∧ ¬ sgn s = -11 ∧ (p_rk (sgn s) = 1 ∨ p_rk (sgn s) = 2 ∨ p_rk (sgn s) = 3 ∨ p_rk (sgn s) = 4 ∨ p_rk (sgn s) = 5) := by
  have e : sgn s = p_sg s.2.2.2.1 := if_pos (sgn_3 h)
  rw [e] at h ⊢
  exact sg_facts h
/-- a number that was read -/
def tkv (s : Tk) : Prop := s.2.2.1 = 2 → 0 ≤ s.2.2.2.1 ∧ s.2.2.2.1 < 10000
theorem k_D_ex {x : Int32} (h : k_D x) : ∃ d : Nat, d ≤ 9 ∧ x = nI (48 + d) := by
  obtain ⟨j, hj, rfl⟩ := nI_of (x := x) (fun z => h.1 (Int32.lt_trans z (by decide)))
  have h1 : 48 ≤ j := Nat.le_of_not_lt (fun z => h.1 (nI_lt (b := 48) z (by decide)))
  have h2 : j ≤ 57 := Nat.le_of_not_lt (fun z => h.2 (nI_lt (a := 57) z hj))
  exact ⟨j - 48, by omega, by congr 1; omega⟩
theorem k_fg_v {T : Nat → Int32} {f : Nat} : ∀ (j p v : Nat), f ≤ p → v < 10 ^ (min (p - f) 4) → ∃ w : Nat, (k_fg T f j p (nI v)).2 = nI w ∧ w < 10000 := by
  intro j
  induction j with
  | zero =>
    intro p v _ h
    refine ⟨v, rfl, Nat.lt_of_lt_of_le h ?_⟩
    exact Nat.le_trans (Nat.pow_le_pow_right (by decide) (Nat.min_le_right _ _)) (by decide)
  | succ j ih =>
    intro p v hp h
    rw [k_fg]
    by_cases hd : k_D (T p)
    · rw [if_pos hd]
      obtain ⟨d, hd9, hT⟩ := k_D_ex hd
      by_cases h4 : p - f < 4
      · rw [if_pos h4, hT]
        have e : 10 * nI v + nI (48 + d) - 48 = nI (10 * v + d) := by
          rw [show (10 : Int32) = nI 10 from rfl, pk_mul, nI_add, show (48 : Int32) = nI 48 from rfl, pk_sub (by omega)]
          congr 1
          omega
        rw [e]
        refine ih (p + 1) (10 * v + d) (by omega) ?_
        have e1 : min (p - f) 4 = p - f := by omega
        have e2 : min (p + 1 - f) 4 = p - f + 1 := by omega
        rw [e1] at h
        rw [e2, Nat.pow_succ]
        omega
      · rw [if_neg h4]
        refine ih (p + 1) v (by omega) ?_
        rw [show min (p + 1 - f) 4 = min (p - f) 4 by omega]
        exact h
    · rw [if_neg hd]
      refine ⟨v, rfl, Nat.lt_of_lt_of_le h ?_⟩
      exact Nat.le_trans (Nat.pow_le_pow_right (by decide) (Nat.min_le_right _ _)) (by decide)
theorem adv_v {T : Nat → Int32} {n : Nat} {s : Tk} : tkv (adv T n s) := by
  unfold adv k_go
  generalize k_sp T (n - s.1) s.1 = f
  intro h
  by_cases h1 : f = n
  · simp only [if_pos h1] at h; exact absurd h (by decide)
  · simp only [if_neg h1] at h ⊢
    by_cases h2 : k_L (T f)
    · simp only [if_pos h2] at h
      exfalso
      split at h <;> exact absurd h (by decide)
    · simp only [if_neg h2] at h ⊢
      by_cases h3 : k_D (T f)
      · simp only [if_pos h3] at h ⊢
        obtain ⟨w, hw, hw2⟩ := k_fg_v (T := T) (f := f) (n - f) f 0 (Nat.le_refl _) (by simp)
        rw [nI_0] at hw
        rw [hw]
        exact ⟨nI_pos' (by omega), nI_lt (b := 10000) hw2 (by decide)⟩
      · simp only [if_neg h3] at h; exact absurd (show (3 : Int32) = 2 from h) (by decide)
theorem nm_rr {key x : Int32} (h : 0 ≤ p_nm key x) : p_nm key x = 0 ∨ p_nm key x = 1 ∨ p_nm key x = 2 := by
  revert h
  unfold p_nm
  repeat' split
  all_goals (intro h; first | exact Or.inl rfl | exact Or.inr (Or.inl rfl) | exact Or.inr (Or.inr rfl) | exact absurd h (by decide))
theorem cdA_0 {key : Int32} {s : Tk} (hv : tkv s) (hA : isA key s) : 0 ≤ cdA key s := by
  unfold cdA
  by_cases h2 : s.2.2.1 = 2
  · rw [if_pos h2]; exact (hv h2).1
  · rw [if_neg h2]
    rcases nm_rr (hA.resolve_left h2).2.2 with z | z | z <;> rw [z] <;> decide
