/-! ===== the codes that are read are well formed; okK is kept by text ===== -/
def hg : Nat → List Int32 → Nat
  | h, [] => h
  | h, x :: l => hg (if 0 ≤ x then h + 1 else if x = -10 then h else h - 1) l
def wfl : Nat → List Int32 → Prop
  | _, [] => True
  | h, x :: l => ((0 ≤ x → x < 10000 ∨ vp_in (x - 10000) 4) ∧ (x = -10 → 1 ≤ h) ∧ (¬ 0 ≤ x → ¬ x = -10 → 2 ≤ h)) ∧ wfl (if 0 ≤ x then h + 1 else if x = -10 then h else h - 1) l
theorem hg_app : ∀ (a b : List Int32) (h : Nat), hg h (a ++ b) = hg (hg h a) b := by
  intro a
  induction a with
  | nil => intro b h; rfl
  | cons x l ih => intro b h; rw [List.cons_append, hg, hg, ih]
theorem wfl_app : ∀ (a b : List Int32) (h : Nat), wfl h (a ++ b) ↔ wfl h a ∧ wfl (hg h a) b := by
  intro a
  induction a with
  | nil => intro b h; simp [wfl, hg]
  | cons x l ih => intro b h; rw [List.cons_append, wfl, wfl, hg, ih]; exact and_assoc.symm
theorem hg_le : ∀ (a : List Int32) (h : Nat), hg h a ≤ h + a.length := by
  intro a
  induction a with
  | nil => intro h; exact Nat.le_refl _
  | cons x l ih =>
    intro h
    rw [hg, List.length_cons]
    have := ih (if 0 ≤ x then h + 1 else if x = -10 then h else h - 1)
    split at this
    · rename_i z; rw [if_pos z]; omega
    · rename_i z
      rw [if_neg z]
      split at this
      · rename_i y; rw [if_pos y]; omega
      · rename_i y; rw [if_neg y]; omega
def cw1 (key : Int32) (c : List Int32) : Prop := (∀ h, wfl h c ∧ hg h c = h + 1) ∧ ∀ x ∈ c, x < (if key = 0 then 10003 else 10002)
theorem cw1_at {key : Int32} {s : Tk} (hv : tkv s) (hA : isA key s) : cw1 key [cdA key s] := by
  have key2 : (0 ≤ cdA key s ∧ (cdA key s < 10000 ∨ vp_in (cdA key s - 10000) 4)) ∧ cdA key s < (if key = 0 then 10003 else 10002) := by
    unfold cdA
    by_cases h2 : s.2.2.1 = 2
    · rw [if_pos h2]
      obtain ⟨a1, a2⟩ := hv h2
      exact ⟨⟨a1, Or.inl a2⟩, by split <;> exact Int32.lt_trans a2 (by decide)⟩
    · rw [if_neg h2]
      obtain ⟨-, -, h3⟩ := hA.resolve_left h2
      unfold p_nm at h3 ⊢
      by_cases k0 : key = 0
      · simp only [if_pos k0] at h3 ⊢
        split
        · unfold vp_in; decide
        · split
          · unfold vp_in; decide
          · split
            · unfold vp_in; decide
            · rename_i z1 z2 z3
              rw [if_neg z1, if_neg z2, if_neg z3] at h3
              exact absurd h3 (by decide)
      · simp only [if_neg k0] at h3 ⊢
        by_cases k1 : key = 1
        · simp only [if_pos k1] at h3 ⊢
          split
          · unfold vp_in; decide
          · split
            · unfold vp_in; decide
            · rename_i z1 z2
              rw [if_neg z1, if_neg z2] at h3
              exact absurd h3 (by decide)
        · simp only [if_neg k1] at h3 ⊢
          split
          · unfold vp_in; decide
          · split
            · unfold vp_in; decide
            · rename_i z1 z2
              rw [if_neg z1, if_neg z2] at h3
              exact absurd h3 (by decide)
  refine ⟨fun h => ⟨⟨⟨fun _ => key2.1.2, fun z => ?_, fun z => absurd key2.1.1 z⟩, trivial⟩, ?_⟩, fun x hx => ?_⟩
  · have := key2.1.1; rw [z] at this; exact absurd this (by decide)
  · rw [hg, hg, if_pos key2.1.1]
  · rw [List.mem_singleton] at hx; rw [hx]; exact key2.2
theorem cw1_lt {key : Int32} {x : Int32} (h : x < 0) : x < (if key = 0 then 10003 else 10002) := by
  split <;> exact Int32.lt_trans h (by decide)
theorem cw1_not {key : Int32} {c : List Int32} (h : cw1 key c) : cw1 key (c ++ [-10]) := by
  refine ⟨fun k => ⟨?_, ?_⟩, fun x hx => ?_⟩
  · rw [wfl_app, (h.1 k).2]
    exact ⟨(h.1 k).1, ⟨fun z => absurd z (by decide), fun _ => by omega, fun _ z => absurd rfl z⟩, trivial⟩
  · rw [hg_app, (h.1 k).2]
    simp [hg]
  · rcases List.mem_append.mp hx with h1 | h1
    · exact h.2 x h1
    · rw [List.mem_singleton] at h1; rw [h1]; exact cw1_lt (by decide)
theorem p_sg_n {v : Int32} (h : ¬ p_sg v = 0) : ¬ 0 ≤ p_sg v ∧ ¬ p_sg v = -10 ∧ p_sg v < 0 := by
  by_cases z1 : v = 38
  · subst z1; decide
  by_cases z2 : v = 42
  · subst z2; decide
  by_cases z3 : v = 43
  · subst z3; decide
  by_cases z4 : v = 45
  · subst z4; decide
  by_cases z5 : v = 47
  · subst z5; decide
  by_cases z6 : v = 60
  · subst z6; decide
  by_cases z7 : v = 61
  · subst z7; decide
  by_cases z8 : v = 62
  · subst z8; decide
  by_cases z9 : v = 124
  · subst z9; decide
  unfold p_sg at h
  rw [if_neg z1, if_neg z2, if_neg z3, if_neg z4, if_neg z5, if_neg z6, if_neg z7, if_neg z8, if_neg z9] at h
  exact absurd rfl h
theorem sgn_n {s : Tk} (h : ¬ sgn s = 0) : ¬ 0 ≤ sgn s ∧ ¬ sgn s = -10 ∧ sgn s < 0 := by
  have e : sgn s = p_sg s.2.2.2.1 := if_pos (sgn_3 h)
  rw [e] at h ⊢
  exact p_sg_n h
theorem cw1_two {key : Int32} {c d : List Int32} {s : Tk} (h : cw1 key c) (h2 : cw1 key d) (hs : ¬ sgn s = 0) : cw1 key (c ++ (d ++ [sgn s])) := by
  obtain ⟨s1, s2, s3⟩ := sgn_n hs
  refine ⟨fun k => ⟨?_, ?_⟩, fun x hx => ?_⟩
  · rw [wfl_app, (h.1 k).2, wfl_app, (h2.1 (k + 1)).2]
    exact ⟨(h.1 k).1, (h2.1 (k + 1)).1, ⟨fun z => absurd z s1, fun z => absurd z s2, fun _ _ => by omega⟩, trivial⟩
  · rw [hg_app, (h.1 k).2, hg_app, (h2.1 (k + 1)).2]
    simp [hg, s1, s2]
  · rcases List.mem_append.mp hx with h1 | h1
    · exact h.2 x h1
    · rcases List.mem_append.mp h1 with h1 | h1
      · exact h2.2 x h1
      · rw [List.mem_singleton] at h1; rw [h1]; exact cw1_lt s3
theorem rdO_cw {T : Nat → Int32} {n lev : Nat} {key : Int32} {sub : Tk → Res} (hs : ∀ t s1 c1, tkv t → sub t = .inr (s1, c1) → tkv s1 ∧ cw1 key c1) : ∀ (i : Nat) (s : Tk) (cs : List Int32) (s1 : Tk) (c1 : List Int32), tkv s → cw1 key cs → rdO T n sub lev i s cs = .inr (s1, c1) → tkv s1 ∧ cw1 key c1 := by
  intro i
  induction i with
  | zero =>
    intro s cs s1 c1 ht hc h
    rw [rdO] at h
    injection h with h
    injection h with h1 h2
    subst h1; subst h2
    exact ⟨ht, hc⟩
  | succ i ih =>
    intro s cs s1 c1 ht hc h
    rw [rdO] at h
    by_cases hcc : ¬ sgn s = 0 ∧ p_rk (sgn s) = nI (lev + 1)
    · rw [if_pos hcc] at h
      cases hq : sub (adv T n s) with
      | inl p => rw [hq] at h; cases h
      | inr q =>
        rw [hq] at h
        obtain ⟨b1, b2⟩ := hs _ q.1 q.2 adv_v hq
        exact ih q.1 _ s1 c1 b1 (cw1_two hc b2 hcc.1) h
    · rw [if_neg hcc] at h
      injection h with h
      injection h with h1 h2
      subst h1; subst h2
      exact ⟨ht, hc⟩
theorem rd_cw {T : Nat → Int32} {n : Nat} {key : Int32} : ∀ (f lev pa no : Nat) (s s1 : Tk) (c1 : List Int32), tkv s → rd T n key f lev pa no s = .inr (s1, c1) → tkv s1 ∧ cw1 key c1 := by
  intro f
  induction f with
  | zero => intro lev pa no s s1 c1 _ h; cases h
  | succ f ih =>
    intro lev pa no s s1 c1 ht h
    rw [rd] at h
    by_cases hl : lev < 5
    · rw [if_pos hl] at h
      cases hq : rd T n key f (lev + 1) pa no s with
      | inl p => rw [hq] at h; cases h
      | inr q =>
        rw [hq] at h
        obtain ⟨a1, a2⟩ := ih _ _ _ s q.1 q.2 ht hq
        exact rdO_cw (fun t s1 c1 ht h => ih _ _ _ t s1 c1 ht h) _ q.1 q.2 s1 c1 a1 a2 h
    · rw [if_neg hl] at h
      by_cases hA : isA key s
      · rw [if_pos hA] at h
        injection h with h
        injection h with h1 h2
        subst h1; subst h2
        exact ⟨adv_v, cw1_at ht hA⟩
      · rw [if_neg hA] at h
        by_cases c2 : s.2.2.1 = 3 ∧ s.2.2.2.1 = 33 ∧ no < 8
        · rw [if_pos c2] at h
          cases hq : rd T n key f 5 pa (no + 1) (adv T n s) with
          | inl p => rw [hq] at h; cases h
          | inr q =>
            rw [hq] at h
            obtain ⟨a1, a2⟩ := ih _ _ _ _ q.1 q.2 adv_v hq
            injection h with h
            injection h with h1 h2
            subst h1; subst h2
            exact ⟨a1, cw1_not a2⟩
        · rw [if_neg c2] at h
          by_cases c3 : s.2.2.1 = 3 ∧ s.2.2.2.1 = 40 ∧ pa < 8
          · rw [if_pos c3] at h
            cases hq : rd T n key f 0 (pa + 1) no (adv T n s) with
            | inl p => rw [hq] at h; cases h
            | inr q =>
              rw [hq] at h
              obtain ⟨a1, a2⟩ := ih _ _ _ _ q.1 q.2 adv_v hq
              by_cases c4 : q.1.2.2.1 = 3 ∧ q.1.2.2.2.1 = 41
              · simp only [if_pos c4] at h
                injection h with h
                injection h with h1 h2
                subst h1; subst h2
                exact ⟨adv_v, a2⟩
              · simp only [if_neg c4] at h
                cases h
          · rw [if_neg c3] at h
            cases h
theorem rdX_cw {T : Nat → Int32} {n w : Nat} {v : Int32} {c : List Int32} (h : rdX T n v = .inr (w, c)) : cw1 (nI w) c := by
  unfold rdX at h
  cases hk : kw T (k_go T n 0 (-1) v) with
  | none => rw [hk] at h; cases h
  | some w' =>
    rw [hk] at h
    simp only [] at h
    cases hq : rdT T n (nI w') (adv T n (k_go T n 0 (-1) v)) with
    | inl p => rw [hq] at h; cases h
    | inr q =>
      rw [hq] at h
      injection h with h
      injection h with h1 h2
      subst h1; subst h2
      unfold rdT at hq
      cases hr : rd T n (nI w') 70 0 0 0 (adv T n (k_go T n 0 (-1) v)) with
      | inl p => rw [hr] at hq; cases hq
      | inr u =>
        rw [hr] at hq
        by_cases hu : u.1.2.2.1 = 0
        · simp only [if_pos hu] at hq
          injection hq with hq
          subst hq
          exact (rd_cw 70 0 0 0 _ u.1 u.2 adv_v hr).2
        · simp only [if_neg hu] at hq
          cases hq
theorem ht_hg {C : Nat → Int32} {c : List Int32} (hC : ∀ k, k < c.length → C k = c.getD k 0) : ∀ k, k ≤ c.length → a_ht C k = hg 0 (c.take k) := by
  intro k
  induction k with
  | zero => intro _; rfl
  | succ k ih =>
    intro hk
    have e : c.take (k + 1) = c.take k ++ [c.getD k 0] := by
      rw [List.take_succ, List.getD_eq_getElem?_getD, List.getElem?_eq_getElem (by omega)]
      rfl
    rw [a_ht, ih (by omega), e, hg_app, hC k (by omega)]
    rfl
theorem ht_cg {C D : Nat → Int32} {m : Nat} (h : ∀ k, k < m → C k = D k) : ∀ k, k ≤ m → a_ht C k = a_ht D k := by
  intro k
  induction k with
  | zero => intro _; rfl
  | succ k ih => intro hk; rw [a_ht, a_ht, ih (by omega), h k (by omega)]
theorem wf_cg {C D : Nat → Int32} {m : Nat} (h : ∀ k, k < m → C k = D k) (hw : a_wf D m) : a_wf C m := by
  refine ⟨hw.1, fun k hk => ?_⟩
  rw [ht_cg h k (by omega), h k hk]
  exact hw.2 k hk
theorem cw1_wf {C : Nat → Int32} {key : Int32} {c : List Int32} (h : cw1 key c) (hl : c.length ≤ 96) (hC : ∀ k, k < c.length → C k = c.getD k 0) : a_wf C c.length ∧ a_ht C c.length = 1 ∧ a_nb C c.length (if key = 0 then 10003 else 10002) := by
  refine ⟨⟨hl, fun k hk => ?_⟩, ?_, fun k hk => ?_⟩
  · have e : c = c.take k ++ (c.getD k 0 :: c.drop (k + 1)) := by
      conv => lhs; rw [← List.take_append_drop k c]
      rw [List.drop_eq_getElem_cons (by omega), List.getD_eq_getElem?_getD, List.getElem?_eq_getElem (by omega)]
      rfl
    have h1 := (h.1 0).1
    rw [e, wfl_app] at h1
    obtain ⟨-, ⟨b1, b2, b3⟩, -⟩ := h1
    have hle : hg 0 (c.take k) ≤ k := by
      have := hg_le (c.take k) 0
      rw [List.length_take] at this
      omega
    rw [ht_hg hC k (by omega), hC k hk]
    exact ⟨fun z => ⟨by omega, b1 z⟩, fun z => ⟨b2 z, by omega⟩, fun z1 z2 => ⟨b3 z1 z2, by omega⟩⟩
  · rw [ht_hg hC _ (Nat.le_refl _), List.take_length, (h.1 0).2]
  · rw [hC k hk, List.getD_eq_getElem?_getD, List.getElem?_eq_getElem hk]
    exact h.2 _ (List.getElem_mem hk)
theorem okT_tx {A : Nat → Int32} {w : Nat} {c : List Int32} (h : okT A) (h14 : tA A < 14) (hw : w < 3) (hl : c.length ≤ 96) (hc : cw1 (nI w) c) : okT (txA A w c) := by
  have et := tx_tA (w := w) (c := c) h.1 h14
  refine ⟨?_, by rw [et]; omega, fun t ht => ?_⟩
  · rw [et, tx_5, h.1, ← nI_succ]
  · rw [et] at ht
    by_cases e : t = tA A
    · rw [tx_mA e hw hl, tx_h e, (tx_dm w hw c.length (by omega)).1, (tx_dm w hw c.length (by omega)).2]
      obtain ⟨a1, a2, a3⟩ := cw1_wf (C := cA (txA A w c) t) hc hl (fun k hk => tx_c e hk hl (by omega))
      exact ⟨rfl, a1, a2, a3⟩
    · have ht : t < tA A := by omega
      obtain ⟨b1, b2, b3, b4⟩ := h.2.2 t ht
      have hm : mA A t ≤ 96 := b2.1
      have hcg : ∀ k, k < mA A t → cA (txA A w c) t k = cA A t k := fun k hk => tx_co ht (by omega) h14
      rw [tx_mo ht h14, (tx_o ht h14).1]
      exact ⟨b1, wf_cg hcg b2, by rw [ht_cg hcg _ (Nat.le_refl _)]; exact b3, fun k hk => by rw [hcg k hk]; exact b4 k hk⟩
theorem okR_tx {A : Nat → Int32} {w : Nat} {c : List Int32} (h : okR A) (h14 : tA A < 14) (hw : w < 3) (hl : c.length ≤ 96) (hc : cw1 (nI w) c) : okR (txA A w c) := by
  obtain ⟨⟨⟨⟨a1, a2⟩, a3, a4⟩, a5⟩, a6, n, a7, a8, a9⟩ := h
  have en : nA (txA A w c) = nA A := by unfold nA; rw [tx_lo (by decide) (by decide)]
  have ef : ∀ v l, v < 9 → l < 10 → fA (txA A w c) v l = fA A v l := fun v l hv hl => by unfold fA; rw [tx_lo (by omega) (by omega)]
  refine ⟨⟨⟨⟨by rw [en, tx_lo (by decide) (by decide)]; exact a1, by rw [en]; exact a2⟩, okT_tx a3 h14 hw hl hc, fun l hl => ?_⟩, by rw [tx_lo (by decide) (by decide)]; exact a5⟩, fun l hl => ?_, n, by rw [tx_lo (by decide) (by decide)]; exact a7, a8, fun l hl => ?_⟩
  · rw [en] at hl; rw [ef 1 l (by decide) (by omega)]; exact a4 l hl
  · rw [en] at hl; rw [ef 0 l (by decide) (by omega)]; exact a6 l hl
  · rw [en] at hl; rw [ef 7 l (by decide) (by omega)]; exact a9 l hl
theorem okK_tx {K K' : e_M} {n : Nat} {r : Option Value} (h : okK K) (hn : n ≤ 96) (hl : ∀ w c, rdX (K 6) n (K 0 11) = .inr (w, c) → c.length ≤ 96) (hP : tP n K r K') : okK K' := by
  obtain ⟨hf, hP⟩ := hP
  have eK : ∀ c, ¬ c = 0 → ¬ c = 1 → ¬ c = 9 → ¬ c = 10 → ¬ c = 11 → K' c = K c := hf.1
  have hT : okT (K 1) := h.1.1.1.1.2.1
  have key : okR (K' 1) ∧ tA (K 1) ≤ tA (K' 1) ∧ ∀ b, 1468 ≤ b → K' 1 b = 0 := by
    have same : K' 1 = K 1 → okR (K' 1) ∧ tA (K 1) ≤ tA (K' 1) ∧ ∀ b, 1468 ≤ b → K' 1 b = 0 := fun e => by
      rw [e]; exact ⟨h.1.1, Nat.le_refl _, fun b hb => (h.2.2.2.2.2.2.1 b hb).1⟩
    rcases hP with ⟨p, -, -, e⟩ | ⟨w, c, hx, hw, e⟩
    · exact same e
    · by_cases h5 : K 1 5 = 14
      · rw [if_pos h5] at e
        exact same e.2
      · rw [if_neg h5] at e
        have h14 : tA (K 1) < 14 := by
          have := hT.2.1
          refine Nat.lt_of_le_of_ne this (fun z => h5 ?_)
          rw [hT.1, z]; rfl
        have hcl := hl w c hx
        rw [e.2]
        exact ⟨okR_tx h.1.1 h14 hw hcl (rdX_cw hx), by rw [tx_tA hT.1 h14]; omega, fun b hb => by rw [tx_hi h14 hcl hb]; exact (h.2.2.2.2.2.2.1 b hb).1⟩
  obtain ⟨⟨a1, a2, a3⟩, a4, a5, a6, a7, a8, a9, a10, a11⟩ := h
  refine ⟨⟨key.1, ?_, ?_⟩, ?_, ?_, ?_, ?_, ?_, ?_, ?_, ?_⟩
  · rw [eK 2 (by decide) (by decide) (by decide) (by decide) (by decide), hf.2.2 3 (by omega)]; exact fun z => ⟨(a2 z).1, Nat.le_trans (a2 z).2 key.2.1⟩
  · rw [hf.2.2 3 (by omega)]; exact a3
  · rw [eK 13 (by decide) (by decide) (by decide) (by decide) (by decide)]; exact a4
  · exact ⟨0, hf.2.1, by decide⟩
  · rw [hf.2.2 33 (by omega)]; exact a6
  · intro j hj; unfold szR; rw [eK 15 (by decide) (by decide) (by decide) (by decide) (by decide)]; exact a7 j hj
  · intro j hj; rw [eK 17 (by decide) (by decide) (by decide) (by decide) (by decide), eK 18 (by decide) (by decide) (by decide) (by decide) (by decide)]; exact a8 j hj
  · intro b hb; rw [eK 2 (by decide) (by decide) (by decide) (by decide) (by decide), eK 3 (by decide) (by decide) (by decide) (by decide) (by decide)]; exact ⟨key.2.2 b hb, (a9 b hb).2⟩
  · intro j hj; rw [eK 14 (by decide) (by decide) (by decide) (by decide) (by decide), eK 15 (by decide) (by decide) (by decide) (by decide) (by decide), eK 16 (by decide) (by decide) (by decide) (by decide) (by decide)]; exact a10 j hj
  · intro j hj; rw [eK 17 (by decide) (by decide) (by decide) (by decide) (by decide)]; exact a11 j hj
