/-! ===== the yard of the reference does as the descent ===== -/
/-- behind an expression of a level -/
def yR (lev : Nat) (ws cs : List Int32) (te : Nat → Int32) (pa : Nat) (c1 : List Int32) (s1 : Tk) (ws1 cs1 : List Int32) (te1 : Nat → Int32) : Prop := s_set (nI (lev + 1)) ws1 cs1 = (ws, c1.reverse ++ cs) ∧ (cN ws1 = cN ws ∧ ng ws1) ∧ (∀ i, i < pa → te1 i = te i) ∧ (te1 pa = 0 ∨ te1 pa = 1) ∧ (3 ≤ lev → te1 pa = te pa) ∧ (¬ sgn s1 = 0 → p_rk (sgn s1) < nI (lev + 1) ∨ (p_rk (sgn s1) = 3 ∧ lev ≤ 2 ∧ ¬ te1 pa = 0))
def yR5 (ws cs : List Int32) (te : Nat → Int32) (pa : Nat) (c1 : List Int32) (ws1 cs1 : List Int32) (te1 : Nat → Int32) : Prop := s_set 6 ws (c1.reverse ++ cs) = (ws1, cs1) ∧ ∀ i, i ≤ pa → te1 i = te i
def nd (lev pa no : Nat) : Nat := 7 * (8 - pa) + (8 - no) + 1 + (5 - lev)
theorem rk_le {s : Tk} (h : ¬ sgn s = 0) {l : Nat} (hl : l ≤ 5) : (p_rk (sgn s) < nI (l + 1)) ↔ ∃ k, k < l + 1 ∧ p_rk (sgn s) = nI k := by
  constructor
  · intro z
    rcases (sgn_facts h).2.2.2 with y | y | y | y | y
    · refine ⟨1, ?_, y⟩; rw [y] at z; exact (nI_ltI (a := 1) (by decide) (by omega)).mp z
    · refine ⟨2, ?_, y⟩; rw [y] at z; exact (nI_ltI (a := 2) (by decide) (by omega)).mp z
    · refine ⟨3, ?_, y⟩; rw [y] at z; exact (nI_ltI (a := 3) (by decide) (by omega)).mp z
    · refine ⟨4, ?_, y⟩; rw [y] at z; exact (nI_ltI (a := 4) (by decide) (by omega)).mp z
    · refine ⟨5, ?_, y⟩; rw [y] at z; exact (nI_ltI (a := 5) (by decide) (by omega)).mp z
  · rintro ⟨k, hk, e⟩
    rw [e]
    exact nI_lt hk (by omega)
section YC
variable {X : e_X} {P : Option Value → e_M → Prop} {n : Nat} {key : Int32} {T : Nat → Int32}
/-- the loop of a level, over the level below -/
theorem y_lp (hX : e_ok 8 cX8_takesE X w_R) (hE : e_en X w_R cX8_takesE (some .boolean) P) (hL : (e_c X).maxLocals = 5) (hR : e_R X = e_rm 3) {lev pa no : Nat} {sub : Tk → Res} (hlev : lev < 5) (hpr : ∀ t s1 c1, tko n t → sub t = .inr (s1, c1) → tko n s1 ∧ t.2.1 < s1.2.1)
    (IH : ∀ (s : Tk) (ws cs : List Int32) (te : Nat → Int32) (K : e_M), yst n key T s ws cs te pa K → tkv s → ng ws → cN ws = no → stb (nI (lev + 2)) ws → (te pa = 0 ∨ te pa = 1) → (lev + 1 ≤ 2 → te pa = 0) → (∀ p, sub s = .inl p → ∀ N, N 0 9 = nI p → pf K N → P (some (.int 0)) N) → (∀ s1 c1, sub s = .inr (s1, c1) → ∀ N ws1 cs1 te1, yst n key T s1 ws1 cs1 te1 pa N → tkv s1 → pf K N → yR (lev + 1) ws cs te pa c1 s1 ws1 cs1 te1 → yH X 0 pa ws1 N) → yH X 1 pa ws K)
    {ws cs : List Int32} {te : Nat → Int32} (hng : ng ws) (hno : cN ws = no) (hst : stb (nI (lev + 1)) ws) : ∀ (i : Nat) (s1 : Tk) (c1 ws1 cs1 : List Int32) (te1 : Nat → Int32) (K : e_M), yst n key T s1 ws1 cs1 te1 pa K → tkv s1 → s_set (nI (lev + 1)) ws1 cs1 = (ws, c1.reverse ++ cs) → cN ws1 = cN ws → ng ws1 → (∀ i, i < pa → te1 i = te i) → (te1 pa = 0 ∨ te1 pa = 1) → (3 ≤ lev → te1 pa = te pa) → (¬ sgn s1 = 0 → p_rk (sgn s1) < nI (lev + 2) ∨ (p_rk (sgn s1) = 3 ∧ lev ≤ 2 ∧ ¬ te1 pa = 0)) → (lev = 2 → (i = 1 ∧ te1 pa = 0) ∨ (i = 0 ∧ (p_rk (sgn s1) = 3 → ¬ te1 pa = 0))) → (¬ lev = 2 → n ≤ i + s1.2.1) →
    (∀ p, rdO T n sub lev i s1 c1 = .inl p → ∀ N, N 0 9 = nI p → pf K N → P (some (.int 0)) N) → (∀ s2 c2, rdO T n sub lev i s1 c1 = .inr (s2, c2) → ∀ N ws2 cs2 te2, yst n key T s2 ws2 cs2 te2 pa N → tkv s2 → pf K N → yR lev ws cs te pa c2 s2 ws2 cs2 te2 → yH X 0 pa ws2 N) → yH X 0 pa ws1 K := by
  intro i
  induction i with
  | zero =>
    intro s1 c1 ws1 cs1 te1 K hy htv hset hcn hng1 hte htb ht3 hnx hl2 hln kf kk
    refine kk s1 c1 rfl K ws1 cs1 te1 hy htv ⟨fun _ _ _ _ _ => rfl, fun _ _ => rfl⟩ ⟨hset, ⟨hcn, hng1⟩, hte, htb, ht3, fun hg => ?_⟩
    have hne : ¬ p_rk (sgn s1) = nI (lev + 1) ∨ (p_rk (sgn s1) = 3 ∧ lev ≤ 2 ∧ ¬ te1 pa = 0) := by
      by_cases e2 : lev = 2
      · rcases hl2 e2 with z | z
        · exact absurd z.1 (by decide)
        · by_cases y : p_rk (sgn s1) = 3
          · exact Or.inr ⟨y, by omega, z.2 y⟩
          · left; rw [e2]; exact y
      · exfalso
        have h1 := hln e2
        have := tko_lt hy.1.2.1 (by rw [sgn_3 hg]; decide)
        omega
    rcases hne with hne | hne
    · rcases hnx hg with z | z
      · obtain ⟨k, hk, e⟩ := (rk_le hg (l := lev + 1) (by omega)).mp z
        have : ¬ k = lev + 1 := fun y => hne (by rw [e, y])
        exact Or.inl ((rk_le hg (l := lev) (by omega)).mpr ⟨k, by omega, e⟩)
      · exact Or.inr z
    · exact Or.inr hne
  | succ i ih =>
    intro s1 c1 ws1 cs1 te1 K hy htv hset hcn hng1 hte htb ht3 hnx hl2 hln kf kk
    rw [rdO] at kf kk
    by_cases hc : ¬ sgn s1 = 0 ∧ p_rk (sgn s1) = nI (lev + 1)
    · rw [if_pos hc] at kf kk
      obtain ⟨hg, hrk⟩ := hc
      obtain ⟨g1, g2, g3, g4⟩ := sgn_facts hg
      have hlt := tko_lt hy.1.2.1 (by rw [sgn_3 hg]; decide)
      have h2z : lev = 2 → te1 pa = 0 := fun e2 => by
        rcases hl2 e2 with z | z
        · exact z.2
        · exact absurd z.1 (by omega)
      have hset' : s_set (p_rk (sgn s1)) ws1 cs1 = (ws, c1.reverse ++ cs) := by rw [hrk]; exact hset
      have hcnx : cN (sgn s1 :: ws) = cN ws := by rw [cN, if_neg g2, Nat.add_zero]
      have h3r : ∀ k : Nat, k < 100 → p_rk (sgn s1) = nI k → lev + 1 = k := fun k hk e => nI_inj (by omega) (by omega) (hrk.symm.trans e)
      refine y_op hX hE hL hR hy hg (fun z => z.2 (h2z (by have := h3r 3 (by decide) z.1; omega))) (by rw [hset', hcnx, hcn]) (by rw [cP_set ws1 cs1 hng1]) (fun N hyN hpf => ?_)
      rw [hset'] at hyN ⊢
      generalize hte2 : upd te1 pa (teN te1 pa (p_rk (sgn s1))) = te2 at hyN
      have t2pa : te2 pa = teN te1 pa (p_rk (sgn s1)) := by rw [← hte2, pk_us]
      have t2i : ∀ u, u < pa → te2 u = te u := fun u hu => by rw [← hte2, pk_un (by omega)]; exact hte u hu
      have t2b : te2 pa = 0 ∨ te2 pa = 1 := by
        rw [t2pa]
        unfold teN
        split
        · exact Or.inr rfl
        · exact Or.inl rfl
      have t2z : lev + 1 ≤ 2 → te2 pa = 0 := fun z => by
        rw [t2pa]
        unfold teN
        rw [if_neg]
        rintro (y | y)
        · have := h3r 3 (by decide) y; omega
        · rw [hrk] at y
          have := (nI_ltI (a := 3) (by decide) (by omega)).mp y.1
          omega
      have t23 : 3 ≤ lev → te2 pa = te pa := fun z => by
        rw [t2pa, ← ht3 z]
        unfold teN
        have h4 : 3 < p_rk (sgn s1) := by rw [hrk]; exact nI_lt (a := 3) (by omega) (by omega)
        have h43 : ¬ p_rk (sgn s1) = 3 := fun y => by have := h3r 3 (by decide) y; omega
        rcases htb with y | y
        · rw [if_neg (fun x => x.elim h43 (fun v => v.2 y)), y]
        · rw [if_pos (Or.inr ⟨h4, by rw [y]; decide⟩), y]
      have t22 : lev = 2 → te2 pa = 1 := fun z => by
        rw [t2pa]
        unfold teN
        rw [if_pos (Or.inl (by rw [hrk, z]; rfl))]
      refine IH (adv T n s1) (sgn s1 :: ws) (c1.reverse ++ cs) te2 N hyN adv_v (fun x hx => ?_) (by rw [hcnx]; exact hno) (stb_c (Or.inr (by rw [hrk]; exact nI_lt (by omega) (by omega)))) t2b t2z (fun p hp N2 h9 hf2 => ?_) (fun s2 c2 hq N2 ws2 cs2 te3 hy2 htv2 hf2 hr2 => ?_)
      · rcases List.mem_cons.mp hx with z | z
        · rw [z]; exact g1
        · exact hng x z
      · exact kf p (by rw [hp]) N2 h9 (pf_t hpf hf2)
      · simp only [hq] at kf kk
        obtain ⟨r1, ⟨r2, r2n⟩, r3, r4, r5, r6⟩ := hr2
        have e1 : s_set (nI (lev + 1)) ws2 cs2 = (ws, (c1 ++ (c2 ++ [sgn s1])).reverse ++ cs) := by
          rw [s_set_comp (r' := nI (lev + 1 + 1)) (nI_le (by omega) (by omega)), r1]
          show s_set (nI (lev + 1)) (sgn s1 :: ws) (c2.reverse ++ (c1.reverse ++ cs)) = _
          rw [s_set, if_neg (fun z => z.elim g3 (fun y => by rw [hrk] at y; exact Int32.lt_irrefl y)), hst]
          simp
        have hpos := (hpr _ s2 c2 hyN.1.2.1 hq).2
        have hadv := (adv_ok (T := T) (n := n) (s := s1) hlt.2).2
        refine ih s2 (c1 ++ (c2 ++ [sgn s1])) ws2 cs2 te3 N2 hy2 htv2 e1 (by rw [r2, hcnx]) r2n (fun u hu => by rw [r3 u hu]; exact t2i u hu) r4 (fun z => by rw [r5 (by omega)]; exact t23 z) (fun hg2 => ?_) (fun e2 => ?_) (fun e2 => ?_) (fun p hp N3 h9 hf3 => kf p hp N3 h9 (pf_t hpf (pf_t hf2 hf3))) (fun s3 c3 h3 N3 ws3 cs3 te4 y3 v3 hf3 rr => kk s3 c3 h3 N3 ws3 cs3 te4 y3 v3 (pf_t hpf (pf_t hf2 hf3)) rr)
        · rcases r6 hg2 with z | z
          · exact Or.inl z
          · exact Or.inr ⟨z.1, by omega, z.2.2⟩
        · right
          rcases hl2 e2 with z | z
          · exact ⟨by omega, fun _ => by rw [r5 (by omega), t22 e2]; decide⟩
          · exact absurd z.1 (by omega)
        · have := hln e2
          omega
    · rw [if_neg hc] at kf kk
      refine kk s1 c1 rfl K ws1 cs1 te1 hy htv ⟨fun _ _ _ _ _ => rfl, fun _ _ => rfl⟩ ⟨hset, ⟨hcn, hng1⟩, hte, htb, ht3, fun hg => ?_⟩
      rcases hnx hg with z | z
      · obtain ⟨k, hk, e⟩ := (rk_le hg (l := lev + 1) (by omega)).mp z
        have : ¬ k = lev + 1 := fun y => hc ⟨hg, by rw [e, y]⟩
        exact Or.inl ((rk_le hg (l := lev) (by omega)).mpr ⟨k, by omega, e⟩)
      · exact Or.inr z
end YC
