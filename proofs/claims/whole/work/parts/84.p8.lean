/-! ===== the yard of the reference does as the descent: all levels ===== -/
section YD
variable {X : e_X} {P : Option Value → e_M → Prop} {n : Nat} {key : Int32} {T : Nat → Int32}
theorem pf_0 {M : e_M} : pf M M := ⟨fun _ _ _ _ _ => rfl, fun _ _ => rfl⟩
theorem y_sim (hX : e_ok 8 cX8_takesE X w_R) (hE : e_en X w_R cX8_takesE (some .boolean) P) (hL : (e_c X).maxLocals = 5) (hR : e_R X = e_rm 3) : ∀ (f : Nat),
    (∀ (pa no : Nat) (s : Tk) (ws cs : List Int32) (te : Nat → Int32) (K : e_M), nd 5 pa no ≤ f → yst n key T s ws cs te pa K → tkv s → ng ws → cN ws = no → no ≤ 8 → (∀ p, rd T n key f 5 pa no s = .inl p → ∀ N, N 0 9 = nI p → pf K N → P (some (.int 0)) N) → (∀ s1 c1, rd T n key f 5 pa no s = .inr (s1, c1) → ∀ N ws1 cs1 te1, yst n key T s1 ws1 cs1 te1 pa N → tkv s1 → pf K N → yR5 ws cs te pa c1 ws1 cs1 te1 → yH X 0 pa ws1 N) → yH X 1 pa ws K) ∧
    (∀ (lev pa no : Nat) (s : Tk) (ws cs : List Int32) (te : Nat → Int32) (K : e_M), lev ≤ 5 → nd lev pa no ≤ f → yst n key T s ws cs te pa K → tkv s → ng ws → cN ws = no → no ≤ 8 → stb (nI (lev + 1)) ws → (te pa = 0 ∨ te pa = 1) → (lev ≤ 2 → te pa = 0) → (∀ p, rd T n key f lev pa no s = .inl p → ∀ N, N 0 9 = nI p → pf K N → P (some (.int 0)) N) → (∀ s1 c1, rd T n key f lev pa no s = .inr (s1, c1) → ∀ N ws1 cs1 te1, yst n key T s1 ws1 cs1 te1 pa N → tkv s1 → pf K N → yR lev ws cs te pa c1 s1 ws1 cs1 te1 → yH X 0 pa ws1 N) → yH X 1 pa ws K) := by
  intro f
  induction f with
  | zero =>
    refine ⟨fun pa no s ws cs te K h => ?_, fun lev pa no s ws cs te K hl h => ?_⟩
    · unfold nd at h; omega
    · unfold nd at h; omega
  | succ f ih =>
    obtain ⟨ihP, ihL⟩ := ih
    have A : ∀ (pa no : Nat) (s : Tk) (ws cs : List Int32) (te : Nat → Int32) (K : e_M), nd 5 pa no ≤ f + 1 → yst n key T s ws cs te pa K → tkv s → ng ws → cN ws = no → no ≤ 8 → (∀ p, rd T n key (f + 1) 5 pa no s = .inl p → ∀ N, N 0 9 = nI p → pf K N → P (some (.int 0)) N) → (∀ s1 c1, rd T n key (f + 1) 5 pa no s = .inr (s1, c1) → ∀ N ws1 cs1 te1, yst n key T s1 ws1 cs1 te1 pa N → tkv s1 → pf K N → yR5 ws cs te pa c1 ws1 cs1 te1 → yH X 0 pa ws1 N) → yH X 1 pa ws K := by
      intro pa no s ws cs te K hnd hy htv hng hno hno8 kf kk
      have hpa := hy.2.2.2.2.1
      rw [rd] at kf kk
      simp only [Nat.lt_irrefl, if_false] at kf kk
      by_cases hA : isA key s
      · simp only [if_pos hA] at kf kk
        have h3 : ¬ s.2.2.1 = 3 := fun z => by
          rcases hA with y | y
          · rw [z] at y; exact absurd y (by decide)
          · rw [z] at y; exact absurd y.1 (by decide)
        have hc0 := cdA_0 htv hA
        refine y_atm hX hE hL hR hy (fun z => h3 z.1) (fun z => h3 z.1) (fun _ N hyN hpf => ?_) (fun z => absurd hA z) (fun _ => ?_)
        · exact kk _ _ rfl N _ _ te hyN adv_v hpf ⟨rfl, fun _ _ => rfl⟩
        · rw [cP_set ws _ hng, cP, if_pos hc0]
      · simp only [if_neg hA] at kf kk
        by_cases hN : s.2.2.1 = 3 ∧ s.2.2.2.1 = 33 ∧ no < 8
        · simp only [if_pos hN] at kf kk
          refine y_not hX hE hL hR hy hN.1 hN.2.1 (by rw [hno]; exact hN.2.2) (fun N hyN hpf => ?_)
          have hcn : cN (-10 :: ws) = no + 1 := by rw [cN, if_pos rfl, hno]
          refine ihP pa (no + 1) (adv T n s) (-10 :: ws) cs te N (by unfold nd at hnd ⊢; omega) hyN adv_v (fun x hx => ?_) hcn (by omega) (fun p hp N2 h9 hf2 => ?_) (fun s1 c1 hq N2 ws1 cs1 te1 y2 v2 hf2 r2 => ?_)
          · rcases List.mem_cons.mp hx with z | z
            · rw [z]; decide
            · exact hng x z
          · exact kf p (by rw [hp]) N2 h9 (pf_t hpf hf2)
          · refine kk s1 (c1 ++ [-10]) (by rw [hq]) N2 ws1 cs1 te1 y2 v2 (pf_t hpf hf2) ⟨?_, r2.2⟩
            rw [← r2.1, s_set, if_neg (by decide)]
            simp
        · simp only [if_neg hN] at kf kk
          by_cases hO : s.2.2.1 = 3 ∧ s.2.2.2.1 = 40 ∧ pa < 8
          · simp only [if_pos hO] at kf kk
            refine y_opn hX hE hL hR hy hO.1 hO.2.1 hO.2.2 (fun N hyN hpf => ?_)
            have hcn : cN (-11 :: ws) = no := by rw [cN, if_neg (by decide), Nat.add_zero, hno]
            refine ihL 0 (pa + 1) no (adv T n s) (-11 :: ws) cs (upd te (pa + 1) 0) N (by decide) (by unfold nd at hnd ⊢; omega) hyN adv_v (fun x hx => ?_) hcn hno8 (stb_c (Or.inl rfl)) (Or.inl pk_us) (fun _ => pk_us) (fun p hp N2 h9 hf2 => ?_) (fun s1 c1 hq N2 ws1 cs1 te1 y2 v2 hf2 r2 => ?_)
            · rcases List.mem_cons.mp hx with z | z
              · rw [z]; decide
              · exact hng x z
            · exact kf p (by rw [hp]) N2 h9 (pf_t hpf hf2)
            · obtain ⟨r1, ⟨rc, rn⟩, r3, r4, r5, r6⟩ := r2
              simp only [hq] at kf kk
              by_cases hC : s1.2.2.1 = 3 ∧ s1.2.2.2.1 = 41
              · simp only [if_pos hC] at kf kk
                have hset : s_set 0 ws1 cs1 = (-11 :: ws, c1.reverse ++ cs) := by
                  rw [s_set_comp (r' := nI (0 + 1)) (by decide), r1]
                  exact stb_c (Or.inl rfl) _
                have hcp1 : cP cs1 = cP (c1.reverse ++ cs) := by
                  have := cP_set (r := 0) ws1 cs1 rn
                  rw [hset] at this
                  exact this.symm
                refine y_cls hX hE hL hR y2 hC.1 hC.2 hset (by rw [cP_set ws _ hng, hcp1]) (fun N3 y3 hf3 => ?_)
                refine kk _ _ rfl N3 _ _ te1 y3 adv_v (pf_t hpf (pf_t hf2 hf3)) ⟨rfl, fun i hi => ?_⟩
                rw [r3 i (by omega), pk_un (by omega)]
              · simp only [if_neg hC] at kf kk
                have hfail : P (some (.int 0)) N2 := kf s1.2.1 rfl N2 y2.1.1.2.1 (pf_t hpf hf2)
                by_cases h0 : s1.2.2.1 = 0
                · refine y_end hX hE hL hR y2 h0 (fun N3 _ h9 _ hf3 => ?_)
                  rw [if_neg (by omega)]
                  exact kf s1.2.1 rfl N3 h9 (pf_t hpf (pf_t hf2 hf3))
                · refine y_fo hX hE hL hR y2 h0 (fun z => hC ⟨z.1, z.2.1⟩) ?_ hfail
                  by_cases hg : sgn s1 = 0
                  · exact Or.inl hg
                  · right
                    rcases r6 hg with z | z
                    · exfalso
                      rcases (sgn_facts hg).2.2.2 with y | y | y | y | y <;> rw [y] at z <;> exact absurd z (by decide)
                    · exact ⟨z.1, z.2.2⟩
          · simp only [if_neg hO] at kf kk
            refine y_atm hX hE hL hR hy (by rw [hno]; exact hN) hO (fun z => absurd z hA) (fun _ => ?_) (fun z => absurd z hA)
            exact kf s.2.1 rfl K hy.1.1.2.1 pf_0
    refine ⟨A, ?_⟩
    intro lev pa no s ws cs te K hl5 hnd hy htv hng hno hno8 hst htb ht2 kf kk
    by_cases hl : lev < 5
    · rw [rd] at kf kk
      simp only [if_pos hl] at kf kk
      have hpr : ∀ t s1 c1, tko n t → rd T n key f (lev + 1) pa no t = .inr (s1, c1) → tko n s1 ∧ t.2.1 < s1.2.1 := fun t s1 c1 ht h => rd_ok f _ _ _ t s1 c1 ht h
      refine ihL (lev + 1) pa no s ws cs te K (by omega) (by unfold nd at hnd ⊢; omega) hy htv hng hno hno8 (stb_up (nI_le (by omega) (by omega)) hst) htb (fun z => ht2 (by omega)) (fun p hp N h9 hf => ?_) (fun s1 c1 hq N ws1 cs1 te1 y1 v1 hf1 r1 => ?_)
      · exact kf p (by rw [hp]) N h9 hf
      · simp only [hq] at kf kk
        obtain ⟨q1, ⟨q2, q2n⟩, q3, q4, q5, q6⟩ := r1
        have hset : s_set (nI (lev + 1)) ws1 cs1 = (ws, c1.reverse ++ cs) := by
          rw [s_set_comp (r' := nI (lev + 1 + 1)) (nI_le (by omega) (by omega)), q1]
          exact hst _
        refine y_lp hX hE hL hR (lev := lev) (pa := pa) (no := no) (sub := fun t => rd T n key f (lev + 1) pa no t) (te := te) hl hpr (fun s' ws' cs' te' K' y' v' n' c' st' b' z' kf' kk' => ihL (lev + 1) pa no s' ws' cs' te' K' (by omega) (by unfold nd at hnd ⊢; omega) y' v' n' c' hno8 st' b' z' kf' kk') hng hno hst (if lev = 2 then 1 else 96) s1 c1 ws1 cs1 te1 N y1 v1 hset q2 q2n q3 q4 (fun z => q5 (by omega)) (fun hg => ?_) (fun e2 => ?_) (fun e2 => ?_) (fun p hp N2 h9 hf2 => kf p hp N2 h9 (pf_t hf1 hf2)) (fun s2 c2 h2 N2 ws2 cs2 te2 y2 v2 hf2 r2 => kk s2 c2 h2 N2 ws2 cs2 te2 y2 v2 (pf_t hf1 hf2) r2)
        · rcases q6 hg with z | z
          · exact Or.inl z
          · exact Or.inr ⟨z.1, by omega, z.2.2⟩
        · left
          rw [if_pos e2]
          exact ⟨rfl, by rw [q5 (by omega)]; exact ht2 (by omega)⟩
        · rw [if_neg e2]
          have := y1.1.2.2
          omega
    · have e5 : lev = 5 := by omega
      subst e5
      refine A pa no s ws cs te K hnd hy htv hng hno hno8 kf (fun s1 c1 hq N ws1 cs1 te1 y1 v1 hf1 r1 => kk s1 c1 hq N ws1 cs1 te1 y1 v1 hf1 ?_)
      have e := r1.1
      rw [show (6 : Int32) = nI (5 + 1) from rfl, hst] at e
      injection e with ea eb
      subst ea eb
      refine ⟨hst _, ⟨rfl, hng⟩, fun i hi => r1.2 i (by omega), by rw [r1.2 pa (Nat.le_refl _)]; exact htb, fun _ => r1.2 pa (Nat.le_refl _), fun hg => Or.inl ?_⟩
      rcases (sgn_facts hg).2.2.2 with y | y | y | y | y <;> rw [y] <;> decide
end YD
