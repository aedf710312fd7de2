/-! ===== calls with another world behind ===== -/
theorem e_mgW_P {D : va_G} {cA : Nat → ClassId} {ad : Nat → Nat} {is : List Nat} {Sh Sh' Sh0 Sh0' : List e_S} {M N : e_M} {H H1 : Heap} (h : e_sb is Sh' Sh0' = true) (hl : Sh'.length = Sh.length) (hl0 : Sh0'.length = Sh0.length) (ho : ∀ k, k ∉ is.take Sh0.length → Sh'[k]? = Sh[k]?) (hi : ∀ i j, i < Sh.length → j < Sh.length → ad i = ad j → i = j) (hP : va_P D vwCl (e_cz ad cA M 0 Sh) H) (hN : va_P D vwCl (e_cz (fun j => ad (e_io is j)) cA N 0 Sh0') H1) (hk : ∀ q : Nat, q < H.size → ¬ e_AA (fun j => ad (e_io is j)) Sh0.length q → H1[q]? = H[q]?) : va_P D vwCl (e_cz ad cA (e_mg is Sh0.length M N) 0 Sh') H1 := by
  rw [← hl0] at ho hk ⊢
  intro k q hq
  have hlk : k < Sh'.length := by rw [← e_cz_len ad cA (e_mg is Sh0'.length M N) Sh' 0]; exact (List.getElem?_eq_some_iff.mp hq).1
  obtain ⟨x, hx⟩ : ∃ x, Sh'[k]? = some x := ⟨_, List.getElem?_eq_getElem hlk⟩
  rw [e_cz_at hx] at hq
  cases hq
  by_cases hm : k ∈ is.take Sh0'.length
  · obtain ⟨j, hj⟩ := List.getElem?_of_mem hm
    have hj0 : j < Sh0'.length := by
      have := (List.getElem?_eq_some_iff.mp hj).1
      rw [List.length_take] at this
      omega
    rw [List.getElem?_take_of_lt hj0] at hj
    obtain ⟨y, hy⟩ : ∃ y, Sh0'[j]? = some y := ⟨_, List.getElem?_eq_getElem hj0⟩
    obtain ⟨-, h2, h3⟩ := e_sb_at h hy
    rw [hj] at h2
    have e : k = e_io is j := Option.some.inj h2
    rw [e] at hx ⊢
    rw [h3] at hx
    cases hx
    have h4 := hN _ _ (e_cz_at (ad := fun j => ad (e_io is j)) (cA := cA) (M := N) hy)
    rw [e_mg_in h M N hj0, e_ce_rs]
    exact h4
  · rw [e_mg_out hm]
    rw [ho k hm] at hx
    have h4 := hP _ _ (e_cz_at (ad := ad) (cA := cA) (M := M) hx)
    refine h4.kept (hk _ h4.lt ?_)
    rintro ⟨j, hj, e⟩
    obtain ⟨a1, a2⟩ := e_sb_len h hj
    have := hi _ _ (by rw [← hl]; exact hlk) (by rw [← hl]; exact a2) e
    exact hm (List.mem_of_getElem? (i := j) (by rw [List.getElem?_take_of_lt hj, this]; exact a1))
section EW
variable {X : e_X} {Sh Sh0 : List e_S} {pc : Nat} {lo : List (Option Value)} {M : e_M} {o : Nat} {cc : ByteArray} {is : List Nat}
theorem e_afterW {as0 rest st0 : List Value} {P : Option Value → List e_S → e_M → Prop} {H : Heap} {locs : List Loc} {ls : Array Slot} (hX : e_ok o cc X Sh) (hs : e_sb is Sh Sh0 = true) (hP : va_P (e_D X) vwCl (e_cz (e_ad X) (e_cA X) M 0 Sh) H) (hS : va_S (e_A X) (e_s X).heap H locs) (hl : lv_has ls (e_c X).maxLocals (e_lz (e_ad X) 0 lo))
    (hr : va_Run (e_p X) (e_l X) (e_e X) (e_R X) (e_s X) (e_m X) (e_a X) (e_b X) (e_me X) (e_c X) H locs (e_k X) (e_n X) 0 0 (F0 (e_m X) pc ls st0) (rest.map (e_cv (e_ad X))) (e_QW (e_g X) (fun j => e_ad X (e_io is j)) Sh0.length P ((as0.map (e_cv (fun j => e_ad X (e_io is j)))).toArray)) (e_AA (fun j => e_ad X (e_io is j)) Sh0.length))
    (k : ∀ (r : Option Value) (Sh0' : List e_S) (N : e_M), P r Sh0' N → ∃ Sh' : List e_S, Sh'.length = Sh.length ∧ Sh0'.length = Sh0.length ∧ e_sb is Sh' Sh0' = true ∧ (∀ k, k ∉ is.take Sh0.length → Sh'[k]? = Sh[k]?) ∧ e_E X Sh' (pc + 3) lo ((r.map (e_cv (e_io is))).toList ++ rest) (e_mg is Sh0.length M N)) :
    W (e_p X) (e_l X) (e_e X) (e_R X) (e_s X) (e_m X) (e_a X) (e_b X) (e_me X) (e_c X) H locs (e_k X) (e_n X) (e_Q X) (F0 (e_m X) pc ls st0) := by
  intro T hT Y
  obtain ⟨v, st₀, t, T', L, h0, Y', hL, e1, e2, ⟨⟨r, Sh0', N, hv, hp, hb⟩, hz, hk⟩, st⟩ := hr T hT Y
  obtain ⟨Sh', g1, g2, g3, g4, g5⟩ := k r Sh0' N hp
  have hAA : ∀ q, e_AA (fun j => e_ad X (e_io is j)) Sh0.length q → e_A X q := by
    rintro q ⟨j, hj, rfl⟩
    exact hX.a _ (e_sb_len hs hj).2
  have ev : v = r.map (e_cv (fun j => e_ad X (e_io is j))) := by injection hv
  rw [h0] at hz hk
  have hP1 : va_P (e_D X) vwCl (e_cz (e_ad X) (e_cA X) (e_mg is Sh0.length M N) 0 Sh') T'.heap := by
    rw [e1]
    exact e_mgW_P g3 g1 g2 g4 hX.i hP hb hk
  have hS1 : va_S (e_A X) (e_s X).heap T'.heap (locs ++ L) := ⟨Nat.le_trans hS.1 (by rw [e1]; exact hz), fun q h1 h2 => by rw [e1, hk q (Nat.lt_of_lt_of_le h1 hS.1) (fun z => h2 (hAA q z))]; exact hS.2.1 q h1 h2, fun q hq => by
      rcases List.mem_append.mp hq with h | h
      · exact hS.2.2 q h
      · exact hAA _ (hL q h)⟩
  obtain ⟨t2, a1, b1⟩ := g5 T'.heap (locs ++ L) ls hP1 hS1 hl T' rfl Y'
  refine ⟨t2, st t2 ?_, b1⟩
  have es : v.toList ++ rest.map (e_cv (e_ad X)) = ((r.map (e_cv (e_io is))).toList ++ rest).map (e_cv (e_ad X)) := by
    rw [ev]
    cases r with
    | none => simp
    | some w => simp [e_cv_cv]
  rw [show ({ F0 (e_m X) pc ls st0 with pc := pc + 3, stack := v.toList ++ rest.map (e_cv (e_ad X)) } : JFrame) = F0 (e_m X) (pc + 3) ls (((r.map (e_cv (e_io is))).toList ++ rest).map (e_cv (e_ad X))) from by rw [← es]]
  exact a1
theorem e_callVW {d idx n nL a0 ci : Nat} {y : MethodName} {cy : ByteArray} {rt : Option FieldType} {as0 rest : List Value} {P : Option Value → List e_S → e_M → Prop} {fs : List (Option Value)} {T : u_T} {N : Nat} (hX : e_ok o cc X Sh) (hs : e_sb is Sh Sh0 = true) (hC : e_CW (e_g X) d y cy nL rt (.ref a0 :: as0) Sh0 (fun j => M (e_io is j)) P) (hw : e_wV o idx y cy nL rt n) (ha : Sh0[a0]? = some (.inr (ci, fs))) (hc : vwCl[ci]? = some (y.cls, T, N)) (hn : as0.length = n) (hR : d + 1 ≤ (e_R X).frames ∧ 40 * (d + 1) ≤ (e_R X).locals) (hr : rest.length ≤ 4) (hd : decode cc pc = .ok (.invokevirtual idx, 3))
    (k : ∀ (r : Option Value) (Sh0' : List e_S) (N : e_M), P r Sh0' N → ∃ Sh' : List e_S, Sh'.length = Sh.length ∧ Sh0'.length = Sh0.length ∧ e_sb is Sh' Sh0' = true ∧ (∀ k, k ∉ is.take Sh0.length → Sh'[k]? = Sh[k]?) ∧ e_E X Sh' (pc + 3) lo ((r.map (e_cv (e_io is))).toList ++ rest) (e_mg is Sh0.length M N)) : e_E X Sh pc lo ((as0.map (e_cv (e_io is))).reverse ++ .ref (e_io is a0) :: rest) M := by
  intro H locs ls hP hS hl
  obtain ⟨⟨w1, w2, w3, w4, w7⟩, w5, w6⟩ := hw
  obtain ⟨-, -, g3⟩ := e_sb_at hs ha
  refine e_afterW (as0 := .ref a0 :: as0) hX hs hP hS hl ?_ k
  refine va_runV (C := y.cls) (b := e_ad X (e_io is a0)) (As := as0.map (e_cv (fun j => e_ad X (e_io is j)))) (n := n) (nL := (e_c X).maxLocals) ⟨hX.x, hX.b, rfl, hX.o, hX.t⟩ (hC (fun j => e_ad X (e_io is j))) (cwV n hX.t (e_gin (by intro w h; simp only [List.mem_cons, List.not_mem_nil, or_false] at h; rcases h with rfl | rfl | rfl | rfl <;> assumption) w7) rfl rfl rfl ⟨rfl, w5⟩ ⟨hR.1, ?_⟩) ⟨e_Pc_blind _ _ _ _ _, va_recv hX.k hP hc (e_cz_at g3), fun U hU hW => e_pre (as0 := .ref a0 :: as0) hX hs hP hS U hU hW⟩ rfl (by rw [List.length_map]; exact hn) hl.1 ?_ (lv_room (e_rl4 hr)) hd ⟨hX.r.1, hX.r.2⟩
  · show 8 + (nL + 11) + 40 * d ≤ _
    have := hR.2
    omega
  · show List.map _ _ = _
    rw [List.map_append, List.map_reverse, List.map_map]
    congr 2
    exact List.map_congr_left (fun v _ => e_cv_cv _ is v)
end EW
