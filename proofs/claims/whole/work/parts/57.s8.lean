/-! ===== the class: a night ===== -/
theorem a_cts_cg {A B : Nat → Int32} {key : Int32} (h : ∀ b, 96 ≤ b → B b = A b) : ∀ T, a_cts B key T = a_cts A key T := by
  intro T
  induction T with
  | zero => rfl
  | succ T ih => simp only [a_cts, ih, h (96 + 2 * T) (by omega)]
theorem hr_mv {A B : Nat → Int32} {M N : e_M} (h : hr A M) (hd : N 0 6 = B 0 ∧ N 0 2 = B 1 ∧ N 0 5 = B 2 ∧ N 0 3 = B 3 ∧ N 0 4 = B 4 ∧ N 0 7 = B 5) (hn : nA B = nA A) (h5 : B 5 = A 5) (h96 : ∀ b, 96 ≤ b → B b = A b) (hf : ∀ l w, l < nA A → w < 9 → N (2 + w) l = fA B w l) (h11 : N 11 = M 11) (hb : ∀ c, 14 ≤ c → c < 32 → N c = M c) (h14 : tA A ≤ 14) : hr B N := by
  have ht : tA B = tA A := by unfold tA; rw [h5]
  refine ⟨hd, fun l w hl hw => hf l w (by omega) hw, fun k hk => ?_, fun t htt => ?_⟩
  · rw [h11, ht, a_cts_cg h96]; exact h.2.2.1 k hk
  · rw [ht] at htt
    obtain ⟨b1, b2, b3, b4⟩ := h.2.2.2 t htt
    have em : mA B t = mA A t := by unfold mA; rw [h96 _ (by omega)]
    refine ⟨?_, ?_, ?_, fun k hk => ?_⟩
    · rw [hb 14 (by omega) (by omega), h96 _ (by omega)]; exact b1
    · rw [hb 15 (by omega) (by omega), h96 _ (by omega)]; exact b2
    · rw [hb 16 (by omega) (by omega), em]; exact b3
    · rw [em] at hk
      rw [hb (18 + t) (by omega) (by omega), b4 k hk]
      unfold cA
      rw [h96 _ (by omega)]
theorem nA_upd {A : Nat → Int32} {b : Nat} {v : Int32} (h : ¬ b = 1) : nA (upd A b v) = nA A := by unfold nA; rw [pk_un (fun z => h z.symm)]
theorem hr_z {A : Nat → Int32} {M : e_M} {v : Int32} (h : hr A M) (h14 : tA A ≤ 14) : hr (upd A 0 v) (e_st M 0 6 v) := by
  obtain ⟨⟨a1, a2, a3, a4, a5, a6⟩, hf, -, -⟩ := id h
  refine hr_mv h ⟨by simp [e_st_r, upd], by simpa [e_st_r, upd] using a2, by simpa [e_st_r, upd] using a3, by simpa [e_st_r, upd] using a4, by simpa [e_st_r, upd] using a5, by simpa [e_st_r, upd] using a6⟩ (nA_upd (by decide)) (pk_un (by decide)) (fun b hb => pk_un (by omega)) (fun l w hl hw => ?_) (by simp [e_st]) (fun c h1 h2 => by simp [e_st, show ¬ c = 0 by omega]) h14
  rw [e_st_r, if_neg (by omega), hf l w hl hw]
  unfold fA
  rw [pk_un (by omega)]
theorem fA_upd {A : Nat → Int32} {l w k v : Nat} {x : Int32} (hw : w < 9) (hv : v < 9) : fA (upd A (6 + 9 * l + w) x) v k = if k = l ∧ v = w then x else fA A v k := by
  unfold fA
  by_cases h : k = l ∧ v = w
  · obtain ⟨rfl, rfl⟩ := h; rw [pk_us, if_pos ⟨rfl, rfl⟩]
  · rw [if_neg h, pk_un]
    intro e
    exact h ⟨by omega, by omega⟩
theorem hr_f {A : Nat → Int32} {M : e_M} {l w : Nat} {v : Int32} (h : hr A M) (h14 : tA A ≤ 14) (h10 : nA A ≤ 10) (hl : l < nA A) (hw : w < 9) : hr (upd A (6 + 9 * l + w) v) (e_st M (2 + w) l v) := by
  obtain ⟨⟨a1, a2, a3, a4, a5, a6⟩, hf, -, -⟩ := id h
  have e0 : ∀ b, e_st M (2 + w) l v 0 b = M 0 b := fun b => by rw [e_st_r, if_neg (by omega)]
  have eu : ∀ b, b < 6 → upd A (6 + 9 * l + w) v b = A b := fun b hb => pk_un (by omega)
  refine hr_mv h ⟨by rw [e0, eu 0 (by decide)]; exact a1, by rw [e0, eu 1 (by decide)]; exact a2, by rw [e0, eu 2 (by decide)]; exact a3, by rw [e0, eu 3 (by decide)]; exact a4, by rw [e0, eu 4 (by decide)]; exact a5, by rw [e0, eu 5 (by decide)]; exact a6⟩ (nA_upd (by omega)) (eu 5 (by decide)) (fun b hb => pk_un (by omega)) (fun k u hk hu => ?_) (by funext q; rw [e_st_r, if_neg (by omega)]) (fun c h1 h2 => by funext q; rw [e_st_r, if_neg (by omega)]) h14
  rw [fA_upd hw hu, e_st_r]
  by_cases h1 : k = l ∧ u = w
  · obtain ⟨rfl, rfl⟩ := h1; simp
  · rw [if_neg h1, ← hf k u hk hu]
    by_cases h2 : u = w
    · subst h2; rw [if_pos rfl, if_neg (fun z => h1 ⟨z, rfl⟩)]
    · rw [if_neg (by omega)]
theorem hr_up {A : Nat → Int32} {M : e_M} {c : Nat} {s : Nat → Int32} (h : hr A M) (h14 : tA A ≤ 14) (hc : c = 12 ∨ 32 ≤ c) : hr A (e_up M c s) := by
  have e : ∀ a, ¬ a = c → e_up M c s a = M a := fun a ha => by simp [e_up, ha]
  refine hr_mv h ⟨?_, ?_, ?_, ?_, ?_, ?_⟩ rfl rfl (fun _ _ => rfl) (fun l w hl hw => ?_) (e 11 (by omega)) (fun a h1 h2 => e a (by omega)) h14
  · rw [e 0 (by omega)]; exact h.1.1
  · rw [e 0 (by omega)]; exact h.1.2.1
  · rw [e 0 (by omega)]; exact h.1.2.2.1
  · rw [e 0 (by omega)]; exact h.1.2.2.2.1
  · rw [e 0 (by omega)]; exact h.1.2.2.2.2.1
  · rw [e 0 (by omega)]; exact h.1.2.2.2.2.2
  · rw [e (2 + w) (by omega)]; exact h.2.1 l w hl hw
/-! who is next on a stair -/
theorem a_nx_f {A : Nat → Int32} {n : Nat} {s : Int32} {m : Nat} (hm : m < n) (hs : fA A 1 m = s) : ∀ (j l : Nat), l < m → m - l ≤ j → (∀ x, l < x → x < m → ¬ fA A 1 x = s) → a_nx A n s j l = m := by
  intro j
  induction j with
  | zero => intro l h1 h2 _; omega
  | succ j ih =>
    intro l h1 h2 h3
    rw [a_nx, if_pos (show l + 1 < n by omega)]
    by_cases h : l + 1 = m
    · rw [h, if_pos hs]
    · rw [if_neg (h3 (l + 1) (by omega) (by omega))]
      exact ih (l + 1) (by omega) (by omega) (fun x hx1 hx2 => h3 x (by omega) hx2)
theorem a_nx_w {A : Nat → Int32} {n : Nat} {s : Int32} {m : Nat} (hm : m < n) (hs : fA A 1 m = s) (h0 : ∀ x, x < m → ¬ fA A 1 x = s) : ∀ (j l : Nat), l < n → m ≤ l → n - l + m ≤ j → (∀ x, l < x → x < n → ¬ fA A 1 x = s) → a_nx A n s j l = m := by
  intro j
  induction j with
  | zero => intro l h1 h2 h3 _; omega
  | succ j ih =>
    intro l h1 h2 h3 h4
    by_cases h : l + 1 < n
    · rw [a_nx, if_pos h, if_neg (h4 (l + 1) (by omega) h)]
      exact ih (l + 1) h (by omega) (by omega) (fun x hx1 hx2 => h4 x (by omega) hx2)
    · rw [a_nx, if_neg h]
      by_cases hz : m = 0
      · subst hz; rw [if_pos hs]
      · rw [if_neg (h0 0 (by omega))]
        exact a_nx_f hm hs j 0 (by omega) (by omega) (fun x hx1 hx2 => h0 x hx2)
theorem a_mem_pw {A : Nat → Int32} {s : Int32} {n : Nat} : (a_mem A s n).Pairwise (· < ·) := List.Pairwise.filter _ List.pairwise_lt_range
theorem a_mem_nd {A : Nat → Int32} {s : Int32} {n : Nat} : (a_mem A s n).Nodup := List.Nodup.sublist List.filter_sublist List.nodup_range
theorem pw_lt {L : List Nat} (h : L.Pairwise (· < ·)) {i j a b : Nat} (ha : L[i]? = some a) (hb : L[j]? = some b) (hij : i < j) : a < b := by
  obtain ⟨h1, rfl⟩ := List.getElem?_eq_some_iff.mp ha
  obtain ⟨h2, rfl⟩ := List.getElem?_eq_some_iff.mp hb
  exact List.pairwise_iff_getElem.mp h i j h1 h2 hij
theorem a_nx_mem {A : Nat → Int32} {s : Int32} {n i l : Nat} (hl : (a_mem A s n)[i]? = some l) : (a_mem A s n)[if i + 1 < (a_mem A s n).length then i + 1 else 0]? = some (a_nx A n s n l) := by
  have hin := a_mem_in.mp (List.mem_of_getElem? hl)
  have hil : i < (a_mem A s n).length := (List.getElem?_eq_some_iff.mp hl).1
  have hpos : ∀ x, x < n → fA A 1 x = s → ∃ t, (a_mem A s n)[t]? = some x := fun x h1 h2 => List.mem_iff_getElem?.mp (a_mem_in.mpr ⟨h1, h2⟩)
  by_cases h : i + 1 < (a_mem A s n).length
  · rw [if_pos h]
    obtain ⟨m, hm⟩ : ∃ m, (a_mem A s n)[i + 1]? = some m := ⟨_, List.getElem?_eq_getElem h⟩
    have hmi := a_mem_in.mp (List.mem_of_getElem? hm)
    have hlm := pw_lt a_mem_pw hl hm (by omega)
    rw [hm, a_nx_f hmi.1 hmi.2 n l hlm (by omega) (fun x h1 h2 h3 => ?_)]
    obtain ⟨t, ht⟩ := hpos x (by omega) h3
    by_cases hti : t ≤ i
    · by_cases e : t = i
      · subst e; rw [hl] at ht; cases ht; omega
      · have := pw_lt a_mem_pw ht hl (by omega); omega
    · by_cases e : t = i + 1
      · subst e; rw [hm] at ht; cases ht; omega
      · have := pw_lt a_mem_pw hm ht (by omega); omega
  · rw [if_neg h]
    obtain ⟨m, hm⟩ : ∃ m, (a_mem A s n)[0]? = some m := ⟨_, List.getElem?_eq_getElem (by omega)⟩
    have hmi := a_mem_in.mp (List.mem_of_getElem? hm)
    have hml : m ≤ l := by
      by_cases e : i = 0
      · subst e; rw [hl] at hm; cases hm; omega
      · have := pw_lt a_mem_pw hm hl (by omega); omega
    rw [hm, a_nx_w hmi.1 hmi.2 (fun x h1 h2 => ?_) n l hin.1 hml (by omega) (fun x h1 h2 h3 => ?_)]
    · obtain ⟨t, ht⟩ := hpos x (by omega) h2
      by_cases e : t = 0
      · subst e; rw [hm] at ht; cases ht; omega
      · have := pw_lt a_mem_pw hm ht (by omega); omega
    · obtain ⟨t, ht⟩ := hpos x h2 h3
      have htl : t < (a_mem A s n).length := (List.getElem?_eq_some_iff.mp ht).1
      by_cases e : t = i
      · subst e; rw [hl] at ht; cases ht; omega
      · have := pw_lt a_mem_pw ht hl (by omega); omega
