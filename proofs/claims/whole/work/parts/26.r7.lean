/-! ===== a night, by the reference's row A ===== -/
/-- (1): the first k lodgers burn -/
def a_n1 (A : Nat → Int32) : Nat → (Nat → Int32)
  | 0 => A
  | k + 1 => upd (upd (upd (a_n1 A k) 0 (a_z (a_n1 A k 0))) (6 + 9 * k + 5) (a_brn (upd (a_n1 A k) 0 (a_z (a_n1 A k 0))) k (e_rem (e_ush (a_z (a_n1 A k 0)) 8) 60))) (6 + 9 * k + 7) (fA (a_n1 A k) 7 k + a_brn (upd (a_n1 A k) 0 (a_z (a_n1 A k 0))) k (e_rem (e_ush (a_z (a_n1 A k 0)) 8) 60))
theorem a_n1_o {A : Nat → Int32} : ∀ (k b : Nat), ¬ b = 0 → (∀ l, l < k → ¬ b = 6 + 9 * l + 5 ∧ ¬ b = 6 + 9 * l + 7) → a_n1 A k b = A b := by
  intro k
  induction k with
  | zero => intro b _ _; rfl
  | succ k ih =>
    intro b h0 h
    rw [a_n1, pk_un (h k (by omega)).2, pk_un (h k (by omega)).1, pk_un h0]
    exact ih b h0 (fun l hl => h l (by omega))
theorem okT_cg {A B : Nat → Int32} (h5 : B 5 = A 5) (h : ∀ b, 96 ≤ b → B b = A b) (hT : okT A) : okT B := by
  have ht : tA B = tA A := by unfold tA; rw [h5]
  obtain ⟨a, b, c⟩ := hT
  refine ⟨by rw [h5, ht]; exact a, by rw [ht]; exact b, fun t h1 => ?_⟩
  rw [ht] at h1
  obtain ⟨c1, c2, c3, c4⟩ := c t h1
  have hc : cA B t = cA A t := by unfold cA; funext k; exact h _ (by omega)
  have hm : mA B t = mA A t := by unfold mA; rw [h _ (by omega)]
  rw [hc, hm, h _ (by omega)]
  exact ⟨c1, c2, c3, c4⟩
theorem a_bm_o {M : e_M} {l : Nat} {x : Int32} {c : Nat} (h1 : ¬ c = 12) (h2 : ¬ c = 13) : a_bm M l x c = M c := by
  unfold a_bm
  split
  · simp [a_m3, e_st, h2]
  · simp [e_up, a_m3, e_st, h1, h2]
theorem a_bm_3 {M : e_M} {l : Nat} {x : Int32} : a_bm M l x 13 3 = M 13 3 := by
  unfold a_bm
  split
  · simp [a_m3, e_st_r]
  · rw [e_up_r, if_neg (by decide)]; simp [a_m3, e_st_r]
/-! (2): stairs -/
def b_m (B : Nat → Int32) (s : Int32) : List Nat := a_mem B s (nA B)
def b_c (B : Nat → Int32) (s : Int32) : Int32 := B 4 * a_sum (fun l => if fA B 1 l = s then fA B 5 l else 0) (nA B) / 100
def b_t (B : Nat → Int32) (l : Nat) : Int32 := fA B 5 l + fA B 3 l
def b_l (B : Nat → Int32) (s : Int32) : Nat := ((b_m B s).foldl (a_lb (b_t B) (-1)) none).getD 0
def b_s (B : Nat → Int32) (s : Int32) : Nat := ((b_m B s).foldl (a_lb (b_t B) (nI (b_l B s))) none).getD (b_l B s)
def b_o (B : Nat → Int32) (s z : Int32) : Nat := ((b_m B s)[(e_rem (e_ush (a_z z) 8) (nI (b_m B s).length)).toNatClampNeg]?).getD 0
/-- who pays (but by the law of all) -/
def b_w (B : Nat → Int32) (s z : Int32) : Nat := if B 3 = 0 then b_l B s else if B 3 = 2 then b_s B s else b_o B s z
/-- z behind a stair -/
def b_z (B : Nat → Int32) (s z : Int32) : Int32 := if b_m B s = [] ∨ B 3 = 0 ∨ B 3 = 1 ∨ B 3 = 2 then z else a_z z
/-- what l pays, that is on it -/
def b_p (B : Nat → Int32) (s z : Int32) (l : Nat) : Int32 := if B 3 = 1 then b_c B s / nI (b_m B s).length + (if nI l = nI (b_l B s) then e_rem (b_c B s) (nI (b_m B s).length) else 0) else if l = b_w B s z then b_c B s else 0
def b_d (B : Nat → Int32) (s z : Int32) (l : Nat) : Int32 := if (B 3 = 1 ∨ l = b_w B s z) ∧ ¬ b_c B s ≤ 0 then 1 else 0
/-- but for z and purses -/
def b_ag (B A : Nat → Int32) : Prop := ∀ b, ¬ b = 0 → (∀ l, ¬ b = 6 + 9 * l + 6) → A b = B b
section AG
variable {B : Nat → Int32} {M : e_M} (h : b_ag B (M 1))
theorem b_ag_f (h : b_ag B (M 1)) {w l : Nat} (hw : w < 9) (h6 : ¬ w = 6) : fR M w l = fA B w l := h _ (by omega) (by intro k; omega)
theorem b_ag_n (h : b_ag B (M 1)) : nR M = nA B := by unfold nR nA; rw [h 1 (by decide) (by intro k; omega)]
theorem b_ag_m (h : b_ag B (M 1)) {s : Int32} : a_mem (M 1) s (nR M) = b_m B s := by
  rw [b_ag_n h]
  unfold b_m a_mem
  congr 1
  funext l
  rw [show fA (M 1) 1 l = fA B 1 l from b_ag_f h (by decide) (by decide)]
theorem a_sum_cg {f g : Nat → Int32} : ∀ {n : Nat}, (∀ l, l < n → f l = g l) → a_sum f n = a_sum g n := by
  intro n
  induction n with
  | zero => intro _; rfl
  | succ n ih => intro h; rw [a_sum, a_sum, ih (fun l hl => h l (by omega)), h n (by omega)]
theorem b_ag_c (h : b_ag B (M 1)) {s : Int32} : a_cst M s = b_c B s := by
  unfold a_cst b_c a_sou
  rw [b_ag_n h, h 4 (by decide) (by intro k; omega)]
  congr 2
  refine a_sum_cg (fun l _ => ?_)
  rw [b_ag_f h (w := 1) (by decide) (by decide), b_ag_f h (w := 5) (by decide) (by decide)]
theorem b_ag_t (h : b_ag B (M 1)) : a_tm M = b_t B := by
  funext l
  unfold a_tm b_t
  rw [b_ag_f h (w := 5) (by decide) (by decide), b_ag_f h (w := 3) (by decide) (by decide)]
theorem b_ag_lat (h : b_ag B (M 1)) {s b : Int32} : a_lat M s b (nR M) = (b_m B s).foldl (a_lb (b_t B) b) none := by rw [a_lat_eq, b_ag_m h, b_ag_t h]
theorem b_ag_las (h : b_ag B (M 1)) {s : Int32} : a_las M s = b_l B s := by unfold a_las b_l; rw [b_ag_lat h]
theorem b_ag_sec (h : b_ag B (M 1)) {s : Int32} : a_sec M s = b_s B s := by unfold a_sec b_s; rw [b_ag_las h, b_ag_lat h]
theorem b_ag_mny (h : b_ag B (M 1)) {s : Int32} : a_mny M s = nI (b_m B s).length := by rw [a_mny_eq, b_ag_m h]
theorem b_ag_lot (h : b_ag B (M 1)) {s : Int32} : a_lot M s = b_o B s (M 1 0) := by unfold a_lot b_o; rw [b_ag_m h, b_ag_mny h]
theorem b_ag_3 (h : b_ag B (M 1)) : M 1 3 = B 3 := h 3 (by decide) (by intro k; omega)
end AG
def a_st1 (M : e_M) (s : Int32) : e_M := if a_mny M s = 0 then M else a_stp M s
theorem a_pay_6 {M : e_M} {l k : Nat} {c : Int32} : fA (a_pay M l c 1) 6 k = if k = l then fR M 6 k - c else fR M 6 k := by
  unfold fA a_pay
  simp only [e_st_r]
  by_cases h : k = l
  · subst h; simp [fR]
  · simp [fR, h]
    intro z
    exact absurd (by omega) h
theorem a_pay_o {M : e_M} {l b : Nat} {c : Int32} (h : ¬ b = 6 + 9 * l + 6) : a_pay M l c 1 b = M 1 b := by
  unfold a_pay
  simp [e_st_r, h]
theorem a_pay_4 {M : e_M} {l k : Nat} {c : Int32} : a_pay M l c 4 k = if k = l then (if c ≤ 0 then 0 else 1) else M 4 k := by
  unfold a_pay
  simp [e_st_r]
theorem a_pay_c {M : e_M} {l c : Nat} {x : Int32} (h1 : ¬ c = 1) (h4 : ¬ c = 4) : a_pay M l x c = M c := by
  unfold a_pay
  simp [e_st, h1, h4]
theorem a_pal_6 {M : e_M} {s c : Int32} : ∀ (k l : Nat), fA (a_pal M s c k 1) 6 l = if l < k ∧ fR M 1 l = s then fR M 6 l - (c / a_mny M s + (if nI l = nI (a_las M s) then e_rem c (a_mny M s) else 0)) else fR M 6 l := by
  intro k
  induction k with
  | zero => intro l; simp [a_pal, fR, fA]
  | succ k ih =>
    intro l
    rw [a_pal]
    by_cases hk : fR M 1 k = s
    · rw [if_pos hk]
      have e : ∀ (N : e_M) (y : Int32), fA (e_st N 4 k y 1) 6 l = fA (N 1) 6 l := fun N y => by simp [fA, e_st]
      rw [e, a_pay_6]
      by_cases hl : l = k
      · subst hl
        rw [if_pos rfl, if_pos (show l < l + 1 ∧ fR M 1 l = s from ⟨by omega, hk⟩)]
        have e2 := ih l
        rw [if_neg (by omega)] at e2
        show fA (a_pal M s c l 1) 6 l - _ = _
        rw [e2]
      · rw [if_neg hl]
        show fA (a_pal M s c k 1) 6 l = _
        rw [ih l]
        by_cases h2 : l < k ∧ fR M 1 l = s
        · rw [if_pos h2, if_pos (show l < k + 1 ∧ fR M 1 l = s from ⟨by omega, h2.2⟩)]
        · rw [if_neg h2, if_neg (fun z => h2 ⟨by omega, z.2⟩)]
    · rw [if_neg hk, ih l]
      by_cases h2 : l < k ∧ fR M 1 l = s
      · rw [if_pos h2, if_pos (show l < k + 1 ∧ fR M 1 l = s from ⟨by omega, h2.2⟩)]
      · rw [if_neg h2, if_neg (fun z => h2 ⟨by
          rcases Nat.lt_or_ge l k with q | q
          · exact q
          · exact absurd (by rw [← z.2, show l = k by omega]) hk, z.2⟩)]
theorem a_pal_4 {M : e_M} {s c : Int32} : ∀ (k l : Nat), a_pal M s c k 4 l = if l < k ∧ fR M 1 l = s then (if c ≤ 0 then 0 else 1) else M 4 l := by
  intro k
  induction k with
  | zero => intro l; simp [a_pal]
  | succ k ih =>
    intro l
    rw [a_pal]
    by_cases hk : fR M 1 k = s
    · rw [if_pos hk, e_st_r, if_pos rfl]
      by_cases hl : l = k
      · subst hl
        rw [if_pos rfl, if_pos (show l < l + 1 ∧ fR M 1 l = s from ⟨by omega, hk⟩)]
      · rw [if_neg hl, a_pay_4, if_neg hl, ih l]
        by_cases h2 : l < k ∧ fR M 1 l = s
        · rw [if_pos h2, if_pos (show l < k + 1 ∧ fR M 1 l = s from ⟨by omega, h2.2⟩)]
        · rw [if_neg h2, if_neg (fun z => h2 ⟨by omega, z.2⟩)]
    · rw [if_neg hk, ih l]
      by_cases h2 : l < k ∧ fR M 1 l = s
      · rw [if_pos h2, if_pos (show l < k + 1 ∧ fR M 1 l = s from ⟨by omega, h2.2⟩)]
      · rw [if_neg h2, if_neg (fun z => h2 ⟨by
          rcases Nat.lt_or_ge l k with q | q
          · exact q
          · exact absurd (by rw [← z.2, show l = k by omega]) hk, z.2⟩)]
theorem a_pal_c {M : e_M} {s x : Int32} {c : Nat} (h1 : ¬ c = 1) (h4 : ¬ c = 4) : ∀ (k : Nat), a_pal M s x k c = M c := by
  intro k
  induction k with
  | zero => rfl
  | succ k ih =>
    rw [a_pal]
    split
    · rw [e_st_o c h4, a_pay_c h1 h4]; exact ih
    · exact ih
theorem b_mem_pos {B : Nat → Int32} {s : Int32} (h : ¬ b_m B s = []) : 0 < (b_m B s).length := List.length_pos_iff.mpr h
/-- a stair, place by place -/
theorem a_st1_pt {B : Nat → Int32} {M : e_M} {s : Int32} (h : b_ag B (M 1)) (hn : nA B ≤ 10) :
    a_st1 M s 1 0 = b_z B s (M 1 0) ∧ b_ag B (a_st1 M s 1) ∧ (∀ l, fA (a_st1 M s 1) 6 l = if l < nA B ∧ fA B 1 l = s then fA (M 1) 6 l - b_p B s (M 1 0) l else fA (M 1) 6 l) ∧
    (∀ l, l < nA B → (fA B 1 l = s → M 4 l = 0) → a_st1 M s 4 l = if fA B 1 l = s then b_d B s (M 1 0) l else M 4 l) ∧ ∀ c, ¬ c = 1 → ¬ c = 4 → a_st1 M s c = M c := by
  have hlen : (b_m B s).length ≤ 10 := Nat.le_trans (a_mem_len _) hn
  have hmem : ∀ l, l ∈ b_m B s ↔ l < nA B ∧ fA B 1 l = s := fun l => a_mem_in
  have hm0 : a_mny M s = 0 ↔ b_m B s = [] := by
    rw [b_ag_mny h]
    constructor
    · intro e
      have : (b_m B s).length = 0 := (nI_eq (by omega) (by decide)).mp (by rw [e]; rfl)
      exact List.length_eq_zero_iff.mp this
    · intro e; rw [e]; rfl
  by_cases he : b_m B s = []
  · have e1 : a_st1 M s = M := if_pos (hm0.mpr he)
    have hno : ∀ l, ¬ (l < nA B ∧ fA B 1 l = s) := fun l z => by
      have := (hmem l).mpr z
      rw [he] at this
      cases this
    rw [e1]
    refine ⟨by unfold b_z; rw [if_pos (Or.inl he)], h, fun l => by rw [if_neg (hno l)], fun l hl _ => by rw [if_neg (fun z => hno l ⟨hl, z⟩)], fun c _ _ => rfl⟩
  · have e1 : a_st1 M s = a_stp M s := if_neg (fun z => he (hm0.mp z))
    have hpos := b_mem_pos he
    -- the payer is on the stair
    have hin : ∀ w : Nat, ((b_m B s).foldl (a_lb (b_t B) (-1)) none = some w) → w < nA B ∧ fA B 1 w = s := by
      intro w hw
      rw [← b_ag_lat h] at hw
      obtain ⟨q1, q2⟩ := a_lat_in hw
      rw [b_ag_n h] at q1
      rw [b_ag_f h (by decide) (by decide)] at q2
      exact ⟨q1, q2⟩
    have hl : b_l B s < nA B ∧ fA B 1 (b_l B s) = s := by
      obtain ⟨L, hL⟩ : ∃ L, (b_m B s).foldl (a_lb (b_t B) (-1)) none = some L := by
        refine Option.isSome_iff_exists.mp (a_lb_some _ _ (Or.inr ?_))
        obtain ⟨x, hx⟩ := List.exists_mem_of_length_pos hpos
        refine ⟨x, hx, fun z => ?_⟩
        have hx10 := ((hmem x).mp hx).1
        exact absurd (show nI x < 0 by rw [z]; decide) (nI_pos (by omega))
      have e : b_l B s = L := by unfold b_l; rw [hL]; rfl
      rw [e]; exact hin L hL
    have hs : b_s B s < nA B ∧ fA B 1 (b_s B s) = s := by
      unfold b_s
      cases hq : (b_m B s).foldl (a_lb (b_t B) (nI (b_l B s))) none with
      | none => exact hl
      | some w =>
        rw [← b_ag_lat h] at hq
        obtain ⟨q1, q2⟩ := a_lat_in hq
        rw [b_ag_n h] at q1
        rw [b_ag_f h (by decide) (by decide)] at q2
        exact ⟨q1, q2⟩
    have ho : b_o B s (M 1 0) < nA B ∧ fA B 1 (b_o B s (M 1 0)) = s := by
      unfold b_o
      obtain ⟨q, hq, hqe⟩ := a_ush8 (a_z (M 1 0))
      rw [hqe, a_remn (by omega) hpos (by omega), nI_clamp (by have := Nat.mod_lt q hpos; omega)]
      rw [List.getElem?_eq_getElem (Nat.mod_lt q hpos)]
      exact (hmem _).mp (List.getElem_mem _)
    -- one pays
    have one : ∀ (N : e_M) (w : Nat), a_stp M s = a_pay N w (b_c B s) → (∀ b, ¬ b = 0 → N 1 b = M 1 b) → N 1 0 = b_z B s (M 1 0) → N 4 = M 4 → (∀ c, ¬ c = 1 → ¬ c = 4 → N c = M c) → ¬ B 3 = 1 → w = b_w B s (M 1 0) → w < nA B ∧ fA B 1 w = s →
        a_stp M s 1 0 = b_z B s (M 1 0) ∧ b_ag B (a_stp M s 1) ∧ (∀ l, fA (a_stp M s 1) 6 l = if l < nA B ∧ fA B 1 l = s then fA (M 1) 6 l - b_p B s (M 1 0) l else fA (M 1) 6 l) ∧
        (∀ l, l < nA B → (fA B 1 l = s → M 4 l = 0) → a_stp M s 4 l = if fA B 1 l = s then b_d B s (M 1 0) l else M 4 l) ∧ ∀ c, ¬ c = 1 → ¬ c = 4 → a_stp M s c = M c := by
      intro N w e2 hN hz h4 hc h1 hw hwn
      have hN6 : ∀ l, fR N 6 l = fA (M 1) 6 l := fun l => hN _ (by omega)
      rw [e2]
      refine ⟨by rw [a_pay_o (by omega)]; exact hz, fun b hb0 hb => by rw [a_pay_o (hb w), hN b hb0]; exact h b hb0 hb, fun l => ?_, fun l hl2 h40 => ?_, fun c c1 c4 => by rw [a_pay_c c1 c4]; exact hc c c1 c4⟩
      · rw [a_pay_6, hN6]
        unfold b_p
        rw [if_neg h1, ← hw]
        by_cases hlw : l = w
        · subst hlw
          rw [if_pos rfl, if_pos hwn, if_pos rfl]
        · rw [if_neg hlw, if_neg hlw]
          split
          · exact (Int32.sub_zero _).symm
          · rfl
      · rw [a_pay_4, h4]
        unfold b_d
        rw [← hw]
        by_cases hlw : l = w
        · subst hlw
          rw [if_pos rfl, if_pos hwn.2]
          by_cases hc0 : b_c B s ≤ 0
          · rw [if_pos hc0, if_neg (fun z => z.2 hc0)]
          · rw [if_neg hc0, if_pos ⟨Or.inr rfl, hc0⟩]
        · rw [if_neg hlw]
          by_cases hls : fA B 1 l = s
          · rw [if_pos hls, if_neg (fun z => z.1.elim h1 hlw), h40 hls]
          · rw [if_neg hls]
    rw [e1]
    have hst : a_stp M s = if B 3 = 0 then a_pay M (b_l B s) (b_c B s) else if B 3 = 1 then a_pal M s (b_c B s) (nA B) else if B 3 = 2 then a_pay M (b_s B s) (b_c B s) else a_pay (a_dr M) (b_o B s (M 1 0)) (b_c B s) := by
      unfold a_stp
      rw [b_ag_3 h, b_ag_las h, b_ag_sec h, b_ag_lot h, b_ag_c h, b_ag_n h]
    by_cases h0 : B 3 = 0
    · rw [if_pos h0] at hst
      exact one M _ hst (fun _ _ => rfl) (by unfold b_z; rw [if_pos (Or.inr (Or.inl h0))]) rfl (fun _ _ _ => rfl) (by rw [h0]; decide) (by unfold b_w; rw [if_pos h0]) hl
    · rw [if_neg h0] at hst
      by_cases h1 : B 3 = 1
      · rw [if_pos h1] at hst
        rw [hst]
        refine ⟨?_, fun b hb0 hb => by rw [a_pal_o _ _ hb]; exact h b hb0 hb, fun l => ?_, fun l hl2 h40 => ?_, fun c c1 c4 => a_pal_c c1 c4 _⟩
        · rw [a_pal_o _ _ (by omega)]; unfold b_z; rw [if_pos (Or.inr (Or.inr (Or.inl h1)))]
        · rw [a_pal_6]
          unfold b_p
          rw [if_pos h1, b_ag_mny h, b_ag_las h, b_ag_f h (w := 1) (by decide) (by decide)]
          rfl
        · rw [a_pal_4]
          unfold b_d
          rw [b_ag_f h (w := 1) (by decide) (by decide)]
          by_cases hls : fA B 1 l = s
          · rw [if_pos ⟨hl2, hls⟩, if_pos hls]
            by_cases hc0 : b_c B s ≤ 0
            · rw [if_pos hc0, if_neg (fun z => z.2 hc0)]
            · rw [if_neg hc0, if_pos ⟨Or.inl h1, hc0⟩]
          · rw [if_neg (fun z => hls z.2), if_neg hls]
      · rw [if_neg h1] at hst
        by_cases h2 : B 3 = 2
        · rw [if_pos h2] at hst
          exact one M _ hst (fun _ _ => rfl) (by unfold b_z; rw [if_pos (Or.inr (Or.inr (Or.inr h2)))]) rfl (fun _ _ _ => rfl) h1 (by unfold b_w; rw [if_neg h0, if_pos h2]) hs
        · rw [if_neg h2] at hst
          exact one (a_dr M) _ hst (fun b hb => by unfold a_dr; simp [e_st_r, hb]) (by unfold b_z a_dr; rw [if_neg (fun z => by rcases z with z | z | z | z <;> contradiction)]; simp [e_st_r]) (by unfold a_dr; simp [e_st]) (fun c c1 _ => by unfold a_dr; simp [e_st, c1]) h1 (by unfold b_w; rw [if_neg h0, if_neg h2]) ho
