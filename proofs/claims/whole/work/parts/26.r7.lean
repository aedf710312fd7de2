/-! ===== a night, by the reference's row A ===== -/
/-- (1): the first k lodgers burn -/
def a_n1 (A : Nat → Int32) : Nat → (Nat → Int32)
  | 0 => A
  | k + 1 => upd (upd (upd (a_n1 A k) 0 (a_z (a_n1 A k 0))) (6 + 9 * k + 5) (a_brn (upd (a_n1 A k) 0 (a_z (a_n1 A k 0))) k (e_rem (e_ush (a_z (a_n1 A k 0)) 8) 60))) (6 + 9 * k + 7) (fA (a_n1 A k) 7 k + a_brn (upd (a_n1 A k) 0 (a_z (a_n1 A k 0))) k (e_rem (e_ush (a_z (a_n1 A k 0)) 8) 60))
theorem a_n1_o {A : Nat → Int32} : ∀ (k b : Nat), ¬ b = 0 → (∀ l, l < k → ¬ b = 6 + 9 * l + 5 ∧ ¬ b = 6 + 9 * l + 7) → a_n1 A k b = A b := by
  intro k
  induction k with
  | zero => intro b _ _; rfl
  | succ k ih =>
    intro b h0 h
    rw [a_n1, pk_un (h k (by omega)).2, pk_un (h k (by omega)).1, pk_un h0]
    exact ih b h0 (fun l hl => h l (by omega))
theorem okT_cg {A B : Nat → Int32} (h5 : B 5 = A 5) (h : ∀ b, 96 ≤ b → B b = A b) (hT : okT A) : okT B := by
  have ht : tA B = tA A := by unfold tA; rw [h5]
  obtain ⟨a, b, c⟩ := hT
  refine ⟨by rw [h5, ht]; exact a, by rw [ht]; exact b, fun t h1 => ?_⟩
  rw [ht] at h1
  obtain ⟨c1, c2, c3⟩ := c t h1
  have hc : cA B t = cA A t := by unfold cA; funext k; exact h _ (by omega)
  have hm : mA B t = mA A t := by unfold mA; rw [h _ (by omega)]
  rw [hc, hm, h _ (by omega)]
  exact ⟨c1, c2, c3⟩
theorem a_bm_o {M : e_M} {l : Nat} {x : Int32} {c : Nat} (h1 : ¬ c = 12) (h2 : ¬ c = 13) : a_bm M l x c = M c := by
  unfold a_bm
  split
  · simp [a_m3, e_st, h2]
  · simp [e_up, a_m3, e_st, h1, h2]
theorem a_bm_3 {M : e_M} {l : Nat} {x : Int32} : a_bm M l x 13 3 = M 13 3 := by
  unfold a_bm
  split
  · simp [a_m3, e_st_r]
  · rw [e_up_r, if_neg (by decide)]; simp [a_m3, e_st_r]
/-! (2): stairs -/
def b_m (B : Nat → Int32) (s : Int32) : List Nat := a_mem B s (nA B)
def b_c (B : Nat → Int32) (s : Int32) : Int32 := B 4 * a_sum (fun l => if fA B 1 l = s then fA B 5 l else 0) (nA B) / 100
def b_t (B : Nat → Int32) (l : Nat) : Int32 := fA B 5 l + fA B 3 l
def b_l (B : Nat → Int32) (s : Int32) : Nat := ((b_m B s).foldl (a_lb (b_t B) (-1)) none).getD 0
def b_s (B : Nat → Int32) (s : Int32) : Nat := ((b_m B s).foldl (a_lb (b_t B) (nI (b_l B s))) none).getD (b_l B s)
def b_o (B : Nat → Int32) (s z : Int32) : Nat := ((b_m B s)[(e_rem (e_ush (a_z z) 8) (nI (b_m B s).length)).toNatClampNeg]?).getD 0
/-- who pays (but by the law of all) -/
def b_w (B : Nat → Int32) (s z : Int32) : Nat := if B 3 = 0 then b_l B s else if B 3 = 2 then b_s B s else b_o B s z
/-- z behind a stair -/
def b_z (B : Nat → Int32) (s z : Int32) : Int32 := if b_m B s = [] ∨ B 3 = 0 ∨ B 3 = 1 ∨ B 3 = 2 then z else a_z z
/-- what l pays, that is on it -/
def b_p (B : Nat → Int32) (s z : Int32) (l : Nat) : Int32 := if B 3 = 1 then b_c B s / nI (b_m B s).length + (if nI l = nI (b_l B s) then e_rem (b_c B s) (nI (b_m B s).length) else 0) else if l = b_w B s z then b_c B s else 0
def b_d (B : Nat → Int32) (s z : Int32) (l : Nat) : Int32 := if (B 3 = 1 ∨ l = b_w B s z) ∧ ¬ b_c B s ≤ 0 then 1 else 0
/-- but for z and purses -/
def b_ag (B A : Nat → Int32) : Prop := ∀ b, ¬ b = 0 → (∀ l, ¬ b = 6 + 9 * l + 6) → A b = B b
section AG
variable {B : Nat → Int32} {M : e_M} (h : b_ag B (M 1))
theorem b_ag_f (h : b_ag B (M 1)) {w l : Nat} (hw : w < 9) (h6 : ¬ w = 6) : fR M w l = fA B w l := h _ (by omega) (by intro k; omega)
theorem b_ag_n (h : b_ag B (M 1)) : nR M = nA B := by unfold nR nA; rw [h 1 (by decide) (by intro k; omega)]
theorem b_ag_m (h : b_ag B (M 1)) {s : Int32} : a_mem (M 1) s (nR M) = b_m B s := by
  rw [b_ag_n h]
  unfold b_m a_mem
  congr 1
  funext l
  rw [show fA (M 1) 1 l = fA B 1 l from b_ag_f h (by decide) (by decide)]
theorem a_sum_cg {f g : Nat → Int32} : ∀ {n : Nat}, (∀ l, l < n → f l = g l) → a_sum f n = a_sum g n := by
  intro n
  induction n with
  | zero => intro _; rfl
  | succ n ih => intro h; rw [a_sum, a_sum, ih (fun l hl => h l (by omega)), h n (by omega)]
theorem b_ag_c (h : b_ag B (M 1)) {s : Int32} : a_cst M s = b_c B s := by
  unfold a_cst b_c a_sou
  rw [b_ag_n h, h 4 (by decide) (by intro k; omega)]
  congr 2
  refine a_sum_cg (fun l _ => ?_)
  rw [b_ag_f h (w := 1) (by decide) (by decide), b_ag_f h (w := 5) (by decide) (by decide)]
theorem b_ag_t (h : b_ag B (M 1)) : a_tm M = b_t B := by
  funext l
  unfold a_tm b_t
  rw [b_ag_f h (w := 5) (by decide) (by decide), b_ag_f h (w := 3) (by decide) (by decide)]
theorem b_ag_lat (h : b_ag B (M 1)) {s b : Int32} : a_lat M s b (nR M) = (b_m B s).foldl (a_lb (b_t B) b) none := by rw [a_lat_eq, b_ag_m h, b_ag_t h]
theorem b_ag_las (h : b_ag B (M 1)) {s : Int32} : a_las M s = b_l B s := by unfold a_las b_l; rw [b_ag_lat h]
theorem b_ag_sec (h : b_ag B (M 1)) {s : Int32} : a_sec M s = b_s B s := by unfold a_sec b_s; rw [b_ag_las h, b_ag_lat h]
theorem b_ag_mny (h : b_ag B (M 1)) {s : Int32} : a_mny M s = nI (b_m B s).length := by rw [a_mny_eq, b_ag_m h]
theorem b_ag_lot (h : b_ag B (M 1)) {s : Int32} : a_lot M s = b_o B s (M 1 0) := by unfold a_lot b_o; rw [b_ag_m h, b_ag_mny h]
theorem b_ag_3 (h : b_ag B (M 1)) : M 1 3 = B 3 := h 3 (by decide) (by intro k; omega)
end AG
def a_st1 (M : e_M) (s : Int32) : e_M := if a_mny M s = 0 then M else a_stp M s
theorem a_pay_6 {M : e_M} {l k : Nat} {c : Int32} : fA (a_pay M l c 1) 6 k = if k = l then fR M 6 k - c else fR M 6 k := by
  unfold fA a_pay
  simp only [e_st_r]
  by_cases h : k = l
  · subst h; simp [fR]
  · simp [fR, h, show ¬ 6 + 9 * k + 6 = 6 + 9 * l + 6 by omega]
theorem a_pay_o {M : e_M} {l b : Nat} {c : Int32} (h : ¬ b = 6 + 9 * l + 6) : a_pay M l c 1 b = M 1 b := by
  unfold a_pay
  simp [e_st_r, h]
theorem a_pay_4 {M : e_M} {l k : Nat} {c : Int32} : a_pay M l c 4 k = if k = l then (if c ≤ 0 then 0 else 1) else M 4 k := by
  unfold a_pay
  simp [e_st_r]
theorem a_pay_c {M : e_M} {l c : Nat} {x : Int32} (h1 : ¬ c = 1) (h4 : ¬ c = 4) : a_pay M l x c = M c := by
  unfold a_pay
  simp [e_st, h1, h4]
theorem a_pal_6 {M : e_M} {s c : Int32} : ∀ (k l : Nat), fA (a_pal M s c k 1) 6 l = if l < k ∧ fR M 1 l = s then fR M 6 l - (c / a_mny M s + (if nI l = nI (a_las M s) then e_rem c (a_mny M s) else 0)) else fR M 6 l := by
  intro k
  induction k with
  | zero => intro l; simp [a_pal, fR, fA]
  | succ k ih =>
    intro l
    rw [a_pal]
    by_cases hk : fR M 1 k = s
    · rw [if_pos hk]
      have e : ∀ (N : e_M) (y : Int32), fA (e_st N 4 k y 1) 6 l = fA (N 1) 6 l := fun N y => by simp [fA, e_st]
      rw [e, a_pay_6]
      by_cases hl : l = k
      · subst hl
        rw [if_pos rfl, if_pos ⟨by omega, hk⟩]
        have e2 := ih l
        rw [if_neg (by omega)] at e2
        show fA (a_pal M s c l 1) 6 l - _ = _
        rw [e2]
      · rw [if_neg hl]
        show fA (a_pal M s c k 1) 6 l = _
        rw [ih l]
        by_cases h2 : l < k ∧ fR M 1 l = s
        · rw [if_pos h2, if_pos ⟨by omega, h2.2⟩]
        · rw [if_neg h2, if_neg (fun z => h2 ⟨by omega, z.2⟩)]
    · rw [if_neg hk, ih l]
      by_cases h2 : l < k ∧ fR M 1 l = s
      · rw [if_pos h2, if_pos ⟨by omega, h2.2⟩]
      · rw [if_neg h2, if_neg (fun z => h2 ⟨by
          rcases Nat.lt_or_ge l k with q | q
          · exact q
          · exact absurd (by rw [← z.2, show l = k by omega]) hk, z.2⟩)]
theorem a_pal_4 {M : e_M} {s c : Int32} : ∀ (k l : Nat), a_pal M s c k 4 l = if l < k ∧ fR M 1 l = s then (if c ≤ 0 then 0 else 1) else M 4 l := by
  intro k
  induction k with
  | zero => intro l; simp [a_pal]
  | succ k ih =>
    intro l
    rw [a_pal]
    by_cases hk : fR M 1 k = s
    · rw [if_pos hk, e_st_r, if_pos rfl]
      by_cases hl : l = k
      · subst hl
        rw [if_pos rfl, if_pos ⟨by omega, hk⟩]
      · rw [if_neg hl, a_pay_4, if_neg hl, ih l]
        by_cases h2 : l < k ∧ fR M 1 l = s
        · rw [if_pos h2, if_pos ⟨by omega, h2.2⟩]
        · rw [if_neg h2, if_neg (fun z => h2 ⟨by omega, z.2⟩)]
    · rw [if_neg hk, ih l]
      by_cases h2 : l < k ∧ fR M 1 l = s
      · rw [if_pos h2, if_pos ⟨by omega, h2.2⟩]
      · rw [if_neg h2, if_neg (fun z => h2 ⟨by
          rcases Nat.lt_or_ge l k with q | q
          · exact q
          · exact absurd (by rw [← z.2, show l = k by omega]) hk, z.2⟩)]
theorem a_pal_c {M : e_M} {s x : Int32} {c : Nat} (h1 : ¬ c = 1) (h4 : ¬ c = 4) : ∀ (k : Nat), a_pal M s x k c = M c := by
  intro k
  induction k with
  | zero => rfl
  | succ k ih =>
    rw [a_pal]
    split
    · rw [e_st_o c h4, a_pay_c h1 h4]; exact ih
    · exact ih
