/-! ===== those on a stair, by numbers ===== -/
def a_mem (A : Nat → Int32) (s : Int32) (n : Nat) : List Nat := (List.range n).filter (fun l => decide (fA A 1 l = s))
theorem a_mem_s (A : Nat → Int32) (s : Int32) (n : Nat) : a_mem A s (n + 1) = a_mem A s n ++ (if fA A 1 n = s then [n] else []) := by
  unfold a_mem
  rw [List.range_succ, List.filter_append]
  by_cases h : fA A 1 n = s <;> simp [h]
theorem a_mem_in {A : Nat → Int32} {s : Int32} {n l : Nat} : l ∈ a_mem A s n ↔ l < n ∧ fA A 1 l = s := by
  unfold a_mem
  simp [List.mem_filter]
theorem a_mem_len {A : Nat → Int32} {s : Int32} : ∀ n, (a_mem A s n).length ≤ n := by
  intro n
  have := List.length_filter_le (fun l => decide (fA A 1 l = s)) (List.range n)
  rw [List.length_range] at this
  exact this
theorem a_mny_eq {M : e_M} {s : Int32} : a_mny M s = nI (a_mem (M 1) s (nR M)).length := by
  unfold a_mny
  generalize nR M = n
  induction n with
  | zero => rfl
  | succ n ih =>
    rw [a_sum, ih, a_mem_s, List.length_append]
    by_cases h : fA (M 1) 1 n = s
    · rw [if_pos h, if_pos (show fR M 1 n = s from h)]; exact nI_1 _
    · rw [if_neg h, if_neg (show ¬ fR M 1 n = s from h)]; simp
theorem a_at_eq {A : Nat → Int32} {s : Int32} : ∀ (j l q : Nat), a_at A s j l q = ((List.range' l j).filter (fun l => decide (fA A 1 l = s)))[q]? := by
  intro j
  induction j with
  | zero => intro l q; rfl
  | succ j ih =>
    intro l q
    rw [a_at, List.range'_succ]
    by_cases h : fA A 1 l = s
    · rw [if_pos h, List.filter_cons_of_pos (by simpa using h)]
      cases q with
      | zero => simp
      | succ q => rw [if_neg (by omega), ih]; simp
    · rw [if_neg h, List.filter_cons_of_neg (by simpa using h), ih]
theorem a_at_mem {A : Nat → Int32} {s : Int32} {n q : Nat} : a_at A s n 0 q = (a_mem A s n)[q]? := by
  rw [a_at_eq, a_mem, List.range_eq_range']
/-- who is last among some, but one -/
def a_lb (tm : Nat → Int32) (b : Int32) (o : Option Nat) (l : Nat) : Option Nat := if nI l = b then o else match o with
  | none => some l
  | some j => if tm l < tm j then some j else some l
theorem a_lat_eq {M : e_M} {s b : Int32} : ∀ n, a_lat M s b n = (a_mem (M 1) s n).foldl (a_lb (a_tm M) b) none := by
  intro n
  induction n with
  | zero => rfl
  | succ n ih =>
    rw [a_lat, a_mem_s, List.foldl_append, ← ih]
    by_cases h : fA (M 1) 1 n = s
    · rw [if_pos h]
      by_cases h2 : nI n = b
      · rw [if_neg (fun z => z.2 h2)]
        simp [a_lb, h2]
      · rw [if_pos ⟨h, h2⟩]
        simp only [List.foldl_cons, List.foldl_nil, a_lb, if_neg h2]
    · rw [if_neg h, if_neg (fun z => h z.1)]
      rfl
theorem a_lb_some {tm : Nat → Int32} {b : Int32} : ∀ (L : List Nat) (o : Option Nat), (o.isSome ∨ ∃ l ∈ L, ¬ nI l = b) → (L.foldl (a_lb tm b) o).isSome := by
  intro L
  induction L with
  | nil =>
    intro o h
    rcases h with h | ⟨l, h, -⟩
    · exact h
    · cases h
  | cons x r ih =>
    intro o h
    rw [List.foldl_cons]
    refine ih _ ?_
    by_cases hx : nI x = b
    · have e : a_lb tm b o x = o := if_pos hx
      rw [e]
      rcases h with h | ⟨l, h1, h2⟩
      · exact Or.inl h
      · rcases List.mem_cons.mp h1 with rfl | h3
        · exact absurd hx h2
        · exact Or.inr ⟨l, h3, h2⟩
    · left
      unfold a_lb
      rw [if_neg hx]
      cases o with
      | none => rfl
      | some j => dsimp only; split <;> rfl
theorem a_lat_in {M : e_M} {s b : Int32} : ∀ {n j : Nat}, a_lat M s b n = some j → j < n ∧ fR M 1 j = s := by
  intro n
  induction n with
  | zero => intro j h; simp [a_lat] at h
  | succ n ih =>
    intro j h
    unfold a_lat at h
    split at h
    · rename_i hs
      split at h
      · cases h; exact ⟨by omega, hs.1⟩
      · split at h
        · rename_i q h1 h2
          cases h
          obtain ⟨h3, h4⟩ := ih h1
          exact ⟨by omega, h4⟩
        · cases h; exact ⟨by omega, hs.1⟩
    · obtain ⟨h3, h4⟩ := ih h
      exact ⟨by omega, h4⟩
/-! ===== a stair ===== -/
def a_pay (M : e_M) (l : Nat) (c : Int32) : e_M := e_st (e_st M 1 (6 + 9 * l + 6) (fR M 6 l - c)) 4 l (if c ≤ 0 then 0 else 1)
def a_sou (M : e_M) (s : Int32) : Nat → Int32 := a_sum (fun l => if fR M 1 l = s then fR M 5 l else 0)
def a_cst (M : e_M) (s : Int32) : Int32 := M 1 4 * a_sou M s (nR M) / 100
def a_las (M : e_M) (s : Int32) : Nat := (a_lat M s (-1) (nR M)).getD 0
def a_sec (M : e_M) (s : Int32) : Nat := (a_lat M s (nI (a_las M s)) (nR M)).getD (a_las M s)
def a_dr (M : e_M) : e_M := e_st M 1 0 (a_z (M 1 0))
def a_lot (M : e_M) (s : Int32) : Nat := ((a_mem (M 1) s (nR M))[(e_rem (e_ush (a_z (M 1 0)) 8) (a_mny M s)).toNatClampNeg]?).getD 0
def a_pal (M : e_M) (s c : Int32) : Nat → e_M
  | 0 => M
  | k + 1 => if fR M 1 k = s then e_st (a_pay (a_pal M s c k) k (c / a_mny M s + (if nI k = nI (a_las M s) then e_rem c (a_mny M s) else 0))) 4 k (if c ≤ 0 then 0 else 1) else a_pal M s c k
theorem a_pal_o {M : e_M} {s c : Int32} : ∀ (k b : Nat), (∀ l, ¬ b = 6 + 9 * l + 6) → a_pal M s c k 1 b = M 1 b := by
  intro k
  induction k with
  | zero => intro b _; rfl
  | succ k ih =>
    intro b hb
    rw [a_pal]
    split
    · unfold a_pay
      simp only [e_st_r]
      rw [if_neg (by decide), if_neg (by decide), if_pos rfl, if_neg (hb k)]
      exact ih b hb
    · exact ih b hb
def a_stp (M : e_M) (s : Int32) : e_M := if M 1 3 = 0 then a_pay M (a_las M s) (a_cst M s) else if M 1 3 = 1 then a_pal M s (a_cst M s) (nR M) else if M 1 3 = 2 then a_pay M (a_sec M s) (a_cst M s) else a_pay (a_dr M) (a_lot M s) (a_cst M s)
def f8_stair (as : List Int32) (M : e_M) : Prop × Option Int32 × e_M := match as with
  | [s] => (okn M, some (if a_mny M s = 0 then 0 else a_cst M s), if a_mny M s = 0 then M else a_stp M s)
  | _ => (False, none, M)
theorem a_ush8 (z : Int32) : ∃ q : Nat, q < 2 ^ 24 ∧ e_ush z 8 = nI q := by
  refine ⟨z.toBitVec.toNat / 2 ^ 8, ?_, ?_⟩
  · have := z.toBitVec.isLt
    omega
  · have h := pk_ushr z 8 8 (by decide)
    have h2 := z.toBitVec.isLt
    apply Int32.toBitVec_inj.mp
    apply BitVec.eq_of_toNat_eq
    rw [pk_tn (by omega)]
    exact h
theorem a_remn {q m : Nat} (hq : q < 2 ^ 31) (h0 : 0 < m) (hm : m < 2 ^ 31) : e_rem (nI q) (nI m) = nI (q % m) := pk_rem hq h0 hm
