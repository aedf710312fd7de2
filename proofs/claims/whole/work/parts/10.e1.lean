/-! ===== E: abstract frames over an abstract memory. A world is a list of shapes (the cell number k lies at the address ad k); M k j is the j-th whole number of the cell k; a reference is a cell's number; from 1000 on: cells that nobody writes ===== -/
abbrev e_M : Type := Nat → Nat → Int32
abbrev e_S : Type := (Nat × Nat × Option (List (Option Nat))) ⊕ (Nat × List (Option Value))
abbrev e_G : Type := Launch × va_G × (Nat → ClassId)
abbrev e_X : Type := (Program × Env × Room × State × MethodId × Array Value × List Frame) × (Method × Code × Nat × Nat × (State → Prop)) × (e_G × (Nat → Nat) × (Nat → Prop))
abbrev e_p (X : e_X) : Program := X.1.1
abbrev e_e (X : e_X) : Env := X.1.2.1
abbrev e_R (X : e_X) : Room := X.1.2.2.1
abbrev e_s (X : e_X) : State := X.1.2.2.2.1
abbrev e_m (X : e_X) : MethodId := X.1.2.2.2.2.1
abbrev e_a (X : e_X) : Array Value := X.1.2.2.2.2.2.1
abbrev e_b (X : e_X) : List Frame := X.1.2.2.2.2.2.2
abbrev e_me (X : e_X) : Method := X.2.1.1
abbrev e_c (X : e_X) : Code := X.2.1.2.1
abbrev e_k (X : e_X) : Nat := X.2.1.2.2.1
abbrev e_n (X : e_X) : Nat := X.2.1.2.2.2.1
abbrev e_Q (X : e_X) : State → Prop := X.2.1.2.2.2.2
abbrev e_g (X : e_X) : e_G := X.2.2.1
abbrev e_l (X : e_X) : Launch := X.2.2.1.1
abbrev e_D (X : e_X) : va_G := X.2.2.1.2.1
abbrev e_cA (X : e_X) : Nat → ClassId := X.2.2.1.2.2
abbrev e_ad (X : e_X) : Nat → Nat := X.2.2.2.1
abbrev e_A (X : e_X) : Nat → Prop := X.2.2.2.2
/-- the real value of an abstract one -/
def e_cv (ad : Nat → Nat) : Value → Value
  | .int x => .int x
  | .long x => .long x
  | .float x => .float x
  | .double x => .double x
  | .null => .null
  | .ref k => .ref (ad k)
  | .retAddr p => .retAddr p
theorem e_cv_cat (ad : Nat → Nat) (v : Value) : (e_cv ad v).category = v.category := by cases v <;> rfl
/-- an object's fields: a fixed one, or a whole number of the memory -/
def e_fv (ad : Nat → Nat) (m : Nat → Int32) : Nat → List (Option Value) → List Value
  | _, [] => []
  | j, some v :: r => e_cv ad v :: e_fv ad m (j + 1) r
  | j, none :: r => .int (m j) :: e_fv ad m (j + 1) r
def e_ce (ad : Nat → Nat) (cA : Nat → ClassId) (x : e_S) (m : Nat → Int32) : va_E := match x with
  | .inl (t, n, none) => .inl (cA t, n, .inl m)
  | .inl (t, n, some L) => .inl (cA t, n, .inr (.inr (.inr (.inr (fun i => (L.getD i none).map ad)))))
  | .inr (ci, fs) => .inr (ci, e_fv ad m 0 fs)
def e_cz (ad : Nat → Nat) (cA : Nat → ClassId) (M : e_M) : Nat → List e_S → va_W
  | _, [] => []
  | k, x :: r => (ad k, e_ce ad cA x (M k)) :: e_cz ad cA M (k + 1) r
/-- M, but x at j of the cell i -/
def e_st (M : e_M) (i j : Nat) (x : Int32) : e_M := fun a => if a = i then upd (M a) j x else M a
theorem e_fv_get (ad : Nat → Nat) (m : Nat → Int32) : ∀ (fs : List (Option Value)) (k j : Nat), (e_fv ad m k fs)[j]? = (fs[j]?).map (fun o => match o with | some v => e_cv ad v | none => .int (m (k + j))) := by
  intro fs
  induction fs with
  | nil => intro k j; simp [e_fv]
  | cons o r ih =>
    intro k j
    cases j with
    | zero => cases o <;> simp [e_fv]
    | succ j => cases o <;> simp [e_fv, ih (k + 1) j, Nat.add_assoc, Nat.add_comm 1 j]
theorem e_fv_len (ad : Nat → Nat) (m : Nat → Int32) : ∀ (fs : List (Option Value)) (k : Nat), (e_fv ad m k fs).length = fs.length := by
  intro fs
  induction fs with
  | nil => intro k; rfl
  | cons o r ih => intro k; cases o <;> simp [e_fv, ih (k + 1)]
theorem e_cz_get (ad : Nat → Nat) (cA : Nat → ClassId) (M : e_M) : ∀ (Sh : List e_S) (k i : Nat), (e_cz ad cA M k Sh)[i]? = (Sh[i]?).map (fun x => (ad (k + i), e_ce ad cA x (M (k + i)))) := by
  intro Sh
  induction Sh with
  | nil => intro k i; simp [e_cz]
  | cons x r ih =>
    intro k i
    cases i with
    | zero => simp [e_cz]
    | succ i => simp [e_cz, ih (k + 1) i, Nat.add_assoc, Nat.add_comm 1 i]
theorem e_cz_at {ad : Nat → Nat} {cA : Nat → ClassId} {M : e_M} {Sh : List e_S} {i : Nat} {x : e_S} (h : Sh[i]? = some x) : (e_cz ad cA M 0 Sh)[i]? = some (ad i, e_ce ad cA x (M i)) := by
  rw [e_cz_get, h]; simp
theorem e_cz_len (ad : Nat → Nat) (cA : Nat → ClassId) (M : e_M) : ∀ (Sh : List e_S) (k : Nat), (e_cz ad cA M k Sh).length = Sh.length := by
  intro Sh
  induction Sh with
  | nil => intro k; rfl
  | cons x r ih => intro k; simp [e_cz, ih (k + 1)]
theorem e_cz_set {ad : Nat → Nat} {cA : Nat → ClassId} {M M' : e_M} {Sh : List e_S} {i : Nat} {x : e_S} {q : va_E} (h : Sh[i]? = some x) (hq : q = e_ce ad cA x (M' i)) (ho : ∀ a, a ≠ i → M' a = M a) : (e_cz ad cA M 0 Sh).set i (ad i, q) = e_cz ad cA M' 0 Sh := by
  subst hq
  apply List.ext_getElem?
  intro k
  by_cases hk : k = i
  · subst hk
    have hl : k < (e_cz ad cA M 0 Sh).length := by rw [e_cz_len]; exact (List.getElem?_eq_some_iff.mp h).1
    rw [List.getElem?_set_self hl, e_cz_at h]
  · rw [List.getElem?_set_ne (fun z => hk z.symm), e_cz_get, e_cz_get]
    simp [ho k hk]
theorem e_st_o {M : e_M} {i j : Nat} {x : Int32} : ∀ a, a ≠ i → e_st M i j x a = M a := fun a h => by simp [e_st, h]
theorem e_st_s {M : e_M} {i j : Nat} {x : Int32} : e_st M i j x i = upd (M i) j x := by simp [e_st]
theorem e_fv_set {ad : Nat → Nat} {m : Nat → Int32} {fs : List (Option Value)} {j : Nat} {x : Int32} (h : fs[j]? = some none) : (e_fv ad m 0 fs).set j (.int x) = e_fv ad (upd m j x) 0 fs := by
  apply List.ext_getElem?
  intro k
  by_cases hk : k = j
  · subst hk
    have hl : k < (e_fv ad m 0 fs).length := by rw [e_fv_len]; exact (List.getElem?_eq_some_iff.mp h).1
    rw [List.getElem?_set_self hl, e_fv_get, h]
    simp [upd]
  · rw [List.getElem?_set_ne (fun z => hk z.symm), e_fv_get, e_fv_get]
    cases fs[k]? with
    | none => rfl
    | some o => cases o <;> simp [upd, hk]
/-! locals: by their places -/
def e_lz (ad : Nat → Nat) : Nat → List (Option Value) → List (Nat × Value)
  | _, [] => []
  | i, none :: r => e_lz ad (i + 1) r
  | i, some v :: r => (i, e_cv ad v) :: e_lz ad (i + 1) r
theorem e_lz_mem {ad : Nat → Nat} : ∀ {lo : List (Option Value)} {i : Nat} {q : Nat × Value}, q ∈ e_lz ad i lo ↔ ∃ (j : Nat) (v : Value), lo[j]? = some (some v) ∧ q = (i + j, e_cv ad v) := by
  intro lo
  induction lo with
  | nil => intro i q; simp [e_lz]
  | cons o r ih =>
    intro i q
    have key : (∃ (j : Nat) (v : Value), r[j]? = some (some v) ∧ q = (i + 1 + j, e_cv ad v)) ↔ ∃ (j : Nat) (v : Value), r[j]? = some (some v) ∧ q = (i + (j + 1), e_cv ad v) := by
      constructor <;> rintro ⟨j, v, h1, h2⟩ <;> exact ⟨j, v, h1, by rw [h2]; congr 1; omega⟩
    cases o with
    | none =>
      rw [show e_lz ad i (none :: r) = e_lz ad (i + 1) r from rfl, ih, key]
      constructor
      · rintro ⟨j, v, h1, h2⟩; exact ⟨j + 1, v, by simpa using h1, h2⟩
      · rintro ⟨j, v, h1, h2⟩
        cases j with
        | zero => simp at h1
        | succ j => exact ⟨j, v, by simpa using h1, h2⟩
    | some w =>
      rw [show e_lz ad i (some w :: r) = (i, e_cv ad w) :: e_lz ad (i + 1) r from rfl, List.mem_cons, ih, key]
      constructor
      · rintro (h | ⟨j, v, h1, h2⟩)
        · exact ⟨0, w, by simp, by simpa using h⟩
        · exact ⟨j + 1, v, by simpa using h1, h2⟩
      · rintro ⟨j, v, h1, h2⟩
        cases j with
        | zero => left; simp at h1; rw [h2, h1]; simp
        | succ j => right; exact ⟨j, v, by simpa using h1, h2⟩
def e_get : List (Option Value) → Nat → Option Value
  | [], _ => none
  | x :: _, 0 => x
  | _ :: r, n + 1 => e_get r n
theorem e_get_at : ∀ {lo : List (Option Value)} {i : Nat} {v : Value}, e_get lo i = some v → lo[i]? = some (some v) := by
  intro lo
  induction lo with
  | nil => intro i v h; simp [e_get] at h
  | cons x r ih =>
    intro i v h
    cases i with
    | zero => simpa [e_get] using h
    | succ i => simpa using ih (i := i) (by simpa [e_get] using h)
theorem e_ld {ad : Nat → Nat} {ls : Array Slot} {n : Nat} {lo : List (Option Value)} {i : Nat} {v : Value} (h : lv_has ls n (e_lz ad 0 lo)) (hg : e_get lo i = some v) : ls[i]? = some (.val (e_cv ad v)) :=
  h.2.2 (i, e_cv ad v) (e_lz_mem.mpr ⟨i, v, e_get_at hg, by simp⟩)
/-- a long's first half is gone once its second half is written -/
def e_kl : Option Value → Option Value
  | some (.long _) => none
  | some (.double _) => none
  | some (.int x) => some (.int x)
  | some (.ref x) => some (.ref x)
  | some (.float x) => some (.float x)
  | some .null => some .null
  | some (.retAddr x) => some (.retAddr x)
  | none => none
theorem e_kl_some {o : Option Value} {v : Value} (h : e_kl o = some v) : o = some v ∧ v.category = 1 := by
  cases o with
  | none => simp [e_kl] at h
  | some w => cases w <;> simp [e_kl] at h <;> subst h <;> simp [Value.category]
def e_s1 : List (Option Value) → Nat → Option Value → List (Option Value)
  | [], _, _ => []
  | _ :: r, 0, v => v :: r
  | x :: r, 1, v => e_kl x :: e_s1 r 0 v
  | x :: r, n + 2, v => x :: e_s1 r (n + 1) v
theorem e_s1_get : ∀ {lo : List (Option Value)} {i : Nat} {v : Option Value} {j : Nat} {w : Value}, (e_s1 lo i v)[j]? = some (some w) → (j = i ∧ v = some w) ∨ (j ≠ i ∧ lo[j]? = some (some w) ∧ ¬ (j + 1 = i ∧ w.category = 2)) := by
  intro lo
  induction lo with
  | nil => intro i v j w h; simp [e_s1] at h
  | cons x r ih =>
    intro i v j w h
    match i, j with
    | 0, 0 => left; exact ⟨rfl, by simpa [e_s1] using h⟩
    | 0, j + 1 => right; exact ⟨by omega, by simpa [e_s1] using h, by omega⟩
    | 1, 0 =>
      right
      have h2 : e_kl x = some w := by simpa [e_s1] using h
      obtain ⟨h3, h4⟩ := e_kl_some h2
      exact ⟨by omega, by simp [h3], fun z => by omega⟩
    | 1, j + 1 =>
      have h2 : (e_s1 r 0 v)[j]? = some (some w) := by simpa [e_s1] using h
      rcases ih h2 with ⟨a, b⟩ | ⟨a, b, c⟩
      · left; exact ⟨by omega, b⟩
      · right; exact ⟨by omega, by simpa using b, fun z => by omega⟩
    | n + 2, 0 => right; exact ⟨by omega, by simpa [e_s1] using h, by omega⟩
    | n + 2, j + 1 =>
      have h2 : (e_s1 r (n + 1) v)[j]? = some (some w) := by simpa [e_s1] using h
      rcases ih h2 with ⟨a, b⟩ | ⟨a, b, c⟩
      · left; exact ⟨by omega, b⟩
      · right; exact ⟨by omega, by simpa using b, fun z => c ⟨by omega, z.2⟩⟩
theorem e_sto1 {ad : Nat → Nat} {ls' : Array Slot} {n : Nat} {lo : List (Option Value)} {i : Nat} {v : Value} (h : lv_has ls' n ((i, e_cv ad v) :: (e_lz ad 0 lo).filter (fun q => !(q.1 == i) && !(q.1 + 1 == i && q.2.category == 2)))) : lv_has ls' n (e_lz ad 0 (e_s1 lo i (some v))) := by
  refine ⟨h.1, h.2.1, fun q hq => ?_⟩
  obtain ⟨j, w, h1, rfl⟩ := e_lz_mem.mp hq
  refine h.2.2 _ ?_
  rcases e_s1_get h1 with ⟨rfl, e⟩ | ⟨a, b, c⟩
  · cases e; simp
  · refine List.mem_cons_of_mem _ (List.mem_filter.mpr ⟨e_lz_mem.mpr ⟨j, w, b, rfl⟩, ?_⟩)
    simp only [Nat.zero_add, Bool.and_eq_true, Bool.not_eq_true', beq_eq_false_iff_ne, ne_eq, Bool.and_eq_false_imp, beq_iff_eq, e_cv_cat]
    exact ⟨a, fun z1 z2 => c ⟨z1, z2⟩⟩
theorem e_sto2 {ad : Nat → Nat} {ls' : Array Slot} {n : Nat} {lo : List (Option Value)} {i : Nat} {v : Value} (h : lv_has ls' n ((i, e_cv ad v) :: (e_lz ad 0 lo).filter (fun q => !(q.1 == i) && (!(q.1 == i + 1) && !(q.1 + 1 == i && q.2.category == 2))))) : lv_has ls' n (e_lz ad 0 (e_s1 (e_s1 lo (i + 1) none) i (some v))) := by
  refine ⟨h.1, h.2.1, fun q hq => ?_⟩
  obtain ⟨j, w, h1, rfl⟩ := e_lz_mem.mp hq
  refine h.2.2 _ ?_
  rcases e_s1_get h1 with ⟨rfl, e⟩ | ⟨a, b, c⟩
  · cases e; simp
  · rcases e_s1_get b with ⟨-, e⟩ | ⟨a2, b2, c2⟩
    · cases e
    · refine List.mem_cons_of_mem _ (List.mem_filter.mpr ⟨e_lz_mem.mpr ⟨j, w, b2, rfl⟩, ?_⟩)
      simp only [Nat.zero_add, Bool.and_eq_true, Bool.not_eq_true', beq_eq_false_iff_ne, ne_eq, Bool.and_eq_false_imp, beq_iff_eq, e_cv_cat]
      exact ⟨a, a2, fun z1 z2 => c ⟨z1, z2⟩⟩
/-- fewer locals known -/
def e_le : List (Option Value) → List (Option Value) → Prop
  | [], _ => True
  | _ :: _, [] => False
  | none :: r, _ :: t => e_le r t
  | some v :: r, x :: t => x = some v ∧ e_le r t
theorem e_le_at : ∀ {a b : List (Option Value)} {j : Nat} {v : Value}, e_le a b → a[j]? = some (some v) → b[j]? = some (some v) := by
  intro a
  induction a with
  | nil => intro b j v h h1; simp at h1
  | cons x r ih =>
    intro b j v h h1
    cases b with
    | nil => cases x <;> exact absurd h id
    | cons y t =>
      cases x with
      | none =>
        cases j with
        | zero => simp at h1
        | succ j => simpa using ih (b := t) h (by simpa using h1)
      | some w =>
        cases j with
        | zero => simp at h1; simp [h.1, h1]
        | succ j => simpa using ih (b := t) h.2 (by simpa using h1)
def e_TT (cA : Nat → ClassId) : List (ClassId × FieldType) := [(cA 0, .int), (cA 1, .boolean), (cA 2, .char), (cA 3, .object "LastLight$Sheet"), (cA 4, .object "LastLight$Slot"), (cA 5, .array .int)]
/-- words that stay true as the tables grow warmer -/
def e_gd (w : Cond) : Bool := (w.onTables && w.keeps) || (match w with | .arrayClass _ => true | _ => false)
def e_tbl : List Cond := lw_tbl.filter e_gd
theorem e_tbl_at {w : Cond} (i : Nat) (h : lw_tbl[i]? = some w) (hg : e_gd w = true) : w ∈ e_tbl := List.mem_filter.mpr ⟨List.mem_of_getElem? h, hg⟩
theorem e_tbl_good : ∀ w ∈ e_tbl, (w.onTables && w.keeps) = true ∨ ∃ ty, w = .arrayClass ty := by
  intro w h
  have h2 := (List.mem_filter.mp h).2
  simp only [e_gd, Bool.or_eq_true] at h2
  rcases h2 with h2 | h2
  · exact Or.inl h2
  · right
    cases w <;> simp at h2
    exact ⟨_, rfl⟩
