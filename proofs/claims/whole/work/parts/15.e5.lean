/-! ===== the same world ===== -/
theorem e_cong {X : e_X} {Sh : List e_S} {pc : Nat} {lo : List (Option Value)} {st : List Value} {M M' : e_M} (h : ∀ k, k < Sh.length → M k = M' k) (k : e_E X Sh pc lo st M') : e_E X Sh pc lo st M := by
  have e : ∀ (ad : Nat → Nat) (cA : Nat → ClassId), e_cz ad cA M 0 Sh = e_cz ad cA M' 0 Sh := by
    intro ad cA
    apply List.ext_getElem?
    intro i
    rw [e_cz_get, e_cz_get]
    by_cases hi : i < Sh.length
    · rw [Nat.zero_add, h i hi]
    · rw [List.getElem?_eq_none (by omega)]; rfl
  intro H locs ls hP hS hl
  rw [e] at hP
  exact k H locs ls hP hS hl
theorem e_io_id : e_io (List.range 1000) = id := by
  funext j
  by_cases h : 1000 ≤ j
  · exact if_pos h
  · show (if 1000 ≤ j then j else _) = j
    rw [if_neg h, List.getD_eq_getElem?_getD, List.getElem?_range (by omega)]
    rfl
theorem e_cv_id : e_cv id = id := by funext v; cases v <;> rfl
theorem e_rs_id (x : e_S) : e_rs (List.range 1000) x = x := by
  have e1 : ∀ o : Option Nat, o.map (e_io (List.range 1000)) = o := fun o => by rw [e_io_id]; cases o <;> rfl
  have e2 : ∀ o : Option Value, o.map (e_cv (e_io (List.range 1000))) = o := fun o => by rw [e_io_id, e_cv_id]; cases o <;> rfl
  match x with
  | .inl (t, n, none) => rfl
  | .inl (t, n, some L) =>
    show (.inl (t, n, some (L.map (fun o => o.map (e_io (List.range 1000))))) : e_S) = _
    simp [e1]
  | .inr (ci, fs) =>
    show (.inr (ci, fs.map (fun o => o.map (e_cv (e_io (List.range 1000))))) : e_S) = _
    simp [e2]
theorem e_so_rf : ∀ (a : Option e_S), e_so a a = true
  | some (.inl a) => by simp [e_so]
  | some (.inr a) => by simp [e_so]
  | none => rfl
theorem e_sb_id {Sh : List e_S} (h : Sh.length ≤ 1000) : e_sb (List.range 1000) Sh Sh = true := by
  simp only [e_sb, Bool.and_eq_true, List.all_eq_true, List.mem_range, decide_eq_true_eq]
  refine ⟨fun j hj => ?_, ?_, by simp [h], h⟩
  · rw [show (List.range 1000).getD j 0 = j from by rw [List.getD_eq_getElem?_getD, List.getElem?_range (by omega)]; rfl]
    rw [show (Sh[j]?).map (e_rs (List.range 1000)) = Sh[j]? from by cases Sh[j]? <;> simp [e_rs_id]]
    exact e_so_rf _
  · exact List.Nodup.sublist (List.take_sublist _ _) List.nodup_range
theorem e_mg_id {Sh : List e_S} (h : Sh.length ≤ 1000) (M N : e_M) : ∀ k, k < Sh.length → e_mg (List.range 1000) Sh.length M N k = N k := by
  intro k hk
  have := e_mg_in (e_sb_id h) M N hk
  rw [e_io_id] at this
  exact this
section EK
variable {X : e_X} {Sh : List e_S} {pc : Nat} {lo : List (Option Value)} {M : e_M} {o : Nat} {cc : ByteArray}
theorem e_callS0 {d idx n nL : Nat} {y : MethodName} {cy : ByteArray} {rt : Option FieldType} {as0 rest : List Value} {P : Option Value → e_M → Prop} (hX : e_ok o cc X Sh) (hs : Sh.length ≤ 1000) (hC : e_C (e_g X) d y cy nL rt as0 Sh M P) (hw : e_wS o idx y cy nL rt n) (hn : as0.length = n) (hR : d + 1 ≤ (e_R X).frames ∧ 40 * (d + 1) ≤ (e_R X).locals) (hr : rest.length ≤ 4) (hd : decode cc pc = .ok (.invokestatic idx, 3))
    (k : ∀ (r : Option Value) (N : e_M), P r N → e_E X Sh (pc + 3) lo (r.toList ++ rest) N) : e_E X Sh pc lo (as0.reverse ++ rest) M := by
  have h := e_callS (is := List.range 1000) (M := M) (lo := lo) (rest := rest) (as0 := as0) (P := P) hX (e_sb_id hs) (by rw [e_io_id]; exact hC) hw hn hR hr hd (fun r N hp => e_cong (e_mg_id hs M N) (by rw [e_io_id, e_cv_id]; simpa using k r N hp))
  rw [e_io_id, e_cv_id] at h
  simpa using h
theorem e_callN0 {d idx n nL : Nat} {y : MethodName} {cy : ByteArray} {rt : Option FieldType} {as0 rest : List Value} {P : Option Value → e_M → Prop} (hX : e_ok o cc X Sh) (hs : Sh.length ≤ 1000) (hC : e_C (e_g X) d y cy nL rt as0 Sh M P) (hw : e_wN o idx y cy nL rt n) (hn : as0.length = n) (hR : d + 1 ≤ (e_R X).frames ∧ 40 * (d + 1) ≤ (e_R X).locals) (hr : rest.length ≤ 4) (hd : decode cc pc = .ok (.invokestatic idx, 3))
    (k : ∀ (r : Option Value) (N : e_M), P r N → e_E X Sh (pc + 3) lo (r.toList ++ rest) N) : e_E X Sh pc lo (as0.reverse ++ rest) M := by
  have h := e_callN (is := List.range 1000) (M := M) (lo := lo) (rest := rest) (as0 := as0) (P := P) hX (e_sb_id hs) (by rw [e_io_id]; exact hC) hw hn hR hr hd (fun r N hp => e_cong (e_mg_id hs M N) (by rw [e_io_id, e_cv_id]; simpa using k r N hp))
  rw [e_io_id, e_cv_id] at h
  simpa using h
theorem e_callV0 {d idx n nL a0 ci : Nat} {y : MethodName} {cy : ByteArray} {rt : Option FieldType} {as0 rest : List Value} {P : Option Value → e_M → Prop} {fs : List (Option Value)} {T : u_T} {N : Nat} (hX : e_ok o cc X Sh) (hs : Sh.length ≤ 1000) (hC : e_C (e_g X) d y cy nL rt (.ref a0 :: as0) Sh M P) (hw : e_wV o idx y cy nL rt n) (ha : Sh[a0]? = some (.inr (ci, fs))) (hc : vwCl[ci]? = some (y.cls, T, N)) (hn : as0.length = n) (hR : d + 1 ≤ (e_R X).frames ∧ 40 * (d + 1) ≤ (e_R X).locals) (hr : rest.length ≤ 4) (hd : decode cc pc = .ok (.invokevirtual idx, 3))
    (k : ∀ (r : Option Value) (N : e_M), P r N → e_E X Sh (pc + 3) lo (r.toList ++ rest) N) : e_E X Sh pc lo (as0.reverse ++ .ref a0 :: rest) M := by
  have h := e_callV (is := List.range 1000) (M := M) (lo := lo) (rest := rest) (as0 := as0) (P := P) hX (e_sb_id hs) (by rw [e_io_id]; exact hC) hw ha hc hn hR hr hd (fun r N hp => e_cong (e_mg_id hs M N) (by rw [e_io_id, e_cv_id]; simpa using k r N hp))
  rw [e_io_id, e_cv_id] at h
  simpa using h
end EK
/-! ===== calls that a condition goes through: by a function of the whole numbers and the memory ===== -/
abbrev e_F : Type := Nat × Option Nat × Nat × (List Int32 → e_M → Prop × Option Int32 × e_M)
def e_ps (v : Option Int32) (r : List Value) : List Value := match v with
  | some x => .int x :: r
  | none => r
def e_rc (a : Option Nat) (r : List Value) : List Value := match a with
  | some b => .ref b :: r
  | none => r
def e_iw (cc : ByteArray) (pc idx : Nat) (a : Option Nat) : Prop := match a with
  | some _ => decode cc pc = .ok (.invokevirtual idx, 3)
  | none => decode cc pc = .ok (.invokestatic idx, 3)
def e_fo (X : e_X) (Sh : List e_S) (cc : ByteArray) (q : e_F) : Prop := ∀ (pc : Nat) (lo : List (Option Value)) (rest : List Value) (M : e_M) (as : List Int32), as.length = q.2.2.1 → (q.2.2.2 as M).1 → rest.length ≤ 4 → e_iw cc pc q.1 q.2.1 → e_E X Sh (pc + 3) lo (e_ps (q.2.2.2 as M).2.1 rest) (q.2.2.2 as M).2.2 → e_E X Sh pc lo ((as.map Value.int).reverse ++ e_rc q.2.1 rest) M
def e_pi : Nat → List Value → List Int32 → (List Int32 → List Value → Prop) → Prop
  | 0, st, acc, k => k acc st
  | n + 1, st, acc, k => match st with
    | .int x :: r => e_pi n r (x :: acc) k
    | _ => False
theorem e_pi_e : ∀ {n : Nat} {st : List Value} {acc : List Int32} {k : List Int32 → List Value → Prop}, e_pi n st acc k → ∃ (as : List Int32) (r : List Value), st = (as.map Value.int).reverse ++ r ∧ as.length = n ∧ k (as ++ acc) r := by
  intro n
  induction n with
  | zero => intro st acc k h; exact ⟨[], st, rfl, rfl, h⟩
  | succ n ih =>
    intro st acc k h
    unfold e_pi at h
    split at h
    · rename_i x r
      obtain ⟨as, r', h1, h2, h3⟩ := ih h
      exact ⟨as ++ [x], r', by simp [h1], by simp [h2], by simpa using h3⟩
    · exact absurd h id
def e_rl : List Value → Prop
  | [] => True
  | [_] => True
  | [_, _] => True
  | [_, _, _] => True
  | [_, _, _, _] => True
  | _ => False
theorem e_rl_e {r : List Value} (h : e_rl r) : r.length ≤ 4 := by
  unfold e_rl at h
  split at h
  any_goals simp
  exact absurd h id
def e_go (q : Prop × Option Int32 × e_M) (r : List Value) (k : List Value → e_M → Prop) : Prop := q.1 ∧ e_rl r ∧ k (e_ps q.2.1 r) q.2.2
def e_cl (idx : Nat) (st : List Value) (M : e_M) (stop : Prop) (k : List Value → e_M → Prop) (vir : Bool) : List e_F → Prop
  | [] => stop
  | (i, ra, n, f) :: t => if i = idx then (match vir, ra with
      | true, some a => e_pi n st [] (fun as r => match r with
        | .ref b :: r2 => if b = a then e_go (f as M) r2 k else e_cl idx st M stop k vir t
        | _ => False)
      | false, none => e_pi n st [] (fun as r => e_go (f as M) r k)
      | _, _ => False) else e_cl idx st M stop k vir t
theorem e_cl_e {X : e_X} {Sh : List e_S} {cc : ByteArray} {pc idx : Nat} {lo : List (Option Value)} {st : List Value} {M : e_M} {k : List Value → e_M → Prop} {vir : Bool} (hd : decode cc pc = .ok (if vir then .invokevirtual idx else .invokestatic idx, 3)) (hk : ∀ r N, k r N → e_E X Sh (pc + 3) lo r N) : ∀ {fn : List e_F}, (∀ q ∈ fn, e_fo X Sh cc q) → e_cl idx st M (e_E X Sh pc lo st M) k vir fn → e_E X Sh pc lo st M := by
  intro fn
  induction fn with
  | nil => intro _ h; exact h
  | cons q t ih =>
    intro hq h
    obtain ⟨i, ra, n, f⟩ := q
    have hq0 := hq (i, ra, n, f) List.mem_cons_self
    have hqt : ∀ q ∈ t, e_fo X Sh cc q := fun q h => hq q (List.mem_cons_of_mem _ h)
    unfold e_cl at h
    split at h
    · rename_i e
      subst e
      split at h
      · rename_i a
        obtain ⟨as, r, e, hn, h9⟩ := e_pi_e h
        match r, e, h9 with
        | .ref b :: r2, e8, h8 =>
          dsimp only at h8
          split at h8
          · rename_i e2
            subst e2
            obtain ⟨h1, h2, h3⟩ := h8
            simp only [List.append_nil] at h1 h3
            rw [e8]
            exact hq0 pc lo r2 M as hn h1 (e_rl_e h2) hd (hk _ _ h3)
          · exact ih hqt h8
      · obtain ⟨as, r, rfl, hn, h⟩ := e_pi_e h
        obtain ⟨h1, h2, h3⟩ := h
        simp only [List.append_nil] at h1 h3
        exact hq0 pc lo r M as hn h1 (e_rl_e h2) hd (hk _ _ h3)
      · exact absurd h id
    · exact ih hqt h
def e_p1 (st : List Value) (k : Int32 → List Value → Prop) : Prop := match st with
  | .int x :: r => k x r
  | _ => False
theorem e_p1_e {st : List Value} {k : Int32 → List Value → Prop} (h : e_p1 st k) : ∃ x r, st = .int x :: r ∧ k x r := by
  unfold e_p1 at h
  split at h
  · exact ⟨_, _, rfl, h⟩
  · exact absurd h id
def e_p2 (st : List Value) (k : Int32 → Int32 → List Value → Prop) : Prop := match st with
  | .int y :: .int x :: r => k x y r
  | _ => False
theorem e_p2_e {st : List Value} {k : Int32 → Int32 → List Value → Prop} (h : e_p2 st k) : ∃ x y r, st = .int y :: .int x :: r ∧ k x y r := by
  unfold e_p2 at h
  split at h
  · exact ⟨_, _, _, rfl, h⟩
  · exact absurd h id
def e_q1 (st : List Value) (k : Int64 → List Value → Prop) : Prop := match st with
  | .long x :: r => k x r
  | _ => False
theorem e_q1_e {st : List Value} {k : Int64 → List Value → Prop} (h : e_q1 st k) : ∃ x r, st = .long x :: r ∧ k x r := by
  unfold e_q1 at h
  split at h
  · exact ⟨_, _, rfl, h⟩
  · exact absurd h id
def e_q2 (st : List Value) (k : Int64 → Int64 → List Value → Prop) : Prop := match st with
  | .long y :: .long x :: r => k x y r
  | _ => False
theorem e_q2_e {st : List Value} {k : Int64 → Int64 → List Value → Prop} (h : e_q2 st k) : ∃ x y r, st = .long y :: .long x :: r ∧ k x y r := by
  unfold e_q2 at h
  split at h
  · exact ⟨_, _, _, rfl, h⟩
  · exact absurd h id
def e_r1 (st : List Value) (k : Nat → List Value → Prop) : Prop := match st with
  | .ref x :: r => k x r
  | _ => False
theorem e_r1_e {st : List Value} {k : Nat → List Value → Prop} (h : e_r1 st k) : ∃ x r, st = .ref x :: r ∧ k x r := by
  unfold e_r1 at h
  split at h
  · exact ⟨_, _, rfl, h⟩
  · exact absurd h id
def e_ar (st : List Value) (k : Int32 → Nat → List Value → Prop) : Prop := match st with
  | .int i :: .ref a :: r => k i a r
  | _ => False
theorem e_ar_e {st : List Value} {k : Int32 → Nat → List Value → Prop} (h : e_ar st k) : ∃ i a r, st = .int i :: .ref a :: r ∧ k i a r := by
  unfold e_ar at h
  split at h
  · exact ⟨_, _, _, rfl, h⟩
  · exact absurd h id
def e_as (st : List Value) (k : Int32 → Int32 → Nat → List Value → Prop) : Prop := match st with
  | .int x :: .int i :: .ref a :: r => k x i a r
  | _ => False
theorem e_as_e {st : List Value} {k : Int32 → Int32 → Nat → List Value → Prop} (h : e_as st k) : ∃ x i a r, st = .int x :: .int i :: .ref a :: r ∧ k x i a r := by
  unfold e_as at h
  split at h
  · exact ⟨_, _, _, _, rfl, h⟩
  · exact absurd h id
def e_gi (o : Option Value) (k : Int32 → Prop) : Prop := match o with
  | some (.int x) => k x
  | _ => False
theorem e_gi_e {o : Option Value} {k : Int32 → Prop} (h : e_gi o k) : ∃ x, o = some (.int x) ∧ k x := by
  unfold e_gi at h
  split at h
  · exact ⟨_, rfl, h⟩
  · exact absurd h id
def e_gl (o : Option Value) (k : Int64 → Prop) : Prop := match o with
  | some (.long x) => k x
  | _ => False
theorem e_gl_e {o : Option Value} {k : Int64 → Prop} (h : e_gl o k) : ∃ x, o = some (.long x) ∧ k x := by
  unfold e_gl at h
  split at h
  · exact ⟨_, rfl, h⟩
  · exact absurd h id
def e_ga (o : Option Value) (k : Nat → Prop) : Prop := match o with
  | some (.ref x) => k x
  | _ => False
theorem e_ga_e {o : Option Value} {k : Nat → Prop} (h : e_ga o k) : ∃ x, o = some (.ref x) ∧ k x := by
  unfold e_ga at h
  split at h
  · exact ⟨_, rfl, h⟩
  · exact absurd h id
def e_os {α : Type} (o : Option α) (k : α → Prop) : Prop := match o with
  | some x => k x
  | none => False
theorem e_os_e {α : Type} {o : Option α} {k : α → Prop} (h : e_os o k) : ∃ x, o = some x ∧ k x := by
  cases o with
  | some x => exact ⟨x, rfl, h⟩
  | none => exact absurd h id
/-- a field read -/
def e_gf (o : Option (Option Value)) (k : Value → Prop) (ki : Prop) : Prop := match o with
  | some (some v) => k v
  | some none => ki
  | none => False
def e_tn (t : Nat) : Bool := t < 6
theorem e_tn_e {t : Nat} (cA : Nat → ClassId) (h : e_tn t = true) : ∃ ty, (e_TT cA)[t]? = some (cA t, ty) := by
  have : t < 6 := by simpa [e_tn] using h
  match t, this with
  | 0, _ => exact ⟨_, rfl⟩
  | 1, _ => exact ⟨_, rfl⟩
  | 2, _ => exact ⟨_, rfl⟩
  | 3, _ => exact ⟨_, rfl⟩
  | 4, _ => exact ⟨_, rfl⟩
  | 5, _ => exact ⟨_, rfl⟩
def e_tr (t : Nat) : Bool := t == 3 || t == 4 || t == 5
theorem e_tr_e {t : Nat} (cA : Nat → ClassId) (h : e_tr t = true) : ∃ ty, (e_TT cA)[t]? = some (cA t, ty) ∧ ty.isReference = true := by
  have : t = 3 ∨ t = 4 ∨ t = 5 := by simpa [e_tr, or_assoc] using h
  rcases this with rfl | rfl | rfl
  · exact ⟨_, rfl, rfl⟩
  · exact ⟨_, rfl, rfl⟩
  · exact ⟨_, rfl, rfl⟩
def e_al (Sh : List e_S) (a : Nat) : Option Nat := match Sh[a]? with
  | some (.inl (_, n, _)) => some n
  | _ => (e_kt a).map List.length
theorem e_tw_mono {k k' : Nat → Prop} {pc : Nat} {x : Int32} (hk : ∀ q, k q → k' q) : ∀ {l : List Int} {v : Int}, e_tw k pc x v l → e_tw k' pc x v l := by
  intro l
  induction l with
  | nil => intro v _; trivial
  | cons a r ih => intro v h; exact ⟨fun e => ⟨(h.1 e).1, hk _ (h.1 e).2⟩, ih h.2⟩
theorem e_lsw_mono {k k' : Nat → Prop} {pc : Nat} {x : Int32} {d : Int} (hk : ∀ q, k q → k' q) : ∀ {l : List (Int × Int)}, e_lsw k pc x d l → e_lsw k' pc x d l := by
  intro l
  induction l with
  | nil => intro h; exact ⟨h.1, hk _ h.2⟩
  | cons a r ih => intro h; exact ⟨fun e => ⟨(h.1 e).1, hk _ (h.1 e).2⟩, fun e => ih (h.2 e)⟩
/-- one instruction: what must hold so that the machine goes on as k says -/
def e_sx (X : e_X) (Sh : List e_S) (o nL : Nat) (rt : Option FieldType) (fn : List e_F) (P : Option Value → e_M → Prop) (k : Nat → List (Option Value) → List Value → e_M → Prop) (i : Instr) (pc len : Nat) (lo : List (Option Value)) (st : List Value) (M : e_M) : Prop := match i with
  | .iadd => len = 1 ∧ (e_p2 st (fun x y r => k (pc + 1) lo (.int (x + y) :: r) M))
  | .isub => len = 1 ∧ (e_p2 st (fun x y r => k (pc + 1) lo (.int (x - y) :: r) M))
  | .imul => len = 1 ∧ (e_p2 st (fun x y r => k (pc + 1) lo (.int (x * y) :: r) M))
  | .iand => len = 1 ∧ (e_p2 st (fun x y r => k (pc + 1) lo (.int (x &&& y) :: r) M))
  | .ior => len = 1 ∧ (e_p2 st (fun x y r => k (pc + 1) lo (.int (x ||| y) :: r) M))
  | .ishl => len = 1 ∧ (e_p2 st (fun x y r => k (pc + 1) lo (.int (x <<< (y &&& 31)) :: r) M))
  | .ishr => len = 1 ∧ (e_p2 st (fun x y r => k (pc + 1) lo (.int (x >>> (y &&& 31)) :: r) M))
  | .iushr => len = 1 ∧ (e_p2 st (fun x y r => k (pc + 1) lo (.int (e_ush x y) :: r) M))
  | .idiv => len = 1 ∧ (e_p2 st (fun x y r => ¬ y = 0 ∧ k (pc + 1) lo (.int (x / y) :: r) M))
  | .irem => len = 1 ∧ (e_p2 st (fun x y r => ¬ y = 0 ∧ k (pc + 1) lo (.int (e_rem x y) :: r) M))
  | .ineg => len = 1 ∧ (e_p1 st (fun x r => k (pc + 1) lo (.int (-x) :: r) M))
  | .ladd => len = 1 ∧ (e_q2 st (fun x y r => k (pc + 1) lo (.long (x + y) :: r) M))
  | .lsub => len = 1 ∧ (e_q2 st (fun x y r => k (pc + 1) lo (.long (x - y) :: r) M))
  | .lcmp => len = 1 ∧ (e_q2 st (fun x y r => k (pc + 1) lo (.int (lg_cmp x y) :: r) M))
  | .lneg => len = 1 ∧ (e_q1 st (fun x r => k (pc + 1) lo (.long (-x) :: r) M))
  | .i2l => len = 1 ∧ (e_p1 st (fun x r => k (pc + 1) lo (.long x.toInt64 :: r) M))
  | .l2i => len = 1 ∧ (e_q1 st (fun x r => k (pc + 1) lo (.int x.toInt32 :: r) M))
  | .i2s => len = 1 ∧ (e_p1 st (fun x r => k (pc + 1) lo (.int (x.toInt16.toInt32) :: r) M))
  | .i2b => len = 1 ∧ (e_p1 st (fun x r => k (pc + 1) lo (.int (x.toInt8.toInt32) :: r) M))
  | .i2c => len = 1 ∧ (e_p1 st (fun x r => k (pc + 1) lo (.int ((x.toUInt32 % 65536).toInt32) :: r) M))
  | .iconst n => len = 1 ∧ (k (pc + 1) lo (.int (e_i0 n) :: st) M)
  | .bipush n => len = 2 ∧ (k (pc + 2) lo (.int (e_i8 n) :: st) M)
  | .sipush n => len = 3 ∧ (k (pc + 3) lo (.int (e_i16 n) :: st) M)
  | .lconst n => len = 1 ∧ (k (pc + 1) lo (.long (e_l0 n) :: st) M)
  | .iload_n n => len = 1 ∧ (e_gi (e_get lo (e_f4 n)) (fun x => k (pc + 1) lo (.int x :: st) M))
  | .iload n => len = 2 ∧ (e_gi (e_get lo n) (fun x => k (pc + 2) lo (.int x :: st) M))
  | .lload_n n => len = 1 ∧ (e_gl (e_get lo (e_f4 n)) (fun x => k (pc + 1) lo (.long x :: st) M))
  | .lload n => len = 2 ∧ (e_gl (e_get lo n) (fun x => k (pc + 2) lo (.long x :: st) M))
  | .aload_n n => len = 1 ∧ (e_ga (e_get lo (e_f4 n)) (fun x => k (pc + 1) lo (.ref x :: st) M))
  | .aload n => len = 2 ∧ (e_ga (e_get lo n) (fun x => k (pc + 2) lo (.ref x :: st) M))
  | .istore_n n => len = 1 ∧ (e_p1 st (fun x r => e_f4 n < nL ∧ k (pc + 1) (e_s1 lo (e_f4 n) (some (.int x))) r M))
  | .istore n => len = 2 ∧ (e_p1 st (fun x r => n < nL ∧ k (pc + 2) (e_s1 lo n (some (.int x))) r M))
  | .astore_n n => len = 1 ∧ (e_r1 st (fun x r => e_f4 n < nL ∧ k (pc + 1) (e_s1 lo (e_f4 n) (some (.ref x))) r M))
  | .astore n => len = 2 ∧ (e_r1 st (fun x r => n < nL ∧ k (pc + 2) (e_s1 lo n (some (.ref x))) r M))
  | .lstore_n n => len = 1 ∧ (e_q1 st (fun x r => e_f4 n + 1 < nL ∧ k (pc + 1) (e_s1 (e_s1 lo (e_f4 n + 1) none) (e_f4 n) (some (.long x))) r M))
  | .lstore n => len = 2 ∧ (e_q1 st (fun x r => n + 1 < nL ∧ k (pc + 2) (e_s1 (e_s1 lo (n + 1) none) n (some (.long x))) r M))
  | .iinc n d => len = 3 ∧ (e_gi (e_get lo n) (fun x => n < nL ∧ k (pc + 3) (e_s1 lo n (some (.int (x + e_i0 d)))) st M))
  | .dup => len = 1 ∧ (match st with
    | v :: r => v.category = 1 ∧ k (pc + 1) lo (v :: v :: r) M
    | _ => False)
  | .pop => len = 1 ∧ (match st with
    | v :: r => v.category = 1 ∧ k (pc + 1) lo r M
    | _ => False)
  | .dup2 => len = 1 ∧ (match st with
    | v :: w :: r => v.category = 1 ∧ w.category = 1 ∧ k (pc + 1) lo (v :: w :: v :: w :: r) M
    | _ => False)
  | .if_icmp c off => len = 3 ∧ (e_p2 st (fun x y r => 0 ≤ (pc : Int) + off ∧ (e_cm c x y → k ((pc : Int) + off).toNat lo r M) ∧ (¬ e_cm c x y → k (pc + 3) lo r M)))
  | .ifCond c off => len = 3 ∧ (e_p1 st (fun x r => 0 ≤ (pc : Int) + off ∧ (e_cm c x 0 → k ((pc : Int) + off).toNat lo r M) ∧ (¬ e_cm c x 0 → k (pc + 3) lo r M)))
  | .goto off => len = 3 ∧ (0 ≤ (pc : Int) + off ∧ k ((pc : Int) + off).toNat lo st M)
  | .iaload => len = 1 ∧ (e_ar st (fun i a r => match e_arr Sh a with
    | some (0, n) => vp_in i n ∧ k (pc + 1) lo (.int (M a i.toNatClampNeg) :: r) M
    | _ => e_os (e_kt a) (fun L => vp_in i L.length ∧ k (pc + 1) lo (.int (L.getD i.toNatClampNeg 0) :: r) M)))
  | .baload => len = 1 ∧ (e_ar st (fun i a r => match e_arr Sh a with
    | some (1, n) => vp_in i n ∧ k (pc + 1) lo (.int (M a i.toNatClampNeg) :: r) M
    | _ => False))
  | .caload => len = 1 ∧ (e_ar st (fun i a r => match e_arr Sh a with
    | some (2, n) => vp_in i n ∧ k (pc + 1) lo (.int (M a i.toNatClampNeg) :: r) M
    | _ => False))
  | .iastore => len = 1 ∧ (e_as st (fun x i a r => match e_arr Sh a with
    | some (0, n) => vp_in i n ∧ k (pc + 1) lo r (e_st M a i.toNatClampNeg (x))
    | _ => False))
  | .bastore => len = 1 ∧ (e_as st (fun x i a r => match e_arr Sh a with
    | some (1, n) => vp_in i n ∧ k (pc + 1) lo r (e_st M a i.toNatClampNeg (vp_nar .boolean x))
    | _ => False))
  | .arraylength => len = 1 ∧ (e_r1 st (fun a r => match Sh[a]? with
    | some (.inl (t, n, _)) => e_tn t = true ∧ k (pc + 1) lo (.int (Int32.ofNat n) :: r) M
    | _ => e_os (e_kt a) (fun L => k (pc + 1) lo (.int (Int32.ofNat L.length) :: r) M)))
  | .aaload => len = 1 ∧ (e_ar st (fun i a r => e_os (e_rar Sh a) (fun q => e_tr q.1 = true ∧ vp_in i q.2.1 ∧ e_os (q.2.2.getD i.toNatClampNeg none) (fun b => k (pc + 1) lo (.ref b :: r) M))))
  | .getfield idx => len = 3 ∧ (e_r1 st (fun a r => e_os (e_lk o idx) (fun q => e_gf (e_fld Sh a q.1 q.2.1) (fun v => k (pc + 3) lo (v :: r) M) (k (pc + 3) lo (.int (M a q.2.1) :: r) M))))
  | .putfield idx => len = 3 ∧ (e_p1 st (fun x r => e_r1 r (fun a r => e_os (e_lk o idx) (fun q => e_fld Sh a q.1 q.2.1 = some none ∧ (q.2.2 = 0 ∨ q.2.2 = 1 ∧ e_fz x) ∧ k (pc + 3) lo r (e_st M a q.2.1 x)))))
  | .getstatic idx => len = 3 ∧ (e_os (e_gs o idx) (fun v => k (pc + 3) lo (v :: st) M))
  | .ldc idx => len = 2 ∧ (e_os (e_kc o idx) (fun v => k (pc + 2) lo (.int v :: st) M))
  | .ldc_w idx => len = 3 ∧ (e_os (e_kc o idx) (fun v => k (pc + 3) lo (.int v :: st) M))
  | .invokevirtual idx => len = 3 ∧ (e_cl idx st M (e_E X Sh pc lo st M) (fun r N => k (pc + 3) lo r N) true fn)
  | .invokestatic idx => len = 3 ∧ (e_cl idx st M (e_E X Sh pc lo st M) (fun r N => k (pc + 3) lo r N) false fn)
  | .ireturn => len = 1 ∧ (match st with
    | [.int v] => e_os rt (fun ty => e_nr ty v ∧ P (some (.int v)) M)
    | _ => False)
  | .lreturn => len = 1 ∧ (match st with
    | [.long v] => rt = some .long ∧ P (some (.long v)) M
    | _ => False)
  | .areturn => len = 1 ∧ (match st with
    | [.ref v] => (∃ n, rt = some (.object n)) ∧ P (some (.ref v)) M
    | _ => False)
  | .return_ => len = 1 ∧ (match st with
    | [] => rt = none ∧ P none M
    | _ => False)
  | .tableswitch d a b offs => e_p1 st (fun x r => (offs.size : Int) = b - a + 1 ∧ 0 ≤ (pc : Int) + d ∧ ((x.toInt < a ∨ b < x.toInt) → k ((pc : Int) + d).toNat lo r M) ∧ e_tw (fun q => k q lo r M) pc x a offs.toList)
  | .lookupswitch d ps => e_p1 st (fun x r => (ps.toList.zip (ps.toList.drop 1)).all (fun (a, next) => a.1 < next.1) = true ∧ ps.toList.all (fun q => (Int32.ofInt q.1).toInt == q.1) = true ∧ e_lsw (fun q => k q lo r M) pc x d ps.toList)
  | _ => False
theorem e_sx_ok {X : e_X} {Sh : List e_S} {o nL : Nat} {cc : ByteArray} {rt : Option FieldType} {fn : List e_F} {P : Option Value → e_M → Prop} {k : Nat → List (Option Value) → List Value → e_M → Prop} (hX : e_ok o cc X Sh) (hE : e_en X Sh cc rt P) (hL : (e_c X).maxLocals = nL) (hF : ∀ q ∈ fn, e_fo X Sh cc q) (hk : ∀ pc lo st M, k pc lo st M → e_E X Sh pc lo st M) {i : Instr} {pc len : Nat} {lo : List (Option Value)} {st : List Value} {M : e_M} (hd : decode cc pc = .ok (i, len)) (h : e_sx X Sh o nL rt fn P k i pc len lo st M) : e_E X Sh pc lo st M := by
  cases i with
  | iadd =>
      obtain ⟨rfl, h⟩ := h
      obtain ⟨x, y, r, rfl, h⟩ := e_p2_e h; exact e_iadd hX hd (hk _ _ _ _ h)
  | isub =>
      obtain ⟨rfl, h⟩ := h
      obtain ⟨x, y, r, rfl, h⟩ := e_p2_e h; exact e_isub hX hd (hk _ _ _ _ h)
  | imul =>
      obtain ⟨rfl, h⟩ := h
      obtain ⟨x, y, r, rfl, h⟩ := e_p2_e h; exact e_imul hX hd (hk _ _ _ _ h)
  | iand =>
      obtain ⟨rfl, h⟩ := h
      obtain ⟨x, y, r, rfl, h⟩ := e_p2_e h; exact e_iand hX hd (hk _ _ _ _ h)
  | ior =>
      obtain ⟨rfl, h⟩ := h
      obtain ⟨x, y, r, rfl, h⟩ := e_p2_e h; exact e_ior hX hd (hk _ _ _ _ h)
  | ishl =>
      obtain ⟨rfl, h⟩ := h
      obtain ⟨x, y, r, rfl, h⟩ := e_p2_e h; exact e_ishl hX hd (hk _ _ _ _ h)
  | ishr =>
      obtain ⟨rfl, h⟩ := h
      obtain ⟨x, y, r, rfl, h⟩ := e_p2_e h; exact e_ishr hX hd (hk _ _ _ _ h)
  | iushr =>
      obtain ⟨rfl, h⟩ := h
      obtain ⟨x, y, r, rfl, h⟩ := e_p2_e h; exact e_iushr hX hd (hk _ _ _ _ h)
  | idiv =>
      obtain ⟨rfl, h⟩ := h
      obtain ⟨x, y, r, rfl, h0, h⟩ := e_p2_e h; exact e_idiv hX hd h0 (hk _ _ _ _ h)
  | irem =>
      obtain ⟨rfl, h⟩ := h
      obtain ⟨x, y, r, rfl, h0, h⟩ := e_p2_e h; exact e_irem hX hd h0 (hk _ _ _ _ h)
  | ineg =>
      obtain ⟨rfl, h⟩ := h
      obtain ⟨x, r, rfl, h⟩ := e_p1_e h; exact e_ineg hX hd (hk _ _ _ _ h)
  | ladd =>
      obtain ⟨rfl, h⟩ := h
      obtain ⟨x, y, r, rfl, h⟩ := e_q2_e h; exact e_ladd hX hd (hk _ _ _ _ h)
  | lsub =>
      obtain ⟨rfl, h⟩ := h
      obtain ⟨x, y, r, rfl, h⟩ := e_q2_e h; exact e_lsub hX hd (hk _ _ _ _ h)
  | lcmp =>
      obtain ⟨rfl, h⟩ := h
      obtain ⟨x, y, r, rfl, h⟩ := e_q2_e h; exact e_lcmp hX hd (hk _ _ _ _ h)
  | lneg =>
      obtain ⟨rfl, h⟩ := h
      obtain ⟨x, r, rfl, h⟩ := e_q1_e h; exact e_lneg hX hd (hk _ _ _ _ h)
  | i2l =>
      obtain ⟨rfl, h⟩ := h
      obtain ⟨x, r, rfl, h⟩ := e_p1_e h; exact e_i2l hX hd (hk _ _ _ _ h)
  | l2i =>
      obtain ⟨rfl, h⟩ := h
      obtain ⟨x, r, rfl, h⟩ := e_q1_e h; exact e_l2i hX hd (hk _ _ _ _ h)
  | i2s =>
      obtain ⟨rfl, h⟩ := h
      obtain ⟨x, r, rfl, h⟩ := e_p1_e h; exact e_i2s hX hd (hk _ _ _ _ h)
  | i2b =>
      obtain ⟨rfl, h⟩ := h
      obtain ⟨x, r, rfl, h⟩ := e_p1_e h; exact e_i2b hX hd (hk _ _ _ _ h)
  | i2c =>
      obtain ⟨rfl, h⟩ := h
      obtain ⟨x, r, rfl, h⟩ := e_p1_e h; exact e_i2c hX hd (hk _ _ _ _ h)
  | iconst n =>
      obtain ⟨rfl, h⟩ := h
      exact e_iconst hX hd (hk _ _ _ _ h)
  | bipush n =>
      obtain ⟨rfl, h⟩ := h
      exact e_bipush hX hd (hk _ _ _ _ h)
  | sipush n =>
      obtain ⟨rfl, h⟩ := h
      exact e_sipush hX hd (hk _ _ _ _ h)
  | lconst n =>
      obtain ⟨rfl, h⟩ := h
      exact e_lconst hX hd (hk _ _ _ _ h)
  | iload_n n =>
      obtain ⟨rfl, h⟩ := h
      obtain ⟨x, e, h⟩ := e_gi_e h; exact e_iload_n hX hd e (hk _ _ _ _ h)
  | iload n =>
      obtain ⟨rfl, h⟩ := h
      obtain ⟨x, e, h⟩ := e_gi_e h; exact e_iload hX hd e (hk _ _ _ _ h)
  | lload_n n =>
      obtain ⟨rfl, h⟩ := h
      obtain ⟨x, e, h⟩ := e_gl_e h; exact e_lload_n hX hd e (hk _ _ _ _ h)
  | lload n =>
      obtain ⟨rfl, h⟩ := h
      obtain ⟨x, e, h⟩ := e_gl_e h; exact e_lload hX hd e (hk _ _ _ _ h)
  | aload_n n =>
      obtain ⟨rfl, h⟩ := h
      obtain ⟨x, e, h⟩ := e_ga_e h; exact e_aload_n hX hd e (hk _ _ _ _ h)
  | aload n =>
      obtain ⟨rfl, h⟩ := h
      obtain ⟨x, e, h⟩ := e_ga_e h; exact e_aload hX hd e (hk _ _ _ _ h)
  | istore_n n =>
      obtain ⟨rfl, h⟩ := h
      obtain ⟨x, r, rfl, h0, h⟩ := e_p1_e h; exact e_istore_n hX hd (hL ▸ h0) (hk _ _ _ _ h)
  | istore n =>
      obtain ⟨rfl, h⟩ := h
      obtain ⟨x, r, rfl, h0, h⟩ := e_p1_e h; exact e_istore hX hd (hL ▸ h0) (hk _ _ _ _ h)
  | astore_n n =>
      obtain ⟨rfl, h⟩ := h
      obtain ⟨x, r, rfl, h0, h⟩ := e_r1_e h; exact e_astore_n hX hd (hL ▸ h0) (hk _ _ _ _ h)
  | astore n =>
      obtain ⟨rfl, h⟩ := h
      obtain ⟨x, r, rfl, h0, h⟩ := e_r1_e h; exact e_astore hX hd (hL ▸ h0) (hk _ _ _ _ h)
  | lstore_n n =>
      obtain ⟨rfl, h⟩ := h
      obtain ⟨x, r, rfl, h0, h⟩ := e_q1_e h; exact e_lstore_n hX hd (hL ▸ h0) (hk _ _ _ _ h)
  | lstore n =>
      obtain ⟨rfl, h⟩ := h
      obtain ⟨x, r, rfl, h0, h⟩ := e_q1_e h; exact e_lstore hX hd (hL ▸ h0) (hk _ _ _ _ h)
  | iinc n d =>
      obtain ⟨rfl, h⟩ := h
      obtain ⟨x, e, h0, h⟩ := e_gi_e h; exact e_iinc hX hd e (hL ▸ h0) (hk _ _ _ _ h)
  | dup =>
      obtain ⟨rfl, h⟩ := h
      cases st with
      | nil => exact absurd h id
      | cons v r => exact e_dup hX hd h.1 (hk _ _ _ _ h.2)
  | pop =>
      obtain ⟨rfl, h⟩ := h
      cases st with
      | nil => exact absurd h id
      | cons v r => exact e_pop hX hd h.1 (hk _ _ _ _ h.2)
  | dup2 =>
      obtain ⟨rfl, h⟩ := h
      match st, h with
      | v :: w :: r, h => exact e_dup2 hX hd h.1 h.2.1 (hk _ _ _ _ h.2.2)
  | if_icmp c off =>
      obtain ⟨rfl, h⟩ := h
      obtain ⟨x, y, r, rfl, h0, h1, h2⟩ := e_p2_e h; exact e_icmp hX hd h0 (fun z => hk _ _ _ _ (h1 z)) (fun z => hk _ _ _ _ (h2 z))
  | ifCond c off =>
      obtain ⟨rfl, h⟩ := h
      obtain ⟨x, r, rfl, h0, h1, h2⟩ := e_p1_e h; exact e_if hX hd h0 (fun z => hk _ _ _ _ (h1 z)) (fun z => hk _ _ _ _ (h2 z))
  | goto off =>
      obtain ⟨rfl, h⟩ := h
      exact e_goto hX hd h.1 (hk _ _ _ _ h.2)
  | iaload =>
      obtain ⟨rfl, h⟩ := h
      obtain ⟨i, a, r, rfl, h9⟩ := e_ar_e h
      split at h9
      · rename_i n ha; exact e_iaload hX hd ha h9.1 (hk _ _ _ _ h9.2)
      · obtain ⟨L, e, h⟩ := e_os_e h9; exact e_ialoadK hX hd e h.1 (hk _ _ _ _ h.2)
  | baload =>
      obtain ⟨rfl, h⟩ := h
      obtain ⟨i, a, r, rfl, h9⟩ := e_ar_e h
      split at h9
      · rename_i n ha; exact e_baload hX hd ha h9.1 (hk _ _ _ _ h9.2)
      · exact absurd h9 id
  | caload =>
      obtain ⟨rfl, h⟩ := h
      obtain ⟨i, a, r, rfl, h9⟩ := e_ar_e h
      split at h9
      · rename_i n ha; exact e_caload hX hd ha h9.1 (hk _ _ _ _ h9.2)
      · exact absurd h9 id
  | iastore =>
      obtain ⟨rfl, h⟩ := h
      obtain ⟨x, i, a, r, rfl, h9⟩ := e_as_e h
      split at h9
      · rename_i n ha; exact e_iastore hX hd ha h9.1 (hk _ _ _ _ h9.2)
      · exact absurd h9 id
  | bastore =>
      obtain ⟨rfl, h⟩ := h
      obtain ⟨x, i, a, r, rfl, h9⟩ := e_as_e h
      split at h9
      · rename_i n ha; exact e_bastore hX hd ha h9.1 (hk _ _ _ _ h9.2)
      · exact absurd h9 id
  | arraylength =>
      obtain ⟨rfl, h⟩ := h
      obtain ⟨a, r, rfl, h9⟩ := e_r1_e h
      split at h9
      · rename_i t n q ha
        obtain ⟨ty, ht⟩ := e_tn_e (e_cA X) h9.1
        exact e_alen hX hd ha ht (hk _ _ _ _ h9.2)
      · obtain ⟨L, e, h⟩ := e_os_e h9; exact e_alenK hX hd e (hk _ _ _ _ h)
  | aaload =>
      obtain ⟨rfl, h⟩ := h
      obtain ⟨i, a, r, rfl, h⟩ := e_ar_e h
      obtain ⟨⟨t, n, L⟩, e, h1, h2, h⟩ := e_os_e h
      obtain ⟨b, e2, h⟩ := e_os_e h
      obtain ⟨ty, ht, hr⟩ := e_tr_e (e_cA X) h1
      exact e_aaload hX hd e ht hr h2 e2 (hk _ _ _ _ h)
  | getfield idx =>
      obtain ⟨rfl, h⟩ := h
      obtain ⟨a, r, rfl, h⟩ := e_r1_e h
      obtain ⟨⟨ci, j, b⟩, e, h⟩ := e_os_e h
      unfold e_gf at h
      split at h
      · rename_i v e2; exact e_getfR hX hd e e2 (hk _ _ _ _ h)
      · rename_i e2; exact e_getfI hX hd e e2 (hk _ _ _ _ h)
      · exact absurd h id
  | putfield idx =>
      obtain ⟨rfl, h⟩ := h
      obtain ⟨x, r, rfl, h⟩ := e_p1_e h
      obtain ⟨a, r, rfl, h⟩ := e_r1_e h
      obtain ⟨⟨ci, j, b⟩, e, h1, h2, h3⟩ := e_os_e h
      dsimp only at h1 h2 h3
      rcases h2 with rfl | ⟨rfl, h2⟩
      · exact e_putfI hX hd e h1 (hk _ _ _ _ h3)
      · exact e_putfZ hX hd e h2 h1 (hk _ _ _ _ h3)
  | getstatic idx =>
      obtain ⟨rfl, h⟩ := h
      obtain ⟨v, e, h⟩ := e_os_e h; exact e_getst hX hd e (hk _ _ _ _ h)
  | ldc idx =>
      obtain ⟨rfl, h⟩ := h
      obtain ⟨v, e, h⟩ := e_os_e h; exact e_ldc hX hd e (hk _ _ _ _ h)
  | ldc_w idx =>
      obtain ⟨rfl, h⟩ := h
      obtain ⟨v, e, h⟩ := e_os_e h; exact e_ldcw hX hd e (hk _ _ _ _ h)
  | invokevirtual idx =>
      obtain ⟨rfl, h⟩ := h
      exact e_cl_e (vir := true) hd (fun r N z => hk _ _ _ _ z) hF h
  | invokestatic idx =>
      obtain ⟨rfl, h⟩ := h
      exact e_cl_e (vir := false) hd (fun r N z => hk _ _ _ _ z) hF h
  | ireturn =>
      obtain ⟨rfl, h⟩ := h
      split at h
      · obtain ⟨ty, e, h1, h2⟩ := e_os_e h; exact hE pc lo M (some (.int _)) ⟨hd, ty, e, h1⟩ h2
      · exact absurd h id
  | lreturn =>
      obtain ⟨rfl, h⟩ := h
      split at h
      · exact hE pc lo M (some (.long _)) ⟨hd, h.1⟩ h.2
      · exact absurd h id
  | areturn =>
      obtain ⟨rfl, h⟩ := h
      split at h
      · exact hE pc lo M (some (.ref _)) ⟨hd, h.1⟩ h.2
      · exact absurd h id
  | return_ =>
      obtain ⟨rfl, h⟩ := h
      split at h
      · exact hE pc lo M none ⟨hd, h.1⟩ h.2
      · exact absurd h id
  | tableswitch d a b offs =>
      obtain ⟨x, r, rfl, h0, h1, h2, h3⟩ := e_p1_e h; exact e_tswitch hX hd h0 h1 (fun z => hk _ _ _ _ (h2 z)) (e_tw_mono (fun q z => hk _ _ _ _ z) h3)
  | lookupswitch d ps =>
      obtain ⟨x, r, rfl, h0, h1, h2⟩ := e_p1_e h; exact e_lswitch hX hd h0 h1 (e_lsw_mono (fun q z => hk _ _ _ _ z) h2)
  | _ => exact absurd h id
def e_dm (q : Except DecodeError (Instr × Nat)) (k : Instr → Nat → Prop) : Prop := match q with
  | .ok (i, len) => k i len
  | .error _ => False
/-- at most n instructions, up to a stop (the places c1, c2, a call that no function tells) or a return -/
def e_wp (X : e_X) (Sh : List e_S) (o nL : Nat) (cc : ByteArray) (rt : Option FieldType) (fn : List e_F) (P : Option Value → e_M → Prop) (c1 c2 : Nat) : Nat → Nat → List (Option Value) → List Value → e_M → Prop
  | 0, pc, lo, st, M => e_E X Sh pc lo st M
  | n + 1, pc, lo, st, M => e_dm (decode cc pc) (fun i len => e_sx X Sh o nL rt fn P (fun pc lo st M => if pc = c1 then e_E X Sh pc lo st M else if pc = c2 then e_E X Sh pc lo st M else e_wp X Sh o nL cc rt fn P c1 c2 n pc lo st M) i pc len lo st M)
theorem e_wp_ok {X : e_X} {Sh : List e_S} {o nL : Nat} {cc : ByteArray} {rt : Option FieldType} {fn : List e_F} {P : Option Value → e_M → Prop} (c1 c2 : Nat) (hX : e_ok o cc X Sh) (hE : e_en X Sh cc rt P) (hL : (e_c X).maxLocals = nL) (hF : ∀ q ∈ fn, e_fo X Sh cc q) : ∀ (n : Nat) {pc : Nat} {lo : List (Option Value)} {st : List Value} {M : e_M}, e_wp X Sh o nL cc rt fn P c1 c2 n pc lo st M → e_E X Sh pc lo st M := by
  intro n
  induction n with
  | zero => intro pc lo st M h; exact h
  | succ n ih =>
    intro pc lo st M h
    unfold e_wp e_dm at h
    split at h
    · rename_i i len hd
      refine e_sx_ok hX hE hL hF (fun pc lo st M h => ?_) hd h
      split at h
      · exact h
      · split at h
        · exact h
        · exact ih h
    · exact absurd h id
