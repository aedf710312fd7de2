/-! ===== the class: rules of the JDK, calls into a part of the world ===== -/
def f_max (as : List Int32) (M : e_M) : Prop × Option Int32 × e_M := match as with
  | [x, y] => (True, some (if x < y then y else x), M)
  | _ => (False, none, M)
def f_min (as : List Int32) (M : e_M) : Prop × Option Int32 × e_M := match as with
  | [x, y] => (True, some (if y < x then y else x), M)
  | _ => (False, none, M)
def f_abs (as : List Int32) (M : e_M) : Prop × Option Int32 × e_M := match as with
  | [x] => (True, some (if 0 ≤ x then x else 0 - x), M)
  | _ => (False, none, M)
section CR
variable {X : e_X} {Sh : List e_S} {o idx : Nat} {cc : ByteArray}
theorem x_rl {rest : List Value} {ad : Nat → Nat} {L k : Nat} (hr : rest.length ≤ 4) (hL : 40 ≤ L) (hk : k ≤ 32) : ((rest.map (e_cv ad)).map fun v => v.category).sum + k ≤ L := by
  have := e_rl4 (ad := ad) hr
  omega
theorem x_max (hX : e_ok o cc X Sh) (hl : Cond.methodLink (e_ow o) idx ⟨"java/lang/Math", "max", "(II)I"⟩ ∈ e_tbl) (hR : 0 + 1 ≤ (e_R X).frames ∧ 40 * (0 + 1) ≤ (e_R X).locals) : e_fo X Sh cc (idx, none, 2, f_max) := by
  intro pc lo rest M as hn hp hr hi k
  obtain ⟨x, y, rfl⟩ := e_l2 hn
  intro H locs ls hP hS hl'
  exact va_mmax hX.x hX.b hl'.1.symm hX.o (hX.t _ hl) (hX.t _ (e_tbl_at 351 (by decide +kernel) (by decide +kernel))) (hX.t _ (e_tbl_at 54 (by decide +kernel) (by decide +kernel))) (hX.t _ (e_tbl_at 352 (by decide +kernel) (by decide +kernel))) hR.1 (x_rl hr hR.2 (by decide)) hX.r.1 hX.r.2 hi (k H locs ls hP hS hl')
theorem x_min (hX : e_ok o cc X Sh) (hl : Cond.methodLink (e_ow o) idx ⟨"java/lang/Math", "min", "(II)I"⟩ ∈ e_tbl) (hR : 0 + 1 ≤ (e_R X).frames ∧ 40 * (0 + 1) ≤ (e_R X).locals) : e_fo X Sh cc (idx, none, 2, f_min) := by
  intro pc lo rest M as hn hp hr hi k
  obtain ⟨x, y, rfl⟩ := e_l2 hn
  intro H locs ls hP hS hl'
  exact va_mmin hX.x hX.b hl'.1.symm hX.o (hX.t _ hl) (hX.t _ (e_tbl_at 348 (by decide +kernel) (by decide +kernel))) (hX.t _ (e_tbl_at 54 (by decide +kernel) (by decide +kernel))) (hX.t _ (e_tbl_at 349 (by decide +kernel) (by decide +kernel))) hR.1 (x_rl hr hR.2 (by decide)) hX.r.1 hX.r.2 hi (k H locs ls hP hS hl')
theorem x_abs (hX : e_ok o cc X Sh) (hl : Cond.methodLink (e_ow o) idx ⟨"java/lang/Math", "abs", "(I)I"⟩ ∈ e_tbl) (hR : 0 + 1 ≤ (e_R X).frames ∧ 40 * (0 + 1) ≤ (e_R X).locals) : e_fo X Sh cc (idx, none, 1, f_abs) := by
  intro pc lo rest M as hn hp hr hi k
  obtain ⟨x, rfl⟩ := e_l1 hn
  intro H locs ls hP hS hl'
  exact va_mabs hX.x hX.b hl'.1.symm hX.o (hX.t _ hl) (hX.t _ (e_tbl_at 523 (by decide +kernel) (by decide +kernel))) (hX.t _ (e_tbl_at 54 (by decide +kernel) (by decide +kernel))) (hX.t _ (e_tbl_at 524 (by decide +kernel) (by decide +kernel))) hR.1 (x_rl hr hR.2 (by decide)) hX.r.1 hX.r.2 hi (k H locs ls hP hS hl')
/-- arraycopy of ints between two rows -/
theorem e_copyi {a b n0 n1 pc : Nat} {sp dp n : Int32} {rest : List Value} {lo : List (Option Value)} {M : e_M} (hX : e_ok o cc X Sh) (hl : Cond.methodLink (e_ow o) idx arraycopyName ∈ e_tbl) (hR : 0 + 1 ≤ (e_R X).frames ∧ 40 * (0 + 1) ≤ (e_R X).locals) (ha : Sh[a]? = some (.inl (0, n0, none))) (hb : Sh[b]? = some (.inl (0, n1, none))) (h1 : ¬ sp < 0) (h2 : ¬ dp < 0) (h3 : ¬ n < 0) (h4 : sp.toNatClampNeg + n.toNatClampNeg ≤ n0) (h5 : dp.toNatClampNeg + n.toNatClampNeg ≤ n1) (hr : rest.length ≤ 4) (hd : decode cc pc = .ok (.invokestatic idx, 3))
    (k : e_E X Sh (pc + 3) lo rest (e_up M b (va_cpy (M a) (M b) sp.toNatClampNeg dp.toNatClampNeg n.toNatClampNeg))) : e_E X Sh pc lo (.int n :: .int dp :: .ref b :: .int sp :: .ref a :: rest) M := by
  intro H locs ls hP hS hl'
  refine va_copyi hX.x hX.b hl'.1.symm hX.o (hX.t _ hl) (hX.t _ (e_tbl_at 463 (by decide +kernel) (by decide +kernel))) (hX.t _ (e_tbl_at 462 (by decide +kernel) (by decide +kernel))) (hX.t _ (e_tbl_at 55 (by decide +kernel) (by decide +kernel))) hX.k hP (hX.d M) hS a b 0 0 (e_cz_at ha) (e_cz_at hb) (ty := .int) rfl rfl rfl h1 h2 h3 h4 h5 (fun _ _ => rfl) hR.1 (x_rl hr hR.2 (by decide)) hd (fun H1 locs1 hP1 hD1 hS1 => k H1 locs1 ls ?_ hS1 hl')
  rw [← e_cz_set (M := M) hb (show _ = e_ce _ _ _ _ from rfl) (fun c hc => by simp [e_up, hc])]
  have : e_up M b (va_cpy (M a) (M b) sp.toNatClampNeg dp.toNatClampNeg n.toNatClampNeg) b = va_cpy (M a) (M b) sp.toNatClampNeg dp.toNatClampNeg n.toNatClampNeg := by simp [e_up]
  rw [this]
  exact hP1
/-- a function over a part of the world, seen from the whole -/
def e_lf (is : List Nat) (n : Nat) (f : List Int32 → e_M → Prop × Option Int32 × e_M) : List Int32 → e_M → Prop × Option Int32 × e_M := fun as M => ((f as (fun j => M (e_io is j))).1, (f as (fun j => M (e_io is j))).2.1, e_mg is n M (f as (fun j => M (e_io is j))).2.2)
theorem e_foVs {is : List Nat} {Sh0 : List e_S} {a b ci d n nL nn : Nat} {fs : List (Option Value)} {T : u_T} {N : Nat} {y : MethodName} {cy : ByteArray} {rt : Option FieldType} {f : List Int32 → e_M → Prop × Option Int32 × e_M} (hX : e_ok o cc X Sh) (hs : e_sb is Sh Sh0 = true) (hw : e_wV o idx y cy nL rt n) (ha : Sh0[a]? = some (.inr (ci, fs))) (hc : vwCl[ci]? = some (y.cls, T, N)) (hb : e_io is a = b) (hnn : Sh0.length = nn) (hR : d + 1 ≤ (e_R X).frames ∧ 40 * (d + 1) ≤ (e_R X).locals) (hC : ∀ (as : List Int32) (M : e_M), as.length = n → (f as M).1 → e_C (e_g X) d y cy nL rt (.ref a :: as.map Value.int) Sh0 M (e_po (f as M))) : e_fo X Sh cc (idx, some b, n, e_lf is nn f) := by
  subst hb hnn
  intro pc lo rest M as hn hp hr hi k
  have hcv : (as.map Value.int).map (e_cv (e_io is)) = as.map Value.int := by rw [List.map_map]; exact List.map_congr_left (fun _ _ => rfl)
  have h := e_callV (is := is) (M := M) (lo := lo) (rest := rest) (as0 := as.map Value.int) hX hs (hC as _ hn hp) hw ha hc (by rw [List.length_map]; exact hn) hR hr hi (fun r N h => by
    obtain ⟨rfl, rfl⟩ := h
    have e : (((f as fun j => M (e_io is j)).2.1.map Value.int).map (e_cv (e_io is))).toList ++ rest = e_ps (f as fun j => M (e_io is j)).2.1 rest := by
      cases (f as fun j => M (e_io is j)).2.1 <;> rfl
    rw [e]
    exact k)
  rw [hcv] at h
  exact h
end CR
section CG
variable {X : e_X} {Sh : List e_S} {nL : Nat} {rt : Option FieldType} {fn : List e_F} {P : Option Value → e_M → Prop} {k : Nat → List (Option Value) → List Value → e_M → Prop} {pc : Nat} {lo : List (Option Value)} {st : List Value} {M : e_M} {o : Nat} {i : Int32}
theorem g_arr {a : Nat} (h : Sh.length ≤ 1000) (ha : 1000 ≤ a) : e_arr Sh a = none := by
  unfold e_arr
  rw [List.getElem?_eq_none (by omega)]
theorem g_t1000 (h : Sh.length ≤ 1000) : e_sx X Sh o nL rt fn P k .iaload pc 1 lo (.int i :: .ref 1000 :: st) M = (vp_in i 5 ∧ k (pc + 1) lo (.int (e_t0.getD i.toNatClampNeg 0) :: st) M) := by
  simp only [e_sx, e_ar, g_arr h (Nat.le_refl _), true_and]
  rfl
theorem g_t1001 (h : Sh.length ≤ 1000) : e_sx X Sh o nL rt fn P k .iaload pc 1 lo (.int i :: .ref 1001 :: st) M = (vp_in i 5 ∧ k (pc + 1) lo (.int (e_t1.getD i.toNatClampNeg 0) :: st) M) := by
  simp only [e_sx, e_ar, g_arr (a := 1001) h (by decide), true_and]
  rfl
theorem g_t1002 (h : Sh.length ≤ 1000) : e_sx X Sh o nL rt fn P k .iaload pc 1 lo (.int i :: .ref 1002 :: st) M = (vp_in i 6 ∧ k (pc + 1) lo (.int (e_t2.getD i.toNatClampNeg 0) :: st) M) := by
  simp only [e_sx, e_ar, g_arr (a := 1002) h (by decide), true_and]
  rfl
theorem g_tl1002 (h : Sh.length ≤ 1000) : e_sx X Sh o nL rt fn P k .arraylength pc 1 lo (.ref 1002 :: st) M = k (pc + 1) lo (.int 6 :: st) M := by
  simp only [e_sx, e_r1, List.getElem?_eq_none (show Sh.length ≤ 1002 by omega), true_and]
  rfl
end CG
