/-! ===== contracts and calls ===== -/
def e_AA (ad : Nat → Nat) (n : Nat) : Nat → Prop := fun q => ∃ i, i < n ∧ q = ad i
def e_rm (d : Nat) : Room := { frames := d, cells := 0, slots := 0, locals := 40 * d }
def e_Pc (g : e_G) (ad : Nat → Nat) (as : List Value) (Sh : List e_S) (M : e_M) : Array Value → State → Prop :=
  va_Pc (as.map (e_cv ad)) (fun U => va_P g.2.1 vwCl (e_cz ad g.2.2 M 0 Sh) U.heap ∧ va_K g.2.1 vwCl (e_TT g.2.2) U ∧ (∀ i j, i < Sh.length → j < Sh.length → ad i = ad j → i = j) ∧ e_kk ad (e_AA ad Sh.length) U U.heap)
def e_Qc (g : e_G) (ad : Nat → Nat) (Sh : List e_S) (P : Option Value → e_M → Prop) : Array Value → State → Outcome → State → Prop :=
  fun _ s0 oc t => (∃ (r : Option Value) (M' : e_M), oc = .returned (r.map (e_cv ad)) ∧ P r M' ∧ va_P g.2.1 vwCl (e_cz ad g.2.2 M' 0 Sh) t.heap) ∧ va_F (e_AA ad Sh.length) s0 t
/-- a method's contract: from the memory M it returns r with the memory M', so that P r M' -/
def e_C (g : e_G) (d : Nat) (y : MethodName) (cc : ByteArray) (nL : Nat) (rt : Option FieldType) (as : List Value) (Sh : List e_S) (M : e_M) (P : Option Value → e_M → Prop) : Prop :=
  ∀ ad : Nat → Nat, Met g.1 y (.code y cc nL rt :: e_tbl) (e_rm d) (e_Pc g ad as Sh M) (e_Qc g ad Sh P) 0 0 (e_AA ad Sh.length)
/-- which return fits an answer -/
def e_rk (cc : ByteArray) (pc : Nat) (rt : Option FieldType) (r : Option Value) : Prop := match r with
  | some (.int v) => decode cc pc = .ok (.ireturn, 1) ∧ ∃ ty, rt = some ty ∧ e_nr ty v
  | some (.long _) => decode cc pc = .ok (.lreturn, 1) ∧ rt = some .long
  | some (.ref _) => decode cc pc = .ok (.areturn, 1) ∧ ∃ n, rt = some (.object n)
  | none => decode cc pc = .ok (.return_, 1) ∧ rt = none
  | _ => False
def e_en (X : e_X) (Sh : List e_S) (cc : ByteArray) (rt : Option FieldType) (P : Option Value → e_M → Prop) : Prop := ∀ (pc : Nat) (lo : List (Option Value)) (M : e_M) (r : Option Value), e_rk cc pc rt r → P r M → e_E X Sh pc lo r.toList M
theorem e_lz_args (ad : Nat → Nat) : ∀ (as : List Value) (i n : Nat), (∀ v ∈ as, v.category = 1) → e_lz ad i (as.map some ++ List.replicate n none) = lv_args i (as.map (e_cv ad)) := by
  intro as
  induction as with
  | nil =>
    intro i n _
    show e_lz ad i (List.replicate n none) = []
    induction n generalizing i with
    | zero => rfl
    | succ n ih => exact ih (i + 1)
  | cons v r ih =>
    intro i n h
    have hv : v.category = 1 := h v List.mem_cons_self
    have h2 := ih (i + 1) n (fun w hw => h w (List.mem_cons_of_mem _ hw))
    simp only [List.map_cons, List.cons_append, e_lz, lv_args, e_cv_cat, hv]
    rw [h2, if_neg (by decide)]
theorem e_sl_len : ∀ (as : List Value), (∀ v ∈ as, v.category = 1) → (lg_sl as).length = as.length := by
  intro as
  induction as with
  | nil => intro _; rfl
  | cons v r ih =>
    intro h
    have hv : v.category = 1 := h v List.mem_cons_self
    have h2 := ih (fun w hw => h w (List.mem_cons_of_mem _ hw))
    simp only [lg_sl, List.flatMap_cons, hv, List.length_append] at h2 ⊢
    simp [h2]
    omega
theorem e_C_of {g : e_G} {d : Nat} {y : MethodName} {cc : ByteArray} {nL : Nat} {rt : Option FieldType} {as : List Value} {Sh : List e_S} {M : e_M} {P : Option Value → e_M → Prop} (o : Nat) (hy : plainName y.cls = true) (ho : y.cls = e_ow o) (hcat : ∀ v ∈ as, v.category = 1) (hn : as.length ≤ nL)
    (body : ∀ X : e_X, e_ok o cc X Sh → e_en X Sh cc rt P → (e_c X).maxLocals = nL → e_g X = g → e_R X = e_rm d → e_E X Sh 0 (as.map some ++ List.replicate (nL - as.length) none) [] M) : e_C g d y cc nL rt as Sh M P := by
  intro ad
  refine Met.ofW (cc := cc) (maxL := nL) (ret := rt) hy rfl ?_
  intro p e s m args below meth c s₁ B hml hv
  obtain ⟨rfl, hP, hK, hi, hkk⟩ := hv
  have hcat2 : ∀ v ∈ as.map (e_cv ad), v.category = 1 := fun v hv => by
    obtain ⟨w, hw, rfl⟩ := List.mem_map.mp hv
    rw [e_cv_cat]; exact hcat w hw
  have hts : ∀ w ∈ e_tbl, w.before (as.map (e_cv ad)).toArray s = true := fun w hw => atoms_spec (ws := .code y cc nL rt :: e_tbl) B.pre w (List.mem_cons_of_mem _ hw)
  have hown : s.vm.findClass (e_ow o) = some m.cls := by rw [← ho]; exact findClass_of_methodNamed B.named
  have hlocks : meth.locks = false := B.notSynchronized
  have hx := B.exec
  have hb := B.bytes
  have hr : meth.sig.returnType = rt := B.returns
  let X : e_X := ((p, e, (headSpec (.code y cc nL rt :: e_tbl) (e_rm d)).room, s, m, (as.map (e_cv ad)).toArray, below), (meth, c, 0, 0, MQ below (e_Qc g ad Sh P) (as.map (e_cv ad)).toArray s 0 0 (e_AA ad Sh.length)), (g, ad, e_AA ad Sh.length))
  have hX : e_ok o cc X Sh := ⟨hx, hb, hown, hts, hK, hi, fun i h => ⟨i, h, rfl⟩, hkk, Nat.zero_le _, Nat.zero_le _⟩
  have hE : e_en X Sh cc rt P := by
    intro pc lo M' r hrk hPr H locs ls hP' hS hl
    have hq : ∀ t : State, t.heap = H → s.WarmedH t.vm → e_Qc g ad Sh P (as.map (e_cv ad)).toArray s (.returned (r.map (e_cv ad))) t := fun t ht _ => ⟨⟨r, M', rfl, hPr, by rw [ht]; exact hP'⟩, hS.F ht⟩
    match r, hrk, hq with
    | some (.int v), ⟨hd, ty, e1, e2⟩, hq => exact W.zret (ty := ty) hx hb (hr.trans e1) e2 hq hS.2.2 hd
    | some (.long v), ⟨hd, e1⟩, hq => exact W.lret hx hb (hr.trans e1) hq hS.2.2 hd
    | some (.ref v), ⟨hd, n, e1⟩, hq => exact W.aret hx hb (hr.trans e1) (Or.inl ⟨n, rfl⟩) (Or.inr ⟨_, rfl⟩) hq hS.2.2 hd
    | none, ⟨hd, e1⟩, hq => exact W.vret hx hb (hr.trans e1) hq hS.2.2 hd
  have K := body X hX hE hml rfl rfl
  have hle : (lg_sl (as.map (e_cv ad))).length ≤ nL := by rw [e_sl_len _ hcat2, List.length_map]; exact hn
  rw [lg_entry_eq]
  have hl := lv_entry (as.map (e_cv ad)) (n := nL) hle
  refine K s.heap [] _ hP va_S.rf ?_
  rw [e_lz_args _ _ _ _ hcat, show (e_c X).maxLocals = nL from hml]
  exact hl
theorem e_Pc_blind (g : e_G) (ad : Nat → Nat) (as : List Value) (Sh : List e_S) (M : e_M) : FrameBlind (e_Pc g ad as Sh M) := by
  intro a U f mk h
  obtain ⟨h0, h1, h2, h3, h4⟩ := h
  exact ⟨h0, h1, va_K.moved (u := U) (U := U.calling f mk a) (Vm.Alike.refl U.vm) h2, h3, e_kk_vm (s := U) (U := U.calling f mk a) rfl h4⟩
/-! a callee's world is a part of the caller's: its cell j is the caller's cell is[j] -/
def e_io (is : List Nat) (j : Nat) : Nat := if 1000 ≤ j then j else is.getD j 0
theorem e_io_big (is : List Nat) {j : Nat} (h : 1000 ≤ j) : e_io is j = j := if_pos h
def e_rs (is : List Nat) (x : e_S) : e_S := match x with
  | .inl (t, n, none) => .inl (t, n, none)
  | .inl (t, n, some L) => .inl (t, n, some (L.map (fun o => o.map (e_io is))))
  | .inr (ci, fs) => .inr (ci, fs.map (fun o => o.map (e_cv (e_io is))))
theorem e_cv_cv (ad : Nat → Nat) (is : List Nat) (v : Value) : e_cv ad (e_cv (e_io is) v) = e_cv (fun j => ad (e_io is j)) v := by cases v <;> rfl
theorem e_fv_rs (ad : Nat → Nat) (is : List Nat) (m : Nat → Int32) : ∀ (fs : List (Option Value)) (k : Nat), e_fv ad m k (fs.map (fun o => o.map (e_cv (e_io is)))) = e_fv (fun j => ad (e_io is j)) m k fs := by
  intro fs
  induction fs with
  | nil => intro k; rfl
  | cons o r ih => intro k; cases o <;> simp [e_fv, ih (k + 1), e_cv_cv]
theorem e_ce_rs (ad : Nat → Nat) (cA : Nat → ClassId) (is : List Nat) (x : e_S) (m : Nat → Int32) : e_ce ad cA (e_rs is x) m = e_ce (fun j => ad (e_io is j)) cA x m := by
  match x with
  | .inl (t, n, none) => rfl
  | .inl (t, n, some L) =>
    have e : (fun i => ((L.map (fun o => o.map (e_io is))).getD i none).map ad) = fun i => (L.getD i none).map (fun j => ad (e_io is j)) := by
      funext i
      simp only [List.getD_eq_getElem?_getD, List.getElem?_map]
      cases L[i]? with
      | none => rfl
      | some o => cases o <;> rfl
    show (.inl (cA t, n, .inr (.inr (.inr (.inr (fun i => ((L.map (fun o => o.map (e_io is))).getD i none).map ad))))) : va_E) = .inl (cA t, n, .inr (.inr (.inr (.inr (fun i => (L.getD i none).map (fun j => ad (e_io is j)))))))
    rw [e]
  | .inr (ci, fs) =>
    show (.inr (ci, e_fv ad m 0 (fs.map (fun o => o.map (e_cv (e_io is))))) : va_E) = .inr (ci, e_fv (fun j => ad (e_io is j)) m 0 fs)
    rw [e_fv_rs]
def e_so : Option e_S → Option e_S → Bool
  | some (.inl a), some (.inl b) => decide (a = b)
  | some (.inr a), some (.inr b) => decide (a = b)
  | none, none => true
  | _, _ => false
theorem e_so_eq : ∀ {a b : Option e_S}, e_so a b = true → a = b
  | some (.inl a), some (.inl b), h => by simp [e_so] at h; rw [h]
  | some (.inr a), some (.inr b), h => by simp [e_so] at h; rw [h]
  | none, none, _ => rfl
  | some (.inl _), some (.inr _), h => by simp [e_so] at h
  | some (.inr _), some (.inl _), h => by simp [e_so] at h
  | some (.inl _), none, h => by simp [e_so] at h
  | some (.inr _), none, h => by simp [e_so] at h
  | none, some (.inl _), h => by simp [e_so] at h
  | none, some (.inr _), h => by simp [e_so] at h
def e_fx : List Nat → Nat → Nat → Option Nat
  | [], _, _ => none
  | a :: r, i, k => if k = a then some i else e_fx r (i + 1) k
theorem e_fx_some : ∀ {l : List Nat} {i k j : Nat}, e_fx l i k = some j → ∃ t, j = i + t ∧ l[t]? = some k := by
  intro l
  induction l with
  | nil => intro i k j h; simp [e_fx] at h
  | cons a r ih =>
    intro i k j h
    unfold e_fx at h
    split at h
    · rename_i e
      cases h
      exact ⟨0, rfl, by simp [e]⟩
    · obtain ⟨t, h1, h2⟩ := ih h
      exact ⟨t + 1, by omega, by simpa using h2⟩
theorem e_fx_none : ∀ {l : List Nat} {i k : Nat}, e_fx l i k = none → k ∉ l := by
  intro l
  induction l with
  | nil => intro i k _; simp
  | cons a r ih =>
    intro i k h
    unfold e_fx at h
    split at h
    · cases h
    · rename_i e
      simp only [List.mem_cons, not_or]
      exact ⟨e, ih h⟩
/-- the part is there, its cells are apart -/
def e_sb (is : List Nat) (Sh Sh0 : List e_S) : Bool := (List.range Sh0.length).all (fun j => e_so (Sh[is.getD j 0]?) ((Sh0[j]?).map (e_rs is))) && (decide (is.take Sh0.length).Nodup && (decide (Sh0.length ≤ is.length) && decide (Sh0.length ≤ 1000)))
theorem e_sb_at {is : List Nat} {Sh Sh0 : List e_S} (h : e_sb is Sh Sh0 = true) {j : Nat} {x : e_S} (hj : Sh0[j]? = some x) : j < Sh0.length ∧ is[j]? = some (e_io is j) ∧ Sh[e_io is j]? = some (e_rs is x) := by
  simp only [e_sb, Bool.and_eq_true, List.all_eq_true, List.mem_range, decide_eq_true_eq] at h
  obtain ⟨h1, h2, h3, h4⟩ := h
  have hl : j < Sh0.length := (List.getElem?_eq_some_iff.mp hj).1
  have e : e_io is j = is.getD j 0 := if_neg (by omega)
  have h5 := e_so_eq (h1 j hl)
  rw [hj, ← e] at h5
  refine ⟨hl, ?_, h5⟩
  rw [e, List.getD_eq_getElem?_getD, List.getElem?_eq_getElem (by omega)]
  rfl
theorem e_sb_len {is : List Nat} {Sh Sh0 : List e_S} (h : e_sb is Sh Sh0 = true) {j : Nat} (hj : j < Sh0.length) : is[j]? = some (e_io is j) ∧ e_io is j < Sh.length := by
  obtain ⟨a, b, c⟩ := e_sb_at h (List.getElem?_eq_getElem hj)
  exact ⟨b, (List.getElem?_eq_some_iff.mp c).1⟩
theorem e_sb_inj {is : List Nat} {Sh Sh0 : List e_S} (h : e_sb is Sh Sh0 = true) {i j : Nat} (hi : i < Sh0.length) (hj : j < Sh0.length) (e : e_io is i = e_io is j) : i = j := by
  obtain ⟨a1, -⟩ := e_sb_len h hi
  obtain ⟨b1, -⟩ := e_sb_len h hj
  simp only [e_sb, Bool.and_eq_true, List.all_eq_true, List.mem_range, decide_eq_true_eq] at h
  obtain ⟨h1, h2, h3, h4⟩ := h
  have li : i < (is.take Sh0.length).length := by rw [List.length_take]; omega
  have lj : j < (is.take Sh0.length).length := by rw [List.length_take]; omega
  refine (List.getElem?_inj li h2).mp ?_
  rw [List.getElem?_take_of_lt hi, List.getElem?_take_of_lt hj, a1, b1, e]
/-- the caller's memory behind the call -/
def e_mg (is : List Nat) (n : Nat) (M N : e_M) : e_M := fun k => match e_fx (is.take n) 0 k with
  | some j => N j
  | none => M k
theorem e_mg_in {is : List Nat} {Sh Sh0 : List e_S} (h : e_sb is Sh Sh0 = true) (M N : e_M) {j : Nat} (hj : j < Sh0.length) : e_mg is Sh0.length M N (e_io is j) = N j := by
  obtain ⟨a1, -⟩ := e_sb_len h hj
  have hm : e_io is j ∈ is.take Sh0.length := List.mem_of_getElem? (i := j) (by rw [List.getElem?_take_of_lt hj]; exact a1)
  unfold e_mg
  cases hx : e_fx (is.take Sh0.length) 0 (e_io is j) with
  | none => exact absurd hm (e_fx_none hx)
  | some q =>
    obtain ⟨t, h1, h2⟩ := e_fx_some hx
    have ht : t < Sh0.length := by
      have := (List.getElem?_eq_some_iff.mp h2).1
      rw [List.length_take] at this
      omega
    rw [List.getElem?_take_of_lt ht, (e_sb_len h ht).1] at h2
    have := e_sb_inj h ht hj (Option.some.inj h2)
    show N q = N j
    rw [h1, this, Nat.zero_add]
theorem e_mg_out {is : List Nat} {n : Nat} {M N : e_M} {k : Nat} (h : k ∉ is.take n) : e_mg is n M N k = M k := by
  unfold e_mg
  cases hx : e_fx (is.take n) 0 k with
  | none => rfl
  | some q =>
    obtain ⟨t, -, h2⟩ := e_fx_some hx
    exact absurd (List.mem_of_getElem? h2) h
theorem e_sub_P {D : va_G} {cA : Nat → ClassId} {ad : Nat → Nat} {is : List Nat} {Sh Sh0 : List e_S} {M : e_M} {H : Heap} (h : e_sb is Sh Sh0 = true) (hP : va_P D vwCl (e_cz ad cA M 0 Sh) H) : va_P D vwCl (e_cz (fun j => ad (e_io is j)) cA (fun j => M (e_io is j)) 0 Sh0) H := by
  intro k q hq
  have hl : k < Sh0.length := by rw [← e_cz_len (fun j => ad (e_io is j)) cA (fun j => M (e_io is j)) Sh0 0]; exact (List.getElem?_eq_some_iff.mp hq).1
  obtain ⟨x, hx⟩ : ∃ x, Sh0[k]? = some x := ⟨_, List.getElem?_eq_getElem hl⟩
  obtain ⟨-, -, h3⟩ := e_sb_at h hx
  rw [e_cz_at hx] at hq
  cases hq
  have h4 := hP _ _ (e_cz_at (ad := ad) (cA := cA) (M := M) h3)
  rw [e_ce_rs] at h4
  exact h4
theorem e_mg_P {D : va_G} {cA : Nat → ClassId} {ad : Nat → Nat} {is : List Nat} {Sh Sh0 : List e_S} {M N : e_M} {H H1 : Heap} (h : e_sb is Sh Sh0 = true) (hi : ∀ i j, i < Sh.length → j < Sh.length → ad i = ad j → i = j) (hP : va_P D vwCl (e_cz ad cA M 0 Sh) H) (hN : va_P D vwCl (e_cz (fun j => ad (e_io is j)) cA N 0 Sh0) H1) (hk : ∀ q : Nat, q < H.size → ¬ e_AA (fun j => ad (e_io is j)) Sh0.length q → H1[q]? = H[q]?) : va_P D vwCl (e_cz ad cA (e_mg is Sh0.length M N) 0 Sh) H1 := by
  intro k q hq
  have hl : k < Sh.length := by rw [← e_cz_len ad cA (e_mg is Sh0.length M N) Sh 0]; exact (List.getElem?_eq_some_iff.mp hq).1
  obtain ⟨x, hx⟩ : ∃ x, Sh[k]? = some x := ⟨_, List.getElem?_eq_getElem hl⟩
  rw [e_cz_at hx] at hq
  cases hq
  by_cases hm : k ∈ is.take Sh0.length
  · obtain ⟨j, hj⟩ := List.getElem?_of_mem hm
    have hj0 : j < Sh0.length := by
      have := (List.getElem?_eq_some_iff.mp hj).1
      rw [List.length_take] at this
      omega
    rw [List.getElem?_take_of_lt hj0] at hj
    obtain ⟨y, hy⟩ : ∃ y, Sh0[j]? = some y := ⟨_, List.getElem?_eq_getElem hj0⟩
    obtain ⟨-, h2, h3⟩ := e_sb_at h hy
    rw [hj] at h2
    have e : k = e_io is j := Option.some.inj h2
    rw [e] at hx ⊢
    rw [h3] at hx
    cases hx
    have h4 := hN _ _ (e_cz_at (ad := fun j => ad (e_io is j)) (cA := cA) (M := N) hy)
    rw [e_mg_in h M N hj0, e_ce_rs]
    exact h4
  · rw [e_mg_out hm]
    have h4 := hP _ _ (e_cz_at (ad := ad) (cA := cA) (M := M) hx)
    refine h4.kept (hk _ h4.lt ?_)
    rintro ⟨j, hj, e⟩
    obtain ⟨a1, a2⟩ := e_sb_len h hj
    have := hi _ _ hl a2 e
    exact hm (List.mem_of_getElem? (i := j) (by rw [List.getElem?_take_of_lt hj, this]; exact a1))
section EC
variable {X : e_X} {Sh Sh0 : List e_S} {pc : Nat} {lo : List (Option Value)} {M : e_M} {o : Nat} {cc : ByteArray} {is : List Nat}
/-- behind a call: what came back beside the rest -/
theorem e_after {as0 rest st0 : List Value} {P : Option Value → e_M → Prop} {H : Heap} {locs : List Loc} {ls : Array Slot} (hX : e_ok o cc X Sh) (hs : e_sb is Sh Sh0 = true) (hP : va_P (e_D X) vwCl (e_cz (e_ad X) (e_cA X) M 0 Sh) H) (hS : va_S (e_A X) (e_s X).heap H locs) (hl : lv_has ls (e_c X).maxLocals (e_lz (e_ad X) 0 lo))
    (hr : va_Run (e_p X) (e_l X) (e_e X) (e_R X) (e_s X) (e_m X) (e_a X) (e_b X) (e_me X) (e_c X) H locs (e_k X) (e_n X) 0 0 (F0 (e_m X) pc ls st0) (rest.map (e_cv (e_ad X))) (e_Qc (e_g X) (fun j => e_ad X (e_io is j)) Sh0 P ((as0.map (e_cv (fun j => e_ad X (e_io is j)))).toArray)) (e_AA (fun j => e_ad X (e_io is j)) Sh0.length))
    (k : ∀ (r : Option Value) (N : e_M), P r N → e_E X Sh (pc + 3) lo ((r.map (e_cv (e_io is))).toList ++ rest) (e_mg is Sh0.length M N)) :
    W (e_p X) (e_l X) (e_e X) (e_R X) (e_s X) (e_m X) (e_a X) (e_b X) (e_me X) (e_c X) H locs (e_k X) (e_n X) (e_Q X) (F0 (e_m X) pc ls st0) := by
  intro T hT Y
  obtain ⟨v, st₀, t, T', L, h0, Y', hL, e1, e2, ⟨⟨r, N, hv, hp, hb⟩, hz, hk⟩, st⟩ := hr T hT Y
  have hAA : ∀ q, e_AA (fun j => e_ad X (e_io is j)) Sh0.length q → e_A X q := by
    rintro q ⟨j, hj, rfl⟩
    exact hX.a _ (e_sb_len hs hj).2
  have ev : v = r.map (e_cv (fun j => e_ad X (e_io is j))) := by injection hv
  rw [h0] at hz hk
  have hP1 : va_P (e_D X) vwCl (e_cz (e_ad X) (e_cA X) (e_mg is Sh0.length M N) 0 Sh) T'.heap := by
    rw [e1]
    exact e_mg_P hs hX.i hP hb hk
  have hS1 : va_S (e_A X) (e_s X).heap T'.heap (locs ++ L) := ⟨Nat.le_trans hS.1 (by rw [e1]; exact hz), fun q h1 h2 => by rw [e1, hk q (Nat.lt_of_lt_of_le h1 hS.1) (fun z => h2 (hAA q z))]; exact hS.2.1 q h1 h2, fun q hq => by
      rcases List.mem_append.mp hq with h | h
      · exact hS.2.2 q h
      · exact hAA _ (hL q h)⟩
  obtain ⟨t2, a1, b1⟩ := k r N hp T'.heap (locs ++ L) ls hP1 hS1 hl T' rfl Y'
  refine ⟨t2, st t2 ?_, b1⟩
  have es : v.toList ++ rest.map (e_cv (e_ad X)) = ((r.map (e_cv (e_io is))).toList ++ rest).map (e_cv (e_ad X)) := by
    rw [ev]
    cases r with
    | none => simp
    | some w => simp [e_cv_cv]
  rw [show ({ F0 (e_m X) pc ls st0 with pc := pc + 3, stack := v.toList ++ rest.map (e_cv (e_ad X)) } : JFrame) = F0 (e_m X) (pc + 3) ls (((r.map (e_cv (e_io is))).toList ++ rest).map (e_cv (e_ad X))) from by rw [← es]]
  exact a1
theorem e_pre {as0 : List Value} {H : Heap} {locs : List Loc} (hX : e_ok o cc X Sh) (hs : e_sb is Sh Sh0 = true) (hP : va_P (e_D X) vwCl (e_cz (e_ad X) (e_cA X) M 0 Sh) H) (hS : va_S (e_A X) (e_s X).heap H locs) (U : State) (hU : U.heap = H) (hW : (e_s X).WarmedH U.vm) : e_Pc (e_g X) (fun j => e_ad X (e_io is j)) as0 Sh0 (fun j => M (e_io is j)) ((as0.map (e_cv (fun j => e_ad X (e_io is j)))).toArray) U := by
  refine ⟨rfl, by rw [hU]; exact e_sub_P hs hP, va_K.moved hW.alike hX.k, fun i j hi hj e => ?_, ?_⟩
  · exact e_sb_inj hs hi hj (hX.i _ _ (e_sb_len hs hi).2 (e_sb_len hs hj).2 e)
  · refine e_kk_ad (ad := e_ad X) (fun j hj => by rw [e_io_big is hj]) ?_
    rw [hU]
    refine e_kk_go hW hS.2.1 ?_ hX.c
    rintro q ⟨j, hj, rfl⟩
    exact hX.a _ (e_sb_len hs hj).2
def e_nm (y : MethodName) (n : Nat) : Prop := y.cls ≠ "java/lang/invoke/MethodHandle" ∧ y.cls ≠ "java/lang/invoke/VarHandle" ∧ (parseMethodDescriptor y.desc).map (fun d => d.parameters.length) = some n
def e_wV (o idx : Nat) (y : MethodName) (cy : ByteArray) (nL : Nat) (rt : Option FieldType) (n : Nat) : Prop := (Cond.methodLink (e_ow o) idx y ∈ e_tbl ∧ Cond.instanceMethod y ∈ e_tbl ∧ Cond.selects y.cls y y ∈ e_tbl ∧ Cond.initialized y.cls ∈ e_tbl ∧ Cond.code y cy nL rt ∈ e_tbl) ∧ e_nm y n ∧ nL ≤ 20
def e_wS (o idx : Nat) (y : MethodName) (cy : ByteArray) (nL : Nat) (rt : Option FieldType) (n : Nat) : Prop := (Cond.methodLink (e_ow o) idx y ∈ e_tbl ∧ Cond.static y ∈ e_tbl ∧ Cond.initialized y.cls ∈ e_tbl ∧ Cond.code y cy nL rt ∈ e_tbl) ∧ e_nm y n ∧ nL ≤ 20
def e_wN (o idx : Nat) (y : MethodName) (cy : ByteArray) (nL : Nat) (rt : Option FieldType) (n : Nat) : Prop := ((e_ow o, idx, y, "LastLight") ∈ e_nst ∧ Cond.static y ∈ e_tbl ∧ Cond.initialized y.cls ∈ e_tbl ∧ Cond.code y cy nL rt ∈ e_tbl) ∧ e_nm y n ∧ nL ≤ 20
theorem e_gin {ws : List Cond} {y : MethodName} {cy : ByteArray} {nL : Nat} {rt : Option FieldType} (h : ∀ w ∈ ws, w ∈ e_tbl) (hc : Cond.code y cy nL rt ∈ e_tbl) : GoodIn e_tbl (ws ++ (.code y cy nL rt :: e_tbl)) := by
  intro w hw
  have : w ∈ e_tbl := by
    rcases List.mem_append.mp hw with h1 | h1
    · exact h w h1
    · rcases List.mem_cons.mp h1 with rfl | h2
      · exact hc
      · exact h2
  exact ⟨this, e_tbl_good w this⟩
theorem e_rl4 {rest : List Value} {ad : Nat → Nat} (h : rest.length ≤ 4) : ((rest.map (e_cv ad)).map fun v => v.category).sum ≤ 8 := by
  have key : ∀ (l : List Value), ((l.map (e_cv ad)).map fun v => v.category).sum ≤ 2 * l.length := by
    intro l
    induction l with
    | nil => simp
    | cons v r ih =>
      have : (e_cv ad v).category ≤ 2 := by rcases lv_cat (e_cv ad v) with h | h <;> omega
      simp only [List.map_cons, List.sum_cons, List.length_cons] at ih ⊢
      omega
  have := key rest
  omega
theorem e_callS {d idx n nL : Nat} {y : MethodName} {cy : ByteArray} {rt : Option FieldType} {as0 rest : List Value} {P : Option Value → e_M → Prop} (hX : e_ok o cc X Sh) (hs : e_sb is Sh Sh0 = true) (hC : e_C (e_g X) d y cy nL rt as0 Sh0 (fun j => M (e_io is j)) P) (hw : e_wS o idx y cy nL rt n) (hn : as0.length = n) (hR : d + 1 ≤ (e_R X).frames ∧ 40 * (d + 1) ≤ (e_R X).locals) (hr : rest.length ≤ 4) (hd : decode cc pc = .ok (.invokestatic idx, 3))
    (k : ∀ (r : Option Value) (N : e_M), P r N → e_E X Sh (pc + 3) lo ((r.map (e_cv (e_io is))).toList ++ rest) (e_mg is Sh0.length M N)) : e_E X Sh pc lo ((as0.map (e_cv (e_io is))).reverse ++ rest) M := by
  intro H locs ls hP hS hl
  obtain ⟨⟨w1, w2, w3, w4⟩, w5, w6⟩ := hw
  refine e_after (as0 := as0) hX hs hP hS hl ?_ k
  refine va_runS (As := as0.map (e_cv (fun j => e_ad X (e_io is j)))) (n := n) (nL := (e_c X).maxLocals) ⟨hX.x, hX.b, rfl, hX.o, hX.t⟩ (hC (fun j => e_ad X (e_io is j))) (va_cwS n hX.t (e_gin (by intro w h; simp only [List.mem_cons, List.not_mem_nil, or_false] at h; rcases h with rfl | rfl | rfl <;> assumption) w4) rfl rfl rfl w5 ⟨hR.1, ?_⟩) ⟨e_Pc_blind _ _ _ _ _, fun U hU hW => e_pre hX hs hP hS U hU hW⟩ rfl (by rw [List.length_map]; exact hn) hl.1 ?_ (lv_room (e_rl4 hr)) hd ⟨hX.r.1, hX.r.2⟩
  · show 8 + (nL + 11) + 40 * d ≤ _
    have := hR.2
    omega
  · show List.map _ _ = _
    rw [List.map_append, List.map_reverse, List.map_map]
    congr 2
    exact List.map_congr_left (fun v _ => e_cv_cv _ is v)
theorem e_callN {d idx n nL : Nat} {y : MethodName} {cy : ByteArray} {rt : Option FieldType} {as0 rest : List Value} {P : Option Value → e_M → Prop} (hX : e_ok o cc X Sh) (hs : e_sb is Sh Sh0 = true) (hC : e_C (e_g X) d y cy nL rt as0 Sh0 (fun j => M (e_io is j)) P) (hw : e_wN o idx y cy nL rt n) (hn : as0.length = n) (hR : d + 1 ≤ (e_R X).frames ∧ 40 * (d + 1) ≤ (e_R X).locals) (hr : rest.length ≤ 4) (hd : decode cc pc = .ok (.invokestatic idx, 3))
    (k : ∀ (r : Option Value) (N : e_M), P r N → e_E X Sh (pc + 3) lo ((r.map (e_cv (e_io is))).toList ++ rest) (e_mg is Sh0.length M N)) : e_E X Sh pc lo ((as0.map (e_cv (e_io is))).reverse ++ rest) M := by
  intro H locs ls hP hS hl
  obtain ⟨⟨w1, w2, w3, w4⟩, w5, w6⟩ := hw
  have hN : va_Nw (.methodLinkNest (e_ow o) idx y "LastLight") (e_s X) := hX.c.2.2.2.2.2.2 _ w1
  refine e_after (as0 := as0) hX hs hP hS hl ?_ k
  refine va_runSN (As := as0.map (e_cv (fun j => e_ad X (e_io is j)))) (n := n) (nL := (e_c X).maxLocals) ⟨hX.x, hX.b, rfl, hX.o, hX.t⟩ (hC (fun j => e_ad X (e_io is j))) ⟨va_cnB n hX.t (e_gin (ws := []) (by intro w h; cases h) w4) rfl rfl rfl hN (hX.t _ w3) w5 ⟨hR.1, ?_⟩, hX.t _ w2, trivial⟩ ⟨e_Pc_blind _ _ _ _ _, fun U hU hW => e_pre hX hs hP hS U hU hW⟩ rfl (by rw [List.length_map]; exact hn) hl.1 ?_ (lv_room (e_rl4 hr)) hd ⟨hX.r.1, hX.r.2⟩
  · show 8 + (nL + 11) + 40 * d ≤ _
    have := hR.2
    omega
  · show List.map _ _ = _
    rw [List.map_append, List.map_reverse, List.map_map]
    congr 2
    exact List.map_congr_left (fun v _ => e_cv_cv _ is v)
theorem e_callV {d idx n nL a0 ci : Nat} {y : MethodName} {cy : ByteArray} {rt : Option FieldType} {as0 rest : List Value} {P : Option Value → e_M → Prop} {fs : List (Option Value)} {T : u_T} {N : Nat} (hX : e_ok o cc X Sh) (hs : e_sb is Sh Sh0 = true) (hC : e_C (e_g X) d y cy nL rt (.ref a0 :: as0) Sh0 (fun j => M (e_io is j)) P) (hw : e_wV o idx y cy nL rt n) (ha : Sh0[a0]? = some (.inr (ci, fs))) (hc : vwCl[ci]? = some (y.cls, T, N)) (hn : as0.length = n) (hR : d + 1 ≤ (e_R X).frames ∧ 40 * (d + 1) ≤ (e_R X).locals) (hr : rest.length ≤ 4) (hd : decode cc pc = .ok (.invokevirtual idx, 3))
    (k : ∀ (r : Option Value) (N : e_M), P r N → e_E X Sh (pc + 3) lo ((r.map (e_cv (e_io is))).toList ++ rest) (e_mg is Sh0.length M N)) : e_E X Sh pc lo ((as0.map (e_cv (e_io is))).reverse ++ .ref (e_io is a0) :: rest) M := by
  intro H locs ls hP hS hl
  obtain ⟨⟨w1, w2, w3, w4, w7⟩, w5, w6⟩ := hw
  obtain ⟨-, -, g3⟩ := e_sb_at hs ha
  refine e_after (as0 := .ref a0 :: as0) hX hs hP hS hl ?_ k
  refine va_runV (C := y.cls) (b := e_ad X (e_io is a0)) (As := as0.map (e_cv (fun j => e_ad X (e_io is j)))) (n := n) (nL := (e_c X).maxLocals) ⟨hX.x, hX.b, rfl, hX.o, hX.t⟩ (hC (fun j => e_ad X (e_io is j))) (cwV n hX.t (e_gin (by intro w h; simp only [List.mem_cons, List.not_mem_nil, or_false] at h; rcases h with rfl | rfl | rfl | rfl <;> assumption) w7) rfl rfl rfl ⟨rfl, w5⟩ ⟨hR.1, ?_⟩) ⟨e_Pc_blind _ _ _ _ _, va_recv hX.k hP hc (e_cz_at g3), fun U hU hW => e_pre (as0 := .ref a0 :: as0) hX hs hP hS U hU hW⟩ rfl (by rw [List.length_map]; exact hn) hl.1 ?_ (lv_room (e_rl4 hr)) hd ⟨hX.r.1, hX.r.2⟩
  · show 8 + (nL + 11) + 40 * d ≤ _
    have := hR.2
    omega
  · show List.map _ _ = _
    rw [List.map_append, List.map_reverse, List.map_map]
    congr 2
    exact List.map_congr_left (fun v _ => e_cv_cv _ is v)
end EC
