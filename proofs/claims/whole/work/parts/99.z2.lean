/-! ===== constructors: contracts, calls, the fields and places of references ===== -/
theorem e_fv_ref {ad : Nat → Nat} {f : Nat → Int32} {fs : List (Option Value)} {j : Nat} {v : Value} (h : j < fs.length) : (e_fv ad f 0 fs).set j (e_cv ad v) = e_fv ad f 0 (fs.set j (some v)) := by
  apply List.ext_getElem?
  intro k
  by_cases hk : k = j
  · subst hk
    rw [List.getElem?_set_self (by rw [e_fv_len]; exact h), e_fv_get, List.getElem?_set_self h]
    rfl
  · rw [List.getElem?_set_ne (fun z => hk z.symm), e_fv_get, e_fv_get, List.getElem?_set_ne (fun z => hk z.symm)]
theorem e_cz_sh {ad : Nat → Nat} {cA : Nat → ClassId} {M : e_M} {Sh : List e_S} {i : Nat} {x : e_S} (h : i < Sh.length) : (e_cz ad cA M 0 Sh).set i (ad i, e_ce ad cA x (M i)) = e_cz ad cA M 0 (Sh.set i x) := by
  apply List.ext_getElem?
  intro k
  by_cases hk : k = i
  · subst hk
    rw [List.getElem?_set_self (by rw [e_cz_len]; exact h), e_cz_get, List.getElem?_set_self h]
    simp
  · rw [List.getElem?_set_ne (fun z => hk z.symm), e_cz_get, e_cz_get, List.getElem?_set_ne (fun z => hk z.symm)]
section PR
variable {X : e_X} {Sh : List e_S} {pc : Nat} {lo : List (Option Value)} {st : List Value} {M : e_M} {o : Nat} {cc : ByteArray}
theorem e_putF {a ci j b idx v : Nat} {fs : List (Option Value)} {ty0 : FieldType} (hX : e_ok o cc X Sh) (hd : decode cc pc = .ok (.putfield idx, 3)) (hk : e_lk o idx = some (ci, j, b)) (hf : ∀ (C : String) (T : u_T) (N : Nat), vwCl[ci]? = some (C, T, N) → (T j).2.2.2 = true ∧ C = e_ow o ∧ parseFieldDescriptor (T j).2.2.1 = some ty0) (hty : ∀ q : Nat, narrow ty0 (.ref q) = .ref q ∧ fits ty0 (.ref q) = true) (hs : Sh[a]? = some (.inr (ci, fs))) (hj : j < fs.length) (hi : (e_me X).name = "<init>") (k : e_E X (Sh.set a (.inr (ci, fs.set j (some (.ref v))))) (pc + 3) lo st M) : e_E X Sh pc lo (.ref v :: .ref a :: st) M := by
  obtain ⟨C, T, N, ty, h1, h2, h3, h4, h5, h6, h7, -⟩ := e_lk_ok hk
  obtain ⟨f1, f2, f3⟩ := hf C T N h1
  have hal : a < Sh.length := (List.getElem?_eq_some_iff.mp hs).1
  intro H locs ls hP hS hl
  refine va_putF (ty := ty0) (v := .ref (e_ad X v)) hX.x hX.b hX.t h3 ty h4 h5 hX.o hX.k hP (hX.d M) hS a (e_cz_at hs) h1 j h2 (hX.t _ h6) (fun x hx => by rw [h7] at hx; exact hx) f1 hi (h7.trans f2) f3 (hty _).1 (hty _).2 (by rw [e_fv_len]; exact hj) hd (fun H1 l1 hP1 _ hS1 => k H1 l1 ls ?_ hS1 hl)
  rw [← e_cz_sh hal]
  show va_P _ _ (List.set _ _ (_, .inr (ci, e_fv _ _ 0 (fs.set j (some (.ref v)))))) _
  rw [← e_fv_ref hj]
  exact hP1
theorem e_putG {a ci j b idx v : Nat} {fs : List (Option Value)} {ty0 : FieldType} (hX : e_ok o cc X Sh) (hd : decode cc pc = .ok (.putfield idx, 3)) (hk : e_lk o idx = some (ci, j, b)) (hf : ∀ (C : String) (T : u_T) (N : Nat), vwCl[ci]? = some (C, T, N) → (T j).2.2.2 = false ∧ parseFieldDescriptor (T j).2.2.1 = some ty0) (hty : ∀ q : Nat, narrow ty0 (.ref q) = .ref q ∧ fits ty0 (.ref q) = true) (hs : Sh[a]? = some (.inr (ci, fs))) (hj : j < fs.length) (k : e_E X (Sh.set a (.inr (ci, fs.set j (some (.ref v))))) (pc + 3) lo st M) : e_E X Sh pc lo (.ref v :: .ref a :: st) M := by
  obtain ⟨C, T, N, ty, h1, h2, h3, h4, h5, h6, h7, -⟩ := e_lk_ok hk
  obtain ⟨f1, f3⟩ := hf C T N h1
  have hal : a < Sh.length := (List.getElem?_eq_some_iff.mp hs).1
  intro H locs ls hP hS hl
  refine va_put (ty := ty0) (v := .ref (e_ad X v)) hX.x hX.b hX.t h3 ty h4 h5 hX.o hX.k hP (hX.d M) hS a (e_cz_at hs) h1 j h2 (hX.t _ h6) (fun x hx => by rw [h7] at hx; exact hx) f1 f3 (hty _).1 (hty _).2 (by rw [e_fv_len]; exact hj) hd (fun H1 l1 hP1 _ hS1 => k H1 l1 ls ?_ hS1 hl)
  rw [← e_cz_sh hal]
  show va_P _ _ (List.set _ _ (_, .inr (ci, e_fv _ _ 0 (fs.set j (some (.ref v)))))) _
  rw [← e_fv_ref hj]
  exact hP1
theorem e_ast {a t n v ci i' : Nat} {i : Int32} {L : List (Option Nat)} {fs : List (Option Value)} {r : vw_C} (hX : e_ok o cc X Sh) (hd : decode cc pc = .ok (.aastore, 1)) (hs : Sh[a]? = some (.inl (t, n, some L))) (ht : (e_TT (e_cA X))[t]? = some (e_cA X t, .object r.1)) (hv : Sh[v]? = some (.inr (ci, fs))) (hc : vwCl[ci]? = some r) (hi : vp_in i n) (he : i.toNatClampNeg = i') (hL : i' < L.length) (k : e_E X (Sh.set a (.inl (t, n, some (L.set i' (some v))))) (pc + 1) lo st M) : e_E X Sh pc lo (.ref v :: .int i :: .ref a :: st) M := by
  have hal : a < Sh.length := (List.getElem?_eq_some_iff.mp hs).1
  subst he
  intro H locs ls hP hS hl
  refine va_astq hX.x hX.b hX.k hP (hX.d M) hS a t v ci (e_cz_at hs) ht (e_cz_at hv) hc hi hd (fun H1 l1 hP1 _ hS1 => k H1 l1 ls ?_ hS1 hl)
  rw [← e_cz_sh hal]
  have e : va_up (fun j => (L.getD j none).map (e_ad X)) i.toNatClampNeg (some (e_ad X v)) = fun j => ((L.set i.toNatClampNeg (some v)).getD j none).map (e_ad X) := by
    funext j
    show (if j = i.toNatClampNeg then some (e_ad X v) else (L.getD j none).map (e_ad X)) = ((L.set i.toNatClampNeg (some v)).getD j none).map (e_ad X)
    rw [List.getD_eq_getElem?_getD, List.getD_eq_getElem?_getD]
    by_cases hj : j = i.toNatClampNeg
    · rw [if_pos hj, hj, List.getElem?_set_self hL]; rfl
    · rw [if_neg hj, List.getElem?_set_ne (fun z => hj z.symm)]
  rw [e] at hP1
  exact hP1
theorem e_obj {a idx : Nat} (hX : e_ok o cc X Sh) (hd : decode cc pc = .ok (.invokespecial idx, 3)) (h1 : Cond.methodLink (e_ow o) idx objectInit ∈ e_tbl) (h2 : Cond.instanceMethod objectInit ∈ e_tbl) (h3 : Cond.code objectInit ⟨#[0xb1]⟩ 1 none ∈ e_tbl) (hR : 1 ≤ (e_R X).frames ∧ 40 ≤ (e_R X).locals) (hr : st.length ≤ 4) (k : e_E X Sh (pc + 3) lo st M) : e_E X Sh pc lo (.ref a :: st) M := by
  intro H locs ls hP hS hl
  refine W.objInit hX.x hX.b hX.o (hX.t _ h1) (hX.t _ h2) (hX.t _ h3) rfl hl.1 rfl hd hR.1 ?_ (k H locs ls hP hS hl)
  have := e_rl4 (ad := e_ad X) hr
  show 2 * 0 + _ + 12 ≤ _
  omega
end PR
theorem e_ho {Sh Sh' : List e_S} {l : List Nat} (h : (List.range Sh.length).all (fun k => l.contains k || e_so Sh'[k]? Sh[k]?) = true) (k : Nat) (hk : k < Sh.length) (hn : k ∉ l) : Sh'[k]? = Sh[k]? := by
  have := List.all_eq_true.mp h k (List.mem_range.mpr hk)
  rw [Bool.or_eq_true] at this
  rcases this with z | z
  · exact absurd (by simpa using z) hn
  · exact e_so_eq z
theorem e_gr_c {X X' : e_X} {n n' : Nat} (h : e_gr X n X' n') : e_me X' = e_me X ∧ e_c X' = e_c X ∧ e_R X' = e_R X := ⟨h.2.1.1, h.2.1.2.1, by unfold e_R; rw [h.1]⟩
theorem e_gr_eq {X X' : e_X} {n n' : Nat} (h : e_gr X n X' n') : X' = (X.1, (e_me X, e_c X, e_k X', e_n X', e_Q X), (e_g X, e_ad X', e_A X)) := by
  obtain ⟨x1, ⟨me', c', k', n2, Q'⟩, ⟨g', ad', A'⟩⟩ := X'
  obtain ⟨h1, ⟨h2, h3, h4⟩, ⟨h5, h6⟩, -, -⟩ := h
  have h1 : x1 = X.1 := h1
  have h2 : me' = e_me X := h2
  have h3 : c' = e_c X := h3
  have h4 : Q' = e_Q X := h4
  have h5 : g' = e_g X := h5
  have h6 : A' = e_A X := h6
  rw [h1, h2, h3, h4, h5, h6]
def e_AN (ad : Nat → Nat) (n sz : Nat) : Nat → Prop := fun q => e_AA ad n q ∨ sz ≤ q
def e_PN (g : e_G) (ad : Nat → Nat) (sz : Nat) (as : List Value) (Sh : List e_S) (M : e_M) : Array Value → State → Prop :=
  va_Pc (as.map (e_cv ad)) (fun U => U.heap.size = sz ∧ va_P g.2.1 vwCl (e_cz ad g.2.2 M 0 Sh) U.heap ∧ va_K g.2.1 vwCl (e_TT g.2.2) U ∧ (∀ i j, i < Sh.length → j < Sh.length → ad i = ad j → i = j) ∧ e_kk ad (e_AN ad Sh.length sz) U U.heap ∧ e_fc g U)
def e_QN (g : e_G) (ad : Nat → Nat) (n : Nat) (Sh1 : List e_S) (P : e_M → Prop) : Array Value → State → Outcome → State → Prop :=
  fun _ s0 oc t => (∃ (ad' : Nat → Nat) (N : e_M), oc = .returned none ∧ P N ∧ (∀ i, i < n ∨ 1000 ≤ i → ad' i = ad i) ∧ (∀ i, n ≤ i → i < Sh1.length → s0.heap.size ≤ ad' i) ∧ (∀ i j, i < Sh1.length → j < Sh1.length → ad' i = ad' j → i = j) ∧ va_P g.2.1 vwCl (e_cz ad' g.2.2 N 0 Sh1) t.heap) ∧ va_F (e_AA ad n) s0 t
def e_rN (d mc ms : Nat) : Room := { frames := d, cells := mc, slots := ms, locals := 40 * d }
def e_CN (g : e_G) (d mc ms : Nat) (y : MethodName) (cc : ByteArray) (nL : Nat) (as : List Value) (Sh : List e_S) (M : e_M) (Sh1 : List e_S) (P : e_M → Prop) : Prop :=
  ∀ (ad : Nat → Nat) (sz : Nat), Met g.1 y (.code y cc nL none :: e_tbl) (e_rN d mc ms) (e_PN g ad sz as Sh M) (e_QN g ad Sh.length Sh1 P) mc ms (e_AN ad Sh.length sz)
theorem e_CN_of {g : e_G} {d mc ms : Nat} {y : MethodName} {cc : ByteArray} {nL : Nat} {as : List Value} {Sh Sh1 : List e_S} {M : e_M} {P : e_M → Prop} (o : Nat) (hy : plainName y.cls = true) (ho : y.cls = e_ow o) (hyn : y.name = "<init>") (hcat : ∀ v ∈ as, v.category = 1) (hn : as.length ≤ nL)
    (body : ∀ X : e_X, e_ok o cc X Sh → e_aw X mc ms → (e_c X).maxLocals = nL → e_g X = g → ((e_R X).frames = d ∧ (e_R X).locals = 40 * d) → (e_me X).name = "<init>" → (∀ (X' : e_X) (lo : List (Option Value)) (M : e_M) (pc : Nat), e_gr X Sh.length X' Sh1.length → e_ok o cc X' Sh1 → decode cc pc = .ok (.return_, 1) → P M → e_E X' Sh1 pc lo [] M) → e_E X Sh 0 (as.map some ++ List.replicate (nL - as.length) none) [] M) : e_CN g d mc ms y cc nL as Sh M Sh1 P := by
  intro ad sz
  refine Met.ofW (cc := cc) (maxL := nL) (ret := none) hy rfl ?_
  intro p e s m args below meth c s₁ B hml hv
  obtain ⟨rfl, hsz, hP, hK, hi, hkk, hfc⟩ := hv
  subst hsz
  have hcat2 : ∀ v ∈ as.map (e_cv ad), v.category = 1 := fun v hv => by
    obtain ⟨w, hw, rfl⟩ := List.mem_map.mp hv
    rw [e_cv_cat]; exact hcat w hw
  have hts : ∀ w ∈ e_tbl, w.before (as.map (e_cv ad)).toArray s = true := fun w hw => atoms_spec (ws := .code y cc nL none :: e_tbl) B.pre w (List.mem_cons_of_mem _ hw)
  have hown : s.vm.findClass (e_ow o) = some m.cls := by rw [← ho]; exact findClass_of_methodNamed B.named
  have hlocks : meth.locks = false := B.notSynchronized
  have hx := B.exec
  have hb := B.bytes
  have hr : meth.sig.returnType = none := B.returns
  have hin : meth.name = "<init>" := (name_of_methodNamed B.named B.method).1.trans hyn
  let X : e_X := ((p, e, (headSpec (.code y cc nL none :: e_tbl) (e_rN d mc ms)).room, s, m, (as.map (e_cv ad)).toArray, below), (meth, c, 0, 0, MQ below (e_QN g ad Sh.length Sh1 P) (as.map (e_cv ad)).toArray s mc ms (e_AN ad Sh.length s.heap.size)), (g, ad, e_AN ad Sh.length s.heap.size))
  have hX : e_ok o cc X Sh := ⟨hx, hb, hown, hts, hK, hi, fun i h => Or.inl ⟨i, h, rfl⟩, hkk, Nat.zero_le _, Nat.zero_le _⟩
  have hal : e_aw X mc ms := ⟨fun q h => Or.inr h, hfc, Nat.le_of_eq (Nat.zero_add _), Nat.le_of_eq (Nat.zero_add _)⟩
  have hE : ∀ (X' : e_X) (lo : List (Option Value)) (M : e_M) (pc : Nat), e_gr X Sh.length X' Sh1.length → e_ok o cc X' Sh1 → decode cc pc = .ok (.return_, 1) → P M → e_E X' Sh1 pc lo [] M := by
    intro X' lo M' pc hgr hok hd hPM
    have eX := e_gr_eq hgr
    have eR := (e_gr_c hgr).2.2
    have hr1 : e_k X' ≤ mc := by have := hok.r.1; rw [eR] at this; exact this
    have hr2 : e_n X' ≤ ms := by have := hok.r.2; rw [eR] at this; exact this
    have h7 := hgr.2.2.2.1
    have h8 := hgr.2.2.2.2
    have hoi := hok.i
    rw [eX]
    intro H locs ls hP' hS hl
    refine W.widen (k := mc) (n := ms) hr1 hr2 ?_
    have hq : ∀ t : State, t.heap = H → s.WarmedH t.vm → e_QN g ad Sh.length Sh1 P (as.map (e_cv ad)).toArray s (.returned none) t := fun t ht _ => ⟨⟨e_ad X', M', rfl, hPM, h7, h8, hoi, by rw [ht]; exact hP'⟩, by rw [ht]; exact hS.1, fun q g1 g2 => by rw [ht]; exact hS.2.1 q g1 (fun z => z.elim g2 (fun z => absurd g1 (Nat.not_lt.mpr z)))⟩
    exact W.vret hx hb hr hq hS.2.2 hd
  have K := body X hX hal hml rfl ⟨rfl, rfl⟩ hin hE
  have hle : (lg_sl (as.map (e_cv ad))).length ≤ nL := by rw [e_sl_len _ hcat2, List.length_map]; exact hn
  rw [lg_entry_eq]
  have hl := lv_entry (as.map (e_cv ad)) (n := nL) hle
  refine K s.heap [] _ hP va_S.rf ?_
  rw [e_lz_args _ _ _ _ hcat, show (e_c X).maxLocals = nL from hml]
  exact hl
section CI
variable {X : e_X} {Sh Sh0 Sh1 Sh' : List e_S} {pc : Nat} {lo : List (Option Value)} {M : e_M} {o : Nat} {cc : ByteArray} {is is' : List Nat} {a b mc ms m : Nat}
theorem e_afterN {as0 rest st0 : List Value} {P : e_M → Prop} {H : Heap} {locs : List Loc} {ls : Array Slot} (hX : e_ok o cc X Sh) (ha : e_aw X a b) (hma : mc ≤ a) (hmb : ms ≤ b) (hs : e_sb is Sh Sh0 = true) (hm : Sh1.length = Sh0.length + m) (h1000 : Sh.length + m ≤ 1000) (hf : e_nf Sh.length m Sh lo rest = true) (hl' : Sh'.length = Sh.length + m) (hs' : e_sb is' Sh' Sh1 = true) (hio : ∀ j, j < Sh1.length → e_io is' j = if j < Sh0.length then e_io is j else Sh.length + (j - Sh0.length)) (ho : ∀ k, k < Sh.length → k ∉ is.take Sh0.length → Sh'[k]? = Sh[k]?) (hr1 : Sh1.all (e_nS Sh1.length (1000 - Sh1.length)) = true)
    (hP : va_P (e_D X) vwCl (e_cz (e_ad X) (e_cA X) M 0 Sh) H) (hS : va_S (e_A X) (e_s X).heap H locs) (hl : lv_has ls (e_c X).maxLocals (e_lz (e_ad X) 0 lo))
    (hr : va_Run (e_p X) (e_l X) (e_e X) (e_R X) (e_s X) (e_m X) (e_a X) (e_b X) (e_me X) (e_c X) H locs (e_k X) (e_n X) mc ms (F0 (e_m X) pc ls st0) (rest.map (e_cv (e_ad X))) (e_QN (e_g X) (fun j => e_ad X (e_io is j)) Sh0.length Sh1 P ((as0.map (e_cv (fun j => e_ad X (e_io is j)))).toArray)) (e_AN (fun j => e_ad X (e_io is j)) Sh0.length H.size))
    (k : ∀ (X' : e_X) (N : e_M), e_gr X Sh.length X' (Sh.length + m) → e_ok o cc X' Sh' → e_aw X' (a - mc) (b - ms) → P N → e_E X' Sh' (pc + 3) lo rest (e_mg is' Sh1.length M N)) :
    W (e_p X) (e_l X) (e_e X) (e_R X) (e_s X) (e_m X) (e_a X) (e_b X) (e_me X) (e_c X) H locs (e_k X) (e_n X) (e_Q X) (F0 (e_m X) pc ls st0) := by
  intro T hT Y
  obtain ⟨v, st₀, t, T', L, h0, Y', hL, e1, e2, ⟨⟨ad1, N, hv, hp, g1, g2, g3, hb⟩, hz, hk⟩, st⟩ := hr T hT Y
  have ev : v = none := by injection hv
  subst ev
  rw [h0] at hz hk g2
  obtain ⟨hA, hfc, hr2, hr3⟩ := ha
  have hs0 := hS.1
  have h1k : Sh1.length ≤ 1000 := by
    simp only [e_sb, Bool.and_eq_true, decide_eq_true_eq] at hs'
    exact hs'.2.2.2
  obtain ⟨ad', had⟩ : ∃ ad', ad' = fun i => if Sh.length ≤ i ∧ i < Sh.length + m then ad1 (Sh0.length + (i - Sh.length)) else e_ad X i := ⟨_, rfl⟩
  have hag : ∀ i, (i < Sh.length ∨ Sh.length + m ≤ i) → ad' i = e_ad X i := fun i hi => by rw [had]; exact if_neg (by omega)
  have hin : ∀ i, Sh.length ≤ i → i < Sh.length + m → ad' i = ad1 (Sh0.length + (i - Sh.length)) := fun i h1 h2 => by rw [had]; exact if_pos ⟨h1, h2⟩
  have hlt : ∀ i, i < Sh.length → e_ad X i < H.size := fun i hi => by
    obtain ⟨x, hx⟩ : ∃ x, Sh[i]? = some x := ⟨_, List.getElem?_eq_getElem hi⟩
    exact (hP _ _ (e_cz_at (ad := e_ad X) (cA := e_cA X) (M := M) hx)).lt
  have h1a : ∀ j, (j < Sh1.length ∨ Sh1.length + (1000 - Sh1.length) ≤ j) → ad' (e_io is' j) = ad1 j := by
    intro j hj
    by_cases hj1 : j < Sh1.length
    · rw [hio j hj1]
      by_cases c1 : j < Sh0.length
      · rw [if_pos c1, hag _ (Or.inl (e_sb_len hs c1).2), g1 j (Or.inl c1)]
      · rw [if_neg c1, hin _ (by omega) (by omega), show Sh0.length + (Sh.length + (j - Sh0.length) - Sh.length) = j by omega]
    · have hj2 : 1000 ≤ j := by omega
      rw [e_io_big is' hj2, hag j (by omega), g1 j (Or.inr hj2)]
      show e_ad X j = e_ad X (e_io is j)
      rw [e_io_big is hj2]
  unfold e_nf at hf
  rw [Bool.and_eq_true, Bool.and_eq_true] at hf
  obtain ⟨f1, f2, f3⟩ := hf
  let X' : e_X := (X.1, (e_me X, e_c X, e_k X + mc, e_n X + ms, e_Q X), (e_g X, ad', e_A X))
  have hnw : ∀ i, Sh.length ≤ i → i < Sh.length + m → H.size ≤ ad' i := fun i h1 h2 => by rw [hin i h1 h2]; exact g2 _ (by omega) (by omega)
  have hg : e_gr X Sh.length X' (Sh.length + m) := ⟨rfl, ⟨rfl, rfl, rfl⟩, ⟨rfl, rfl⟩, fun i hi => hag i (by omega), fun i h1 h2 => Nat.le_trans hs0 (hnw i h1 h2)⟩
  have hok : e_ok o cc X' Sh' := by
    obtain ⟨a1, a2, a3, a4, a5, a6, a7, a8, a9, a10⟩ := hX
    refine ⟨a1, a2, a3, a4, a5, fun i j hi hj e => ?_, fun i hi => ?_, e_kk_ad (ad := e_ad X) (fun j hj => hag j (Or.inr (by omega))) a8, ?_, ?_⟩
    · rw [hl'] at hi hj
      have e : ad' i = ad' j := e
      by_cases c1 : i < Sh.length <;> by_cases c2 : j < Sh.length
      · rw [hag i (Or.inl c1), hag j (Or.inl c2)] at e; exact a6 i j c1 c2 e
      · rw [hag i (Or.inl c1)] at e; have := hlt i c1; have := hnw j (by omega) hj; omega
      · rw [hag j (Or.inl c2)] at e; have := hlt j c2; have := hnw i (by omega) hi; omega
      · rw [hin i (by omega) hi, hin j (by omega) hj] at e
        have := g3 _ _ (by omega) (by omega) e
        omega
    · rw [hl'] at hi
      show e_A X (ad' i)
      by_cases c1 : i < Sh.length
      · rw [hag i (Or.inl c1)]; exact a7 i c1
      · exact hA _ (Nat.le_trans hs0 (hnw i (by omega) hi))
    · show e_k X + mc ≤ (e_R X).cells; omega
    · show e_n X + ms ≤ (e_R X).slots; omega
  have hal : e_aw X' (a - mc) (b - ms) := ⟨hA, hfc, by show e_k X + mc + (a - mc) ≤ (e_R X).cells; omega, by show e_n X + ms + (b - ms) ≤ (e_R X).slots; omega⟩
  have hP1 : va_P (e_D X) vwCl (e_cz ad' (e_cA X) (e_mg is' Sh1.length M N) 0 Sh') T'.heap := by
    rw [e1]
    intro k q hq
    have hlk : k < Sh'.length := by rw [← e_cz_len ad' (e_cA X) (e_mg is' Sh1.length M N) Sh' 0]; exact (List.getElem?_eq_some_iff.mp hq).1
    obtain ⟨x, hx⟩ : ∃ x, Sh'[k]? = some x := ⟨_, List.getElem?_eq_getElem hlk⟩
    rw [e_cz_at hx] at hq
    cases hq
    by_cases hmm : k ∈ is'.take Sh1.length
    · obtain ⟨j, hj, rfl⟩ := e_mg_mem hs' hmm
      obtain ⟨y, hy⟩ : ∃ y, Sh1[j]? = some y := ⟨_, List.getElem?_eq_getElem hj⟩
      obtain ⟨-, -, h3⟩ := e_sb_at hs' hy
      rw [h3] at hx
      cases hx
      have h4 := hb _ _ (e_cz_at (ad := ad1) (cA := e_cA X) (M := N) hy)
      rw [e_mg_in hs' M N hj, e_ce_rs, e_ce_g (ad := ad1) h1a (List.all_eq_true.mp hr1 y (List.mem_of_getElem? hy)), h1a j (Or.inl hj)]
      exact h4
    · have hkl : k < Sh.length := by
        refine Nat.not_le.mp (fun z => hmm ?_)
        rw [hl'] at hlk
        have := e_io_mem hs' (j := Sh0.length + (k - Sh.length)) (by omega)
        rw [hio _ (by omega), if_neg (by omega), show Sh.length + (Sh0.length + (k - Sh.length) - Sh0.length) = k by omega] at this
        exact this
      have hni : k ∉ is.take Sh0.length := fun z => hmm (by
        obtain ⟨j, hj, rfl⟩ := e_mg_mem hs z
        have := e_io_mem hs' (j := j) (by omega)
        rw [hio j (by omega), if_pos hj] at this
        exact this)
      rw [e_mg_out hmm]
      rw [ho k hkl hni] at hx
      have h4 := hP _ _ (e_cz_at (ad := e_ad X) (cA := e_cA X) (M := M) hx)
      rw [hag k (Or.inl hkl), e_ce_g hag (List.all_eq_true.mp f1 x (List.mem_of_getElem? hx))]
      refine h4.kept (hk _ h4.lt ?_)
      rintro ⟨j, hj, e⟩
      obtain ⟨b1, b2⟩ := e_sb_len hs hj
      have := hX.i _ _ hkl b2 e
      exact hni (List.mem_of_getElem? (i := j) (by rw [List.getElem?_take_of_lt hj, this]; exact b1))
  have hAA : ∀ q, e_AN (fun j => e_ad X (e_io is j)) Sh0.length H.size q → e_A X q := by
    rintro q (⟨j, hj, rfl⟩ | z)
    · exact hX.a _ (e_sb_len hs hj).2
    · exact hA _ (Nat.le_trans hs0 z)
  have hS1 : va_S (e_A X) (e_s X).heap T'.heap (locs ++ L) := ⟨Nat.le_trans hS.1 (by rw [e1]; exact hz), fun q h1 h2 => by rw [e1, hk q (Nat.lt_of_lt_of_le h1 hS.1) (fun z => h2 (hAA q (Or.inl z)))]; exact hS.2.1 q h1 h2, fun q hq => by
      rcases List.mem_append.mp hq with h | h
      · exact hS.2.2 q h
      · exact hAA _ (hL q h)⟩
  have hl1 : lv_has ls (e_c X).maxLocals (e_lz ad' 0 lo) := by rw [e_lz_g hag lo 0 f2]; exact hl
  have K := k X' N hg hok hal hp T'.heap (locs ++ L) ls hP1 hS1 hl1
  have K : W (e_p X) (e_l X) (e_e X) (e_R X) (e_s X) (e_m X) (e_a X) (e_b X) (e_me X) (e_c X) T'.heap (locs ++ L) (e_k X + mc) (e_n X + ms) (e_Q X) (F0 (e_m X) (pc + 3) ls (rest.map (e_cv ad'))) := K
  rw [e_mp_g hag f3] at K
  obtain ⟨t2, a1, b1⟩ := K T' rfl Y'
  exact ⟨t2, st t2 a1, b1⟩
theorem e_preN {as0 : List Value} {H : Heap} {locs : List Loc} (hX : e_ok o cc X Sh) (ha : e_aw X a b) (hs : e_sb is Sh Sh0 = true) (hP : va_P (e_D X) vwCl (e_cz (e_ad X) (e_cA X) M 0 Sh) H) (hS : va_S (e_A X) (e_s X).heap H locs) (U : State) (hU : U.heap = H) (hW : (e_s X).WarmedH U.vm) : e_PN (e_g X) (fun j => e_ad X (e_io is j)) H.size as0 Sh0 (fun j => M (e_io is j)) ((as0.map (e_cv (fun j => e_ad X (e_io is j)))).toArray) U := by
  refine ⟨rfl, by rw [hU], by rw [hU]; exact e_sub_P hs hP, va_K.moved hW.alike hX.k, fun i j hi hj e => ?_, ?_, ha.2.1.moved hW.alike⟩
  · exact e_sb_inj hs hi hj (hX.i _ _ (e_sb_len hs hi).2 (e_sb_len hs hj).2 e)
  · refine e_kk_ad (ad := e_ad X) (fun j hj => by rw [e_io_big is hj]) ?_
    rw [hU]
    refine e_kk_go hW hS.2.1 ?_ hX.c
    rintro q (⟨j, hj, rfl⟩ | z)
    · exact hX.a _ (e_sb_len hs hj).2
    · exact ha.1 _ (Nat.le_trans hS.1 z)
theorem e_PN_blind (g : e_G) (ad : Nat → Nat) (sz : Nat) (as : List Value) (Sh : List e_S) (M : e_M) : FrameBlind (e_PN g ad sz as Sh M) := by
  intro a U f mk h
  obtain ⟨h0, h1, h2, h3, h4, h5, h6⟩ := h
  exact ⟨h0, h1, h2, va_K.moved (u := U) (U := U.calling f mk a) (Vm.Alike.refl U.vm) h3, h4, e_kk_vm (s := U) (U := U.calling f mk a) rfl h5, e_fc.moved (u := U) (U := U.calling f mk a) (Vm.Alike.refl U.vm) h6⟩
/-- words of a call of a constructor: by a plain link, by a link of nest mates -/
def e_wI (o idx : Nat) (y : MethodName) (cy : ByteArray) (nL n : Nat) : Prop := (Cond.methodLink (e_ow o) idx y ∈ e_tbl ∧ Cond.instanceMethod y ∈ e_tbl ∧ Cond.initialized y.cls ∈ e_tbl ∧ Cond.code y cy nL none ∈ e_tbl) ∧ e_nm y n ∧ nL ≤ 20 ∧ y.name = "<init>"
def e_wJ (o idx : Nat) (y : MethodName) (cy : ByteArray) (nL n : Nat) : Prop := ((e_ow o, idx, y, "LastLight") ∈ e_nst ∧ Cond.instanceMethod y ∈ e_tbl ∧ Cond.initialized y.cls ∈ e_tbl ∧ Cond.code y cy nL none ∈ e_tbl) ∧ e_nm y n ∧ nL ≤ 20 ∧ y.name = "<init>"
theorem e_callI {d idx n nL a0 : Nat} {y : MethodName} {cy : ByteArray} {as0 rest : List Value} {P : e_M → Prop} (hX : e_ok o cc X Sh) (ha : e_aw X a b) (hs : e_sb is Sh Sh0 = true) (hC : e_CN (e_g X) d mc ms y cy nL (.ref a0 :: as0) Sh0 (fun j => M (e_io is j)) Sh1 P) (hw : e_wI o idx y cy nL n ∨ e_wJ o idx y cy nL n) (hn : as0.length = n) (hR : d + 1 ≤ (e_R X).frames ∧ 40 * (d + 1) ≤ (e_R X).locals) (hr : rest.length ≤ 4) (hd : decode cc pc = .ok (.invokespecial idx, 3))
    (hma : mc ≤ a) (hmb : ms ≤ b) (hm : Sh1.length = Sh0.length + m) (h1000 : Sh.length + m ≤ 1000) (hf : e_nf Sh.length m Sh lo rest = true) (hl' : Sh'.length = Sh.length + m) (hs' : e_sb is' Sh' Sh1 = true) (hio : ∀ j, j < Sh1.length → e_io is' j = if j < Sh0.length then e_io is j else Sh.length + (j - Sh0.length)) (ho : (List.range Sh.length).all (fun k => (is.take Sh0.length).contains k || e_so Sh'[k]? Sh[k]?) = true) (hr1 : Sh1.all (e_nS Sh1.length (1000 - Sh1.length)) = true)
    (k : ∀ (X' : e_X) (N : e_M), e_gr X Sh.length X' (Sh.length + m) → e_ok o cc X' Sh' → e_aw X' (a - mc) (b - ms) → P N → e_E X' Sh' (pc + 3) lo rest (e_mg is' Sh1.length M N)) : e_E X Sh pc lo ((as0.map (e_cv (e_io is))).reverse ++ .ref (e_io is a0) :: rest) M := by
  intro H locs ls hP hS hl
  have hst : List.map (e_cv (e_ad X)) ((as0.map (e_cv (e_io is))).reverse ++ .ref (e_io is a0) :: rest) = (as0.map (e_cv (fun j => e_ad X (e_io is j)))).reverse ++ Value.ref (e_ad X (e_io is a0)) :: rest.map (e_cv (e_ad X)) := by
    rw [List.map_append, List.map_reverse, List.map_map]
    congr 2
    exact List.map_congr_left (fun v _ => e_cv_cv _ is v)
  refine e_afterN (as0 := .ref a0 :: as0) hX ha hma hmb hs hm h1000 hf hl' hs' hio (fun k hk hn => e_ho ho k hk hn) hr1 hP hS hl ?_ k
  have hroom : d + 1 ≤ (e_R X).frames ∧ 8 + (nL + 11) + 40 * d ≤ (e_R X).locals ∨ 20 < nL := by
    by_cases h : nL ≤ 20
    · left; exact ⟨hR.1, by have := hR.2; omega⟩
    · right; omega
  rcases hw with ⟨⟨w1, w2, w3, w4⟩, w5, w6, w7⟩ | ⟨⟨w1, w2, w3, w4⟩, w5, w6, w7⟩
  · have hroom := hroom.resolve_right (by omega)
    exact va_runI (b := e_ad X (e_io is a0)) (As := as0.map (e_cv (fun j => e_ad X (e_io is j)))) (n := n) (nL := (e_c X).maxLocals) ⟨hX.x, hX.b, rfl, hX.o, hX.t⟩ (hC (fun j => e_ad X (e_io is j)) H.size) (cwI n hX.t (e_gin (ws := []) (by intro w h; cases h) w4) rfl rfl rfl (hX.t _ w3) (hX.t _ w1) (hX.t _ w2) w7 w5 hroom) ⟨e_PN_blind _ _ _ _ _ _, fun U hU hW => e_preN (as0 := .ref a0 :: as0) hX ha hs hP hS U hU hW⟩ rfl (by rw [List.length_map]; exact hn) hl.1 hst (lv_room (e_rl4 hr)) hd ⟨Nat.le_trans (by omega) ha.2.2.1, Nat.le_trans (by omega) ha.2.2.2⟩
  · have hroom := hroom.resolve_right (by omega)
    have hN : va_Nw (.methodLinkNest (e_ow o) idx y "LastLight") (e_s X) := hX.c.2.2.2.2.2.2 _ w1
    exact va_runIN (b := e_ad X (e_io is a0)) (As := as0.map (e_cv (fun j => e_ad X (e_io is j)))) (n := n) (nL := (e_c X).maxLocals) ⟨hX.x, hX.b, rfl, hX.o, hX.t⟩ (hC (fun j => e_ad X (e_io is j)) H.size) ⟨va_cnB n hX.t (e_gin (ws := []) (by intro w h; cases h) w4) rfl rfl rfl hN (hX.t _ w3) w5 hroom, w7, hX.t _ w2⟩ ⟨e_PN_blind _ _ _ _ _ _, fun U hU hW => e_preN (as0 := .ref a0 :: as0) hX ha hs hP hS U hU hW⟩ rfl (by rw [List.length_map]; exact hn) hl.1 hst (lv_room (e_rl4 hr)) hd ⟨Nat.le_trans (by omega) ha.2.2.1, Nat.le_trans (by omega) ha.2.2.2⟩
end CI
