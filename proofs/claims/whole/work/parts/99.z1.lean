/-! ===== worlds that grow: new cells get the numbers from the world's length on ===== -/
def e_nv (n m : Nat) : Value → Bool
  | .ref k => decide (k < n ∨ n + m ≤ k)
  | _ => true
def e_no (n m : Nat) : Option Value → Bool
  | some v => e_nv n m v
  | none => true
def e_nk (n m : Nat) : Option Nat → Bool
  | some k => decide (k < n ∨ n + m ≤ k)
  | none => true
def e_nS (n m : Nat) (x : e_S) : Bool := match x with
  | .inl (_, _, some L) => L.all (e_nk n m)
  | .inl (_, _, none) => true
  | .inr (_, fs) => fs.all (e_no n m)
def e_nf (n m : Nat) (Sh : List e_S) (lo : List (Option Value)) (st : List Value) : Bool := Sh.all (e_nS n m) && (lo.all (e_no n m) && st.all (e_nv n m))
section GW
variable {ad ad' : Nat → Nat} {n m : Nat}
theorem e_cv_g (hag : ∀ i, (i < n ∨ n + m ≤ i) → ad' i = ad i) {v : Value} (h : e_nv n m v = true) : e_cv ad' v = e_cv ad v := by
  cases v with
  | ref k => exact congrArg Value.ref (hag k (of_decide_eq_true h))
  | _ => rfl
theorem e_fv_g (hag : ∀ i, (i < n ∨ n + m ≤ i) → ad' i = ad i) {f : Nat → Int32} : ∀ (fs : List (Option Value)) (k : Nat), fs.all (e_no n m) = true → e_fv ad' f k fs = e_fv ad f k fs := by
  intro fs
  induction fs with
  | nil => intro k _; rfl
  | cons o r ih =>
    intro k h
    rw [List.all_cons, Bool.and_eq_true] at h
    cases o with
    | none => rw [e_fv, e_fv, ih _ h.2]
    | some v => rw [e_fv, e_fv, ih _ h.2, e_cv_g hag h.1]
theorem e_ce_g (hag : ∀ i, (i < n ∨ n + m ≤ i) → ad' i = ad i) {cA : Nat → ClassId} {f : Nat → Int32} {x : e_S} (h : e_nS n m x = true) : e_ce ad' cA x f = e_ce ad cA x f := by
  match x, h with
  | .inl (t, k, none), _ => rfl
  | .inl (t, k, some L), h =>
    have e : (fun i => (L.getD i none).map ad') = fun i => (L.getD i none).map ad := by
      funext i
      rw [List.getD_eq_getElem?_getD]
      cases hi : L[i]? with
      | none => rfl
      | some o =>
        have := List.all_eq_true.mp h o (List.mem_of_getElem? hi)
        cases o with
        | none => rfl
        | some j => exact congrArg some (hag j (of_decide_eq_true this))
    show Sum.inl (cA t, k, Sum.inr (Sum.inr (Sum.inr (Sum.inr _)))) = _
    rw [e]
    rfl
  | .inr (ci, fs), h =>
    show Sum.inr (ci, _) = _
    rw [e_fv_g hag fs 0 h]
    rfl
theorem e_lz_g (hag : ∀ i, (i < n ∨ n + m ≤ i) → ad' i = ad i) : ∀ (lo : List (Option Value)) (i : Nat), lo.all (e_no n m) = true → e_lz ad' i lo = e_lz ad i lo := by
  intro lo
  induction lo with
  | nil => intro i _; rfl
  | cons o r ih =>
    intro i h
    rw [List.all_cons, Bool.and_eq_true] at h
    cases o with
    | none => rw [e_lz, e_lz, ih _ h.2]
    | some v => rw [e_lz, e_lz, ih _ h.2, e_cv_g hag h.1]
theorem e_mp_g (hag : ∀ i, (i < n ∨ n + m ≤ i) → ad' i = ad i) {st : List Value} (h : st.all (e_nv n m) = true) : st.map (e_cv ad') = st.map (e_cv ad) := List.map_congr_left (fun v hv => e_cv_g hag (List.all_eq_true.mp h v hv))
theorem e_gP {D : va_G} {cA : Nat → ClassId} {Sh New : List e_S} {M M' : e_M} {H H1 : Heap} (hag : ∀ i, (i < Sh.length ∨ Sh.length + m ≤ i) → ad' i = ad i) (hP : va_P D vwCl (e_cz ad cA M 0 Sh) H) (hok : Sh.all (e_nS Sh.length m) = true) (hM : ∀ j, j < Sh.length → M' j = M j) (hold : ∀ q, q < H.size → H1[q]? = H[q]?) (hnew : ∀ i x, New[i]? = some x → va_at D vwCl (ad' (Sh.length + i), e_ce ad' cA x (M' (Sh.length + i))) H1) : va_P D vwCl (e_cz ad' cA M' 0 (Sh ++ New)) H1 := by
  intro k q hq
  rw [e_cz_get, Nat.zero_add] at hq
  by_cases hk : k < Sh.length
  · rw [List.getElem?_append_left hk] at hq
    obtain ⟨x, hx⟩ : ∃ x, Sh[k]? = some x := ⟨_, List.getElem?_eq_getElem hk⟩
    rw [hx] at hq
    cases hq
    show va_at D vwCl (ad' k, e_ce ad' cA x (M' k)) H1
    rw [hag k (Or.inl hk), hM k hk, e_ce_g hag (List.all_eq_true.mp hok x (List.mem_of_getElem? hx))]
    have h4 := hP _ _ (e_cz_at (ad := ad) (cA := cA) (M := M) hx)
    exact h4.kept (hold _ h4.lt)
  · rw [List.getElem?_append_right (by omega)] at hq
    cases hx : New[k - Sh.length]? with
    | none => rw [hx] at hq; cases hq
    | some x =>
      rw [hx] at hq
      cases hq
      have := hnew _ x hx
      rw [show Sh.length + (k - Sh.length) = k by omega] at this
      exact this
end GW
/-- the classes of arrays -/
def e_fc (g : e_G) (U : State) : Prop := (U.vm.findClass ("[" ++ (FieldType.int).toString) = some (g.2.2 0) ∧ U.vm.findClass ("[" ++ (FieldType.boolean).toString) = some (g.2.2 1) ∧ U.vm.findClass ("[" ++ (FieldType.char).toString) = some (g.2.2 2) ∧ U.vm.findClass ("[" ++ (FieldType.object "LastLight$Sheet").toString) = some (g.2.2 3) ∧ U.vm.findClass ("[" ++ (FieldType.object "LastLight$Slot").toString) = some (g.2.2 4) ∧ U.vm.findClass ("[" ++ (FieldType.array .int).toString) = some (g.2.2 5)) ∧ va_AO "LastLight$Sheet" U ∧ va_AO "LastLight$Slot" U ∧ e_mx U (g.2.2 5) (g.2.2 0)
theorem e_fc.moved {g : e_G} {u U : State} (hvm : u.vm.Alike U.vm) (h : e_fc g u) : e_fc g U := by
  obtain ⟨⟨a0, a1, a2, a3, a4, a5⟩, b1, b2, b3⟩ := h
  refine ⟨⟨?_, ?_, ?_, ?_, ?_, ?_⟩, b1.moved hvm, b2.moved hvm, b3.moved hvm⟩ <;> rw [hvm.findClass] <;> assumption
/-- cells may come: so many, with so many places -/
def e_aw (X : e_X) (a b : Nat) : Prop := (∀ q, (e_s X).heap.size ≤ q → e_A X q) ∧ e_fc (e_g X) (e_s X) ∧ e_k X + a ≤ (e_R X).cells ∧ e_n X + b ≤ (e_R X).slots
/-- the same frame, later -/
def e_gr (X : e_X) (n : Nat) (X' : e_X) (n' : Nat) : Prop := X'.1 = X.1 ∧ (e_me X' = e_me X ∧ e_c X' = e_c X ∧ e_Q X' = e_Q X) ∧ (e_g X' = e_g X ∧ e_A X' = e_A X) ∧ (∀ i, i < n ∨ 1000 ≤ i → e_ad X' i = e_ad X i) ∧ ∀ i, n ≤ i → i < n' → (e_s X).heap.size ≤ e_ad X' i
theorem e_gr_t {X X' X'' : e_X} {n n' n'' : Nat} (h : e_gr X n X' n') (h2 : e_gr X' n' X'' n'') (hn : n ≤ n') : e_gr X n X'' n'' := by
  obtain ⟨a1, ⟨a2, a3, a4⟩, ⟨a5, a6⟩, a7, a8⟩ := h
  obtain ⟨b1, ⟨b2, b3, b4⟩, ⟨b5, b6⟩, b7, b8⟩ := h2
  have es : e_s X' = e_s X := by unfold e_s; rw [a1]
  refine ⟨b1.trans a1, ⟨b2.trans a2, b3.trans a3, b4.trans a4⟩, ⟨b5.trans a5, b6.trans a6⟩, fun i hi => ?_, fun i h1 h3 => ?_⟩
  · rw [b7 i (by omega)]; exact a7 i hi
  · by_cases hi : i < n'
    · rw [b7 i (Or.inl hi)]; exact a8 i h1 hi
    · rw [← es]; exact b8 i (by omega) h3
theorem e_gr_0 {X : e_X} {n : Nat} : e_gr X n X n := ⟨rfl, ⟨rfl, rfl, rfl⟩, ⟨rfl, rfl⟩, fun _ _ => rfl, fun i h1 h2 => absurd h2 (by omega)⟩
section GR
variable {X : e_X} {Sh New : List e_S} {pc : Nat} {lo : List (Option Value)} {st : List Value} {M M' : e_M} {o : Nat} {cc : ByteArray} {a b : Nat}
theorem e_grow {H H1 : Heap} {locs : List Loc} {ls : Array Slot} {m da db : Nat} (hX : e_ok o cc X Sh) (ha : e_aw X a b) (hda : da ≤ a) (hdb : db ≤ b) (h1000 : Sh.length + m ≤ 1000) (hm : New.length = m) (hf : e_nf Sh.length m Sh lo st = true) (hP : va_P (e_D X) vwCl (e_cz (e_ad X) (e_cA X) M 0 Sh) H) (hS : va_S (e_A X) (e_s X).heap H locs) (hl : lv_has ls (e_c X).maxLocals (e_lz (e_ad X) 0 lo)) (hz : H.size ≤ H1.size) (hold : ∀ q, q < H.size → H1[q]? = H[q]?) (h0m : 0 < m) (hM : ∀ j, j < Sh.length → M' j = M j)
    (hnew : ∀ i x, New[i]? = some x → va_at (e_D X) vwCl (H.size + i, e_ce (fun i => if Sh.length ≤ i ∧ i < Sh.length + m then H.size + (i - Sh.length) else e_ad X i) (e_cA X) x (M' (Sh.length + i))) H1)
    (k : ∀ X' : e_X, e_gr X Sh.length X' (Sh.length + m) → e_ok o cc X' (Sh ++ New) → e_aw X' (a - da) (b - db) → e_E X' (Sh ++ New) pc lo (.ref Sh.length :: st) M') :
    W (e_p X) (e_l X) (e_e X) (e_R X) (e_s X) (e_m X) (e_a X) (e_b X) (e_me X) (e_c X) H1 locs (e_k X + da) (e_n X + db) (e_Q X) (F0 (e_m X) pc ls (.ref H.size :: st.map (e_cv (e_ad X)))) := by
  obtain ⟨ad', had⟩ : ∃ ad', ad' = fun i => if Sh.length ≤ i ∧ i < Sh.length + m then H.size + (i - Sh.length) else e_ad X i := ⟨_, rfl⟩
  rw [← had] at hnew
  have hag : ∀ i, (i < Sh.length ∨ Sh.length + m ≤ i) → ad' i = e_ad X i := fun i hi => by rw [had]; exact if_neg (by omega)
  have hin : ∀ i, Sh.length ≤ i → i < Sh.length + m → ad' i = H.size + (i - Sh.length) := fun i h1 h2 => by rw [had]; exact if_pos ⟨h1, h2⟩
  have hlt : ∀ i, i < Sh.length → e_ad X i < H.size := fun i hi => by
    obtain ⟨x, hx⟩ : ∃ x, Sh[i]? = some x := ⟨_, List.getElem?_eq_getElem hi⟩
    exact (hP _ _ (e_cz_at (ad := e_ad X) (cA := e_cA X) (M := M) hx)).lt
  have hs0 := hS.1
  unfold e_nf at hf
  rw [Bool.and_eq_true, Bool.and_eq_true] at hf
  obtain ⟨f1, f2, f3⟩ := hf
  obtain ⟨hA, hfc, hr1, hr2⟩ := ha
  let X' : e_X := (X.1, (e_me X, e_c X, e_k X + da, e_n X + db, e_Q X), (e_g X, ad', e_A X))
  have hg : e_gr X Sh.length X' (Sh.length + m) := ⟨rfl, ⟨rfl, rfl, rfl⟩, ⟨rfl, rfl⟩, fun i hi => hag i (by omega), fun i h1 h2 => by
    show _ ≤ ad' i
    rw [hin i h1 h2]; omega⟩
  have hok : e_ok o cc X' (Sh ++ New) := by
    obtain ⟨a1, a2, a3, a4, a5, a6, a7, a8, a9, a10⟩ := hX
    refine ⟨a1, a2, a3, a4, a5, fun i j hi hj e => ?_, fun i hi => ?_, e_kk_ad (ad := e_ad X) (fun j hj => hag j (Or.inr (by omega))) a8, ?_, ?_⟩
    · rw [List.length_append, hm] at hi hj
      have e : ad' i = ad' j := e
      by_cases c1 : i < Sh.length <;> by_cases c2 : j < Sh.length
      · rw [hag i (Or.inl c1), hag j (Or.inl c2)] at e; exact a6 i j c1 c2 e
      · rw [hag i (Or.inl c1), hin j (by omega) hj] at e; have := hlt i c1; omega
      · rw [hag j (Or.inl c2), hin i (by omega) hi] at e; have := hlt j c2; omega
      · rw [hin i (by omega) hi, hin j (by omega) hj] at e; omega
    · rw [List.length_append, hm] at hi
      show e_A X (ad' i)
      by_cases c1 : i < Sh.length
      · rw [hag i (Or.inl c1)]; exact a7 i c1
      · rw [hin i (by omega) hi]; exact hA _ (by omega)
    · show e_k X + da ≤ (e_R X).cells; omega
    · show e_n X + db ≤ (e_R X).slots; omega
  have hal : e_aw X' (a - da) (b - db) := ⟨hA, hfc, by show e_k X + da + (a - da) ≤ (e_R X).cells; omega, by show e_n X + db + (b - db) ≤ (e_R X).slots; omega⟩
  have hP1 : va_P (e_D X) vwCl (e_cz ad' (e_cA X) M' 0 (Sh ++ New)) H1 := e_gP hag hP f1 hM hold (fun i x hx => by
    have hi : i < m := by rw [← hm]; exact (List.getElem?_eq_some_iff.mp hx).1
    rw [hin (Sh.length + i) (by omega) (by omega), show Sh.length + i - Sh.length = i by omega]
    exact hnew i x hx)
  have hS1 : va_S (e_A X) (e_s X).heap H1 locs := ⟨Nat.le_trans hs0 hz, fun q h1 h2 => by rw [hold q (Nat.lt_of_lt_of_le h1 hs0)]; exact hS.2.1 q h1 h2, hS.2.2⟩
  have hl1 : lv_has ls (e_c X).maxLocals (e_lz ad' 0 lo) := by rw [e_lz_g hag lo 0 f2]; exact hl
  have K := k X' hg hok hal H1 locs ls hP1 hS1 hl1
  have es : ((.ref Sh.length :: st : List Value)).map (e_cv ad') = .ref H.size :: st.map (e_cv (e_ad X)) := by
    rw [List.map_cons, e_mp_g hag f3]
    show Value.ref (ad' Sh.length) :: _ = _
    rw [hin _ (Nat.le_refl _) (by omega), Nat.sub_self, Nat.add_zero]
  have K : W (e_p X) (e_l X) (e_e X) (e_R X) (e_s X) (e_m X) (e_a X) (e_b X) (e_me X) (e_c X) H1 locs (e_k X + da) (e_n X + db) (e_Q X) (F0 (e_m X) pc ls (((.ref Sh.length :: st : List Value)).map (e_cv ad'))) := K
  rw [es] at K
  exact K
/-- newarray -/
theorem e_newa {t N : Nat} {n : Int32} {atype : ArrayType} {ty : FieldType} (hX : e_ok o cc X Sh) (ha : e_aw X a b) (hty : newarray.typeOf atype = ty) (hdv : defaultValue ty = .int 0) (hw : Cond.arrayClass ty ∈ e_tbl) (hc : (e_s X).vm.findClass ("[" ++ ty.toString) = some (e_cA X t)) (hn : ¬ n < 0) (hN : n.toNatClampNeg = N) (hb : N * componentBytes ty ≤ 536870912) (hda : 1 ≤ a) (hdb : N ≤ b) (h1000 : Sh.length + 1 ≤ 1000) (hf : e_nf Sh.length 1 Sh lo st = true) (hd : decode cc pc = .ok (.newarray atype, 2))
    (k : ∀ X' : e_X, e_gr X Sh.length X' (Sh.length + 1) → e_ok o cc X' (Sh ++ [.inl (t, N, none)]) → e_aw X' (a - 1) (b - N) → e_E X' (Sh ++ [.inl (t, N, none)]) (pc + 2) lo (.ref Sh.length :: st) (e_up M Sh.length (fun _ => 0))) : e_E X Sh pc lo (.int n :: st) M := by
  intro H locs ls hP hS hl
  subst hty
  refine va_newaK hX.x hX.b (hX.t _ hw) rfl hd rfl hn hN hb (Nat.le_trans (by omega) ha.2.2.1) (Nat.le_trans (by omega) ha.2.2.2) rfl (fun H1 cA e1 z1 o1 hAr hNm => ?_)
  have ec : some (e_cA X t) = some cA := hc.symm.trans hNm
  cases ec
  refine e_grow (m := 1) (M := M) hX ha hda hdb h1000 rfl hf hP hS hl (by omega) o1 (by decide) (fun j hj => if_neg (by omega)) (fun i x hx => ?_) k
  have hi : i < 1 := (List.getElem?_eq_some_iff.mp hx).1
  obtain rfl : i = 0 := by omega
  cases hx
  show H1[H.size]? = some (vp_cell _ _)
  rw [e1, hdv]
  show _ = some (vp_cell (e_cA X t) (N, .inl (e_up M Sh.length (fun _ => 0) Sh.length)))
  rw [show e_up M Sh.length (fun _ => 0) Sh.length = fun _ => 0 from if_pos rfl]
  rfl
/-- anewarray -/
theorem e_newq {t N idx : Nat} {n : Int32} {C : String} (hX : e_ok o cc X Sh) (ha : e_aw X a b) (hcl : Cond.classLink (e_ow o) idx C ∈ e_tbl) (hao : va_AO C (e_s X)) (hc : (e_s X).vm.findClass ("[" ++ (FieldType.object C).toString) = some (e_cA X t)) (hn : ¬ n < 0) (hN : n.toNatClampNeg = N) (hb : N * 4 ≤ 536870912) (hda : 1 ≤ a) (hdb : N ≤ b) (h1000 : Sh.length + 1 ≤ 1000) (hf : e_nf Sh.length 1 Sh lo st = true) (hd : decode cc pc = .ok (.anewarray idx, 3))
    (k : ∀ X' : e_X, e_gr X Sh.length X' (Sh.length + 1) → e_ok o cc X' (Sh ++ [.inl (t, N, some (List.replicate N none))]) → e_aw X' (a - 1) (b - N) → e_E X' (Sh ++ [.inl (t, N, some (List.replicate N none))]) (pc + 3) lo (.ref Sh.length :: st) M) : e_E X Sh pc lo (.int n :: st) M := by
  intro H locs ls hP hS hl
  subst hN
  refine W.anew hX.x hX.b hX.o (hX.t _ hcl) (va_AO.use hao) rfl hd rfl hn hb (Nat.le_trans (by omega) ha.2.2.1) (Nat.le_trans (by omega) ha.2.2.2) fun cA kA comp f1 f2 f3 f4 => ?_
  have ec : some (e_cA X t) = some cA := hc.symm.trans f1
  cases ec
  obtain ⟨z1, e1, o1⟩ := e_pu H { cls := e_cA X t, slots := Array.replicate n.toNatClampNeg .null, vm := .none }
  generalize H.push _ = H1 at z1 e1 o1 ⊢
  refine e_grow (m := 1) (M := M) hX ha hda hdb h1000 rfl hf hP hS hl (by omega) o1 (by decide) (fun j hj => rfl) (fun i x hx => ?_) k
  have hi : i < 1 := (List.getElem?_eq_some_iff.mp hx).1
  obtain rfl : i = 0 := by omega
  cases hx
  show H1[H.size]? = some (vp_cell _ _)
  rw [e1, arrV_new]
  have e : ∀ ad : Nat → Nat, (fun i => ((List.replicate n.toNatClampNeg (none : Option Nat)).getD i none).map ad) = fun _ => none := fun ad => funext fun i => by
    rw [List.getD_eq_getElem?_getD, List.getElem?_replicate]
    by_cases h : i < n.toNatClampNeg
    · simp [h]
    · simp [h]
  show _ = some (vp_cell (e_cA X t) (n.toNatClampNeg, .inr (.inr (.inr (.inr _)))))
  rw [e, vp_cell_q]
  rfl
def e_rw (len N : Nat) : List (Option Nat) := (List.range N).map (fun j => some (len + 1 + j))
/-- multianewarray -/
theorem e_newm {idx N K : Nat} {n k0 : Int32} (hX : e_ok o cc X Sh) (ha : e_aw X a b) (hcl : Cond.classLink (e_ow o) idx ("[" ++ (FieldType.array .int).toString) ∈ e_tbl) (hw : Cond.arrayClass .int ∈ e_tbl) (hn : ¬ n < 0) (hk : ¬ k0 < 0) (hN : n.toNatClampNeg = N) (hK : k0.toNatClampNeg = K) (hN2 : N ≤ 100) (hK2 : K ≤ 100) (hda : 1 + N ≤ a) (hdb : N + N * K ≤ b) (h1000 : Sh.length + (1 + N) ≤ 1000) (hf : e_nf Sh.length (1 + N) Sh lo st = true) (hd : decode cc pc = .ok (.multianewarray idx 2, 4))
    (k : ∀ X' : e_X, e_gr X Sh.length X' (Sh.length + (1 + N)) → e_ok o cc X' (Sh ++ (.inl (5, N, some (e_rw Sh.length N)) :: List.replicate N (.inl (0, K, none)))) → e_aw X' (a - (1 + N)) (b - (N + N * K)) → e_E X' (Sh ++ (.inl (5, N, some (e_rw Sh.length N)) :: List.replicate N (.inl (0, K, none)))) (pc + 4) lo (.ref Sh.length :: st) (fun c => if Sh.length ≤ c then (fun _ => 0) else M c)) : e_E X Sh pc lo (.int k0 :: .int n :: st) M := by
  intro H locs ls hP hS hl
  subst hN
  subst hK
  intro T hT Xs
  obtain ⟨F, ⟨vm, hF⟩, X', step⟩ := e_mul Xs hX.x hX.o (hX.t _ hcl) ha.2.1.1.2.2.2.2.2 ha.2.1.2.2.2 (g := F0 (e_m X) pc ls (((.int k0 :: .int n :: st : List Value)).map (e_cv (e_ad X)))) rfl (by rw [hX.b]; exact hd) rfl hn hk hN2 hK2 (Nat.le_trans (by omega) ha.2.2.1) (Nat.le_trans (by omega) ha.2.2.2)
  have eT : T.heap = H := hT
  have s1 : F.heap.size = H.size + (1 + n.toNatClampNeg) := by rw [hF, ← eT]; exact e_ml_z ..
  have s2 : ∀ q, q < H.size → F.heap[q]? = H[q]? := fun q hq => by
    rw [← eT] at hq
    rw [hF, ← eT]
    exact e_ml_old (T := T.setVm vm) _ _ _ _ _ hq _
  have s3 : F.heap[H.size]? = some (e_mo (e_cA X 5) n.toNatClampNeg H.size n.toNatClampNeg) := by rw [hF, ← eT]; exact e_ml_o ..
  have s4 : ∀ j, j < n.toNatClampNeg → F.heap[H.size + (1 + j)]? = some (e_mi (e_cA X 0) k0.toNatClampNeg) := fun j hj => by rw [hF, ← eT]; exact e_ml_n _ _ _ _ _ _ hj
  have key := e_grow (m := 1 + n.toNatClampNeg) (M := M) (M' := fun c => if Sh.length ≤ c then (fun _ => 0) else M c) (New := .inl (5, n.toNatClampNeg, some (e_rw Sh.length n.toNatClampNeg)) :: List.replicate n.toNatClampNeg (.inl (0, k0.toNatClampNeg, none))) (H1 := F.heap) hX ha hda hdb h1000 (by rw [List.length_cons, List.length_replicate]; omega) hf hP hS hl (by omega) s2 (by omega) (fun j hj => if_neg (by omega)) (fun i x hx => ?_) k
  · obtain ⟨t, t1, t2⟩ := key F rfl X'
    exact ⟨t, step t (by rw [hT]; exact t1), t2⟩
  · match i, hx with
    | 0, hx =>
      cases hx
      refine s3.trans (congrArg some ?_)
      show _ = vp_cell (e_cA X 5) (n.toNatClampNeg, .inr (.inr (.inr (.inr _))))
      rw [vp_cell_q]
      unfold e_mo e_rw
      congr 1
      funext j
      rw [List.getD_eq_getElem?_getD, List.getElem?_map]
      by_cases hj : j < n.toNatClampNeg
      · rw [if_pos hj, List.getElem?_range hj]
        show _ = va_rf (some (if _ then _ else _))
        rw [if_pos (by omega), show H.size + (Sh.length + 1 + j - Sh.length) = H.size + (1 + j) by omega]
        rfl
      · rw [if_neg hj, List.getElem?_eq_none (by rw [List.length_range]; omega)]
        rfl
    | i + 1, hx =>
      have hx : (List.replicate n.toNatClampNeg ((.inl (0, k0.toNatClampNeg, none) : e_S)))[i]? = some x := hx
      rw [List.getElem?_replicate] at hx
      by_cases hi : i < n.toNatClampNeg
      · rw [if_pos hi] at hx
        cases hx
        show F.heap[H.size + (i + 1)]? = some (vp_cell (e_cA X 0) (k0.toNatClampNeg, .inl (if Sh.length ≤ Sh.length + (i + 1) then (fun _ => 0) else M (Sh.length + (i + 1)))))
        rw [if_pos (by omega), Nat.add_comm i 1, s4 i hi]
        rfl
      · rw [if_neg hi] at hx
        cases hx
/-- new -/
theorem e_newo {ci idx N : Nat} {C : String} {T : u_T} {fs : List (Option Value)} (hX : e_ok o cc X Sh) (ha : e_aw X a b) (hin : ∀ w ∈ u_ws C T N, w ∈ e_tbl) (ty : Nat → FieldType) (hty : ∀ k, k < N → parseFieldDescriptor (T k).2.2.1 = some (ty k)) (hcl : Cond.classLink (e_ow o) idx C ∈ e_tbl) (hinst : Cond.instantiable C N ∈ e_tbl) (hini : Cond.initialized C ∈ e_tbl) (hc : vwCl[ci]? = some (C, T, N)) (hfs : ∀ ad : Nat → Nat, ∀ j, j < N → defaultValue (ty j) = vp_V (e_fv ad (fun _ => 0) 0 fs) j) (hda : 1 ≤ a) (hdb : N ≤ b) (h1000 : Sh.length + 1 ≤ 1000) (hf : e_nf Sh.length 1 Sh lo st = true) (hd : decode cc pc = .ok (.new idx, 3))
    (k : ∀ X' : e_X, e_gr X Sh.length X' (Sh.length + 1) → e_ok o cc X' (Sh ++ [.inr (ci, fs)]) → e_aw X' (a - 1) (b - N) → e_E X' (Sh ++ [.inr (ci, fs)]) (pc + 3) lo (.ref Sh.length :: st) (e_up M Sh.length (fun _ => 0))) : e_E X Sh pc lo st M := by
  intro H locs ls hP hS hl
  have hKn := hX.k.1 ci _ hc
  refine W.newcK hX.x hX.b hX.o (hX.t _ hcl) (hX.t _ hinst) (hX.t _ hini) rfl hd (Nat.le_trans (by omega) ha.2.2.1) (Nat.le_trans (by omega) ha.2.2.2) hKn.2.1 rfl fun H1 kC hkC e1 z1 o1 => ?_
  refine e_grow (m := 1) (M := M) hX ha hda hdb h1000 rfl hf hP hS hl (by omega) o1 (by decide) (fun j hj => if_neg (by omega)) (fun i x hx => ?_) k
  have hi : i < 1 := (List.getElem?_eq_some_iff.mp hx).1
  obtain rfl : i = 0 := by omega
  cases hx
  refine ⟨_, hc, (u_born ty hX.t hin hKn hkC e1 hty).to (fun j hj => ?_)⟩
  show _ = vp_V (e_fv _ (e_up M Sh.length (fun _ => 0) Sh.length) 0 fs) j
  rw [show e_up M Sh.length (fun _ => 0) Sh.length = fun _ => 0 from if_pos rfl]
  exact hfs _ j hj
end GR
