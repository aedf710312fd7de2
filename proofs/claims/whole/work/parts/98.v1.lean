/-! ===== contracts with another world behind ===== -/
def e_QW (g : e_G) (ad : Nat → Nat) (n : Nat) (P : Option Value → List e_S → e_M → Prop) : Array Value → State → Outcome → State → Prop :=
  fun _ s0 oc t => (∃ (r : Option Value) (Sh' : List e_S) (M' : e_M), oc = .returned (r.map (e_cv ad)) ∧ P r Sh' M' ∧ va_P g.2.1 vwCl (e_cz ad g.2.2 M' 0 Sh') t.heap) ∧ va_F (e_AA ad n) s0 t
def e_CW (g : e_G) (d : Nat) (y : MethodName) (cc : ByteArray) (nL : Nat) (rt : Option FieldType) (as : List Value) (Sh : List e_S) (M : e_M) (P : Option Value → List e_S → e_M → Prop) : Prop :=
  ∀ ad : Nat → Nat, Met g.1 y (.code y cc nL rt :: e_tbl) (e_rm d) (e_Pc g ad as Sh M) (e_QW g ad Sh.length P) 0 0 (e_AA ad Sh.length)
def e_enW (X : e_X) (cc : ByteArray) (rt : Option FieldType) (P : Option Value → List e_S → e_M → Prop) : Prop := ∀ (pc : Nat) (lo : List (Option Value)) (Sh : List e_S) (M : e_M) (r : Option Value), e_rk cc pc rt r → P r Sh M → e_E X Sh pc lo r.toList M
theorem e_CW_of {g : e_G} {d : Nat} {y : MethodName} {cc : ByteArray} {nL : Nat} {rt : Option FieldType} {as : List Value} {Sh : List e_S} {M : e_M} {P : Option Value → List e_S → e_M → Prop} (o : Nat) (hy : plainName y.cls = true) (ho : y.cls = e_ow o) (hcat : ∀ v ∈ as, v.category = 1) (hn : as.length ≤ nL)
    (body : ∀ X : e_X, e_ok o cc X Sh → e_enW X cc rt P → (e_c X).maxLocals = nL → e_g X = g → e_R X = e_rm d → e_E X Sh 0 (as.map some ++ List.replicate (nL - as.length) none) [] M) : e_CW g d y cc nL rt as Sh M P := by
  intro ad
  refine Met.ofW (cc := cc) (maxL := nL) (ret := rt) hy rfl ?_
  intro p e s m args below meth c s₁ B hml hv
  obtain ⟨rfl, hP, hK, hi, hkk⟩ := hv
  have hcat2 : ∀ v ∈ as.map (e_cv ad), v.category = 1 := fun v hv => by
    obtain ⟨w, hw, rfl⟩ := List.mem_map.mp hv
    rw [e_cv_cat]; exact hcat w hw
  have hts : ∀ w ∈ e_tbl, w.before (as.map (e_cv ad)).toArray s = true := fun w hw => atoms_spec (ws := .code y cc nL rt :: e_tbl) B.pre w (List.mem_cons_of_mem _ hw)
  have hown : s.vm.findClass (e_ow o) = some m.cls := by rw [← ho]; exact findClass_of_methodNamed B.named
  have hlocks : meth.locks = false := B.notSynchronized
  have hx := B.exec
  have hb := B.bytes
  have hr : meth.sig.returnType = rt := B.returns
  let X : e_X := ((p, e, (headSpec (.code y cc nL rt :: e_tbl) (e_rm d)).room, s, m, (as.map (e_cv ad)).toArray, below), (meth, c, 0, 0, MQ below (e_QW g ad Sh.length P) (as.map (e_cv ad)).toArray s 0 0 (e_AA ad Sh.length)), (g, ad, e_AA ad Sh.length))
  have hX : e_ok o cc X Sh := ⟨hx, hb, hown, hts, hK, hi, fun i h => ⟨i, h, rfl⟩, hkk, Nat.zero_le _, Nat.zero_le _⟩
  have hE : e_enW X cc rt P := by
    intro pc lo Sh' M' r hrk hPr H locs ls hP' hS hl
    have hq : ∀ t : State, t.heap = H → s.WarmedH t.vm → e_QW g ad Sh.length P (as.map (e_cv ad)).toArray s (.returned (r.map (e_cv ad))) t := fun t ht _ => ⟨⟨r, Sh', M', rfl, hPr, by rw [ht]; exact hP'⟩, hS.F ht⟩
    match r, hrk, hq with
    | some (.int v), ⟨hd, ty, e1, e2⟩, hq => exact W.zret (ty := ty) hx hb (hr.trans e1) e2 hq hS.2.2 hd
    | some (.long v), ⟨hd, e1⟩, hq => exact W.lret hx hb (hr.trans e1) hq hS.2.2 hd
    | some (.ref v), ⟨hd, n, e1⟩, hq => exact W.aret hx hb (hr.trans e1) (Or.inl ⟨n, rfl⟩) (Or.inr ⟨_, rfl⟩) hq hS.2.2 hd
    | none, ⟨hd, e1⟩, hq => exact W.vret hx hb (hr.trans e1) hq hS.2.2 hd
  have K := body X hX hE hml rfl rfl
  have hle : (lg_sl (as.map (e_cv ad))).length ≤ nL := by rw [e_sl_len _ hcat2, List.length_map]; exact hn
  rw [lg_entry_eq]
  have hl := lv_entry (as.map (e_cv ad)) (n := nL) hle
  refine K s.heap [] _ hP va_S.rf ?_
  rw [e_lz_args _ _ _ _ hcat, show (e_c X).maxLocals = nL from hml]
  exact hl
theorem e_ok_sh {o : Nat} {cc : ByteArray} {X : e_X} {Sh Sh' : List e_S} (h : Sh'.length = Sh.length) (hX : e_ok o cc X Sh) : e_ok o cc X Sh' := by
  obtain ⟨a1, a2, a3, a4, a5, a6, a7, a8⟩ := hX
  exact ⟨a1, a2, a3, a4, a5, by rw [h]; exact a6, by rw [h]; exact a7, a8⟩
/-- the Reader's names come to be another String -/
theorem e_putN {X : e_X} {pc q q' : Nat} {lo : List (Option Value)} {st : List Value} {M : e_M} {cc : ByteArray} (hX : e_ok 4 cc X (w_Rd q)) (hd : decode cc pc = .ok (.putfield 32, 3)) (k : e_E X (w_Rd q') (pc + 3) lo st M) : e_E X (w_Rd q) pc lo (.ref q' :: .ref 0 :: st) M := by
  intro H locs ls hP hS hl
  refine va_put (ty := .object "java/lang/String") (v := .ref (e_ad X q')) hX.x hX.b hX.t e_in4 tyX4 tyX4_ok nmX4 hX.o hX.k hP (hX.d M) hS 0 (e_cz_at (Sh := w_Rd q) (i := 0) rfl) (C := RX4) (T := TX4) (N := 11) rfl 7 (by decide) (hX.t _ (e_tbl_at 112 (by decide +kernel) (by decide +kernel))) (fun x hx => hx) rfl (by rw [tyX4_ok 7 (by decide)]; rfl) rfl rfl (by rw [e_fv_len]; exact Nat.le_of_ble_eq_true rfl) hd (fun H1 l1 hP1 _ hS1 => k H1 l1 ls ?_ hS1 hl)
  exact hP1
