section EF
variable {X : e_X} {Sh : List e_S} {pc : Nat} {lo : List (Option Value)} {st : List Value} {M : e_M} {o : Nat} {cc : ByteArray}
theorem e_getfI {a ci j b idx : Nat} (hX : e_ok o cc X Sh) (hd : decode cc pc = .ok (.getfield idx, 3)) (hk : e_lk o idx = some (ci, j, b)) (hf : e_fld Sh a ci j = some none) (k : e_E X Sh (pc + 3) lo (.int (M a j) :: st) M) : e_E X Sh pc lo (.ref a :: st) M := by
  obtain ⟨C, T, N, ty, h1, h2, h3, h4, h5, h6, h7, -⟩ := e_lk_ok hk
  obtain ⟨fs, hs, hj⟩ := e_fld_at hf
  intro H locs ls hP hS hl
  exact va_get hX.x hX.b hX.t h3 hX.o hX.k hP a (e_cz_at hs) h1 j h2 (hX.t _ h6) (fun x hx => by rw [h7] at hx; exact hx) (v := .int (M a j)) (by rw [e_fv_get, hj]; simp) hd (k H locs ls hP hS hl)
theorem e_getfR {a ci j b idx : Nat} {v : Value} (hX : e_ok o cc X Sh) (hd : decode cc pc = .ok (.getfield idx, 3)) (hk : e_lk o idx = some (ci, j, b)) (hf : e_fld Sh a ci j = some (some v)) (k : e_E X Sh (pc + 3) lo (v :: st) M) : e_E X Sh pc lo (.ref a :: st) M := by
  obtain ⟨C, T, N, ty, h1, h2, h3, h4, h5, h6, h7, -⟩ := e_lk_ok hk
  obtain ⟨fs, hs, hj⟩ := e_fld_at hf
  intro H locs ls hP hS hl
  exact va_get hX.x hX.b hX.t h3 hX.o hX.k hP a (e_cz_at hs) h1 j h2 (hX.t _ h6) (fun x hx => by rw [h7] at hx; exact hx) (v := e_cv (e_ad X) v) (by rw [e_fv_get, hj]; simp) hd (k H locs ls hP hS hl)
theorem e_putfX {a ci j b idx : Nat} {x : Int32} {ty0 : FieldType} (hX : e_ok o cc X Sh) (hd : decode cc pc = .ok (.putfield idx, 3)) (hk : e_lk o idx = some (ci, j, b)) (hb : b = 0 ∧ ty0 = .int ∨ b = 1 ∧ ty0 = .boolean) (hn : narrow ty0 (.int x) = .int x) (hfit : fits ty0 (.int x) = true) (hf : e_fld Sh a ci j = some none) (k : e_E X Sh (pc + 3) lo st (e_st M a j x)) : e_E X Sh pc lo (.int x :: .ref a :: st) M := by
  obtain ⟨C, T, N, ty, h1, h2, h3, h4, h5, h6, h7, h8, h9⟩ := e_lk_ok hk
  have hty : ty j = ty0 ∧ (T j).2.2.2 = false := by
    rcases hb with ⟨e, e2⟩ | ⟨e, e2⟩
    · rw [e2]; exact h8 e
    · rw [e2]; exact h9 e
  obtain ⟨fs, hs, hj⟩ := e_fld_at hf
  intro H locs ls hP hS hl
  refine va_put (ty := ty0) (v := .int x) hX.x hX.b hX.t h3 ty h4 h5 hX.o hX.k hP (hX.d M) hS a (e_cz_at hs) h1 j h2 (hX.t _ h6) (fun x hx => by rw [h7] at hx; exact hx) hty.2 (by rw [h4 j h2, hty.1]) hn hfit (by rw [e_fv_len]; exact (List.getElem?_eq_some_iff.mp hj).1) hd (fun H1 l1 hP1 _ hS1 => k H1 l1 ls ?_ hS1 hl)
  rw [← e_cz_set (M := M) hs (show _ = e_ce _ _ _ _ from by rw [e_st_s]) e_st_o]
  show va_P _ _ (List.set _ _ (_, .inr (_, e_fv _ _ 0 fs))) _
  rw [← e_fv_set hj]
  exact hP1
theorem e_putfI {a ci j idx : Nat} {x : Int32} (hX : e_ok o cc X Sh) (hd : decode cc pc = .ok (.putfield idx, 3)) (hk : e_lk o idx = some (ci, j, 0)) (hf : e_fld Sh a ci j = some none) (k : e_E X Sh (pc + 3) lo st (e_st M a j x)) : e_E X Sh pc lo (.int x :: .ref a :: st) M := e_putfX hX hd hk (Or.inl ⟨rfl, rfl⟩) rfl rfl hf k
def e_nr (ty : FieldType) (x : Int32) : Prop := narrow ty (.int x) = .int x
def e_fz (x : Int32) : Prop := narrow .boolean (.int x) = .int x ∧ fits .boolean (.int x) = true
theorem e_putfZ {a ci j idx : Nat} {x : Int32} (hX : e_ok o cc X Sh) (hd : decode cc pc = .ok (.putfield idx, 3)) (hk : e_lk o idx = some (ci, j, 1)) (hz : e_fz x) (hf : e_fld Sh a ci j = some none) (k : e_E X Sh (pc + 3) lo st (e_st M a j x)) : e_E X Sh pc lo (.int x :: .ref a :: st) M := e_putfX hX hd hk (Or.inr ⟨rfl, rfl⟩) hz.1 hz.2 hf k
/-! constants -/
theorem e_ldc {v : Int32} {idx : Nat} (hX : e_ok o cc X Sh) (hd : decode cc pc = .ok (.ldc idx, 2)) (hk : e_kc o idx = some v) (k : e_E X Sh (pc + 2) lo (.int v :: st) M) : e_E X Sh pc lo st M := fun H locs ls hP hS hl => lv_ldc hX.x hX.b hX.o (hX.t _ (e_kc_ok hk)) hd (k H locs ls hP hS hl)
theorem e_ldcw {v : Int32} {idx : Nat} (hX : e_ok o cc X Sh) (hd : decode cc pc = .ok (.ldc_w idx, 3)) (hk : e_kc o idx = some v) (k : e_E X Sh (pc + 3) lo (.int v :: st) M) : e_E X Sh pc lo st M := fun H locs ls hP hS hl => lv_ldcw hX.x hX.b hX.o (hX.t _ (e_kc_ok hk)) hd (k H locs ls hP hS hl)
theorem e_ldcS {idx : Nat} (i : Nat) (hi : i < 15) (hX : e_ok 4 cc X Sh) (hd : decode cc pc = .ok (.ldc idx, 2)) (hk : e_six.getD i 0 = idx) (k : e_E X Sh (pc + 2) lo (.ref (1010 + i) :: st) M) : e_E X Sh pc lo st M := by
  subst hk
  intro H locs ls hP hS hl
  exact va_ldcS (own := "LastLight$Reader") hX.x hX.b hX.o (hX.c.2.2.2.2.2.1 i hi) hd (k H locs ls hP hS hl)
def e_gs (o idx : Nat) : Option Value := match o, idx with
  | 7, 287 => some (.ref 1000)
  | 7, 173 => some (.ref 1001)
  | 3, 9 => some (.ref 1002)
  | 10, 38 => some (.int 1)
  | _, _ => none
theorem e_getst {idx : Nat} {v : Value} (hX : e_ok o cc X Sh) (hd : decode cc pc = .ok (.getstatic idx, 3)) (hk : e_gs o idx = some v) (k : e_E X Sh (pc + 3) lo (v :: st) M) : e_E X Sh pc lo st M := by
  intro H locs ls hP hS hl
  obtain ⟨⟨a1, a2⟩, ⟨b1, b2⟩, ⟨c1, c2⟩, ⟨d1, -⟩, -⟩ := hX.c
  unfold e_gs at hk
  split at hk
  · cases hk
    exact va_gets hX.x hX.b a1 hS hX.o (hX.t (.fieldLink "LastLight" 287 "LastLight" "LEAST" "[I") (List.mem_filter.mpr (by decide +kernel))) (fun x hx => hx) hd (k H locs ls hP hS hl)
  · cases hk
    exact va_gets hX.x hX.b b1 hS hX.o (hX.t (.fieldLink "LastLight" 173 "LastLight" "MOST" "[I") (List.mem_filter.mpr (by decide +kernel))) (fun x hx => hx) hd (k H locs ls hP hS hl)
  · cases hk
    exact va_gets hX.x hX.b c1 hS hX.o (hX.t (.fieldLink "LastLight$Kinds" 9 "LastLight$Kinds" "ABOVE" "[I") (List.mem_filter.mpr (by decide +kernel))) (fun x hx => hx) hd (k H locs ls hP hS hl)
  · cases hk
    exact va_gets hX.x hX.b d1 hS hX.o (hX.t (.fieldLink "java/lang/String" 38 "java/lang/String" "COMPACT_STRINGS" "Z") (List.mem_filter.mpr (by decide +kernel))) (fun x hx => hx) hd (k H locs ls hP hS hl)
  · cases hk
/-- a static that is a reference or null -/
theorem e_getsq (hX : e_ok 10 cc X Sh) (hd : decode cc pc = .ok (.getstatic 1053, 3)) (k1 : e_E X Sh (pc + 3) lo (.null :: st) M) (k2 : e_E X Sh (pc + 3) lo (.ref 1003 :: st) M) : e_E X Sh pc lo st M := by
  intro H locs ls hP hS hl
  obtain ⟨-, -, -, ⟨-, d0⟩, -⟩ := hX.c
  have hf := hX.t (.fieldLink "java/lang/String" 1053 "jdk/internal/util/Preconditions" "SIOOBE_FORMATTER" "Ljava/util/function/BiFunction;") (List.mem_filter.mpr (by decide +kernel))
  rcases d0 with d0 | d0
  · exact va_gets hX.x hX.b d0 hS hX.o hf (fun x hx => hx) hd (k1 H locs ls hP hS hl)
  · exact va_gets hX.x hX.b d0 hS hX.o hf (fun x hx => hx) hd (k2 H locs ls hP hS hl)
def e_kt (a : Nat) : Option (List Int32) := match a with
  | 1000 => some e_t0
  | 1001 => some e_t1
  | 1002 => some e_t2
  | _ => none
theorem e_ialoadK {a : Nat} {L : List Int32} {i : Int32} (hX : e_ok o cc X Sh) (hd : decode cc pc = .ok (.iaload, 1)) (ha : e_kt a = some L) (hi : vp_in i L.length) (k : e_E X Sh (pc + 1) lo (.int (L.getD i.toNatClampNeg 0) :: st) M) : e_E X Sh pc lo (.int i :: .ref a :: st) M := by
  intro H locs ls hP hS hl
  obtain ⟨⟨a1, a2⟩, ⟨b1, b2⟩, ⟨c1, c2⟩, -⟩ := hX.c
  unfold e_kt at ha
  split at ha
  · cases ha; exact va_ti hX.x hX.b a2 hS hi rfl hd (k H locs ls hP hS hl)
  · cases ha; exact va_ti hX.x hX.b b2 hS hi rfl hd (k H locs ls hP hS hl)
  · cases ha; exact va_ti hX.x hX.b c2 hS hi rfl hd (k H locs ls hP hS hl)
  · cases ha
theorem e_alenK {a : Nat} {L : List Int32} (hX : e_ok o cc X Sh) (hd : decode cc pc = .ok (.arraylength, 1)) (ha : e_kt a = some L) (k : e_E X Sh (pc + 1) lo (.int (Int32.ofNat L.length) :: st) M) : e_E X Sh pc lo (.ref a :: st) M := by
  intro H locs ls hP hS hl
  obtain ⟨⟨a1, a2⟩, ⟨b1, b2⟩, ⟨c1, c2⟩, -⟩ := hX.c
  unfold e_kt at ha
  split at ha
  · cases ha; exact va_tlen hX.x hX.b a2 hS rfl hd (k H locs ls hP hS hl)
  · cases ha; exact va_tlen hX.x hX.b b2 hS rfl hd (k H locs ls hP hS hl)
  · cases ha; exact va_tlen hX.x hX.b c2 hS rfl hd (k H locs ls hP hS hl)
  · cases ha
/-! switches -/
def e_tw (k : Nat → Prop) (pc : Nat) (x : Int32) : Int → List Int → Prop
  | _, [] => True
  | v, f :: r => (x = Int32.ofInt v → 0 ≤ (pc : Int) + f ∧ k ((pc : Int) + f).toNat) ∧ e_tw k pc x (v + 1) r
theorem e_tw_at {k : Nat → Prop} {pc : Nat} {x : Int32} : ∀ {l : List Int} {v : Int} {j : Nat} {f : Int}, e_tw k pc x v l → l[j]? = some f → x = Int32.ofInt (v + j) → 0 ≤ (pc : Int) + f ∧ k ((pc : Int) + f).toNat := by
  intro l
  induction l with
  | nil => intro v j f h h1; simp at h1
  | cons a r ih =>
    intro v j f h h1 h2
    cases j with
    | zero => simp at h1; subst h1; exact h.1 (by simpa using h2)
    | succ j => exact ih (v := v + 1) h.2 (by simpa using h1) (by rw [h2]; congr 1; push_cast; omega)
theorem e_tswitch {x : Int32} {dflt lw hi : Int} {offs : Array Int} {len : Nat} (hX : e_ok o cc X Sh) (hd : decode cc pc = .ok (.tableswitch dflt lw hi offs, len)) (hn : (offs.size : Int) = hi - lw + 1) (hj : 0 ≤ (pc : Int) + dflt) (kd : (x.toInt < lw ∨ hi < x.toInt) → e_E X Sh ((pc : Int) + dflt).toNat lo st M) (kc : e_tw (fun q => e_E X Sh q lo st M) pc x lw offs.toList) : e_E X Sh pc lo (.int x :: st) M := by
  intro H locs ls hP hS hl
  by_cases h1 : x.toInt < lw
  · exact lv_tableOut hX.x hX.b hd (Or.inl h1) (e_jp hj) (kd (Or.inl h1) H locs ls hP hS hl)
  · by_cases h2 : hi < x.toInt
    · exact lv_tableOut hX.x hX.b hd (Or.inr h2) (e_jp hj) (kd (Or.inr h2) H locs ls hP hS hl)
    · have hlt : (x.toInt - lw).toNat < offs.size := by omega
      obtain ⟨f, hf⟩ : ∃ f, offs[(x.toInt - lw).toNat]? = some f := ⟨_, Array.getElem?_eq_getElem hlt⟩
      have hx : x = Int32.ofInt (lw + ((x.toInt - lw).toNat : Nat)) := by
        rw [show lw + (((x.toInt - lw).toNat : Nat) : Int) = x.toInt by omega]
        exact (Int32.ofInt_toInt x).symm
      obtain ⟨g1, g2⟩ := e_tw_at kc (by rw [Array.getElem?_toList]; exact hf) hx
      exact lv_tableIn hX.x hX.b hd h1 h2 hf (e_jp g1) (g2 H locs ls hP hS hl)
def e_lsw (k : Nat → Prop) (pc : Nat) (x : Int32) (d : Int) : List (Int × Int) → Prop
  | [] => 0 ≤ (pc : Int) + d ∧ k ((pc : Int) + d).toNat
  | (v, f) :: r => (x = Int32.ofInt v → 0 ≤ (pc : Int) + f ∧ k ((pc : Int) + f).toNat) ∧ (¬ x = Int32.ofInt v → e_lsw k pc x d r)
theorem e_lswitch {x : Int32} {dflt : Int} {ps : Array (Int × Int)} {len : Nat} (hX : e_ok o cc X Sh) (hd : decode cc pc = .ok (.lookupswitch dflt ps, len)) (hp : (ps.toList.zip (ps.toList.drop 1)).all (fun (a, next) => a.1 < next.1) = true) (hr : ps.toList.all (fun q => (Int32.ofInt q.1).toInt == q.1) = true) (kc : e_lsw (fun q => e_E X Sh q lo st M) pc x dflt ps.toList) : e_E X Sh pc lo (.int x :: st) M := by
  intro H locs ls hP hS hl
  have key : ∀ (l : List (Int × Int)), l.all (fun q => (Int32.ofInt q.1).toInt == q.1) = true → e_lsw (fun q => e_E X Sh q lo st M) pc x dflt l → ∃ off, Op.lookupswitch.offset l dflt x.toInt = off ∧ 0 ≤ (pc : Int) + off ∧ e_E X Sh ((pc : Int) + off).toNat lo st M := by
    intro l
    induction l with
    | nil => intro _ h; exact ⟨dflt, rfl, h.1, h.2⟩
    | cons q r ih =>
      intro hq h
      obtain ⟨v, f⟩ := q
      simp only [List.all_cons, Bool.and_eq_true, beq_iff_eq] at hq
      have hv : (Int32.ofInt v).toInt = v := hq.1
      by_cases e : x = Int32.ofInt v
      · obtain ⟨g1, g2⟩ := h.1 e
        refine ⟨f, ?_, g1, g2⟩
        rw [Op.lookupswitch.offset_cons, if_pos (by rw [e, hv])]
      · obtain ⟨off, g0, g1, g2⟩ := ih hq.2 (h.2 e)
        exact ⟨off, by rw [lv_osw e hv]; exact g0, g1, g2⟩
  obtain ⟨off, g0, g1, g2⟩ := key ps.toList hr kc
  exact lv_lookup hX.x hX.b hd hp g0 (e_jp g1) (g2 H locs ls hP hS hl)
end EF
