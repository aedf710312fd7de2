/-! ===== the start: what the Statement gives ===== -/
def tmS (i : Nat) : Term := .string "LastLight$Reader" (e_six.getD i 0)
abbrev gvL : List Cond := flatC (Jvm.Cond.and given_1 narrow_1)
theorem st_ex : ∀ i, i < 15 → Cond.exactly (tmS i) "java/lang/String" ∈ gvL := by decide +kernel
theorem st_co : ∀ i, i < 15 → Cond.eq (.field (tmS i) "java/lang/String" "coder" "B") (.int 0) ∈ gvL := by decide +kernel
theorem st_ar : ∀ i, i < 15 → Cond.arrayOf (.field (tmS i) "java/lang/String" "value" "[B") .byte ∈ gvL := by decide +kernel
theorem st_le : ∀ i, i < 15 → Cond.eq (.length (.field (tmS i) "java/lang/String" "value" "[B")) (.int (Int32.ofNat (e_len.getD i 0))) ∈ gvL := by decide +kernel
theorem st_el : ∀ i, i < 15 → ∀ j, j < e_len.getD i 0 → Cond.eq (.elem (.field (tmS i) "java/lang/String" "value" "[B") (.int (Int32.ofNat j))) (.int ((e_byt.getD i []).getD j 0)) ∈ gvL := by decide +kernel
theorem st_n1 : ∀ i, i < 1 → gvL[62 + i]? = some (Cond.not (Cond.eq (tmS i) (tmS 1))) := by decide +kernel
theorem st_n2 : ∀ i, i < 2 → gvL[70 + i]? = some (Cond.not (Cond.eq (tmS i) (tmS 2))) := by decide +kernel
theorem st_n3 : ∀ i, i < 3 → gvL[79 + i]? = some (Cond.not (Cond.eq (tmS i) (tmS 3))) := by decide +kernel
theorem st_n4 : ∀ i, i < 4 → gvL[88 + i]? = some (Cond.not (Cond.eq (tmS i) (tmS 4))) := by decide +kernel
theorem st_n5 : ∀ i, i < 5 → gvL[100 + i]? = some (Cond.not (Cond.eq (tmS i) (tmS 5))) := by decide +kernel
theorem st_n6 : ∀ i, i < 6 → gvL[111 + i]? = some (Cond.not (Cond.eq (tmS i) (tmS 6))) := by decide +kernel
theorem st_n7 : ∀ i, i < 7 → gvL[122 + i]? = some (Cond.not (Cond.eq (tmS i) (tmS 7))) := by decide +kernel
theorem st_n8 : ∀ i, i < 8 → gvL[134 + i]? = some (Cond.not (Cond.eq (tmS i) (tmS 8))) := by decide +kernel
theorem st_n9 : ∀ i, i < 9 → gvL[147 + i]? = some (Cond.not (Cond.eq (tmS i) (tmS 9))) := by decide +kernel
theorem st_n10 : ∀ i, i < 10 → gvL[161 + i]? = some (Cond.not (Cond.eq (tmS i) (tmS 10))) := by decide +kernel
theorem st_n11 : ∀ i, i < 11 → gvL[176 + i]? = some (Cond.not (Cond.eq (tmS i) (tmS 11))) := by decide +kernel
theorem st_n12 : ∀ i, i < 12 → gvL[194 + i]? = some (Cond.not (Cond.eq (tmS i) (tmS 12))) := by decide +kernel
theorem st_n13 : ∀ i, i < 13 → gvL[212 + i]? = some (Cond.not (Cond.eq (tmS i) (tmS 13))) := by decide +kernel
theorem st_n14 : ∀ i, i < 14 → gvL[231 + i]? = some (Cond.not (Cond.eq (tmS i) (tmS 14))) := by decide +kernel
theorem st_np : ∀ j, j < 15 → ∀ i, i < j → Cond.not (Cond.eq (tmS i) (tmS j)) ∈ gvL := by
  intro j hj i hi
  match j, hj, hi with
  | 1, _, hi => exact List.mem_of_getElem? (st_n1 i hi)
  | 2, _, hi => exact List.mem_of_getElem? (st_n2 i hi)
  | 3, _, hi => exact List.mem_of_getElem? (st_n3 i hi)
  | 4, _, hi => exact List.mem_of_getElem? (st_n4 i hi)
  | 5, _, hi => exact List.mem_of_getElem? (st_n5 i hi)
  | 6, _, hi => exact List.mem_of_getElem? (st_n6 i hi)
  | 7, _, hi => exact List.mem_of_getElem? (st_n7 i hi)
  | 8, _, hi => exact List.mem_of_getElem? (st_n8 i hi)
  | 9, _, hi => exact List.mem_of_getElem? (st_n9 i hi)
  | 10, _, hi => exact List.mem_of_getElem? (st_n10 i hi)
  | 11, _, hi => exact List.mem_of_getElem? (st_n11 i hi)
  | 12, _, hi => exact List.mem_of_getElem? (st_n12 i hi)
  | 13, _, hi => exact List.mem_of_getElem? (st_n13 i hi)
  | 14, _, hi => exact List.mem_of_getElem? (st_n14 i hi)
theorem st_ne : ∀ i, i < 15 → ∀ j, j < 15 → i ≠ j → Cond.not (Cond.eq (tmS i) (tmS j)) ∈ gvL ∨ Cond.not (Cond.eq (tmS j) (tmS i)) ∈ gvL := by
  intro i hi j hj hij
  by_cases h : i < j
  · exact Or.inl (st_np j hj i h)
  · exact Or.inr (st_np i hi j (by omega))
theorem st_rf : ∀ i, i < 15 → Cond.stringRef "LastLight$Reader" (e_six.getD i 0) (e_stx.getD i "") ∈ lw_tbl := by
  intro i hi
  match i, hi with
  | 0, _ => exact List.mem_of_getElem? (i := 102) (by decide +kernel)
  | 1, _ => exact List.mem_of_getElem? (i := 566) (by decide +kernel)
  | 2, _ => exact List.mem_of_getElem? (i := 619) (by decide +kernel)
  | 3, _ => exact List.mem_of_getElem? (i := 620) (by decide +kernel)
  | 4, _ => exact List.mem_of_getElem? (i := 621) (by decide +kernel)
  | 5, _ => exact List.mem_of_getElem? (i := 622) (by decide +kernel)
  | 6, _ => exact List.mem_of_getElem? (i := 623) (by decide +kernel)
  | 7, _ => exact List.mem_of_getElem? (i := 703) (by decide +kernel)
  | 8, _ => exact List.mem_of_getElem? (i := 708) (by decide +kernel)
  | 9, _ => exact List.mem_of_getElem? (i := 713) (by decide +kernel)
  | 10, _ => exact List.mem_of_getElem? (i := 717) (by decide +kernel)
  | 11, _ => exact List.mem_of_getElem? (i := 718) (by decide +kernel)
  | 12, _ => exact List.mem_of_getElem? (i := 719) (by decide +kernel)
  | 13, _ => exact List.mem_of_getElem? (i := 720) (by decide +kernel)
  | 14, _ => exact List.mem_of_getElem? (i := 721) (by decide +kernel)
theorem st_ns : ∀ q ∈ e_nst, Cond.methodLinkNest q.1 q.2.1 q.2.2.1 q.2.2.2 ∈ lw_tbl := by decide +kernel
theorem st_t0 : ∀ j, j < 5 → Cond.eq (.elem (.static "LastLight" "LEAST" "[I") (.int (Int32.ofNat j))) (.int (e_t0.getD j 0)) ∈ gvL := by decide +kernel
theorem st_t1 : ∀ j, j < 5 → Cond.eq (.elem (.static "LastLight" "MOST" "[I") (.int (Int32.ofNat j))) (.int (e_t1.getD j 0)) ∈ gvL := by decide +kernel
theorem st_t2 : ∀ j, j < 6 → Cond.eq (.elem (.static "LastLight$Kinds" "ABOVE" "[I") (.int (Int32.ofNat j))) (.int (e_t2.getD j 0)) ∈ gvL := by decide +kernel
theorem lw_kk {b : Nat} {s : State} {A : Nat → Prop} (hts : ∀ w ∈ lw_tbl, w.before #[Value.ref b] s = true) (hgv : (Jvm.Cond.and given_1 narrow_1).before #[Value.ref b] s = true) (hA : ∀ a : Nat, a < s.heap.size → ¬ A a) : ∃ ad : Nat → Nat, ad 1004 = b ∧ e_kk ad A s s.heap := by
  have hs := flat_of_before _ hgv
  obtain ⟨t0, e0, T0⟩ := va_Tof (tm := .static "LastLight" "LEAST" "[I") (ty := .int) (N := 5) (f := fun j => .int (e_t0.getD j 0)) (A := A) (by decide) (hs (.arrayOf (.static "LastLight" "LEAST" "[I") .int) (by decide +kernel)) (va_eqt (hs (.eq (.length (.static "LastLight" "LEAST" "[I")) (.int 5)) (by decide +kernel))) (fun j hj => va_eqt (hs _ (st_t0 j hj))) hA
  obtain ⟨t1, e1, T1⟩ := va_Tof (tm := .static "LastLight" "MOST" "[I") (ty := .int) (N := 5) (f := fun j => .int (e_t1.getD j 0)) (A := A) (by decide) (hs (.arrayOf (.static "LastLight" "MOST" "[I") .int) (by decide +kernel)) (va_eqt (hs (.eq (.length (.static "LastLight" "MOST" "[I")) (.int 5)) (by decide +kernel))) (fun j hj => va_eqt (hs _ (st_t1 j hj))) hA
  obtain ⟨t2, e2, T2⟩ := va_Tof (tm := .static "LastLight$Kinds" "ABOVE" "[I") (ty := .int) (N := 6) (f := fun j => .int (e_t2.getD j 0)) (A := A) (by decide) (hs (.arrayOf (.static "LastLight$Kinds" "ABOVE" "[I") .int) (by decide +kernel)) (va_eqt (hs (.eq (.length (.static "LastLight$Kinds" "ABOVE" "[I")) (.int 6)) (by decide +kernel))) (fun j hj => va_eqt (hs _ (st_t2 j hj))) hA
  have Z0 := va_Zof (A := A) (hts (.laysStatic "LastLight" "LEAST" "[I") (List.mem_of_getElem? (i := 308) (by decide +kernel))) (hts (.initialized "LastLight") (by decide +kernel)) e0 hA
  have Z1 := va_Zof (A := A) (hts (.laysStatic "LastLight" "MOST" "[I") (List.mem_of_getElem? (i := 310) (by decide +kernel))) (hts (.initialized "LastLight") (by decide +kernel)) e1 hA
  have Z2 := va_Zof (A := A) (hts (.laysStatic "LastLight$Kinds" "ABOVE" "[I") (List.mem_of_getElem? (i := 366) (by decide +kernel))) (hts (.initialized "LastLight$Kinds") (by decide +kernel)) e2 hA
  have Z3 := va_Zof (A := A) (hts (.laysStatic "java/lang/String" "COMPACT_STRINGS" "Z") (List.mem_of_getElem? (i := 580) (by decide +kernel))) (hts (.initialized "java/lang/String") (by decide +kernel)) (va_eqt (hs (.eq (.static "java/lang/String" "COMPACT_STRINGS" "Z") (.int 1)) (by decide +kernel))) hA
  obtain ⟨t3, Z4⟩ : ∃ t3 : Nat, va_Z "jdk/internal/util/Preconditions" "SIOOBE_FORMATTER" "Ljava/util/function/BiFunction;" .null A s s.heap ∨ va_Z "jdk/internal/util/Preconditions" "SIOOBE_FORMATTER" "Ljava/util/function/BiFunction;" (.ref t3) A s s.heap := by
    rcases va_Zqof (A := A) (hts (.laysStatic "jdk/internal/util/Preconditions" "SIOOBE_FORMATTER" "Ljava/util/function/BiFunction;") (List.mem_of_getElem? (i := 596) (by decide +kernel))) (hts (.initialized "jdk/internal/util/Preconditions") (by decide +kernel)) (hs (.isRef (.static "jdk/internal/util/Preconditions" "SIOOBE_FORMATTER" "Ljava/util/function/BiFunction;")) (by decide +kernel)) hA with h | ⟨t, h⟩
    · exact ⟨0, Or.inl h⟩
    · exact ⟨t, Or.inr h⟩
  obtain ⟨adK, adV, VS, VE⟩ := vk_Sof (N := 15) (tm := tmS) (len := e_len) (byt := e_byt) (A := A) (args := #[Value.ref b]) (s := s) (by decide) (fun i hi => hs _ (st_ex i hi)) (fun i hi => hs _ (st_co i hi)) (fun i hi => hs _ (st_ar i hi)) (fun i hi => hs _ (st_le i hi)) (fun i hi j hj => hs _ (st_el i hi j hj)) (fun i j hi hj hij => (st_ne i hi j hj hij).imp (hs _) (hs _)) hA
  refine ⟨fun i => if i = 1000 then t0 else if i = 1001 then t1 else if i = 1002 then t2 else if i = 1003 then t3 else if i = 1004 then b else if i < 1030 then adK (i - 1010) else adV (i - 1030), rfl, ?_⟩
  have hK : ∀ i, i < 15 → (fun i => if i = 1000 then t0 else if i = 1001 then t1 else if i = 1002 then t2 else if i = 1003 then t3 else if i = 1004 then b else if i < 1030 then adK (i - 1010) else adV (i - 1030)) (1010 + i) = adK i := fun i hi => by
    show (if 1010 + i = 1000 then _ else _) = _
    rw [if_neg (by omega), if_neg (by omega), if_neg (by omega), if_neg (by omega), if_neg (by omega), if_pos (by omega), Nat.add_sub_cancel_left]
  have hV : ∀ i, i < 15 → (fun i => if i = 1000 then t0 else if i = 1001 then t1 else if i = 1002 then t2 else if i = 1003 then t3 else if i = 1004 then b else if i < 1030 then adK (i - 1010) else adV (i - 1030)) (1030 + i) = adV i := fun i hi => by
    show (if 1030 + i = 1000 then _ else _) = _
    rw [if_neg (by omega), if_neg (by omega), if_neg (by omega), if_neg (by omega), if_neg (by omega), if_neg (by omega), Nat.add_sub_cancel_left]
  generalize hf : (fun i => if i = 1000 then t0 else if i = 1001 then t1 else if i = 1002 then t2 else if i = 1003 then t3 else if i = 1004 then b else if i < 1030 then adK (i - 1010) else adV (i - 1030)) = f at hK hV ⊢
  have f0 : f 1000 = t0 := by rw [← hf]; rfl
  have f1 : f 1001 = t1 := by rw [← hf]; rfl
  have f2 : f 1002 = t2 := by rw [← hf]; rfl
  have f3 : f 1003 = t3 := by rw [← hf]; rfl
  refine ⟨⟨by rw [f0]; exact Z0, by rw [f0]; exact T0⟩, ⟨by rw [f1]; exact Z1, by rw [f1]; exact T1⟩, ⟨by rw [f2]; exact Z2, by rw [f2]; exact T2⟩, ⟨Z3, by rw [f3]; exact Z4⟩, ⟨fun i hi => ?_, fun i j hi hj e => ?_⟩, fun i hi => ?_, fun q hq => va_Nw.of rfl (hts _ (st_ns q hq))⟩
  · simp only [hK i hi, hV i hi]; exact VS.1 i hi
  · simp only [hK i hi, hK j hj] at e; exact VS.2 i j hi hj e
  · rw [hK i hi]; exact vk_R.of (hts _ (st_rf i hi)) (VE i hi)
theorem lw_K (l : Launch) {b : Nat} {s : State} (hts : ∀ w ∈ lw_tbl, w.before #[Value.ref b] s = true) : ∃ (D : va_G) (cA : Nat → ClassId), va_K D vwCl (e_TT cA) s ∧ e_fc (l, D, cA) s := by
  have ht : ∀ w ∈ e_tbl, w.before #[Value.ref b] s = true := fun w h => hts w (List.mem_filter.mp h).1
  obtain ⟨c0, i0, K0⟩ := u_known (n := 5) ht e_in0 (ht _ wIns0)
  obtain ⟨c1, i1, K1⟩ := u_known (n := 3) ht e_in1 (ht _ wIns1)
  obtain ⟨c2, i2, K2⟩ := u_known (n := 10) ht e_in2 (ht _ wIns2)
  obtain ⟨c4, i4, K4⟩ := u_known (n := 11) ht e_in4 (ht _ wIns4)
  obtain ⟨c5, i5, K5⟩ := u_known (n := 3) ht e_in5 (ht _ wIns5)
  obtain ⟨c6, i6, K6⟩ := u_known (n := 5) ht e_in6 (ht _ wIns6)
  obtain ⟨c7, i7, K7⟩ := u_known (n := 13) ht e_in7 (ht _ wIns7)
  obtain ⟨c8, i8, K8⟩ := u_known (n := 34) ht e_in8 (ht _ wIns8)
  obtain ⟨a0, k0, m0, f0, g0, h0⟩ := Cond.arrayClass_spec (ht _ wArr0)
  obtain ⟨a1, k1, m1, f1, g1, h1⟩ := Cond.arrayClass_spec (ht _ wArr1)
  obtain ⟨a2, k2, m2, f2, g2, h2⟩ := Cond.arrayClass_spec (ht _ wArr2)
  have o3 : (Cond.arrayOver (.object "LastLight$Sheet")).before #[Value.ref b] s = true := hts _ (List.mem_of_getElem? (i := 208) (by decide +kernel))
  have o4 : (Cond.arrayOver (.object "LastLight$Slot")).before #[Value.ref b] s = true := hts _ (List.mem_of_getElem? (i := 210) (by decide +kernel))
  have o5 : (Cond.arrayOver (.array .int)).before #[Value.ref b] s = true := hts _ (List.mem_of_getElem? (i := 76) (by decide +kernel))
  obtain ⟨m3, a3, k3, e3, -, g3, h3, f3⟩ := Cond.arrayOver_spec o3
  obtain ⟨m4, a4, k4, e4, -, g4, h4, f4⟩ := Cond.arrayOver_spec o4
  obtain ⟨m5, a5, k5, e5, f5, g5, h5⟩ := e_ao o5
  have e6 : m5 = a0 := Option.some.inj (e5.symm.trans f0)
  rw [e6] at h5
  refine ⟨(fun k => match k with | 0 => c0 | 1 => c1 | 2 => c2 | 3 => c4 | 4 => c5 | 5 => c6 | 6 => c7 | _ => c8, fun k => match k with | 0 => i0 | 1 => i1 | 2 => i2 | 3 => i4 | 4 => i5 | 5 => i6 | 6 => i7 | _ => i8), fun t => match t with | 0 => a0 | 1 => a1 | 2 => a2 | 3 => a3 | 4 => a4 | _ => a5, ⟨fun k q hq => ?_, fun k q hq => ?_⟩, ⟨f0, f1, f2, f3, f4, f5⟩, va_AO.of o3, va_AO.of o4, ⟨k5, k0, m0, g5, h5, g0, h0⟩⟩
  · match k, hq with
    | 0, hq => cases hq; exact K0
    | 1, hq => cases hq; exact K1
    | 2, hq => cases hq; exact K2
    | 3, hq => cases hq; exact K4
    | 4, hq => cases hq; exact K5
    | 5, hq => cases hq; exact K6
    | 6, hq => cases hq; exact K7
    | 7, hq => cases hq; exact K8
    | k + 8, hq => simp [vwCl] at hq
  · match k, hq with
    | 0, hq => cases hq; exact ⟨fun n z => ⟨fun k h => (by cases h), k0, g0, m0, h0⟩, f0⟩
    | 1, hq => cases hq; exact ⟨fun n z => ⟨fun k h => (by cases h), k1, g1, m1, h1⟩, f1⟩
    | 2, hq => cases hq; exact ⟨fun n z => ⟨fun k h => (by cases h), k2, g2, m2, h2⟩, f2⟩
    | 3, hq => cases hq; exact ⟨fun n z => ⟨fun k h => (by cases h), k3, g3, m3, h3⟩, k3, m3, g3, h3, e3, f3⟩
    | 4, hq => cases hq; exact ⟨fun n z => ⟨fun k h => (by cases h), k4, g4, m4, h4⟩, k4, m4, g4, h4, e4, f4⟩
    | 5, hq => cases hq; exact ⟨fun n z => ⟨fun k h => (by cases h), k5, g5, a0, h5⟩, f5⟩
    | k + 6, hq => simp [e_TT] at hq
