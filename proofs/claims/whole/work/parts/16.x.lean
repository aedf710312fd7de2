theorem e_st_r {M : e_M} {i j a b : Nat} {x : Int32} : e_st M i j x a b = if a = i then (if b = j then x else M a b) else M a b := by
  unfold e_st
  by_cases h : a = i
  · rw [if_pos h, if_pos h]; rfl
  · rw [if_neg h, if_neg h]
theorem e_ta {a p : Prop} (h : a) : (a ∧ p) = p := propext ⟨fun z => z.2, fun z => ⟨h, z⟩⟩
def e_isi (o : Option Value) : Prop := match o with
  | some (.int _) => True
  | _ => False
def e_vi (o : Option Value) : Int32 := match o with
  | some (.int x) => x
  | _ => 0
theorem e_isi_q {o : Option Value} {f : Int32 → Prop} : e_gi o f = (e_isi o ∧ f (e_vi o)) := by
  match o with
  | none => simp [e_gi, e_isi]
  | some v => cases v <;> simp [e_gi, e_isi, e_vi]
theorem x_isi {x : Int32} : e_isi (some (.int x)) = True := rfl
theorem x_vi {x : Int32} : e_vi (some (.int x)) = x := rfl
def e_isl (o : Option Value) : Prop := match o with
  | some (.long _) => True
  | _ => False
def e_vl (o : Option Value) : Int64 := match o with
  | some (.long x) => x
  | _ => 0
theorem e_isl_q {o : Option Value} {f : Int64 → Prop} : e_gl o f = (e_isl o ∧ f (e_vl o)) := by
  match o with
  | none => simp [e_gl, e_isl]
  | some v => cases v <;> simp [e_gl, e_isl, e_vl]
theorem x_isl {x : Int64} : e_isl (some (.long x)) = True := rfl
theorem x_vl {x : Int64} : e_vl (some (.long x)) = x := rfl
def e_isa (o : Option Value) : Prop := match o with
  | some (.ref _) => True
  | _ => False
def e_va (o : Option Value) : Nat := match o with
  | some (.ref x) => x
  | _ => 0
theorem e_isa_q {o : Option Value} {f : Nat → Prop} : e_ga o f = (e_isa o ∧ f (e_va o)) := by
  match o with
  | none => simp [e_ga, e_isa]
  | some v => cases v <;> simp [e_ga, e_isa, e_va]
theorem x_isa {x : Nat} : e_isa (some (.ref x)) = True := rfl
theorem x_va {x : Nat} : e_va (some (.ref x)) = x := rfl
def e_kq (k : Nat → List (Option Value) → List Value → e_M → Prop) (lo : List (Option Value)) (st : List Value) (M : e_M) : Nat → Prop := fun q => k q lo st M
def e_kp (k : Nat → List (Option Value) → List Value → e_M → Prop) (pc : Nat) (lo : List (Option Value)) : List Value → e_M → Prop := fun r N => k (pc + 3) lo r N
section XR
variable {X : e_X} {Sh : List e_S} {o nL : Nat} {rt : Option FieldType} {fn : List e_F} {P : Option Value → e_M → Prop} {k : Nat → List (Option Value) → List Value → e_M → Prop} {pc : Nat} {lo : List (Option Value)} {st : List Value} {M : e_M}
theorem x_iadd {x y : Int32} : e_sx X Sh o nL rt fn P k (.iadd) pc 1 lo (.int y :: .int x :: st) M = (k (pc + 1) lo (.int (x + y) :: st) M) := e_ta rfl
theorem x_isub {x y : Int32} : e_sx X Sh o nL rt fn P k (.isub) pc 1 lo (.int y :: .int x :: st) M = (k (pc + 1) lo (.int (x - y) :: st) M) := e_ta rfl
theorem x_imul {x y : Int32} : e_sx X Sh o nL rt fn P k (.imul) pc 1 lo (.int y :: .int x :: st) M = (k (pc + 1) lo (.int (x * y) :: st) M) := e_ta rfl
theorem x_iand {x y : Int32} : e_sx X Sh o nL rt fn P k (.iand) pc 1 lo (.int y :: .int x :: st) M = (k (pc + 1) lo (.int (x &&& y) :: st) M) := e_ta rfl
theorem x_ior {x y : Int32} : e_sx X Sh o nL rt fn P k (.ior) pc 1 lo (.int y :: .int x :: st) M = (k (pc + 1) lo (.int (x ||| y) :: st) M) := e_ta rfl
theorem x_ishl {x y : Int32} : e_sx X Sh o nL rt fn P k (.ishl) pc 1 lo (.int y :: .int x :: st) M = (k (pc + 1) lo (.int (x <<< (y &&& 31)) :: st) M) := e_ta rfl
theorem x_ishr {x y : Int32} : e_sx X Sh o nL rt fn P k (.ishr) pc 1 lo (.int y :: .int x :: st) M = (k (pc + 1) lo (.int (x >>> (y &&& 31)) :: st) M) := e_ta rfl
theorem x_iushr {x y : Int32} : e_sx X Sh o nL rt fn P k (.iushr) pc 1 lo (.int y :: .int x :: st) M = (k (pc + 1) lo (.int (e_ush x y) :: st) M) := e_ta rfl
theorem x_idiv {x y : Int32} : e_sx X Sh o nL rt fn P k (.idiv) pc 1 lo (.int y :: .int x :: st) M = (¬ y = 0 ∧ k (pc + 1) lo (.int (x / y) :: st) M) := e_ta rfl
theorem x_irem {x y : Int32} : e_sx X Sh o nL rt fn P k (.irem) pc 1 lo (.int y :: .int x :: st) M = (¬ y = 0 ∧ k (pc + 1) lo (.int (e_rem x y) :: st) M) := e_ta rfl
theorem x_ineg {x : Int32} : e_sx X Sh o nL rt fn P k (.ineg) pc 1 lo (.int x :: st) M = (k (pc + 1) lo (.int (-x) :: st) M) := e_ta rfl
theorem x_ladd {x y : Int64} : e_sx X Sh o nL rt fn P k (.ladd) pc 1 lo (.long y :: .long x :: st) M = (k (pc + 1) lo (.long (x + y) :: st) M) := e_ta rfl
theorem x_lsub {x y : Int64} : e_sx X Sh o nL rt fn P k (.lsub) pc 1 lo (.long y :: .long x :: st) M = (k (pc + 1) lo (.long (x - y) :: st) M) := e_ta rfl
theorem x_lcmp {x y : Int64} : e_sx X Sh o nL rt fn P k (.lcmp) pc 1 lo (.long y :: .long x :: st) M = (k (pc + 1) lo (.int (lg_cmp x y) :: st) M) := e_ta rfl
theorem x_lneg {x : Int64} : e_sx X Sh o nL rt fn P k (.lneg) pc 1 lo (.long x :: st) M = (k (pc + 1) lo (.long (-x) :: st) M) := e_ta rfl
theorem x_i2l {x : Int32} : e_sx X Sh o nL rt fn P k (.i2l) pc 1 lo (.int x :: st) M = (k (pc + 1) lo (.long x.toInt64 :: st) M) := e_ta rfl
theorem x_l2i {x : Int64} : e_sx X Sh o nL rt fn P k (.l2i) pc 1 lo (.long x :: st) M = (k (pc + 1) lo (.int x.toInt32 :: st) M) := e_ta rfl
theorem x_i2s {x : Int32} : e_sx X Sh o nL rt fn P k (.i2s) pc 1 lo (.int x :: st) M = (k (pc + 1) lo (.int (x.toInt16.toInt32) :: st) M) := e_ta rfl
theorem x_i2b {x : Int32} : e_sx X Sh o nL rt fn P k (.i2b) pc 1 lo (.int x :: st) M = (k (pc + 1) lo (.int (x.toInt8.toInt32) :: st) M) := e_ta rfl
theorem x_i2c {x : Int32} : e_sx X Sh o nL rt fn P k (.i2c) pc 1 lo (.int x :: st) M = (k (pc + 1) lo (.int ((x.toUInt32 % 65536).toInt32) :: st) M) := e_ta rfl
theorem x_iconst {n : Int} : e_sx X Sh o nL rt fn P k (.iconst n) pc 1 lo st M = (k (pc + 1) lo (.int (e_i0 n) :: st) M) := e_ta rfl
theorem x_bipush {n : Int} : e_sx X Sh o nL rt fn P k (.bipush n) pc 2 lo st M = (k (pc + 2) lo (.int (e_i8 n) :: st) M) := e_ta rfl
theorem x_sipush {n : Int} : e_sx X Sh o nL rt fn P k (.sipush n) pc 3 lo st M = (k (pc + 3) lo (.int (e_i16 n) :: st) M) := e_ta rfl
theorem x_lconst {n : Fin 2} : e_sx X Sh o nL rt fn P k (.lconst n) pc 1 lo st M = (k (pc + 1) lo (.long (e_l0 n) :: st) M) := e_ta rfl
theorem x_iload_n {n : Fin 4} : e_sx X Sh o nL rt fn P k (.iload_n n) pc 1 lo st M = (e_isi (e_get lo (e_f4 n)) ∧ k (pc + 1) lo (.int (e_vi (e_get lo (e_f4 n))) :: st) M) := (e_ta rfl).trans (e_isi_q (f := fun x => k (pc + 1) lo (.int x :: st) M))
theorem x_iload {n : Nat} : e_sx X Sh o nL rt fn P k (.iload n) pc 2 lo st M = (e_isi (e_get lo n) ∧ k (pc + 2) lo (.int (e_vi (e_get lo n)) :: st) M) := (e_ta rfl).trans (e_isi_q (f := fun x => k (pc + 2) lo (.int x :: st) M))
theorem x_lload_n {n : Fin 4} : e_sx X Sh o nL rt fn P k (.lload_n n) pc 1 lo st M = (e_isl (e_get lo (e_f4 n)) ∧ k (pc + 1) lo (.long (e_vl (e_get lo (e_f4 n))) :: st) M) := (e_ta rfl).trans (e_isl_q (f := fun x => k (pc + 1) lo (.long x :: st) M))
theorem x_lload {n : Nat} : e_sx X Sh o nL rt fn P k (.lload n) pc 2 lo st M = (e_isl (e_get lo n) ∧ k (pc + 2) lo (.long (e_vl (e_get lo n)) :: st) M) := (e_ta rfl).trans (e_isl_q (f := fun x => k (pc + 2) lo (.long x :: st) M))
theorem x_aload_n {n : Fin 4} : e_sx X Sh o nL rt fn P k (.aload_n n) pc 1 lo st M = (e_isa (e_get lo (e_f4 n)) ∧ k (pc + 1) lo (.ref (e_va (e_get lo (e_f4 n))) :: st) M) := (e_ta rfl).trans (e_isa_q (f := fun x => k (pc + 1) lo (.ref x :: st) M))
theorem x_aload {n : Nat} : e_sx X Sh o nL rt fn P k (.aload n) pc 2 lo st M = (e_isa (e_get lo n) ∧ k (pc + 2) lo (.ref (e_va (e_get lo n)) :: st) M) := (e_ta rfl).trans (e_isa_q (f := fun x => k (pc + 2) lo (.ref x :: st) M))
theorem x_istore_n {n : Fin 4} {x : Int32} : e_sx X Sh o nL rt fn P k (.istore_n n) pc 1 lo (.int x :: st) M = (e_f4 n < nL ∧ k (pc + 1) (e_s1 lo (e_f4 n) (some (.int x))) st M) := e_ta rfl
theorem x_istore {n : Nat} {x : Int32} : e_sx X Sh o nL rt fn P k (.istore n) pc 2 lo (.int x :: st) M = (n < nL ∧ k (pc + 2) (e_s1 lo n (some (.int x))) st M) := e_ta rfl
theorem x_astore_n {n : Fin 4} {x : Nat} : e_sx X Sh o nL rt fn P k (.astore_n n) pc 1 lo (.ref x :: st) M = (e_f4 n < nL ∧ k (pc + 1) (e_s1 lo (e_f4 n) (some (.ref x))) st M) := e_ta rfl
theorem x_astore {n : Nat} {x : Nat} : e_sx X Sh o nL rt fn P k (.astore n) pc 2 lo (.ref x :: st) M = (n < nL ∧ k (pc + 2) (e_s1 lo n (some (.ref x))) st M) := e_ta rfl
theorem x_lstore_n {n : Fin 4} {x : Int64} : e_sx X Sh o nL rt fn P k (.lstore_n n) pc 1 lo (.long x :: st) M = (e_f4 n + 1 < nL ∧ k (pc + 1) (e_s1 (e_s1 lo (e_f4 n + 1) none) (e_f4 n) (some (.long x))) st M) := e_ta rfl
theorem x_lstore {n : Nat} {x : Int64} : e_sx X Sh o nL rt fn P k (.lstore n) pc 2 lo (.long x :: st) M = (n + 1 < nL ∧ k (pc + 2) (e_s1 (e_s1 lo (n + 1) none) n (some (.long x))) st M) := e_ta rfl
theorem x_iinc {n : Nat} {d : Int} : e_sx X Sh o nL rt fn P k (.iinc n d) pc 3 lo st M = (e_isi (e_get lo n) ∧ n < nL ∧ k (pc + 3) (e_s1 lo n (some (.int (e_vi (e_get lo n) + e_i0 d)))) st M) := (e_ta rfl).trans (e_isi_q (f := fun x => n < nL ∧ k (pc + 3) (e_s1 lo n (some (.int (x + e_i0 d)))) st M))
theorem x_dup_int {x : Int32} : e_sx X Sh o nL rt fn P k (.dup) pc 1 lo (.int x :: st) M = (k (pc + 1) lo (.int x :: .int x :: st) M) := (e_ta rfl).trans (e_ta rfl)
theorem x_pop_int {x : Int32} : e_sx X Sh o nL rt fn P k (.pop) pc 1 lo (.int x :: st) M = (k (pc + 1) lo st M) := (e_ta rfl).trans (e_ta rfl)
theorem x_dup_ref {x : Nat} : e_sx X Sh o nL rt fn P k (.dup) pc 1 lo (.ref x :: st) M = (k (pc + 1) lo (.ref x :: .ref x :: st) M) := (e_ta rfl).trans (e_ta rfl)
theorem x_pop_ref {x : Nat} : e_sx X Sh o nL rt fn P k (.pop) pc 1 lo (.ref x :: st) M = (k (pc + 1) lo st M) := (e_ta rfl).trans (e_ta rfl)
theorem x_dup2 {x : Int32} {a : Nat} : e_sx X Sh o nL rt fn P k (.dup2) pc 1 lo (.int x :: .ref a :: st) M = (k (pc + 1) lo (.int x :: .ref a :: .int x :: .ref a :: st) M) := (e_ta rfl).trans ((e_ta rfl).trans (e_ta rfl))
theorem x_if_icmp {x y : Int32} {c : ClassFile.Cond} {off : Int} : e_sx X Sh o nL rt fn P k (.if_icmp c off) pc 3 lo (.int y :: .int x :: st) M = (0 ≤ (pc : Int) + off ∧ (e_cm c x y → k ((pc : Int) + off).toNat lo st M) ∧ (¬ e_cm c x y → k (pc + 3) lo st M)) := e_ta rfl
theorem x_ifCond {x : Int32} {c : ClassFile.Cond} {off : Int} : e_sx X Sh o nL rt fn P k (.ifCond c off) pc 3 lo (.int x :: st) M = (0 ≤ (pc : Int) + off ∧ (e_cm c x 0 → k ((pc : Int) + off).toNat lo st M) ∧ (¬ e_cm c x 0 → k (pc + 3) lo st M)) := e_ta rfl
theorem x_goto {off : Int} : e_sx X Sh o nL rt fn P k (.goto off) pc 3 lo st M = (0 ≤ (pc : Int) + off ∧ k ((pc : Int) + off).toNat lo st M) := e_ta rfl
def e_ai (Sh : List e_S) (a t : Nat) (i : Int32) : Prop := match e_arr Sh a with
  | some (u, n) => u = t ∧ vp_in i n
  | none => False
theorem e_ai_q {a t : Nat} {i : Int32} {f : Prop} : (match e_arr Sh a with | some (u, n) => (u = t ∧ vp_in i n) ∧ f | none => False) = (e_ai Sh a t i ∧ f) := by
  unfold e_ai
  cases e_arr Sh a with
  | none => simp
  | some q => rfl
theorem x_iaload {i : Int32} {a : Nat} (hK : e_kt a = none) : e_sx X Sh o nL rt fn P k (.iaload) pc 1 lo (.int i :: .ref a :: st) M = (e_ai Sh a 0 i ∧ k (pc + 1) lo (.int (M a i.toNatClampNeg) :: st) M) := by
  refine (e_ta rfl).trans ?_
  rw [← e_ai_q (t := 0)]
  show (match e_arr Sh a with | some (0, n) => _ | _ => _) = _
  cases h : e_arr Sh a with
  | none => simp [hK, e_os]
  | some q =>
    obtain ⟨u, n⟩ := q
    by_cases e : u = 0
    · subst e; simp
    · dsimp only
      split
      · rename_i h2; cases h2; exact absurd rfl e
      · simp [e, hK, e_os]
theorem x_baload {i : Int32} {a : Nat} : e_sx X Sh o nL rt fn P k (.baload) pc 1 lo (.int i :: .ref a :: st) M = (e_ai Sh a 1 i ∧ k (pc + 1) lo (.int (M a i.toNatClampNeg) :: st) M) := by
  refine (e_ta rfl).trans ?_
  rw [← e_ai_q (t := 1)]
  show (match e_arr Sh a with | some (1, n) => _ | _ => _) = _
  cases h : e_arr Sh a with
  | none => rfl
  | some q =>
    obtain ⟨u, n⟩ := q
    by_cases e : u = 1
    · subst e; simp
    · dsimp only
      split
      · rename_i h2; cases h2; exact absurd rfl e
      · simp [e]
theorem x_caload {i : Int32} {a : Nat} : e_sx X Sh o nL rt fn P k (.caload) pc 1 lo (.int i :: .ref a :: st) M = (e_ai Sh a 2 i ∧ k (pc + 1) lo (.int (M a i.toNatClampNeg) :: st) M) := by
  refine (e_ta rfl).trans ?_
  rw [← e_ai_q (t := 2)]
  show (match e_arr Sh a with | some (2, n) => _ | _ => _) = _
  cases h : e_arr Sh a with
  | none => rfl
  | some q =>
    obtain ⟨u, n⟩ := q
    by_cases e : u = 2
    · subst e; simp
    · dsimp only
      split
      · rename_i h2; cases h2; exact absurd rfl e
      · simp [e]
theorem x_iastore {i x : Int32} {a : Nat} : e_sx X Sh o nL rt fn P k (.iastore) pc 1 lo (.int x :: .int i :: .ref a :: st) M = (e_ai Sh a 0 i ∧ k (pc + 1) lo st (e_st M a i.toNatClampNeg (x))) := by
  refine (e_ta rfl).trans ?_
  rw [← e_ai_q (t := 0)]
  show (match e_arr Sh a with | some (0, n) => _ | _ => _) = _
  cases h : e_arr Sh a with
  | none => rfl
  | some q =>
    obtain ⟨u, n⟩ := q
    by_cases e : u = 0
    · subst e; simp
    · dsimp only
      split
      · rename_i h2; cases h2; exact absurd rfl e
      · simp [e]
theorem x_bastore {i x : Int32} {a : Nat} : e_sx X Sh o nL rt fn P k (.bastore) pc 1 lo (.int x :: .int i :: .ref a :: st) M = (e_ai Sh a 1 i ∧ k (pc + 1) lo st (e_st M a i.toNatClampNeg (vp_nar .boolean x))) := by
  refine (e_ta rfl).trans ?_
  rw [← e_ai_q (t := 1)]
  show (match e_arr Sh a with | some (1, n) => _ | _ => _) = _
  cases h : e_arr Sh a with
  | none => rfl
  | some q =>
    obtain ⟨u, n⟩ := q
    by_cases e : u = 1
    · subst e; simp
    · dsimp only
      split
      · rename_i h2; cases h2; exact absurd rfl e
      · simp [e]
theorem x_arraylength {a : Nat} : e_sx X Sh o nL rt fn P k (.arraylength) pc 1 lo (.ref a :: st) M = (match Sh[a]? with
    | some (.inl (t, n, _)) => e_tn t = true ∧ k (pc + 1) lo (.int (Int32.ofNat n) :: st) M
    | _ => e_os (e_kt a) (fun L => k (pc + 1) lo (.int (Int32.ofNat L.length) :: st) M)) := e_ta rfl
theorem x_aaload {i : Int32} {a : Nat} : e_sx X Sh o nL rt fn P k (.aaload) pc 1 lo (.int i :: .ref a :: st) M = (e_os (e_rar Sh a) (fun q => e_tr q.1 = true ∧ vp_in i q.2.1 ∧ e_os (q.2.2.getD i.toNatClampNeg none) (fun b => k (pc + 1) lo (.ref b :: st) M))) := e_ta rfl
theorem x_getfield {a idx : Nat} : e_sx X Sh o nL rt fn P k (.getfield idx) pc 3 lo (.ref a :: st) M = (e_os (e_lk o idx) (fun q => e_gf (e_fld Sh a q.1 q.2.1) (fun v => k (pc + 3) lo (v :: st) M) (k (pc + 3) lo (.int (M a q.2.1) :: st) M))) := e_ta rfl
theorem x_putfield {a idx : Nat} {x : Int32} : e_sx X Sh o nL rt fn P k (.putfield idx) pc 3 lo (.int x :: .ref a :: st) M = (e_os (e_lk o idx) (fun q => e_fld Sh a q.1 q.2.1 = some none ∧ (q.2.2 = 0 ∨ q.2.2 = 1 ∧ e_fz x) ∧ k (pc + 3) lo st (e_st M a q.2.1 x))) := e_ta rfl
theorem x_getstatic {idx : Nat} : e_sx X Sh o nL rt fn P k (.getstatic idx) pc 3 lo st M = (e_os (e_gs o idx) (fun v => k (pc + 3) lo (v :: st) M)) := e_ta rfl
theorem x_ldc {idx : Nat} : e_sx X Sh o nL rt fn P k (.ldc idx) pc 2 lo st M = (e_os (e_kc o idx) (fun v => k (pc + 2) lo (.int v :: st) M)) := e_ta rfl
theorem x_ldc_w {idx : Nat} : e_sx X Sh o nL rt fn P k (.ldc_w idx) pc 3 lo st M = (e_os (e_kc o idx) (fun v => k (pc + 3) lo (.int v :: st) M)) := e_ta rfl
theorem x_invokevirtual {idx : Nat} : e_sx X Sh o nL rt fn P k (.invokevirtual idx) pc 3 lo st M = (e_cl idx st M (e_E X Sh pc lo st M) (e_kp k pc lo) true fn) := e_ta rfl
theorem x_invokestatic {idx : Nat} : e_sx X Sh o nL rt fn P k (.invokestatic idx) pc 3 lo st M = (e_cl idx st M (e_E X Sh pc lo st M) (e_kp k pc lo) false fn) := e_ta rfl
theorem x_ireturn {v : Int32} : e_sx X Sh o nL rt fn P k (.ireturn) pc 1 lo [.int v] M = (e_os rt (fun ty => e_nr ty v ∧ P (some (.int v)) M)) := e_ta rfl
theorem x_lreturn {v : Int64} : e_sx X Sh o nL rt fn P k (.lreturn) pc 1 lo [.long v] M = (rt = some .long ∧ P (some (.long v)) M) := e_ta rfl
theorem x_areturn {v : Nat} : e_sx X Sh o nL rt fn P k (.areturn) pc 1 lo [.ref v] M = ((∃ n, rt = some (.object n)) ∧ P (some (.ref v)) M) := e_ta rfl
theorem x_return_  : e_sx X Sh o nL rt fn P k (.return_) pc 1 lo [] M = (rt = none ∧ P none M) := e_ta rfl
theorem x_tableswitch {d a b : Int} {offs : Array Int} {x : Int32} {len : Nat} : e_sx X Sh o nL rt fn P k (.tableswitch d a b offs) pc len lo (.int x :: st) M = ((offs.size : Int) = b - a + 1 ∧ 0 ≤ (pc : Int) + d ∧ ((x.toInt < a ∨ b < x.toInt) → k ((pc : Int) + d).toNat lo st M) ∧ e_tw (e_kq k lo st M) pc x a offs.toList) := rfl
theorem x_lookupswitch {d : Int} {ps : Array (Int × Int)} {x : Int32} {len : Nat} : e_sx X Sh o nL rt fn P k (.lookupswitch d ps) pc len lo (.int x :: st) M = ((ps.toList.zip (ps.toList.drop 1)).all (fun (a, next) => a.1 < next.1) = true ∧ ps.toList.all (fun q => (Int32.ofInt q.1).toInt == q.1) = true ∧ e_lsw (e_kq k lo st M) pc x d ps.toList) := rfl
end XR
def e_nx (X : e_X) (Sh : List e_S) (o nL : Nat) (cc : ByteArray) (rt : Option FieldType) (fn : List e_F) (P : Option Value → e_M → Prop) (c1 c2 n pc : Nat) (lo : List (Option Value)) (st : List Value) (M : e_M) : Prop := if pc = c1 then e_E X Sh pc lo st M else if pc = c2 then e_E X Sh pc lo st M else e_wp X Sh o nL cc rt fn P c1 c2 n pc lo st M
theorem x_nx {X : e_X} {Sh : List e_S} {o nL : Nat} {cc : ByteArray} {rt : Option FieldType} {fn : List e_F} {P : Option Value → e_M → Prop} {c1 c2 n pc : Nat} {lo : List (Option Value)} {st : List Value} {M : e_M} : e_nx X Sh o nL cc rt fn P c1 c2 n pc lo st M = if pc = c1 then e_E X Sh pc lo st M else if pc = c2 then e_E X Sh pc lo st M else e_wp X Sh o nL cc rt fn P c1 c2 n pc lo st M := rfl
theorem x_wp {X : e_X} {Sh : List e_S} {o nL : Nat} {cc : ByteArray} {rt : Option FieldType} {fn : List e_F} {P : Option Value → e_M → Prop} {c1 c2 n pc : Nat} {lo : List (Option Value)} {st : List Value} {M : e_M} : e_wp X Sh o nL cc rt fn P c1 c2 (n + 1) pc lo st M = e_dm (decode cc pc) (fun i len => e_sx X Sh o nL rt fn P (e_nx X Sh o nL cc rt fn P c1 c2 n) i pc len lo st M) := rfl
theorem x_kp {k : Nat → List (Option Value) → List Value → e_M → Prop} {pc : Nat} {lo : List (Option Value)} {r : List Value} {N : e_M} : e_kp k pc lo r N = k (pc + 3) lo r N := rfl
theorem x_kq {k : Nat → List (Option Value) → List Value → e_M → Prop} {lo : List (Option Value)} {st : List Value} {M : e_M} {q : Nat} : e_kq k lo st M q = k q lo st M := rfl
theorem x_tw0 {k : Nat → Prop} {pc : Nat} {x : Int32} {v : Int} : e_tw k pc x v [] = True := rfl
theorem x_tws {k : Nat → Prop} {pc : Nat} {x : Int32} {v f : Int} {r : List Int} : e_tw k pc x v (f :: r) = ((x = e_i0 v → 0 ≤ (pc : Int) + f ∧ k ((pc : Int) + f).toNat) ∧ e_tw k pc x (v + 1) r) := rfl
theorem x_lw0 {k : Nat → Prop} {pc : Nat} {x : Int32} {d : Int} : e_lsw k pc x d [] = (0 ≤ (pc : Int) + d ∧ k ((pc : Int) + d).toNat) := rfl
theorem x_lws {k : Nat → Prop} {pc : Nat} {x : Int32} {d v f : Int} {r : List (Int × Int)} : e_lsw k pc x d ((v, f) :: r) = ((x = e_i0 v → 0 ≤ (pc : Int) + f ∧ k ((pc : Int) + f).toNat) ∧ (¬ x = e_i0 v → e_lsw k pc x d r)) := rfl
theorem x_wp0 {X : e_X} {Sh : List e_S} {o nL : Nat} {cc : ByteArray} {rt : Option FieldType} {fn : List e_F} {P : Option Value → e_M → Prop} {c1 c2 pc : Nat} {lo : List (Option Value)} {st : List Value} {M : e_M} : e_wp X Sh o nL cc rt fn P c1 c2 0 pc lo st M = e_E X Sh pc lo st M := rfl
theorem x_dm {i : Instr} {len : Nat} {k : Instr → Nat → Prop} : e_dm (.ok (i, len)) k = k i len := rfl
theorem x_gi {x : Int32} {k : Int32 → Prop} : e_gi (some (.int x)) k = k x := rfl
theorem x_gl {x : Int64} {k : Int64 → Prop} : e_gl (some (.long x)) k = k x := rfl
theorem x_ga {x : Nat} {k : Nat → Prop} : e_ga (some (.ref x)) k = k x := rfl
theorem x_g0 {x : Option Value} {r : List (Option Value)} : e_get (x :: r) 0 = x := rfl
theorem x_gs {x : Option Value} {r : List (Option Value)} {n : Nat} : e_get (x :: r) (n + 1) = e_get r n := rfl
theorem x_s0 {x v : Option Value} {r : List (Option Value)} : e_s1 (x :: r) 0 v = v :: r := by rfl
theorem x_s1 {x v : Option Value} {r : List (Option Value)} : e_s1 (x :: r) 1 v = e_kl x :: e_s1 r 0 v := by rfl
theorem x_s2 {x v : Option Value} {r : List (Option Value)} {n : Nat} : e_s1 (x :: r) (n + 2) v = x :: e_s1 r (n + 1) v := by rfl
theorem x_k0 : e_kl none = none := rfl
theorem x_k1 {x : Int32} : e_kl (some (.int x)) = some (.int x) := rfl
theorem x_k2 {x : Nat} : e_kl (some (.ref x)) = some (.ref x) := rfl
theorem x_k3 {x : Int64} : e_kl (some (.long x)) = none := rfl
theorem x_f0 : e_f4 0 = 0 := rfl
theorem x_f1 : e_f4 1 = 1 := rfl
theorem x_f2 : e_f4 2 = 2 := rfl
theorem x_f3 : e_f4 3 = 3 := rfl
theorem x_os {α : Type} {x : α} {k : α → Prop} : e_os (some x) k = k x := rfl
theorem x_osn {α : Type} {k : α → Prop} : e_os none k = False := rfl
theorem x_gf1 {v : Value} {k : Value → Prop} {e : Prop} : e_gf (some (some v)) k e = k v := rfl
theorem x_gf2 {k : Value → Prop} {e : Prop} : e_gf (some none) k e = e := rfl
theorem x_ceq {x y : Int32} : e_cm .eq x y = (x = y) := rfl
theorem x_cne {x y : Int32} : e_cm .ne x y = (¬ x = y) := rfl
theorem x_clt {x y : Int32} : e_cm .lt x y = (x < y) := rfl
theorem x_cge {x y : Int32} : e_cm .ge x y = (y ≤ x) := rfl
theorem x_cgt {x y : Int32} : e_cm .gt x y = (y < x) := rfl
theorem x_cle {x y : Int32} : e_cm .le x y = (x ≤ y) := rfl
theorem x_nri {x : Int32} : e_nr .int x = True := by simp [e_nr, narrow]
theorem x_nz0 : e_nr .boolean 0 = True := eq_true (by unfold e_nr; rfl)
theorem x_fz0 : e_fz 0 = True := eq_true ⟨rfl, rfl⟩
theorem x_vn0 : vp_nar .boolean 0 = 0 := rfl
theorem x_nz1 : e_nr .boolean 1 = True := eq_true (by unfold e_nr; rfl)
theorem x_fz1 : e_fz 1 = True := eq_true ⟨rfl, rfl⟩
theorem x_vn1 : vp_nar .boolean 1 = 1 := rfl
theorem x_rl0  : e_rl [] = True := rfl
theorem x_rl1 {a : Value} : e_rl [a] = True := rfl
theorem x_rl2 {a b : Value} : e_rl [a, b] = True := rfl
theorem x_rl3 {a b c : Value} : e_rl [a, b, c] = True := rfl
theorem x_rl4 {a b c d : Value} : e_rl [a, b, c, d] = True := rfl
theorem x_go {p : Prop} {v : Option Int32} {N : e_M} {r : List Value} {k : List Value → e_M → Prop} : e_go (p, v, N) r k = (p ∧ e_rl r ∧ k (e_ps v r) N) := rfl
theorem x_ps1 {v : Int32} {r : List Value} : e_ps (some v) r = .int v :: r := rfl
theorem x_ps0 {r : List Value} : e_ps none r = r := rfl
theorem x_pi0 {st : List Value} {acc : List Int32} {k : List Int32 → List Value → Prop} : e_pi 0 st acc k = k acc st := rfl
theorem x_pis {n : Nat} {x : Int32} {st : List Value} {acc : List Int32} {k : List Int32 → List Value → Prop} : e_pi (n + 1) (.int x :: st) acc k = e_pi n st (x :: acc) k := rfl
theorem x_cl0 {idx : Nat} {st : List Value} {M : e_M} {s : Prop} {k : List Value → e_M → Prop} {v : Bool} : e_cl idx st M s k v [] = s := rfl
theorem x_clv {idx i a n : Nat} {f : List Int32 → e_M → Prop × Option Int32 × e_M} {t : List e_F} {st : List Value} {M : e_M} {s : Prop} {k : List Value → e_M → Prop} : e_cl idx st M s k true ((i, some a, n, f) :: t) = if i = idx then e_pi n st [] (fun as r => e_r1 r (fun b r2 => if b = a then e_go (f as M) r2 k else e_cl idx st M s k true t)) else e_cl idx st M s k true t := by
  have e : (fun (as : List Int32) (r : List Value) => (match r with | .ref b :: r2 => if b = a then e_go (f as M) r2 k else e_cl idx st M s k true t | _ => False)) = fun as r => e_r1 r (fun b r2 => if b = a then e_go (f as M) r2 k else e_cl idx st M s k true t) := by
    funext as r
    cases r with
    | nil => rfl
    | cons v r2 => cases v <;> rfl
  rw [← e]
  rfl
theorem x_cls {idx i n : Nat} {f : List Int32 → e_M → Prop × Option Int32 × e_M} {t : List e_F} {st : List Value} {M : e_M} {s : Prop} {k : List Value → e_M → Prop} : e_cl idx st M s k false ((i, none, n, f) :: t) = if i = idx then e_pi n st [] (fun as r => e_go (f as M) r k) else e_cl idx st M s k false t := rfl
theorem x_clvn {idx i n : Nat} {f : List Int32 → e_M → Prop × Option Int32 × e_M} {t : List e_F} {st : List Value} {M : e_M} {s : Prop} {k : List Value → e_M → Prop} : e_cl idx st M s k true ((i, none, n, f) :: t) = if i = idx then False else e_cl idx st M s k true t := rfl
theorem x_clsn {idx i a n : Nat} {f : List Int32 → e_M → Prop × Option Int32 × e_M} {t : List e_F} {st : List Value} {M : e_M} {s : Prop} {k : List Value → e_M → Prop} : e_cl idx st M s k false ((i, some a, n, f) :: t) = if i = idx then False else e_cl idx st M s k false t := rfl
theorem x_r1 {x : Nat} {r : List Value} {k : Nat → List Value → Prop} : e_r1 (.ref x :: r) k = k x r := rfl
theorem x_tn : e_tn 0 = true := rfl
theorem x_tr3 : e_tr 3 = true := rfl
theorem x_tr4 : e_tr 4 = true := rfl
theorem x_tr5 : e_tr 5 = true := rfl
theorem x_i0 : e_i0 0 = 0 := by decide +kernel
theorem x_i1 : e_i0 1 = 1 := by decide +kernel
theorem x_i2 : e_i0 2 = 2 := by decide +kernel
theorem x_i3 : e_i0 3 = 3 := by decide +kernel
theorem x_i4 : e_i0 4 = 4 := by decide +kernel
theorem x_i5 : e_i0 5 = 5 := by decide +kernel
theorem x_i6 : e_i0 6 = 6 := by decide +kernel
theorem x_i7 : e_i0 7 = 7 := by decide +kernel
theorem x_i8 : e_i0 8 = 8 := by decide +kernel
theorem x_i9 : e_i0 9 = 9 := by decide +kernel
theorem x_i10 : e_i0 10 = 10 := by decide +kernel
theorem x_i11 : e_i0 11 = 11 := by decide +kernel
theorem x_i12 : e_i0 12 = 12 := by decide +kernel
theorem x_i13 : e_i0 13 = 13 := by decide +kernel
theorem x_i14 : e_i0 14 = 14 := by decide +kernel
theorem x_i15 : e_i0 15 = 15 := by decide +kernel
theorem x_i16 : e_i0 16 = 16 := by decide +kernel
theorem x_i17 : e_i0 17 = 17 := by decide +kernel
theorem x_i18 : e_i0 18 = 18 := by decide +kernel
theorem x_i19 : e_i0 19 = 19 := by decide +kernel
theorem x_i20 : e_i0 20 = 20 := by decide +kernel
theorem x_i21 : e_i0 21 = 21 := by decide +kernel
theorem x_i22 : e_i0 22 = 22 := by decide +kernel
theorem x_i23 : e_i0 23 = 23 := by decide +kernel
theorem x_i24 : e_i0 24 = 24 := by decide +kernel
theorem x_i25 : e_i0 25 = 25 := by decide +kernel
theorem x_i26 : e_i0 26 = 26 := by decide +kernel
theorem x_i27 : e_i0 27 = 27 := by decide +kernel
theorem x_i28 : e_i0 28 = 28 := by decide +kernel
theorem x_i29 : e_i0 29 = 29 := by decide +kernel
theorem x_i30 : e_i0 30 = 30 := by decide +kernel
theorem x_i31 : e_i0 31 = 31 := by decide +kernel
theorem x_i32 : e_i0 32 = 32 := by decide +kernel
theorem x_i33 : e_i0 33 = 33 := by decide +kernel
theorem x_i34 : e_i0 34 = 34 := by decide +kernel
theorem x_i35 : e_i0 35 = 35 := by decide +kernel
theorem x_i36 : e_i0 36 = 36 := by decide +kernel
theorem x_i37 : e_i0 37 = 37 := by decide +kernel
theorem x_i38 : e_i0 38 = 38 := by decide +kernel
theorem x_i39 : e_i0 39 = 39 := by decide +kernel
theorem x_i40 : e_i0 40 = 40 := by decide +kernel
theorem x_i41 : e_i0 41 = 41 := by decide +kernel
theorem x_i42 : e_i0 42 = 42 := by decide +kernel
theorem x_i43 : e_i0 43 = 43 := by decide +kernel
theorem x_i44 : e_i0 44 = 44 := by decide +kernel
theorem x_i45 : e_i0 45 = 45 := by decide +kernel
theorem x_im12 : e_i0 (-12) = (-12) := by decide +kernel
theorem x_im11 : e_i0 (-11) = (-11) := by decide +kernel
theorem x_im10 : e_i0 (-10) = (-10) := by decide +kernel
theorem x_im9 : e_i0 (-9) = (-9) := by decide +kernel
theorem x_im8 : e_i0 (-8) = (-8) := by decide +kernel
theorem x_im7 : e_i0 (-7) = (-7) := by decide +kernel
theorem x_im6 : e_i0 (-6) = (-6) := by decide +kernel
theorem x_im5 : e_i0 (-5) = (-5) := by decide +kernel
theorem x_im4 : e_i0 (-4) = (-4) := by decide +kernel
theorem x_im3 : e_i0 (-3) = (-3) := by decide +kernel
theorem x_im2 : e_i0 (-2) = (-2) := by decide +kernel
theorem x_im1 : e_i0 (-1) = (-1) := by decide +kernel
theorem x_i60 : e_i0 60 = 60 := by decide +kernel
theorem x_i61 : e_i0 61 = 61 := by decide +kernel
theorem x_i62 : e_i0 62 = 62 := by decide +kernel
theorem x_i124 : e_i0 124 = 124 := by decide +kernel
theorem x_i47 : e_i0 47 = 47 := by decide +kernel
theorem x_i100 : e_i0 100 = 100 := by decide +kernel
theorem x_bm10 : e_i8 (-10) = (-10) := by decide +kernel
theorem x_bm100 : e_i8 (-100) = (-100) := by decide +kernel
theorem x_bm11 : e_i8 (-11) = (-11) := by decide +kernel
theorem x_bm2 : e_i8 (-2) = (-2) := by decide +kernel
theorem x_bm3 : e_i8 (-3) = (-3) := by decide +kernel
theorem x_bm4 : e_i8 (-4) = (-4) := by decide +kernel
theorem x_bm5 : e_i8 (-5) = (-5) := by decide +kernel
theorem x_bm6 : e_i8 (-6) = (-6) := by decide +kernel
theorem x_bm60 : e_i8 (-60) = (-60) := by decide +kernel
theorem x_bm7 : e_i8 (-7) = (-7) := by decide +kernel
theorem x_bm8 : e_i8 (-8) = (-8) := by decide +kernel
theorem x_bm9 : e_i8 (-9) = (-9) := by decide +kernel
theorem x_b10 : e_i8 10 = 10 := by decide +kernel
theorem x_b100 : e_i8 100 = 100 := by decide +kernel
theorem x_b101 : e_i8 101 = 101 := by decide +kernel
theorem x_b102 : e_i8 102 = 102 := by decide +kernel
theorem x_b105 : e_i8 105 = 105 := by decide +kernel
theorem x_b11 : e_i8 11 = 11 := by decide +kernel
theorem x_b110 : e_i8 110 = 110 := by decide +kernel
theorem x_b112 : e_i8 112 = 112 := by decide +kernel
theorem x_b114 : e_i8 114 = 114 := by decide +kernel
theorem x_b117 : e_i8 117 = 117 := by decide +kernel
theorem x_b119 : e_i8 119 = 119 := by decide +kernel
theorem x_b12 : e_i8 12 = 12 := by decide +kernel
theorem x_b120 : e_i8 120 = 120 := by decide +kernel
theorem x_b122 : e_i8 122 = 122 := by decide +kernel
theorem x_b124 : e_i8 124 = 124 := by decide +kernel
theorem x_b14 : e_i8 14 = 14 := by decide +kernel
theorem x_b16 : e_i8 16 = 16 := by decide +kernel
theorem x_b17 : e_i8 17 = 17 := by decide +kernel
theorem x_b20 : e_i8 20 = 20 := by decide +kernel
theorem x_b24 : e_i8 24 = 24 := by decide +kernel
theorem x_b30 : e_i8 30 = 30 := by decide +kernel
theorem x_b32 : e_i8 32 = 32 := by decide +kernel
theorem x_b33 : e_i8 33 = 33 := by decide +kernel
theorem x_b40 : e_i8 40 = 40 := by decide +kernel
theorem x_b41 : e_i8 41 = 41 := by decide +kernel
theorem x_b48 : e_i8 48 = 48 := by decide +kernel
theorem x_b50 : e_i8 50 = 50 := by decide +kernel
theorem x_b57 : e_i8 57 = 57 := by decide +kernel
theorem x_b59 : e_i8 59 = 59 := by decide +kernel
theorem x_b6 : e_i8 6 = 6 := by decide +kernel
theorem x_b60 : e_i8 60 = 60 := by decide +kernel
theorem x_b63 : e_i8 63 = 63 := by decide +kernel
theorem x_b7 : e_i8 7 = 7 := by decide +kernel
theorem x_b8 : e_i8 8 = 8 := by decide +kernel
theorem x_b9 : e_i8 9 = 9 := by decide +kernel
theorem x_b90 : e_i8 90 = 90 := by decide +kernel
theorem x_b96 : e_i8 96 = 96 := by decide +kernel
theorem x_b97 : e_i8 97 = 97 := by decide +kernel
theorem x_b98 : e_i8 98 = 98 := by decide +kernel
theorem x_b99 : e_i8 99 = 99 := by decide +kernel
theorem x_w1000 : e_i16 1000 = 1000 := by decide +kernel
theorem x_w10000 : e_i16 10000 = 10000 := by decide +kernel
theorem x_w10001 : e_i16 10001 = 10001 := by decide +kernel
theorem x_w1023 : e_i16 1023 = 1023 := by decide +kernel
theorem x_w12345 : e_i16 12345 = 12345 := by decide +kernel
theorem x_w1468 : e_i16 1468 = 1468 := by decide +kernel
theorem x_w200 : e_i16 200 = 200 := by decide +kernel
theorem x_w20000 : e_i16 20000 = 20000 := by decide +kernel
theorem x_w20033 : e_i16 20033 = 20033 := by decide +kernel
theorem x_w255 : e_i16 255 = 255 := by decide +kernel
theorem x_w300 : e_i16 300 = 300 := by decide +kernel
theorem x_w580 : e_i16 580 = 580 := by decide +kernel
theorem x_w599 : e_i16 599 = 599 := by decide +kernel
theorem x_w600 : e_i16 600 = 600 := by decide +kernel
theorem x_w9999 : e_i16 9999 = 9999 := by decide +kernel
theorem x_n2 : ((2 : Int32) = 0) = False := eq_false (by decide)
theorem x_n3 : ((3 : Int32) = 0) = False := eq_false (by decide)
theorem x_n6 : ((6 : Int32) = 0) = False := eq_false (by decide)
theorem x_n9 : ((9 : Int32) = 0) = False := eq_false (by decide)
theorem x_n10 : ((10 : Int32) = 0) = False := eq_false (by decide)
theorem x_n60 : ((60 : Int32) = 0) = False := eq_false (by decide)
theorem x_n100 : ((100 : Int32) = 0) = False := eq_false (by decide)
theorem x_n600 : ((600 : Int32) = 0) = False := eq_false (by decide)
theorem x_n1000 : ((1000 : Int32) = 0) = False := eq_false (by decide)
theorem x_nrb {c : Prop} [Decidable c] : e_nr .boolean (if c then 1 else 0) = True := eq_true (by split <;> exact rfl)
theorem x_nrb2 {c : Prop} [Decidable c] : e_nr .boolean (if c then 0 else 1) = True := eq_true (by split <;> exact rfl)
theorem x_in0_3 : vp_in 0 3 = True := eq_true (by unfold vp_in; decide)
theorem x_in1_3 : vp_in 1 3 = True := eq_true (by unfold vp_in; decide)
theorem x_in2_3 : vp_in 2 3 = True := eq_true (by unfold vp_in; decide)
theorem x_in0_4 : vp_in 0 4 = True := eq_true (by unfold vp_in; decide)
theorem x_in1_4 : vp_in 1 4 = True := eq_true (by unfold vp_in; decide)
theorem x_in2_4 : vp_in 2 4 = True := eq_true (by unfold vp_in; decide)
theorem x_in3_4 : vp_in 3 4 = True := eq_true (by unfold vp_in; decide)
theorem x_in0_5 : vp_in 0 5 = True := eq_true (by unfold vp_in; decide)
theorem x_in1_5 : vp_in 1 5 = True := eq_true (by unfold vp_in; decide)
theorem x_in2_5 : vp_in 2 5 = True := eq_true (by unfold vp_in; decide)
theorem x_in3_5 : vp_in 3 5 = True := eq_true (by unfold vp_in; decide)
theorem x_in4_5 : vp_in 4 5 = True := eq_true (by unfold vp_in; decide)
theorem x_in0_6 : vp_in 0 6 = True := eq_true (by unfold vp_in; decide)
theorem x_in1_6 : vp_in 1 6 = True := eq_true (by unfold vp_in; decide)
theorem x_in2_6 : vp_in 2 6 = True := eq_true (by unfold vp_in; decide)
theorem x_in3_6 : vp_in 3 6 = True := eq_true (by unfold vp_in; decide)
theorem x_in4_6 : vp_in 4 6 = True := eq_true (by unfold vp_in; decide)
theorem x_in5_6 : vp_in 5 6 = True := eq_true (by unfold vp_in; decide)
theorem x_in0_9 : vp_in 0 9 = True := eq_true (by unfold vp_in; decide)
theorem x_in1_9 : vp_in 1 9 = True := eq_true (by unfold vp_in; decide)
theorem x_in2_9 : vp_in 2 9 = True := eq_true (by unfold vp_in; decide)
theorem x_in3_9 : vp_in 3 9 = True := eq_true (by unfold vp_in; decide)
theorem x_in4_9 : vp_in 4 9 = True := eq_true (by unfold vp_in; decide)
theorem x_in5_9 : vp_in 5 9 = True := eq_true (by unfold vp_in; decide)
theorem x_in6_9 : vp_in 6 9 = True := eq_true (by unfold vp_in; decide)
theorem x_in7_9 : vp_in 7 9 = True := eq_true (by unfold vp_in; decide)
theorem x_in8_9 : vp_in 8 9 = True := eq_true (by unfold vp_in; decide)
theorem x_in0_10 : vp_in 0 10 = True := eq_true (by unfold vp_in; decide)
theorem x_in1_10 : vp_in 1 10 = True := eq_true (by unfold vp_in; decide)
theorem x_in2_10 : vp_in 2 10 = True := eq_true (by unfold vp_in; decide)
theorem x_in3_10 : vp_in 3 10 = True := eq_true (by unfold vp_in; decide)
theorem x_in4_10 : vp_in 4 10 = True := eq_true (by unfold vp_in; decide)
theorem x_in5_10 : vp_in 5 10 = True := eq_true (by unfold vp_in; decide)
theorem x_in6_10 : vp_in 6 10 = True := eq_true (by unfold vp_in; decide)
theorem x_in7_10 : vp_in 7 10 = True := eq_true (by unfold vp_in; decide)
theorem x_in8_10 : vp_in 8 10 = True := eq_true (by unfold vp_in; decide)
theorem x_in9_10 : vp_in 9 10 = True := eq_true (by unfold vp_in; decide)
theorem x_in0_11 : vp_in 0 11 = True := eq_true (by unfold vp_in; decide)
theorem x_in1_11 : vp_in 1 11 = True := eq_true (by unfold vp_in; decide)
theorem x_in2_11 : vp_in 2 11 = True := eq_true (by unfold vp_in; decide)
theorem x_in3_11 : vp_in 3 11 = True := eq_true (by unfold vp_in; decide)
theorem x_in4_11 : vp_in 4 11 = True := eq_true (by unfold vp_in; decide)
theorem x_in5_11 : vp_in 5 11 = True := eq_true (by unfold vp_in; decide)
theorem x_in6_11 : vp_in 6 11 = True := eq_true (by unfold vp_in; decide)
theorem x_in7_11 : vp_in 7 11 = True := eq_true (by unfold vp_in; decide)
theorem x_in8_11 : vp_in 8 11 = True := eq_true (by unfold vp_in; decide)
theorem x_in9_11 : vp_in 9 11 = True := eq_true (by unfold vp_in; decide)
theorem x_in10_11 : vp_in 10 11 = True := eq_true (by unfold vp_in; decide)
theorem x_in0_14 : vp_in 0 14 = True := eq_true (by unfold vp_in; decide)
theorem x_in1_14 : vp_in 1 14 = True := eq_true (by unfold vp_in; decide)
theorem x_in2_14 : vp_in 2 14 = True := eq_true (by unfold vp_in; decide)
theorem x_in3_14 : vp_in 3 14 = True := eq_true (by unfold vp_in; decide)
theorem x_in4_14 : vp_in 4 14 = True := eq_true (by unfold vp_in; decide)
theorem x_in5_14 : vp_in 5 14 = True := eq_true (by unfold vp_in; decide)
theorem x_in6_14 : vp_in 6 14 = True := eq_true (by unfold vp_in; decide)
theorem x_in7_14 : vp_in 7 14 = True := eq_true (by unfold vp_in; decide)
theorem x_in8_14 : vp_in 8 14 = True := eq_true (by unfold vp_in; decide)
theorem x_in9_14 : vp_in 9 14 = True := eq_true (by unfold vp_in; decide)
theorem x_in10_14 : vp_in 10 14 = True := eq_true (by unfold vp_in; decide)
theorem x_in11_14 : vp_in 11 14 = True := eq_true (by unfold vp_in; decide)
theorem x_in12_14 : vp_in 12 14 = True := eq_true (by unfold vp_in; decide)
theorem x_in13_14 : vp_in 13 14 = True := eq_true (by unfold vp_in; decide)
theorem x_in0_24 : vp_in 0 24 = True := eq_true (by unfold vp_in; decide)
theorem x_in1_24 : vp_in 1 24 = True := eq_true (by unfold vp_in; decide)
theorem x_in2_24 : vp_in 2 24 = True := eq_true (by unfold vp_in; decide)
theorem x_in3_24 : vp_in 3 24 = True := eq_true (by unfold vp_in; decide)
theorem x_in4_24 : vp_in 4 24 = True := eq_true (by unfold vp_in; decide)
theorem x_in5_24 : vp_in 5 24 = True := eq_true (by unfold vp_in; decide)
theorem x_in6_24 : vp_in 6 24 = True := eq_true (by unfold vp_in; decide)
theorem x_in7_24 : vp_in 7 24 = True := eq_true (by unfold vp_in; decide)
theorem x_in8_24 : vp_in 8 24 = True := eq_true (by unfold vp_in; decide)
theorem x_in9_24 : vp_in 9 24 = True := eq_true (by unfold vp_in; decide)
theorem x_in10_24 : vp_in 10 24 = True := eq_true (by unfold vp_in; decide)
theorem x_in11_24 : vp_in 11 24 = True := eq_true (by unfold vp_in; decide)
theorem x_in12_24 : vp_in 12 24 = True := eq_true (by unfold vp_in; decide)
theorem x_in13_24 : vp_in 13 24 = True := eq_true (by unfold vp_in; decide)
theorem x_in14_24 : vp_in 14 24 = True := eq_true (by unfold vp_in; decide)
theorem x_in15_24 : vp_in 15 24 = True := eq_true (by unfold vp_in; decide)
theorem x_in0_60 : vp_in 0 60 = True := eq_true (by unfold vp_in; decide)
theorem x_in1_60 : vp_in 1 60 = True := eq_true (by unfold vp_in; decide)
theorem x_in2_60 : vp_in 2 60 = True := eq_true (by unfold vp_in; decide)
theorem x_in3_60 : vp_in 3 60 = True := eq_true (by unfold vp_in; decide)
theorem x_in4_60 : vp_in 4 60 = True := eq_true (by unfold vp_in; decide)
theorem x_in5_60 : vp_in 5 60 = True := eq_true (by unfold vp_in; decide)
theorem x_in6_60 : vp_in 6 60 = True := eq_true (by unfold vp_in; decide)
theorem x_in7_60 : vp_in 7 60 = True := eq_true (by unfold vp_in; decide)
theorem x_in8_60 : vp_in 8 60 = True := eq_true (by unfold vp_in; decide)
theorem x_in9_60 : vp_in 9 60 = True := eq_true (by unfold vp_in; decide)
theorem x_in10_60 : vp_in 10 60 = True := eq_true (by unfold vp_in; decide)
theorem x_in11_60 : vp_in 11 60 = True := eq_true (by unfold vp_in; decide)
theorem x_in12_60 : vp_in 12 60 = True := eq_true (by unfold vp_in; decide)
theorem x_in13_60 : vp_in 13 60 = True := eq_true (by unfold vp_in; decide)
theorem x_in14_60 : vp_in 14 60 = True := eq_true (by unfold vp_in; decide)
theorem x_in15_60 : vp_in 15 60 = True := eq_true (by unfold vp_in; decide)
theorem x_in0_96 : vp_in 0 96 = True := eq_true (by unfold vp_in; decide)
theorem x_in1_96 : vp_in 1 96 = True := eq_true (by unfold vp_in; decide)
theorem x_in2_96 : vp_in 2 96 = True := eq_true (by unfold vp_in; decide)
theorem x_in3_96 : vp_in 3 96 = True := eq_true (by unfold vp_in; decide)
theorem x_in4_96 : vp_in 4 96 = True := eq_true (by unfold vp_in; decide)
theorem x_in5_96 : vp_in 5 96 = True := eq_true (by unfold vp_in; decide)
theorem x_in6_96 : vp_in 6 96 = True := eq_true (by unfold vp_in; decide)
theorem x_in7_96 : vp_in 7 96 = True := eq_true (by unfold vp_in; decide)
theorem x_in8_96 : vp_in 8 96 = True := eq_true (by unfold vp_in; decide)
theorem x_in9_96 : vp_in 9 96 = True := eq_true (by unfold vp_in; decide)
theorem x_in10_96 : vp_in 10 96 = True := eq_true (by unfold vp_in; decide)
theorem x_in11_96 : vp_in 11 96 = True := eq_true (by unfold vp_in; decide)
theorem x_in12_96 : vp_in 12 96 = True := eq_true (by unfold vp_in; decide)
theorem x_in13_96 : vp_in 13 96 = True := eq_true (by unfold vp_in; decide)
theorem x_in14_96 : vp_in 14 96 = True := eq_true (by unfold vp_in; decide)
theorem x_in15_96 : vp_in 15 96 = True := eq_true (by unfold vp_in; decide)
theorem x_in0_120 : vp_in 0 120 = True := eq_true (by unfold vp_in; decide)
theorem x_in1_120 : vp_in 1 120 = True := eq_true (by unfold vp_in; decide)
theorem x_in2_120 : vp_in 2 120 = True := eq_true (by unfold vp_in; decide)
theorem x_in3_120 : vp_in 3 120 = True := eq_true (by unfold vp_in; decide)
theorem x_in4_120 : vp_in 4 120 = True := eq_true (by unfold vp_in; decide)
theorem x_in5_120 : vp_in 5 120 = True := eq_true (by unfold vp_in; decide)
theorem x_in6_120 : vp_in 6 120 = True := eq_true (by unfold vp_in; decide)
theorem x_in7_120 : vp_in 7 120 = True := eq_true (by unfold vp_in; decide)
theorem x_in8_120 : vp_in 8 120 = True := eq_true (by unfold vp_in; decide)
theorem x_in9_120 : vp_in 9 120 = True := eq_true (by unfold vp_in; decide)
theorem x_in10_120 : vp_in 10 120 = True := eq_true (by unfold vp_in; decide)
theorem x_in11_120 : vp_in 11 120 = True := eq_true (by unfold vp_in; decide)
theorem x_in12_120 : vp_in 12 120 = True := eq_true (by unfold vp_in; decide)
theorem x_in13_120 : vp_in 13 120 = True := eq_true (by unfold vp_in; decide)
theorem x_in14_120 : vp_in 14 120 = True := eq_true (by unfold vp_in; decide)
theorem x_in15_120 : vp_in 15 120 = True := eq_true (by unfold vp_in; decide)
theorem x_in0_1468 : vp_in 0 1468 = True := eq_true (by unfold vp_in; decide)
theorem x_in1_1468 : vp_in 1 1468 = True := eq_true (by unfold vp_in; decide)
theorem x_in2_1468 : vp_in 2 1468 = True := eq_true (by unfold vp_in; decide)
theorem x_in3_1468 : vp_in 3 1468 = True := eq_true (by unfold vp_in; decide)
theorem x_in4_1468 : vp_in 4 1468 = True := eq_true (by unfold vp_in; decide)
theorem x_in5_1468 : vp_in 5 1468 = True := eq_true (by unfold vp_in; decide)
theorem x_in6_1468 : vp_in 6 1468 = True := eq_true (by unfold vp_in; decide)
theorem x_in7_1468 : vp_in 7 1468 = True := eq_true (by unfold vp_in; decide)
theorem x_in8_1468 : vp_in 8 1468 = True := eq_true (by unfold vp_in; decide)
theorem x_in9_1468 : vp_in 9 1468 = True := eq_true (by unfold vp_in; decide)
theorem x_in10_1468 : vp_in 10 1468 = True := eq_true (by unfold vp_in; decide)
theorem x_in11_1468 : vp_in 11 1468 = True := eq_true (by unfold vp_in; decide)
theorem x_in12_1468 : vp_in 12 1468 = True := eq_true (by unfold vp_in; decide)
theorem x_in13_1468 : vp_in 13 1468 = True := eq_true (by unfold vp_in; decide)
theorem x_in14_1468 : vp_in 14 1468 = True := eq_true (by unfold vp_in; decide)
theorem x_in15_1468 : vp_in 15 1468 = True := eq_true (by unfold vp_in; decide)
