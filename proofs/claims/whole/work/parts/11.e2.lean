/-! cells that nobody writes: static tables (1000 ..), String constants (1010 ..; their bytes 1030 ..) -/
def e_t0 : List Int32 := [0, 0, 0, -60, 0]
def e_t1 : List Int32 := [5, 2, 599, 60, 300]
def e_t2 : List Int32 := [-1, 0, 0, 1, 2, 0]
def e_six : List Nat := [30, 68, 74, 76, 78, 80, 82, 124, 126, 131, 101, 103, 105, 107, 109]
def e_stx : List String := ["", "burn", "wfx", "fee", "np", "fine", "rc", "!", "(", ")", "|", "&", "<=>", "+-", "*/"]
def e_byt : List (List Int32) := [[], [98, 117, 114, 110], [119, 102, 120], [102, 101, 101], [110, 112], [102, 105, 110, 101], [114, 99], [33], [40], [41], [124], [38], [60, 61, 62], [43, 45], [42, 47]]
def e_len : List Nat := [0, 4, 3, 3, 2, 4, 2, 1, 1, 1, 1, 1, 3, 2, 2]
def e_nst : List (String × Nat × MethodName × String) := [("LastLight", 19, yX0_init, "LastLight"), ("LastLight", 54, yX1_init, "LastLight"), ("LastLight", 77, yX5_init, "LastLight"), ("LastLight", 78, yX6_init, "LastLight"), ("LastLight$Slot", 26, yX5_init, "LastLight"), ("LastLight", 104, yX3_worth, "LastLight"), ("LastLight$House", 59, yX7_held, "LastLight"), ("LastLight$House", 63, yX3_burnsTill, "LastLight"), ("LastLight$House", 92, yX3_learns, "LastLight")]
def e_kk (ad : Nat → Nat) (A : Nat → Prop) (U : State) (H : Heap) : Prop :=
  (va_Z "LastLight" "LEAST" "[I" (.ref (ad 1000)) A U H ∧ va_T .int (ad 1000) 5 (fun j => .int (e_t0.getD j 0)) A U H) ∧
  (va_Z "LastLight" "MOST" "[I" (.ref (ad 1001)) A U H ∧ va_T .int (ad 1001) 5 (fun j => .int (e_t1.getD j 0)) A U H) ∧
  (va_Z "LastLight$Kinds" "ABOVE" "[I" (.ref (ad 1002)) A U H ∧ va_T .int (ad 1002) 6 (fun j => .int (e_t2.getD j 0)) A U H) ∧
  (va_Z "java/lang/String" "COMPACT_STRINGS" "Z" (.int 1) A U H ∧ (va_Z "jdk/internal/util/Preconditions" "SIOOBE_FORMATTER" "Ljava/util/function/BiFunction;" .null A U H ∨ va_Z "jdk/internal/util/Preconditions" "SIOOBE_FORMATTER" "Ljava/util/function/BiFunction;" (.ref (ad 1003)) A U H)) ∧
  vk_S 15 e_len e_byt (fun i => ad (1010 + i)) (fun i => ad (1030 + i)) A U H ∧
  (∀ i, i < 15 → vk_R "LastLight$Reader" (e_six.getD i 0) (e_stx.getD i "") (ad (1010 + i)) U) ∧
  ∀ q ∈ e_nst, va_Nw (.methodLinkNest q.1 q.2.1 q.2.2.1 q.2.2.2) U
theorem e_kk_go {ad : Nat → Nat} {A B : Nat → Prop} {s U : State} {H H1 : Heap} (hW : s.WarmedH U.vm) (hq : ∀ a : Nat, a < H.size → ¬ A a → H1[a]? = H[a]?) (hAB : ∀ q, B q → A q) (h : e_kk ad A s H) : e_kk ad B U H1 := by
  obtain ⟨⟨a1, a2⟩, ⟨b1, b2⟩, ⟨c1, c2⟩, ⟨d1, d0⟩, d2, d3, d4⟩ := h
  have hv := hW.alike
  exact ⟨⟨((a1.moved hv).kept hq).narrow hAB, ((a2.moved hv).kept hq).narrow hAB⟩, ⟨((b1.moved hv).kept hq).narrow hAB, ((b2.moved hv).kept hq).narrow hAB⟩, ⟨((c1.moved hv).kept hq).narrow hAB, ((c2.moved hv).kept hq).narrow hAB⟩, ⟨((d1.moved hv).kept hq).narrow hAB, d0.imp (fun z => ((z.moved hv).kept hq).narrow hAB) (fun z => ((z.moved hv).kept hq).narrow hAB)⟩, ((d2.moved hv).kept hq).narrow hAB, fun i hi => (d3 i hi).warm hW, fun q hm => (d4 q hm).warmM hW⟩
theorem e_kk_vm {ad : Nat → Nat} {A : Nat → Prop} {s U : State} {H : Heap} (hv : s.vm = U.vm) (h : e_kk ad A s H) : e_kk ad A U H := by
  obtain ⟨⟨a1, a2⟩, ⟨b1, b2⟩, ⟨c1, c2⟩, ⟨d1, d0⟩, d2, d3, d4⟩ := h
  have hw : s.vm.Alike U.vm := hv ▸ Vm.Alike.refl s.vm
  exact ⟨⟨a1.moved hw, a2.moved hw⟩, ⟨b1.moved hw, b2.moved hw⟩, ⟨c1.moved hw, c2.moved hw⟩, ⟨d1.moved hw, d0.imp (fun z => z.moved hw) (fun z => z.moved hw)⟩, d2.moved hw, fun i hi => (d3 i hi).same hv.symm, fun q hm => (d4 q hm).same rfl hv⟩
theorem e_kk_ad {ad ad' : Nat → Nat} {A : Nat → Prop} {U : State} {H : Heap} (he : ∀ j, 1000 ≤ j → ad' j = ad j) (h : e_kk ad A U H) : e_kk ad' A U H := by
  have e1 : (fun i => ad' (1010 + i)) = fun i => ad (1010 + i) := funext fun i => he _ (by omega)
  have e2 : (fun i => ad' (1030 + i)) = fun i => ad (1030 + i) := funext fun i => he _ (by omega)
  unfold e_kk
  rw [he 1000 (by omega), he 1001 (by omega), he 1002 (by omega), he 1003 (by omega), e1, e2]
  obtain ⟨a, b, c, d1, d2, d3, d4⟩ := h
  exact ⟨a, b, c, d1, d2, fun i hi => by rw [he _ (by omega)]; exact d3 i hi, d4⟩
/-- class names by number -/
def e_ow (o : Nat) : String := match o with
  | 0 => RX0
  | 1 => RX1
  | 2 => RX2
  | 3 => RX3
  | 4 => RX4
  | 5 => RX5
  | 6 => RX6
  | 7 => RX7
  | 8 => RX8
  | 9 => "LastLightLaw"
  | 10 => "java/lang/String"
  | 11 => "java/lang/StringLatin1"
  | 12 => "jdk/internal/util/Preconditions"
  | _ => ""
/-- what holds of a frame's surroundings -/
def e_ok (o : Nat) (cc : ByteArray) (X : e_X) (Sh : List e_S) : Prop :=
  (e_p X).tables.exec = Jvm.exec ∧ (e_c X).code = cc ∧ (e_s X).vm.findClass (e_ow o) = some (e_m X).cls ∧ (∀ w ∈ e_tbl, w.before (e_a X) (e_s X) = true) ∧ va_K (e_D X) vwCl (e_TT (e_cA X)) (e_s X) ∧
  (∀ i j, i < Sh.length → j < Sh.length → e_ad X i = e_ad X j → i = j) ∧ (∀ i, i < Sh.length → e_A X (e_ad X i)) ∧ e_kk (e_ad X) (e_A X) (e_s X) (e_s X).heap ∧ e_k X ≤ (e_R X).cells ∧ e_n X ≤ (e_R X).slots
theorem e_ok.x {o : Nat} {cc : ByteArray} {X : e_X} {Sh : List e_S} (h : e_ok o cc X Sh) : (e_p X).tables.exec = Jvm.exec := h.1
theorem e_ok.b {o : Nat} {cc : ByteArray} {X : e_X} {Sh : List e_S} (h : e_ok o cc X Sh) : (e_c X).code = cc := h.2.1
theorem e_ok.o {o : Nat} {cc : ByteArray} {X : e_X} {Sh : List e_S} (h : e_ok o cc X Sh) : (e_s X).vm.findClass (e_ow o) = some (e_m X).cls := h.2.2.1
theorem e_ok.t {o : Nat} {cc : ByteArray} {X : e_X} {Sh : List e_S} (h : e_ok o cc X Sh) : ∀ w ∈ e_tbl, w.before (e_a X) (e_s X) = true := h.2.2.2.1
theorem e_ok.k {o : Nat} {cc : ByteArray} {X : e_X} {Sh : List e_S} (h : e_ok o cc X Sh) : va_K (e_D X) vwCl (e_TT (e_cA X)) (e_s X) := h.2.2.2.2.1
theorem e_ok.i {o : Nat} {cc : ByteArray} {X : e_X} {Sh : List e_S} (h : e_ok o cc X Sh) : ∀ i j, i < Sh.length → j < Sh.length → e_ad X i = e_ad X j → i = j := h.2.2.2.2.2.1
theorem e_ok.a {o : Nat} {cc : ByteArray} {X : e_X} {Sh : List e_S} (h : e_ok o cc X Sh) : ∀ i, i < Sh.length → e_A X (e_ad X i) := h.2.2.2.2.2.2.1
theorem e_ok.c {o : Nat} {cc : ByteArray} {X : e_X} {Sh : List e_S} (h : e_ok o cc X Sh) : e_kk (e_ad X) (e_A X) (e_s X) (e_s X).heap := h.2.2.2.2.2.2.2.1
theorem e_ok.r {o : Nat} {cc : ByteArray} {X : e_X} {Sh : List e_S} (h : e_ok o cc X Sh) : e_k X ≤ (e_R X).cells ∧ e_n X ≤ (e_R X).slots := h.2.2.2.2.2.2.2.2
theorem e_dd {ad : Nat → Nat} {A : Nat → Prop} {Sh : List e_S} (hi : ∀ i j, i < Sh.length → j < Sh.length → ad i = ad j → i = j) (ha : ∀ i, i < Sh.length → A (ad i)) (cA : Nat → ClassId) (M : e_M) : va_D A (e_cz ad cA M 0 Sh) := by
  have key : ∀ (k : Nat) (q : Nat × va_E), (e_cz ad cA M 0 Sh)[k]? = some q → k < Sh.length ∧ q.1 = ad k := by
    intro k q hq
    have hl : k < Sh.length := by rw [← e_cz_len ad cA M Sh 0]; exact (List.getElem?_eq_some_iff.mp hq).1
    refine ⟨hl, ?_⟩
    rw [e_cz_get, List.getElem?_eq_getElem hl] at hq
    simp at hq
    rw [← hq]
  refine ⟨fun i j p q h1 h2 h3 => ?_, fun k q h1 => ?_⟩
  · obtain ⟨a1, a2⟩ := key i p h1
    obtain ⟨b1, b2⟩ := key j q h2
    exact hi i j a1 b1 (by rw [← a2, ← b2]; exact h3)
  · obtain ⟨a1, a2⟩ := key k q h1
    rw [a2]; exact ha k a1
theorem e_ok.d {o : Nat} {cc : ByteArray} {X : e_X} {Sh : List e_S} (h : e_ok o cc X Sh) (M : e_M) : va_D (e_A X) (e_cz (e_ad X) (e_cA X) M 0 Sh) := e_dd h.i h.a _ M
/-- from here the machine comes to its end -/
def e_E (X : e_X) (Sh : List e_S) (pc : Nat) (lo : List (Option Value)) (st : List Value) (M : e_M) : Prop :=
  ∀ (H : Heap) (locs : List Loc) (ls : Array Slot), va_P (e_D X) vwCl (e_cz (e_ad X) (e_cA X) M 0 Sh) H → va_S (e_A X) (e_s X).heap H locs → lv_has ls (e_c X).maxLocals (e_lz (e_ad X) 0 lo) →
    W (e_p X) (e_l X) (e_e X) (e_R X) (e_s X) (e_m X) (e_a X) (e_b X) (e_me X) (e_c X) H locs (e_k X) (e_n X) (e_Q X) (F0 (e_m X) pc ls (st.map (e_cv (e_ad X))))
theorem e_wk {X : e_X} {Sh : List e_S} {pc : Nat} {lo lo' : List (Option Value)} {st : List Value} {M : e_M} (h : e_le lo' lo) (k : e_E X Sh pc lo' st M) : e_E X Sh pc lo st M := by
  intro H locs ls hP hS hl
  refine k H locs ls hP hS ⟨hl.1, hl.2.1, fun q hq => ?_⟩
  obtain ⟨j, v, h1, rfl⟩ := e_lz_mem.mp hq
  exact hl.2.2 _ (e_lz_mem.mpr ⟨j, v, e_le_at h h1, rfl⟩)
section ER
variable {X : e_X} {Sh : List e_S} {pc : Nat} {lo : List (Option Value)} {st : List Value} {M : e_M} {o : Nat} {cc : ByteArray}
theorem e_iadd {x y : Int32} (hX : e_ok o cc X Sh) (hd : decode cc pc = .ok (.iadd, 1)) (k : e_E X Sh (pc + 1) lo (.int (x + y) :: st) M) : e_E X Sh pc lo (.int y :: .int x :: st) M := fun H locs ls hP hS hl => lv_iadd hX.x hX.b hd (k H locs ls hP hS hl)
theorem e_isub {x y : Int32} (hX : e_ok o cc X Sh) (hd : decode cc pc = .ok (.isub, 1)) (k : e_E X Sh (pc + 1) lo (.int (x - y) :: st) M) : e_E X Sh pc lo (.int y :: .int x :: st) M := fun H locs ls hP hS hl => lv_isub hX.x hX.b hd (k H locs ls hP hS hl)
theorem e_imul {x y : Int32} (hX : e_ok o cc X Sh) (hd : decode cc pc = .ok (.imul, 1)) (k : e_E X Sh (pc + 1) lo (.int (x * y) :: st) M) : e_E X Sh pc lo (.int y :: .int x :: st) M := fun H locs ls hP hS hl => lv_imul hX.x hX.b hd (k H locs ls hP hS hl)
theorem e_iand {x y : Int32} (hX : e_ok o cc X Sh) (hd : decode cc pc = .ok (.iand, 1)) (k : e_E X Sh (pc + 1) lo (.int (x &&& y) :: st) M) : e_E X Sh pc lo (.int y :: .int x :: st) M := fun H locs ls hP hS hl => lv_iand hX.x hX.b hd (k H locs ls hP hS hl)
theorem e_ior {x y : Int32} (hX : e_ok o cc X Sh) (hd : decode cc pc = .ok (.ior, 1)) (k : e_E X Sh (pc + 1) lo (.int (x ||| y) :: st) M) : e_E X Sh pc lo (.int y :: .int x :: st) M := fun H locs ls hP hS hl => lv_ior hX.x hX.b hd (k H locs ls hP hS hl)
theorem e_ishl {x y : Int32} (hX : e_ok o cc X Sh) (hd : decode cc pc = .ok (.ishl, 1)) (k : e_E X Sh (pc + 1) lo (.int (x <<< (y &&& 31)) :: st) M) : e_E X Sh pc lo (.int y :: .int x :: st) M := fun H locs ls hP hS hl => lv_ishl hX.x hX.b hd (k H locs ls hP hS hl)
theorem e_ishr {x y : Int32} (hX : e_ok o cc X Sh) (hd : decode cc pc = .ok (.ishr, 1)) (k : e_E X Sh (pc + 1) lo (.int (x >>> (y &&& 31)) :: st) M) : e_E X Sh pc lo (.int y :: .int x :: st) M := fun H locs ls hP hS hl => lv_ishr hX.x hX.b hd (k H locs ls hP hS hl)
def e_ush (x y : Int32) : Int32 := (x.toUInt32 >>> (y.toUInt32 &&& Int32.toUInt32 31)).toInt32
def e_rem (x y : Int32) : Int32 := x - x / y * y
theorem e_iushr {x y : Int32} (hX : e_ok o cc X Sh) (hd : decode cc pc = .ok (.iushr, 1)) (k : e_E X Sh (pc + 1) lo (.int (e_ush x y) :: st) M) : e_E X Sh pc lo (.int y :: .int x :: st) M := fun H locs ls hP hS hl => lv_iushr hX.x hX.b hd rfl (k H locs ls hP hS hl)
theorem e_idiv {x y : Int32} (hX : e_ok o cc X Sh) (hd : decode cc pc = .ok (.idiv, 1)) (h0 : ¬ y = 0) (k : e_E X Sh (pc + 1) lo (.int (x / y) :: st) M) : e_E X Sh pc lo (.int y :: .int x :: st) M := fun H locs ls hP hS hl => lv_idiv hX.x hX.b hd h0 (k H locs ls hP hS hl)
theorem e_irem {x y : Int32} (hX : e_ok o cc X Sh) (hd : decode cc pc = .ok (.irem, 1)) (h0 : ¬ y = 0) (k : e_E X Sh (pc + 1) lo (.int (e_rem x y) :: st) M) : e_E X Sh pc lo (.int y :: .int x :: st) M := fun H locs ls hP hS hl => lv_irem hX.x hX.b hd h0 (k H locs ls hP hS hl)
theorem e_ineg {x : Int32} (hX : e_ok o cc X Sh) (hd : decode cc pc = .ok (.ineg, 1)) (k : e_E X Sh (pc + 1) lo (.int (-x) :: st) M) : e_E X Sh pc lo (.int x :: st) M := fun H locs ls hP hS hl => lv_ineg hX.x hX.b hd (k H locs ls hP hS hl)
theorem e_ladd {x y : Int64} (hX : e_ok o cc X Sh) (hd : decode cc pc = .ok (.ladd, 1)) (k : e_E X Sh (pc + 1) lo (.long (x + y) :: st) M) : e_E X Sh pc lo (.long y :: .long x :: st) M := fun H locs ls hP hS hl => lv_ladd hX.x hX.b hd (k H locs ls hP hS hl)
theorem e_lsub {x y : Int64} (hX : e_ok o cc X Sh) (hd : decode cc pc = .ok (.lsub, 1)) (k : e_E X Sh (pc + 1) lo (.long (x - y) :: st) M) : e_E X Sh pc lo (.long y :: .long x :: st) M := fun H locs ls hP hS hl => lv_lsub hX.x hX.b hd (k H locs ls hP hS hl)
theorem e_lneg {x : Int64} (hX : e_ok o cc X Sh) (hd : decode cc pc = .ok (.lneg, 1)) (k : e_E X Sh (pc + 1) lo (.long (-x) :: st) M) : e_E X Sh pc lo (.long x :: st) M := fun H locs ls hP hS hl => lv_lneg hX.x hX.b hd (k H locs ls hP hS hl)
theorem e_lcmp {x y : Int64} (hX : e_ok o cc X Sh) (hd : decode cc pc = .ok (.lcmp, 1)) (k : e_E X Sh (pc + 1) lo (.int (lg_cmp x y) :: st) M) : e_E X Sh pc lo (.long y :: .long x :: st) M := fun H locs ls hP hS hl => W.lcmp hX.x hX.b hd (k H locs ls hP hS hl)
theorem e_i2l {x : Int32} (hX : e_ok o cc X Sh) (hd : decode cc pc = .ok (.i2l, 1)) (k : e_E X Sh (pc + 1) lo (.long (x.toInt64) :: st) M) : e_E X Sh pc lo (.int x :: st) M := fun H locs ls hP hS hl => lv_i2l hX.x hX.b hd rfl (k H locs ls hP hS hl)
theorem e_l2i {x : Int64} (hX : e_ok o cc X Sh) (hd : decode cc pc = .ok (.l2i, 1)) (k : e_E X Sh (pc + 1) lo (.int (x.toInt32) :: st) M) : e_E X Sh pc lo (.long x :: st) M := fun H locs ls hP hS hl => lv_l2i hX.x hX.b hd rfl (k H locs ls hP hS hl)
theorem e_i2s {x : Int32} (hX : e_ok o cc X Sh) (hd : decode cc pc = .ok (.i2s, 1)) (k : e_E X Sh (pc + 1) lo (.int (x.toInt16.toInt32) :: st) M) : e_E X Sh pc lo (.int x :: st) M := fun H locs ls hP hS hl => lv_i2s hX.x hX.b hd rfl (k H locs ls hP hS hl)
theorem e_i2b {x : Int32} (hX : e_ok o cc X Sh) (hd : decode cc pc = .ok (.i2b, 1)) (k : e_E X Sh (pc + 1) lo (.int (x.toInt8.toInt32) :: st) M) : e_E X Sh pc lo (.int x :: st) M := fun H locs ls hP hS hl => lv_i2b hX.x hX.b hd rfl (k H locs ls hP hS hl)
theorem e_i2c {x : Int32} (hX : e_ok o cc X Sh) (hd : decode cc pc = .ok (.i2c, 1)) (k : e_E X Sh (pc + 1) lo (.int ((x.toUInt32 % 65536).toInt32) :: st) M) : e_E X Sh pc lo (.int x :: st) M := fun H locs ls hP hS hl => lv_i2c hX.x hX.b hd rfl (k H locs ls hP hS hl)
def e_i0 (n : Int) : Int32 := Int32.ofInt n
def e_i8 (n : Int) : Int32 := (Int8.ofInt n).toInt32
def e_i16 (n : Int) : Int32 := (Int16.ofInt n).toInt32
theorem e_iconst {n : Int} (hX : e_ok o cc X Sh) (hd : decode cc pc = .ok (.iconst n, 1)) (k : e_E X Sh (pc + 1) lo (.int (e_i0 n) :: st) M) : e_E X Sh pc lo st M := fun H locs ls hP hS hl => lv_iconst hX.x hX.b hd rfl (k H locs ls hP hS hl)
theorem e_bipush {n : Int} (hX : e_ok o cc X Sh) (hd : decode cc pc = .ok (.bipush n, 2)) (k : e_E X Sh (pc + 2) lo (.int (e_i8 n) :: st) M) : e_E X Sh pc lo st M := fun H locs ls hP hS hl => lv_bipush hX.x hX.b hd rfl (k H locs ls hP hS hl)
theorem e_sipush {n : Int} (hX : e_ok o cc X Sh) (hd : decode cc pc = .ok (.sipush n, 3)) (k : e_E X Sh (pc + 3) lo (.int (e_i16 n) :: st) M) : e_E X Sh pc lo st M := fun H locs ls hP hS hl => lv_sipush hX.x hX.b hd rfl (k H locs ls hP hS hl)
def e_l0 (n : Fin 2) : Int64 := Int64.ofNat (n : Nat)
theorem e_lconst {n : Fin 2} (hX : e_ok o cc X Sh) (hd : decode cc pc = .ok (.lconst n, 1)) (k : e_E X Sh (pc + 1) lo (.long (e_l0 n) :: st) M) : e_E X Sh pc lo st M := fun H locs ls hP hS hl => lv_lconst hX.x hX.b hd rfl (k H locs ls hP hS hl)
def e_f4 (n : Fin 4) : Nat := n.val
theorem e_iload_n {n : Fin 4} {x : Int32} (hX : e_ok o cc X Sh) (hd : decode cc pc = .ok (.iload_n n, 1)) (hg : e_get lo (e_f4 n) = some (.int x)) (k : e_E X Sh (pc + 1) lo (.int x :: st) M) : e_E X Sh pc lo st M := fun H locs ls hP hS hl => lv_iload_n (i := e_f4 n) hX.x hX.b hd rfl (e_ld hl hg) (k H locs ls hP hS hl)
theorem e_iload {i : Nat} {x : Int32} (hX : e_ok o cc X Sh) (hd : decode cc pc = .ok (.iload i, 2)) (hg : e_get lo i = some (.int x)) (k : e_E X Sh (pc + 2) lo (.int x :: st) M) : e_E X Sh pc lo st M := fun H locs ls hP hS hl => lv_iload hX.x hX.b hd (e_ld hl hg) (k H locs ls hP hS hl)
theorem e_lload_n {n : Fin 4} {x : Int64} (hX : e_ok o cc X Sh) (hd : decode cc pc = .ok (.lload_n n, 1)) (hg : e_get lo (e_f4 n) = some (.long x)) (k : e_E X Sh (pc + 1) lo (.long x :: st) M) : e_E X Sh pc lo st M := fun H locs ls hP hS hl => lv_lload_n (i := e_f4 n) hX.x hX.b hd rfl (e_ld hl hg) (k H locs ls hP hS hl)
theorem e_lload {i : Nat} {x : Int64} (hX : e_ok o cc X Sh) (hd : decode cc pc = .ok (.lload i, 2)) (hg : e_get lo i = some (.long x)) (k : e_E X Sh (pc + 2) lo (.long x :: st) M) : e_E X Sh pc lo st M := fun H locs ls hP hS hl => lv_lload hX.x hX.b hd (e_ld hl hg) (k H locs ls hP hS hl)
theorem e_aload_n {n : Fin 4} {x : Nat} (hX : e_ok o cc X Sh) (hd : decode cc pc = .ok (.aload_n n, 1)) (hg : e_get lo (e_f4 n) = some (.ref x)) (k : e_E X Sh (pc + 1) lo (.ref x :: st) M) : e_E X Sh pc lo st M := fun H locs ls hP hS hl => lv_aload_n (i := e_f4 n) hX.x hX.b hd rfl (e_ld hl hg) (k H locs ls hP hS hl)
theorem e_aload {i : Nat} {x : Nat} (hX : e_ok o cc X Sh) (hd : decode cc pc = .ok (.aload i, 2)) (hg : e_get lo i = some (.ref x)) (k : e_E X Sh (pc + 2) lo (.ref x :: st) M) : e_E X Sh pc lo st M := fun H locs ls hP hS hl => lv_aload hX.x hX.b hd (e_ld hl hg) (k H locs ls hP hS hl)
theorem e_istore_n {n : Fin 4} {x : Int32} (hX : e_ok o cc X Sh) (hd : decode cc pc = .ok (.istore_n n, 1)) (hn : e_f4 n < (e_c X).maxLocals) (k : e_E X Sh (pc + 1) (e_s1 lo (e_f4 n) (some (.int x))) st M) : e_E X Sh pc lo (.int x :: st) M := fun H locs ls hP hS hl => lv_istore_n (i := e_f4 n) hX.x hX.b hd rfl hl hn rfl (fun ls hl => k H locs ls hP hS (e_sto1 (v := .int x) hl))
theorem e_istore {i : Nat} {x : Int32} (hX : e_ok o cc X Sh) (hd : decode cc pc = .ok (.istore i, 2)) (hn : i < (e_c X).maxLocals) (k : e_E X Sh (pc + 2) (e_s1 lo i (some (.int x))) st M) : e_E X Sh pc lo (.int x :: st) M := fun H locs ls hP hS hl => lv_istore hX.x hX.b hd hl hn rfl (fun ls hl => k H locs ls hP hS (e_sto1 (v := .int x) hl))
theorem e_astore_n {n : Fin 4} {x : Nat} (hX : e_ok o cc X Sh) (hd : decode cc pc = .ok (.astore_n n, 1)) (hn : e_f4 n < (e_c X).maxLocals) (k : e_E X Sh (pc + 1) (e_s1 lo (e_f4 n) (some (.ref x))) st M) : e_E X Sh pc lo (.ref x :: st) M := fun H locs ls hP hS hl => lv_astore_n (i := e_f4 n) hX.x hX.b hd rfl hl hn rfl (fun ls hl => k H locs ls hP hS (e_sto1 (v := .ref x) hl))
theorem e_astore {i : Nat} {x : Nat} (hX : e_ok o cc X Sh) (hd : decode cc pc = .ok (.astore i, 2)) (hn : i < (e_c X).maxLocals) (k : e_E X Sh (pc + 2) (e_s1 lo i (some (.ref x))) st M) : e_E X Sh pc lo (.ref x :: st) M := fun H locs ls hP hS hl => lv_astore hX.x hX.b hd hl hn rfl (fun ls hl => k H locs ls hP hS (e_sto1 (v := .ref x) hl))
theorem e_lstore_n {n : Fin 4} {x : Int64} (hX : e_ok o cc X Sh) (hd : decode cc pc = .ok (.lstore_n n, 1)) (hn : e_f4 n + 1 < (e_c X).maxLocals) (k : e_E X Sh (pc + 1) (e_s1 (e_s1 lo (e_f4 n + 1) none) (e_f4 n) (some (.long x))) st M) : e_E X Sh pc lo (.long x :: st) M := fun H locs ls hP hS hl => lv_lstore_n (i := e_f4 n) hX.x hX.b hd rfl hl hn rfl (fun ls hl => k H locs ls hP hS (e_sto2 (v := .long x) hl))
theorem e_lstore {i : Nat} {x : Int64} (hX : e_ok o cc X Sh) (hd : decode cc pc = .ok (.lstore i, 2)) (hn : i + 1 < (e_c X).maxLocals) (k : e_E X Sh (pc + 2) (e_s1 (e_s1 lo (i + 1) none) i (some (.long x))) st M) : e_E X Sh pc lo (.long x :: st) M := fun H locs ls hP hS hl => lv_lstore hX.x hX.b hd hl hn rfl (fun ls hl => k H locs ls hP hS (e_sto2 (v := .long x) hl))
theorem e_iinc {i : Nat} {n : Int} {x : Int32} (hX : e_ok o cc X Sh) (hd : decode cc pc = .ok (.iinc i n, 3)) (hg : e_get lo i = some (.int x)) (hn : i < (e_c X).maxLocals) (k : e_E X Sh (pc + 3) (e_s1 lo i (some (.int (x + e_i0 n)))) st M) : e_E X Sh pc lo st M := by
  intro H locs ls hP hS hl
  obtain ⟨q, hq⟩ := List.getElem?_of_mem (e_lz_mem (ad := e_ad X) (i := 0).mpr ⟨i, .int x, e_get_at hg, rfl⟩)
  refine lv_iinc (k := q) (i := i) (x := x) hX.x hX.b hd hl (by rw [hq]; simp [e_cv]) rfl hn rfl (fun ls hl => k H locs ls hP hS (e_sto1 (v := .int (x + e_i0 n)) hl))
theorem e_dup {v : Value} (hX : e_ok o cc X Sh) (hd : decode cc pc = .ok (.dup, 1)) (hv : v.category = 1) (k : e_E X Sh (pc + 1) lo (v :: v :: st) M) : e_E X Sh pc lo (v :: st) M := fun H locs ls hP hS hl => lv_dup hX.x hX.b hd ((e_cv_cat _ v).trans hv) (k H locs ls hP hS hl)
theorem e_pop {v : Value} (hX : e_ok o cc X Sh) (hd : decode cc pc = .ok (.pop, 1)) (hv : v.category = 1) (k : e_E X Sh (pc + 1) lo st M) : e_E X Sh pc lo (v :: st) M := fun H locs ls hP hS hl => lv_pop hX.x hX.b hd ((e_cv_cat _ v).trans hv) (k H locs ls hP hS hl)
theorem e_dup2 {v w : Value} (hX : e_ok o cc X Sh) (hd : decode cc pc = .ok (.dup2, 1)) (hv : v.category = 1) (hw : w.category = 1) (k : e_E X Sh (pc + 1) lo (v :: w :: v :: w :: st) M) : e_E X Sh pc lo (v :: w :: st) M := fun H locs ls hP hS hl => lv_dup2_11 hX.x hX.b hd ((e_cv_cat _ v).trans hv) ((e_cv_cat _ w).trans hw) (k H locs ls hP hS hl)
def e_cm (c : ClassFile.Cond) (x y : Int32) : Prop := match c with
  | .eq => x = y
  | .ne => ¬ x = y
  | .lt => x < y
  | .ge => y ≤ x
  | .gt => y < x
  | .le => x ≤ y
theorem e_jp {pc : Nat} {off : Int} (h : 0 ≤ (pc : Int) + off) : (pc : Int) + off = (((pc : Int) + off).toNat : Int) := (Int.toNat_of_nonneg h).symm
theorem e_icmp {x y : Int32} {c : ClassFile.Cond} {off : Int} (hX : e_ok o cc X Sh) (hd : decode cc pc = .ok (.if_icmp c off, 3)) (hj : 0 ≤ (pc : Int) + off) (kt : e_cm c x y → e_E X Sh ((pc : Int) + off).toNat lo st M) (kf : ¬ e_cm c x y → e_E X Sh (pc + 3) lo st M) : e_E X Sh pc lo (.int y :: .int x :: st) M := by
  intro H locs ls hP hS hl
  cases c with
  | eq => exact lv_icmp_eq hX.x hX.b hd (e_jp hj) (fun h => kt h H locs ls hP hS hl) (fun h => kf (h) H locs ls hP hS hl)
  | ne => exact lv_icmp_ne hX.x hX.b hd (e_jp hj) (fun h => kt h H locs ls hP hS hl) (fun h => kf (fun z => z h) H locs ls hP hS hl)
  | lt => exact lv_icmp_lt hX.x hX.b hd (e_jp hj) (fun h => kt h H locs ls hP hS hl) (fun h => kf (h) H locs ls hP hS hl)
  | ge => exact lv_icmp_ge hX.x hX.b hd (e_jp hj) (fun h => kt h H locs ls hP hS hl) (fun h => kf (h) H locs ls hP hS hl)
  | gt => exact lv_icmp_gt hX.x hX.b hd (e_jp hj) (fun h => kt h H locs ls hP hS hl) (fun h => kf (h) H locs ls hP hS hl)
  | le => exact lv_icmp_le hX.x hX.b hd (e_jp hj) (fun h => kt h H locs ls hP hS hl) (fun h => kf (h) H locs ls hP hS hl)
theorem e_if {x : Int32} {c : ClassFile.Cond} {off : Int} (hX : e_ok o cc X Sh) (hd : decode cc pc = .ok (.ifCond c off, 3)) (hj : 0 ≤ (pc : Int) + off) (kt : e_cm c x 0 → e_E X Sh ((pc : Int) + off).toNat lo st M) (kf : ¬ e_cm c x 0 → e_E X Sh (pc + 3) lo st M) : e_E X Sh pc lo (.int x :: st) M := by
  intro H locs ls hP hS hl
  cases c with
  | eq => exact lv_if_eq hX.x hX.b hd (e_jp hj) (fun h => kt h H locs ls hP hS hl) (fun h => kf (h) H locs ls hP hS hl)
  | ne => exact lv_if_ne hX.x hX.b hd (e_jp hj) (fun h => kt h H locs ls hP hS hl) (fun h => kf (fun z => z h) H locs ls hP hS hl)
  | lt => exact lv_if_lt hX.x hX.b hd (e_jp hj) (fun h => kt h H locs ls hP hS hl) (fun h => kf (h) H locs ls hP hS hl)
  | ge => exact lv_if_ge hX.x hX.b hd (e_jp hj) (fun h => kt h H locs ls hP hS hl) (fun h => kf (h) H locs ls hP hS hl)
  | gt => exact lv_if_gt hX.x hX.b hd (e_jp hj) (fun h => kt h H locs ls hP hS hl) (fun h => kf (h) H locs ls hP hS hl)
  | le => exact lv_if_le hX.x hX.b hd (e_jp hj) (fun h => kt h H locs ls hP hS hl) (fun h => kf (h) H locs ls hP hS hl)
theorem e_goto {off : Int} (hX : e_ok o cc X Sh) (hd : decode cc pc = .ok (.goto off, 3)) (hj : 0 ≤ (pc : Int) + off) (k : e_E X Sh ((pc : Int) + off).toNat lo st M) : e_E X Sh pc lo st M := fun H locs ls hP hS hl => lv_goto hX.x hX.b hd (e_jp hj) (k H locs ls hP hS hl)
def e_arr (Sh : List e_S) (a : Nat) : Option (Nat × Nat) := match Sh[a]? with
  | some (.inl (t, n, none)) => some (t, n)
  | _ => none
theorem e_arr_at {a t n : Nat} (h : e_arr Sh a = some (t, n)) : Sh[a]? = some (.inl (t, n, none)) := by
  unfold e_arr at h
  split at h
  · cases h; assumption
  · cases h
def e_rar (Sh : List e_S) (a : Nat) : Option (Nat × Nat × List (Option Nat)) := match Sh[a]? with
  | some (.inl (t, n, some L)) => some (t, n, L)
  | _ => none
theorem e_rar_at {a t n : Nat} {L : List (Option Nat)} (h : e_rar Sh a = some (t, n, L)) : Sh[a]? = some (.inl (t, n, some L)) := by
  unfold e_rar at h
  split at h
  · cases h; assumption
  · cases h
def e_fld (Sh : List e_S) (a ci j : Nat) : Option (Option Value) := match Sh[a]? with
  | some (.inr (c, fs)) => if c = ci then fs[j]? else none
  | _ => none
theorem e_fld_at {a ci j : Nat} {v : Option Value} (h : e_fld Sh a ci j = some v) : ∃ fs, Sh[a]? = some (.inr (ci, fs)) ∧ fs[j]? = some v := by
  unfold e_fld at h
  split at h
  · split at h
    · rename_i c fs hs hc
      subst hc
      exact ⟨fs, hs, h⟩
    · cases h
  · cases h
theorem e_iaload {a n : Nat} {i : Int32} (hX : e_ok o cc X Sh) (hd : decode cc pc = .ok (.iaload, 1)) (ha : e_arr Sh a = some (0, n)) (hi : vp_in i n) (k : e_E X Sh (pc + 1) lo (.int (M a i.toNatClampNeg) :: st) M) : e_E X Sh pc lo (.int i :: .ref a :: st) M := fun H locs ls hP hS hl => va_iald hX.x hX.b hX.k hP a 0 (e_cz_at (e_arr_at ha)) rfl hi hd (k H locs ls hP hS hl)
theorem e_baload {a n : Nat} {i : Int32} (hX : e_ok o cc X Sh) (hd : decode cc pc = .ok (.baload, 1)) (ha : e_arr Sh a = some (1, n)) (hi : vp_in i n) (k : e_E X Sh (pc + 1) lo (.int (M a i.toNatClampNeg) :: st) M) : e_E X Sh pc lo (.int i :: .ref a :: st) M := fun H locs ls hP hS hl => va_zald hX.x hX.b hX.k hP a 1 (e_cz_at (e_arr_at ha)) rfl hi hd (k H locs ls hP hS hl)
theorem e_caload {a n : Nat} {i : Int32} (hX : e_ok o cc X Sh) (hd : decode cc pc = .ok (.caload, 1)) (ha : e_arr Sh a = some (2, n)) (hi : vp_in i n) (k : e_E X Sh (pc + 1) lo (.int (M a i.toNatClampNeg) :: st) M) : e_E X Sh pc lo (.int i :: .ref a :: st) M := fun H locs ls hP hS hl => va_cald hX.x hX.b hX.k hP a 2 (e_cz_at (e_arr_at ha)) rfl hi hd (k H locs ls hP hS hl)
theorem e_iastore {a n : Nat} {i x : Int32} (hX : e_ok o cc X Sh) (hd : decode cc pc = .ok (.iastore, 1)) (ha : e_arr Sh a = some (0, n)) (hi : vp_in i n) (k : e_E X Sh (pc + 1) lo st (e_st M a i.toNatClampNeg (x))) : e_E X Sh pc lo (.int x :: .int i :: .ref a :: st) M := fun H locs ls hP hS hl => va_iast hX.x hX.b hX.k hP (hX.d M) hS a 0 (e_cz_at (e_arr_at ha)) rfl hi hd (fun H1 l1 hP1 _ hS1 => k H1 l1 ls (by rw [← e_cz_set (M := M) (e_arr_at ha) (show _ = e_ce _ _ _ _ from by rw [e_st_s]) e_st_o]; exact hP1) hS1 hl)
theorem e_bastore {a n : Nat} {i x : Int32} (hX : e_ok o cc X Sh) (hd : decode cc pc = .ok (.bastore, 1)) (ha : e_arr Sh a = some (1, n)) (hi : vp_in i n) (k : e_E X Sh (pc + 1) lo st (e_st M a i.toNatClampNeg (vp_nar .boolean x))) : e_E X Sh pc lo (.int x :: .int i :: .ref a :: st) M := fun H locs ls hP hS hl => va_zast hX.x hX.b hX.k hP (hX.d M) hS a 1 (e_cz_at (e_arr_at ha)) rfl hi hd (fun H1 l1 hP1 _ hS1 => k H1 l1 ls (by rw [← e_cz_set (M := M) (e_arr_at ha) (show _ = e_ce _ _ _ _ from by rw [e_st_s]) e_st_o]; exact hP1) hS1 hl)
theorem e_castore {a n : Nat} {i x : Int32} (hX : e_ok o cc X Sh) (hd : decode cc pc = .ok (.castore, 1)) (ha : e_arr Sh a = some (2, n)) (hi : vp_in i n) (k : e_E X Sh (pc + 1) lo st (e_st M a i.toNatClampNeg (vp_nar .char x))) : e_E X Sh pc lo (.int x :: .int i :: .ref a :: st) M := fun H locs ls hP hS hl => va_cast hX.x hX.b hX.k hP (hX.d M) hS a 2 (e_cz_at (e_arr_at ha)) rfl hi hd (fun H1 l1 hP1 _ hS1 => k H1 l1 ls (by rw [← e_cz_set (M := M) (e_arr_at ha) (show _ = e_ce _ _ _ _ from by rw [e_st_s]) e_st_o]; exact hP1) hS1 hl)
theorem e_alen {a t n : Nat} {r : Option (List (Option Nat))} {ty : FieldType} (hX : e_ok o cc X Sh) (hd : decode cc pc = .ok (.arraylength, 1)) (ha : Sh[a]? = some (.inl (t, n, r))) (ht : (e_TT (e_cA X))[t]? = some (e_cA X t, ty)) (k : e_E X Sh (pc + 1) lo (.int (Int32.ofNat n) :: st) M) : e_E X Sh pc lo (.ref a :: st) M := by
  intro H locs ls hP hS hl
  cases r with
  | none => exact va_alen hX.x hX.b hX.k hP a t (e_cz_at ha) ht rfl hd (k H locs ls hP hS hl)
  | some L => exact va_alen hX.x hX.b hX.k hP a t (e_cz_at ha) ht rfl hd (k H locs ls hP hS hl)
theorem e_aaload {a t n : Nat} {L : List (Option Nat)} {i : Int32} {b : Nat} {ty : FieldType} (hX : e_ok o cc X Sh) (hd : decode cc pc = .ok (.aaload, 1)) (ha : e_rar Sh a = some (t, n, L)) (ht : (e_TT (e_cA X))[t]? = some (e_cA X t, ty)) (hty : ty.isReference = true) (hi : vp_in i n) (hb : L.getD i.toNatClampNeg none = some b) (k : e_E X Sh (pc + 1) lo (.ref b :: st) M) : e_E X Sh pc lo (.int i :: .ref a :: st) M := by
  intro H locs ls hP hS hl
  have hlt : i.toNatClampNeg < n := Nat.not_le.mp fun q => hi (Or.inr q)
  have hv : va_rf ((L.getD i.toNatClampNeg none).map (e_ad X)) = .ref (e_ad X b) := by rw [hb]; rfl
  refine W.aald (v := .ref (e_ad X b)) (ty := ty) hX.x hX.b (hP a _ (e_cz_at (e_rar_at ha))) ((hX.k.2 t _ ht).1 n (fun j => va_rf ((L.getD j none).map (e_ad X)))) hty (fun q => by cases q) (by show ¬ (i < 0 ∨ (arrV _ _ _).slots.size ≤ _); rw [arrV_size]; exact hi) (by show (arrV _ _ _).slots[_]? = _; rw [arrV_read _ _ hlt, ← hv]) rfl rfl hd (k H locs ls hP hS hl)
end ER
