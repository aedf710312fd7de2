/-! ===== arrays of arrays of ints, by the machine's own step ===== -/
/-- c is a class of int[][] over the class k of int[] -/
def e_mx (U : State) (c k : ClassId) : Prop := ∃ (J J' : Class) (z : ClassId), U.vm.classes[c]? = some J ∧ J.kind = .array k (.array .int) ∧ U.vm.classes[k]? = some J' ∧ J'.kind = .array z .int
theorem e_mx.moved {u U : State} {c k : ClassId} (h : u.vm.Alike U.vm) (x : e_mx u c k) : e_mx U c k := by
  obtain ⟨J, J', z, a1, a2, a3, a4⟩ := x
  obtain ⟨L, b1, b2⟩ := h.2.2 _ _ a1
  obtain ⟨L', b3, b4⟩ := h.2.2 _ _ a3
  exact ⟨L, L', z, b1, (congrArg Class.kind b2).trans a2, b3, (congrArg Class.kind b4).trans a4⟩
theorem e_ao {A : Array Value} {s : State} (h : (Cond.arrayOver (.array .int)).before A s = true) : ∃ m c k, s.vm.findClass (FieldType.array .int).toString = some m ∧ s.vm.findClass ("[" ++ (FieldType.array .int).toString) = some c ∧ s.vm.classes[c]? = some k ∧ k.kind = .array m (.array .int) := by
  unfold Cond.before Cond.holds at h
  have h := eq_of_beq h
  simp only [Cond.value] at h
  obtain ⟨m, hm, h⟩ := Option.bind_eq_some_iff.mp h
  obtain ⟨c, hi, h⟩ := Option.bind_eq_some_iff.mp h
  obtain ⟨k, hk, h⟩ := Option.map_eq_some_iff.mp h
  have hp := (Array.findIdx?_eq_some_iff_getElem.mp hi).2.1
  rw [(Array.getElem?_eq_some_iff.mp hk).2] at hp
  cases hq : k.kind with
  | array q ty =>
    rw [hq] at h hp
    obtain ⟨g1, g2⟩ := Bool.and_eq_true_iff.mp h
    rw [of_decide_eq_true g1, eq_of_beq hp] at hq
    exact ⟨m, c, k, hm, of_decide_eq_true g2, hk, hq⟩
  | _ => rw [hq] at h; cases h
/-- one cell more -/
theorem e_pu (H : Heap) (x : Cell) : (H.push x).size = H.size + 1 ∧ (H.push x)[H.size]? = some x ∧ ∀ q, q < H.size → (H.push x)[q]? = H[q]? := ⟨by simp, by simp, fun q hq => by simp [Array.getElem?_push, Nat.ne_of_lt hq]⟩
/-! the heap while the rows are made: the outer array knows i of them, r are there -/
section ML
variable (c k : ClassId) (N K h : Nat)
def e_mo (i : Nat) : Cell := arrV c N (fun j => if j < i then .ref (h + (1 + j)) else .null)
def e_mi : Cell := arrV k K (fun _ => .int 0)
def e_ml (i : Nat) (T : State) : Nat → State
  | 0 => T.pushCell (e_mo c N h i)
  | r + 1 => (e_ml i T r).pushCell (e_mi k K)
variable {i : Nat} {T : State}
theorem e_ml_z (r : Nat) : (e_ml c k N K h i T r).heap.size = T.heap.size + (1 + r) := by
  induction r with
  | zero => exact Array.size_push ..
  | succ r ih =>
    show ((e_ml c k N K h i T r).heap.push _).size = _
    rw [Array.size_push, ih]
    omega
theorem e_ml_u (r : Nat) : (e_ml c k N K h i T r).slotsUsed = T.slotsUsed + (N + r * K) := by
  induction r with
  | zero =>
    show T.slotsUsed + (e_mo c N h i).slots.size = _
    rw [e_mo, arrV_size]
    omega
  | succ r ih =>
    show (e_ml c k N K h i T r).slotsUsed + (e_mi k K).slots.size = _
    rw [ih, e_mi, arrV_size, Nat.succ_mul]
    omega
theorem e_ml_old {x : Nat} (hx : x < T.heap.size) (r : Nat) : (e_ml c k N K h i T r).heap[x]? = T.heap[x]? := by
  induction r with
  | zero =>
    show (T.heap.push _)[x]? = _
    rw [Array.getElem?_push, if_neg (by omega)]
  | succ r ih =>
    show ((e_ml c k N K h i T r).heap.push _)[x]? = _
    rw [Array.getElem?_push, if_neg (by rw [e_ml_z]; omega), ih]
theorem e_ml_o (r : Nat) : (e_ml c k N K h i T r).heap[T.heap.size]? = some (e_mo c N h i) := by
  induction r with
  | zero => exact Array.getElem?_push_size ..
  | succ r ih =>
    show ((e_ml c k N K h i T r).heap.push _)[T.heap.size]? = _
    rw [Array.getElem?_push, if_neg (by rw [e_ml_z]; omega), ih]
theorem e_ml_n {j : Nat} (r : Nat) (hj : j < r) : (e_ml c k N K h i T r).heap[T.heap.size + (1 + j)]? = some (e_mi k K) := by
  induction r with
  | zero => omega
  | succ r ih =>
    show ((e_ml c k N K h i T r).heap.push _)[T.heap.size + (1 + j)]? = _
    rw [Array.getElem?_push, e_ml_z]
    by_cases q : j = r
    · rw [if_pos (by omega)]
    · rw [if_neg (by omega), ih (by omega)]
theorem e_ml_vm (r : Nat) : (e_ml c k N K h i T r).vm = T.vm := by
  induction r with
  | zero => rfl
  | succ r ih => exact ih
theorem e_ml_t (f : JFrame) (r : Nat) : e_ml c k N K h i (T.setTop f) r = (e_ml c k N K h i T r).setTop f := by
  induction r with
  | zero => rfl
  | succ r ih =>
    show (e_ml c k N K h i (T.setTop f) r).pushCell _ = _
    rw [ih]
    rfl
theorem e_mo_s (i : Nat) : (e_mo c N h i).setSlot i (.ref (h + (1 + i))) = e_mo c N h (i + 1) := by
  unfold e_mo
  rw [arrV_store]
  congr 1
  funext j
  show (if j = i then Value.ref (h + (1 + i)) else if j < i then Value.ref (h + (1 + j)) else Value.null) = _
  rcases Nat.lt_trichotomy j i with q | q | q
  · rw [if_neg (by omega), if_pos q, if_pos (by omega)]
  · rw [if_pos q, if_pos (by omega), q]
  · rw [if_neg (by omega), if_neg (by omega), if_neg (by omega)]
theorem e_ml_s (i : Nat) (r : Nat) : (e_ml c k N K h i T r).setCell T.heap.size (e_mo c N h (i + 1)) = e_ml c k N K h (i + 1) T r := by
  induction r with
  | zero =>
    have hh : (T.heap.push (e_mo c N h i)).setIfInBounds T.heap.size (e_mo c N h (i + 1)) = T.heap.push (e_mo c N h (i + 1)) := by
      apply Array.ext_getElem?
      intro x
      rw [Array.getElem?_setIfInBounds, Array.getElem?_push, Array.getElem?_push, Array.size_push]
      by_cases q : T.heap.size = x
      · rw [if_pos q, if_pos (by omega), if_pos q.symm]
      · rw [if_neg q, if_neg (fun p => q p.symm), if_neg (fun p => q p.symm)]
    have hu : (e_mo c N h i).slots.size = (e_mo c N h (i + 1)).slots.size := by unfold e_mo; rw [arrV_size, arrV_size]
    show ({ T with heap := (T.heap.push (e_mo c N h i)).setIfInBounds T.heap.size (e_mo c N h (i + 1)), slotsUsed := T.slotsUsed + (e_mo c N h i).slots.size } : State) = { T with heap := T.heap.push (e_mo c N h (i + 1)), slotsUsed := T.slotsUsed + (e_mo c N h (i + 1)).slots.size }
    rw [hh, hu]
  | succ r ih =>
    have hs : T.heap.size < (e_ml c k N K h i T r).heap.size := by rw [e_ml_z]; omega
    show ((e_ml c k N K h i T r).pushCell (e_mi k K)).setCell T.heap.size _ = (e_ml c k N K h (i + 1) T r).pushCell (e_mi k K)
    rw [← ih]
    generalize e_ml c k N K h i T r = S at hs
    have hh : (S.heap.push (e_mi k K)).setIfInBounds T.heap.size (e_mo c N h (i + 1)) = (S.heap.setIfInBounds T.heap.size (e_mo c N h (i + 1))).push (e_mi k K) := by
      apply Array.ext_getElem?
      intro x
      rw [Array.getElem?_setIfInBounds, Array.getElem?_push, Array.getElem?_push, Array.getElem?_setIfInBounds, Array.size_push, Array.size_setIfInBounds]
      by_cases q : T.heap.size = x
      · rw [if_pos q, if_pos (by omega), if_neg (by omega), if_pos q, if_pos (by omega)]
      · rw [if_neg q, if_neg q]
    show ({ S with heap := (S.heap.push (e_mi k K)).setIfInBounds T.heap.size (e_mo c N h (i + 1)), slotsUsed := S.slotsUsed + (e_mi k K).slots.size } : State) = { S with heap := (S.heap.setIfInBounds T.heap.size (e_mo c N h (i + 1))).push (e_mi k K), slotsUsed := S.slotsUsed + (e_mi k K).slots.size }
    rw [hh]
theorem e_ml_X {p : Program} {l : Launch} {e : Env} {R : Room} {s : State} {m : MethodId} {args : Array Value} {below : List Frame} {meth : Method} {cd : Code} {locs : List Loc} {cells slots : Nat} (X : Stand p l e R s m args below meth cd T locs cells slots) (r : Nat) : Stand p l e R s m args below meth cd (e_ml c k N K h i T r) locs (cells + (1 + r)) (slots + (N + r * K)) := by
  induction r with
  | zero =>
    have h0 := X.pushed (e_mo c N h i)
    rw [show (e_mo c N h i).slots.size = N from arrV_size ..] at h0
    rw [Nat.zero_mul]
    exact h0
  | succ r ih =>
    have h0 := ih.pushed (e_mi k K)
    rw [show (e_mi k K).slots.size = K from arrV_size ..] at h0
    rw [show cells + (1 + (r + 1)) = cells + (1 + r) + 1 by omega, Nat.succ_mul, show slots + (N + (r * K + K)) = slots + (N + r * K) + K by omega]
    exact h0
end ML
section MW
variable {E : CtlPost} {e : Env} {d : Bool} {acts : List Action} {S : State} {c k : ClassId} {n k0 : Int32}
/-- one row -/
theorem e_wpi {Q : Addr → Pre} (hx : e_mx S c k) (hk : ¬ k0 < 0) (hK : k0.toNatClampNeg ≤ 100) (hl : 100 ≤ e.platform.arrayLengthLimit) (hb : 400 ≤ e.platform.maxHeapBytes) (h1 : S.heap.size < e.platform.maxCells) (h2 : S.slotsUsed + k0.toNatClampNeg ≤ e.platform.maxSlots) (hq : ∀ acts', Q S.heap.size d acts' (S.pushCell (e_mi k k0.toNatClampNeg))) : wp (multianewarray.make k [k0]) Q E e d acts S := by
  obtain ⟨J, J', z, -, -, a3, a4⟩ := hx
  rw [multianewarray.make]
  simp only [wp_bind', Jvm.W.ite, hk, if_false, wp_pure', Jvm.W.theClass, a3, Option.some.injEq, exists_eq_left', a4]
  refine Jvm.W.newArray_of a3 a4 (by omega) (by show ¬ _ * 4 > _; omega) h1 h2 rfl fun acts' => ?_
  have := hq acts'
  rw [e_mi, ← arrV_new] at this
  exact this
/-- the whole -/
theorem e_wpm {Q : Addr → Pre} (hx : e_mx S c k) (hn : ¬ n < 0) (hk : ¬ k0 < 0) (hN : n.toNatClampNeg ≤ 100) (hK : k0.toNatClampNeg ≤ 100) (hl : 100 ≤ e.platform.arrayLengthLimit) (hb : 400 ≤ e.platform.maxHeapBytes) (h1 : S.heap.size + (1 + n.toNatClampNeg) ≤ e.platform.maxCells) (h2 : S.slotsUsed + (n.toNatClampNeg + n.toNatClampNeg * k0.toNatClampNeg) ≤ e.platform.maxSlots) (hq : ∀ d' acts', Q S.heap.size d' acts' (e_ml c k n.toNatClampNeg k0.toNatClampNeg S.heap.size n.toNatClampNeg S n.toNatClampNeg)) : wp (multianewarray.make c [n, k0]) Q E e d acts S := by
  obtain ⟨J, J', z, a1, a2, a3, a4⟩ := id hx
  have hf : [k0].find? (fun x => decide (x < 0)) = none := by simp [hk]
  rw [multianewarray.make]
  simp only [wp_bind', Jvm.W.ite, hn, if_false, wp_pure', Jvm.W.theClass, a1, Option.some.injEq, exists_eq_left', a2]
  refine Jvm.W.newArray_of a1 a2 (by omega) (by show ¬ _ * 4 > _; omega) (by omega) (by omega) rfl fun acts' => ?_
  simp only [hf, wp_bind', Jvm.W.ite, wp_pure', ite_self, Std.Legacy.Range.forIn_eq_forIn_range']
  generalize hM : n.toNatClampNeg = M at *
  generalize hW : k0.toNatClampNeg = W0 at *
  have e0 : S.pushCell { cls := c, slots := Array.replicate M .null } = e_ml c k M W0 S.heap.size 0 S 0 := by
    show _ = S.pushCell (e_mo c M S.heap.size 0)
    rw [arrV_new]
    unfold e_mo
    congr 2
  rw [e0]
  refine wp_forIn_inv (fun rest s' => ∃ i, i ≤ M ∧ rest = List.range' i (M - i) ∧ s' = e_ml c k M W0 S.heap.size i S i) _ _ ⟨0, by omega, by simp [Std.Legacy.Range.size], rfl⟩ ?_ ?_
  · rintro x rest s' d' acts1 Q' ⟨i, hi, hr, rfl⟩ hQ
    have hlt : i < M := by
      rcases Nat.lt_or_ge i M with q | q
      · exact q
      · rw [show M - i = 0 by omega] at hr; cases hr
    rw [show M - i = (M - (i + 1)) + 1 by omega, List.range'_succ] at hr
    cases hr
    have hmul : W0 * (x + 1) ≤ W0 * M := Nat.mul_le_mul_left _ hlt
    rw [Nat.mul_comm, Nat.mul_comm W0 M, Nat.succ_mul] at hmul
    simp only [wp_bind']
    subst hW
    refine e_wpi (c := c) (hx.moved (by rw [e_ml_vm]; exact Vm.Alike.refl _)) hk hK hl hb (by rw [e_ml_z]; omega) (by rw [e_ml_u]; omega) fun acts2 => ?_
    simp only [wp_bind', Jvm.W.writeLoc, wp_pure']
    refine ⟨_, e_ml_o c k M k0.toNatClampNeg S.heap.size (i := x) (T := S) (x + 1), ?_, ?_, ?_, ?_⟩
    · intro q; cases q
    · rw [e_mo, arrV_size]; exact hlt
    · show State.fitsSlot (e_ml c k M k0.toNatClampNeg S.heap.size x S (x + 1)) c .none x _ = true
      simp [State.fitsSlot, State.slotType?, e_ml_vm, a1, a2, fits]
    · refine hQ _ _ _ ⟨x + 1, hlt, rfl, ?_⟩
      show (e_ml c k M k0.toNatClampNeg S.heap.size x S (x + 1)).setCell S.heap.size _ = _
      rw [e_ml_z, e_mo_s, e_ml_s]
  · rintro s' d' acts1 ⟨i, hi, hr, rfl⟩
    have hi2 : i = M := by
      rcases Nat.lt_or_ge i M with q | q
      · rw [show M - i = (M - (i + 1)) + 1 by omega, List.range'_succ] at hr; cases hr
      · omega
    subst hi2
    exact hq _ _
end MW
section MS
variable {p : Program} {l : Launch} {e : Env} {R : Room} {s : State} {m : MethodId} {args : Array Value} {below : List Frame} {meth : Method} {cd : Code} {T : State} {locs : List Loc} {cells slots : Nat}
/-- the instruction, for a frame that stands -/
theorem e_mul (X : Stand p l e R s m args below meth cd T locs cells slots) (hexec : p.tables.exec = Jvm.exec) {own C : String} {index : Nat} {c k : ClassId} (hown : s.vm.findClass own = some m.cls) (hclink : (Cond.classLink own index C).before args s = true) (hc : s.vm.findClass C = some c) (hx : e_mx s c k) {g : JFrame} (hg : g.method = m) (hdg : decode cd.code g.pc = .ok (.multianewarray index 2, 4)) {n k0 : Int32} {rest : List Value} (hst : g.stack = .int k0 :: .int n :: rest) (hn : ¬ n < 0) (hk : ¬ k0 < 0) (hN : n.toNatClampNeg ≤ 100) (hK : k0.toNatClampNeg ≤ 100) (hcells : cells + (1 + n.toNatClampNeg) ≤ R.cells) (hslots : slots + (n.toNatClampNeg + n.toNatClampNeg * k0.toNatClampNeg) ≤ R.slots) :
    ∃ F : State, (∃ vm, F = e_ml c k n.toNatClampNeg k0.toNatClampNeg T.heap.size n.toNatClampNeg (T.setVm vm) n.toNatClampNeg) ∧ Stand p l e R s m args below meth cd F locs (cells + (1 + n.toNatClampNeg)) (slots + (n.toNatClampNeg + n.toNatClampNeg * k0.toNatClampNeg)) ∧ ∀ t, Steps p.tables e below (F.setTop { g with pc := g.pc + 4, stack := .ref T.heap.size :: rest }) t → Steps p.tables e below (T.setTop g) t := by
  subst hg
  obtain ⟨c', q1, q2⟩ := Cond.classLink_spec hown hclink e.platform (by rw [X.admits.platform])
  cases hc.symm.trans q1
  obtain ⟨r1, r2, r3⟩ := State.classEntry (e := e) X.warmed q2
  generalize T.vm.noted g.method.cls index (.cls c) = vm at r1 r2 r3
  obtain ⟨b1, b2⟩ := X.roomAbove hcells hslots
  have hl : 100 ≤ e.platform.arrayLengthLimit := by rw [Launch.admits_arrayLengthLimit X.admits]; omega
  have hb : 400 ≤ e.platform.maxHeapBytes := by rw [Launch.admits_maxHeapBytes X.admits]; omega
  refine ⟨_, ⟨vm, rfl⟩, e_ml_X _ _ _ _ _ (X.noted r2) _, fun t ht => ?_⟩
  jvm_step X.here [hexec, hdg]
  simp only [multianewarray.sem, wp_bind']
  rw [Jvm.W.resolveClassAt_transfer (s := T.setTop g) (State.method?_setTop g X.here.top) r1 r3, Jvm.W.resolveClassAt_ready (s := (T.setTop g).setVm vm) (State.method?_setTop g X.here.top) r3]
  rw [State.setVm_setTop]
  simp only [wp_bind']
  refine (popN_top (s := T.setVm vm) (f := g) (args := [.int n, .int k0]) (rest := rest) X.here.top hst).mpr ?_
  simp only [List.mapM_cons, List.mapM_nil, wp_bind', wp_pure']
  refine e_wpm (S := (T.setVm vm).setTop { g with stack := rest }) (c := c) (k := k) (hx.moved r2.alike) hn hk hN hK hl hb b1 b2 (fun d' acts' => ?_)
  rw [e_ml_t]
  have htop := (e_ml_X c k n.toNatClampNeg k0.toNatClampNeg T.heap.size (i := n.toNatClampNeg) (X.noted r2) n.toNatClampNeg).here.top
  simp only [wp_bind', Jvm.W.mark, Jvm.W.pushRef]
  refine ⟨_, State.topJava?_setTop' _ htop, fun acts => ?_⟩
  rw [State.setTop_setTop]
  simpa [jvm, htop] using ht
end MS
