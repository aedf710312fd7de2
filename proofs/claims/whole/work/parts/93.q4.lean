/-! ===== the Reader: signsOf, advance as a step, putPiece ===== -/
def f4_signsOf (as : List Int32) (M : e_M) : Prop × Option Int32 × e_M := (False, none, M)
set_option maxRecDepth 40000 in
set_option maxHeartbeats 1000001 in
theorem c4_signsOf {q : Nat} (g : e_G) (M : e_M) {lev : Nat} (hl : lev < 5) : e_C g 0 yX4_signsOf cX4_signsOf 1 (some (.object "java/lang/String")) [.int (nI lev)] (w_Rd q) M (fun r N => r = some (.ref (1010 + (10 + lev))) ∧ N = M) := by
  refine e_C_of 4 (by decide) rfl (by simp [Value.category]) (Nat.le_of_ble_eq_true rfl) ?_
  intro X hX hE hL hg hR
  refine e_iload_n hX dX4_signsOf_0 rfl ?_
  have ne : ∀ {a b : Int32} {p : Prop}, ¬ a = b → a = b → p := fun h z => absurd z h
  match lev, hl with
  | 0, _ => exact e_tswitch hX dX4_signsOf_1 rfl (by decide) (fun z => absurd z (by decide)) ⟨fun _ => ⟨by decide, e_ldcS (pc := 32) 10 (by decide) hX dX4_signsOf_32 rfl (hE 34 _ M (some (.ref 1020)) ⟨dX4_signsOf_34, _, rfl⟩ ⟨rfl, rfl⟩)⟩, ne (by decide), ne (by decide), ne (by decide), trivial⟩
  | 1, _ => exact e_tswitch hX dX4_signsOf_1 rfl (by decide) (fun z => absurd z (by decide)) ⟨ne (by decide), fun _ => ⟨by decide, e_ldcS (pc := 35) 11 (by decide) hX dX4_signsOf_35 rfl (hE 37 _ M (some (.ref 1021)) ⟨dX4_signsOf_37, _, rfl⟩ ⟨rfl, rfl⟩)⟩, ne (by decide), ne (by decide), trivial⟩
  | 2, _ => exact e_tswitch hX dX4_signsOf_1 rfl (by decide) (fun z => absurd z (by decide)) ⟨ne (by decide), ne (by decide), fun _ => ⟨by decide, e_ldcS (pc := 38) 12 (by decide) hX dX4_signsOf_38 rfl (hE 40 _ M (some (.ref 1022)) ⟨dX4_signsOf_40, _, rfl⟩ ⟨rfl, rfl⟩)⟩, ne (by decide), trivial⟩
  | 3, _ => exact e_tswitch hX dX4_signsOf_1 rfl (by decide) (fun z => absurd z (by decide)) ⟨ne (by decide), ne (by decide), ne (by decide), fun _ => ⟨by decide, e_ldcS (pc := 41) 13 (by decide) hX dX4_signsOf_41 rfl (hE 43 _ M (some (.ref 1023)) ⟨dX4_signsOf_43, _, rfl⟩ ⟨rfl, rfl⟩)⟩, trivial⟩
  | 4, _ => exact e_tswitch hX dX4_signsOf_1 rfl (by decide) (fun _ => e_ldcS (pc := 44) 14 (by decide) hX dX4_signsOf_44 rfl (hE 46 _ M (some (.ref 1024)) ⟨dX4_signsOf_46, _, rfl⟩ ⟨rfl, rfl⟩)) ⟨ne (by decide), ne (by decide), ne (by decide), ne (by decide), trivial⟩
/-- a step of the Reader's tape, behind a token that is a word, a number or a sign -/
theorem x_ad {X : e_X} {cc : ByteArray} {pc D n q : Nat} {s : Tk} {rest : List Value} {lo : List (Option Value)} {K : e_M} (hX : e_ok 4 cc X (w_Rd q)) (hR : e_R X = e_rm D) (hD : 2 ≤ D) (hn : K 0 1 = nI n) (h96 : n ≤ 96) (hs : ct s K) (hw : tw (K 1) n s) (ht : s.2.2.1 = 1 ∨ s.2.2.1 = 2 ∨ s.2.2.1 = 3) (hr : rest.length ≤ 4) (hd : decode cc pc = .ok (.invokevirtual 55, 3))
    (kk : ∀ N, ct (adv (K 1) n s) N → tw (K 1) n (adv (K 1) n s) → kq K N → e_E X (w_Rd q) (pc + 3) lo rest N) : e_E X (w_Rd q) pc lo (.ref 0 :: rest) K := by
  obtain ⟨t0, t1, t2, t3, t4, t5⟩ := hw
  have hb : (K 0 2 = 1 ∨ K 0 2 = 2) ↔ s.2.2.2.2 = nI s.1 := by
    rcases hs.2.2 with ⟨a, b⟩ | ⟨a, b⟩ | ⟨a, b, c⟩ | ⟨a, b⟩ | ⟨a, b⟩
    · rw [a] at ht; exact absurd ht (by decide)
    · exact ⟨fun _ => t2 (Or.inl a), fun _ => Or.inl b⟩
    · exact ⟨fun _ => t2 (Or.inr a), fun _ => Or.inr b⟩
    · refine ⟨fun z => ?_, fun z => absurd z (t3 a)⟩
      rw [b] at z
      exact absurd z (by decide)
    · rw [a] at ht; exact absurd ht (by decide)
  refine e_callV0 (a0 := 0) (as0 := []) (rest := rest) hX (Nat.le_of_ble_eq_true rfl) (c4_advance (e_g X) K n s.1 s.2.2.2.2 s.2.2.2.1 hn h96 hs.2.1 t0.2.1 hb t1) k_4_55 rfl rfl rfl (e_rr hR (by omega)) hr hd (fun r N hN => ?_)
  obtain ⟨rfl, a1, a2⟩ := hN
  exact kk N a1 (tw_adv h96 t0.2.1 t1) a2
