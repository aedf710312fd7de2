/-! ===== the law: its world, its memory, its script ===== -/
def iM : List Nat := (List.range 1000).map (fun j => 90 + j)
theorem iM_at {j : Nat} (h : j < 1000) : iM.getD j 0 = 90 + j := by
  unfold iM
  rw [List.getD_eq_getElem?_getD, List.getElem?_map, List.getElem?_range h]
  rfl
theorem iM_io {j : Nat} (h : j < 1000) : e_io iM j = 90 + j := by
  unfold e_io
  rw [if_neg (by omega), iM_at h]
theorem iM_ge {j : Nat} : 90 ≤ e_io iM j := by
  by_cases h : 1000 ≤ j
  · rw [e_io_big iM h]; omega
  · rw [iM_io (by omega)]; omega
def w_LR (q : Nat) : List e_S := w_L q ++ w_R.map (e_rs iM)
theorem w_LR_len {q : Nat} : (w_LR q).length = 113 := rfl
theorem sb_L {q : Nat} : e_sb (List.range 1000) (w_LR q) (w_L q) = true := by
  have hl : (w_L q).length = 90 := rfl
  simp only [e_sb, Bool.and_eq_true, List.all_eq_true, List.mem_range, decide_eq_true_eq]
  refine ⟨fun j hj => ?_, List.Nodup.sublist (List.take_sublist _ _) List.nodup_range, by rw [hl]; simp, by rw [hl]; decide⟩
  rw [show (List.range 1000).getD j 0 = j from by rw [List.getD_eq_getElem?_getD, List.getElem?_range (by omega)]; rfl]
  rw [show ((w_L q)[j]?).map (e_rs (List.range 1000)) = (w_L q)[j]? from by cases (w_L q)[j]? <;> simp [e_rs_id]]
  unfold w_LR
  rw [List.getElem?_append_left hj]
  exact e_so_rf _
theorem sb_R {q : Nat} : e_sb iM (w_LR q) w_R = true := by
  have hl : w_R.length = 23 := rfl
  have hl2 : (w_L q).length = 90 := rfl
  simp only [e_sb, Bool.and_eq_true, List.all_eq_true, List.mem_range, decide_eq_true_eq]
  refine ⟨fun j hj => ?_, by decide +kernel, by decide +kernel, by decide⟩
  rw [iM_at (by omega)]
  unfold w_LR
  rw [List.getElem?_append_right (by omega), hl2, show 90 + j - 90 = j by omega, List.getElem?_map]
  exact e_so_rf _
theorem mL_lt {q c : Nat} {M N : e_M} (h : c < 90) : e_mg (List.range 1000) (w_L q).length M N c = N c := by
  have := e_mg_in (sb_L (q := q)) M N (j := c) h
  rw [e_io_id] at this
  exact this
theorem mL_ge {q c : Nat} {M N : e_M} (h : 90 ≤ c) : e_mg (List.range 1000) (w_L q).length M N c = M c := by
  refine e_mg_out (fun z => ?_)
  obtain ⟨j, hj, e⟩ := e_mg_mem (sb_L (q := q)) z
  rw [e_io_id] at e
  have hj : j < 90 := hj
  have e : c = j := e
  omega
def kM (M : e_M) : e_M := fun j => M (e_io iM j)
theorem kM_L {q : Nat} {M N : e_M} : kM (e_mg (List.range 1000) (w_L q).length M N) = kM M := by
  funext j
  exact mL_ge iM_ge
theorem mR_lt {c : Nat} {M N : e_M} (h : c < 90) : e_mg iM w_R.length M N c = M c := by
  refine e_mg_out (fun z => ?_)
  obtain ⟨j, hj, e⟩ := e_mg_mem (sb_R (q := 1010)) z
  have := iM_ge (j := j)
  omega
theorem kM_R {j : Nat} {M N : e_M} (h : j < 23) : kM (e_mg iM w_R.length M N) j = N j := e_mg_in (sb_R (q := 1010)) M N (j := j) h
def invL (M : e_M) : Prop := rel M (kM M) ∧ inv (kM M)
theorem rel_M {M M' K : e_M} (h : rel M K) (ho : okK K) (e : ∀ c, c < 90 → M' c = M c) : rel M' K := by
  refine ⟨⟨hHs_fr h.1.1 ho.1.1.1.1.2.1.2.1 (fun c c1 c2 => e c (by omega)) (fun c c1 c2 => e c (by omega)), fun z => hHs_fr (h.1.2 z) (Nat.le_trans (ho.1.2.1 z).2 ho.1.1.1.1.2.1.2.1) (fun c c1 c2 => e c (by omega)) (fun c c1 c2 => e c (by omega))⟩, ?_, ?_, ?_, fun j hj => ?_, fun j hj => ?_⟩
  · rw [e 0 (by decide)]; exact h.2.1
  · rw [e 1 (by decide)]; exact h.2.2.1
  · rw [e 64 (by decide)]; exact h.2.2.2.1
  · unfold shr; rw [e (67 + 2 * j) (by omega), e (68 + 2 * j) (by omega)]; exact h.2.2.2.2.1 j hj
  · unfold slr; rw [e (75 + 3 * j) (by omega), e (76 + 3 * j) (by omega), e (77 + 3 * j) (by omega)]; exact h.2.2.2.2.2 j hj
theorem inv_cg {K K' : e_M} (h : inv K) (e : ∀ c, c < 23 → K' c = K c) : inv K' :=
  inv_k h (okK_cg h.1 (fun b _ => by rw [e 0 (by decide)]) (fun c hc => e c (by omega)) (by rw [e 13 (by decide)]; exact h.1.2.1)) (e 6 (by decide)) (e 7 (by decide)) (e 8 (by decide))
theorem invL_2 {q : Nat} {M N K : e_M} (hr : rel N K) (hi : inv K) : invL (e_mg iM w_R.length (e_mg (List.range 1000) (w_L q).length M N) K) := by
  have eK : ∀ c, c < 23 → kM (e_mg iM w_R.length (e_mg (List.range 1000) (w_L q).length M N) K) c = K c := fun c hc => kM_R hc
  refine ⟨rel_M (rel_K hr (fun c hc => eK c (by omega))) (inv_cg hi eK).1 (fun c hc => ?_), inv_cg hi eK⟩
  rw [mR_lt hc, mL_lt hc]
/-- the script: at the number 1004, written by nobody -/
def sc (X : e_X) (L : Nat) (xs : Nat → Int32) : Prop := va_X (e_ad X 1004) L xs (e_s X) (e_s X).heap ∧ e_ad X 1004 < (e_s X).heap.size ∧ ¬ e_A X (e_ad X 1004)
def lo4 (t : Nat) : List (Option Value) := [some (.ref 1004), some (.ref 0), some (.ref 90), some (.int (nI (6 * t)))]
section SC
variable {X : e_X} {Sh : List e_S} {pc L t : Nat} {xs : Nat → Int32} {lo : List (Option Value)} {st : List Value} {M : e_M} {cc : ByteArray}
theorem e_sl (hX : e_ok 9 cc X Sh) (hs : sc X L xs) (hd : decode cc pc = .ok (.arraylength, 1)) (k : e_E X Sh (pc + 1) lo (.int (nI L) :: st) M) : e_E X Sh pc lo (.ref 1004 :: st) M := fun H locs ls hP hS hl => va_slen hX.x hX.b hs.1 hs.2.1 hs.2.2 hS hd (k H locs ls hP hS hl)
theorem e_sa {i : Int32} (hX : e_ok 9 cc X Sh) (hs : sc X L xs) (hi : vp_in i L) (hd : decode cc pc = .ok (.iaload, 1)) (k : e_E X Sh (pc + 1) lo (.int (xs i.toNatClampNeg) :: st) M) : e_E X Sh pc lo (.int i :: .ref 1004 :: st) M := fun H locs ls hP hS hl => va_sld hX.x hX.b hs.1 hs.2.1 hs.2.2 hS hi hd (k H locs ls hP hS hl)
/-- an argument out of the script -/
theorem e_la {k : Nat} {kk : Int} (hX : e_ok 9 cc X Sh) (hs : sc X L xs) (hL : L ≤ 3072) (ht : 6 * t + 6 ≤ L) (hk : k < 6) (hkk : e_i0 kk = nI k) (d1 : decode cc pc = .ok (.aload_n 0, 1)) (d2 : decode cc (pc + 1) = .ok (.iload_n 3, 1)) (d3 : decode cc (pc + 2) = .ok (.iconst kk, 1)) (d4 : decode cc (pc + 3) = .ok (.iadd, 1)) (d5 : decode cc (pc + 4) = .ok (.iaload, 1)) (kont : e_E X Sh (pc + 5) (lo4 t) (.int (xs (6 * t + k)) :: st) M) : e_E X Sh pc (lo4 t) st M := by
  refine e_aload_n hX d1 rfl (e_iload_n hX d2 rfl (e_iconst hX d3 (e_iadd hX d4 ?_)))
  have e : nI (6 * t) + e_i0 kk = nI (6 * t + k) := by rw [hkk, nI_add]
  rw [e]
  refine e_sa hX hs (vp_in_nI (by omega) (by omega)) d5 ?_
  rw [nI_clamp (by omega)]
  exact kont
end SC
section LC
variable {X : e_X} {q p0 pc7 pc8 d7 d8 idx7 idx8 nL7 nL8 n : Nat} {y7 y8 : MethodName} {cy7 cy8 : ByteArray} {as : List Int32} {lo : List (Option Value)} {M : e_M} {off : Int}
theorem lw_R {d : Nat} (hR : e_R X = room_1) (hd : d ≤ 2000) : d + 1 ≤ (e_R X).frames ∧ 40 * (d + 1) ≤ (e_R X).locals := by
  rw [hR]
  exact ⟨by show d + 1 ≤ 2048; omega, by show 40 * (d + 1) ≤ 84000; omega⟩
theorem lw_8 {P8 : Option Value → e_M → Prop} {rest : List Value} (hX : e_ok 9 cL_law X (w_LR q)) (hR : e_R X = room_1) (hC : e_C (e_g X) d8 y8 cy8 nL8 (some .int) (.ref 0 :: as.map Value.int) w_R (kM M) P8) (hw : e_wV 9 idx8 y8 cy8 nL8 (some .int) n) (hy : y8.cls = RX8) (hn : as.length = n) (hd8 : d8 ≤ 2000) (hr : rest.length ≤ 4) (hd : decode cL_law pc8 = .ok (.invokevirtual idx8, 3))
    (k : ∀ (r : Option Value) (N : e_M), P8 r N → e_E X (w_LR q) (pc8 + 3) lo ((r.map (e_cv (e_io iM))).toList ++ rest) (e_mg iM w_R.length M N)) : e_E X (w_LR q) pc8 lo ((as.map Value.int).reverse ++ .ref 90 :: rest) M := by
  have hcv : (as.map Value.int).map (e_cv (e_io iM)) = as.map Value.int := by rw [List.map_map]; exact List.map_congr_left (fun _ _ => rfl)
  have hc : vwCl[7]? = some (y8.cls, TX8, 34) := by rw [hy]; rfl
  have e := e_callV (is := iM) (M := M) (lo := lo) (rest := rest) (as0 := as.map Value.int) (Sh0 := w_R) hX sb_R hC hw rfl hc (by rw [List.length_map]; exact hn) (lw_R hR hd8) hr hd k
  rw [hcv, iM_io (by decide), Nat.add_zero] at e
  exact e
theorem lw_case {P7 P8 : Option Value → e_M → Prop} (hX : e_ok 9 cL_law X (w_LR q)) (hR : e_R X = room_1) (hC7 : e_C (e_g X) d7 y7 cy7 nL7 (some .int) (.ref 0 :: as.map Value.int) (w_L q) M P7) (hC8 : e_C (e_g X) d8 y8 cy8 nL8 (some .int) (.ref 0 :: as.map Value.int) w_R (kM M) P8) (hv : ∀ r N, P7 r N → ∃ v, r = some (.int v)) (hp : ∀ r N r' K', P7 r N → P8 r' K' → r' = r ∧ rel N K' ∧ inv K') (hw7 : e_wV 9 idx7 y7 cy7 nL7 (some .int) n) (hw8 : e_wV 9 idx8 y8 cy8 nL8 (some .int) n) (hy7 : y7.cls = RX7) (hy8 : y8.cls = RX8) (hn : as.length = n) (hd7 : d7 ≤ 2000) (hd8 : d8 ≤ 2000)
    (h7 : decode cL_law pc7 = .ok (.invokevirtual idx7, 3)) (h8 : decode cL_law pc8 = .ok (.invokevirtual idx8, 3)) (hi : decode cL_law (pc8 + 3) = .ok (.if_icmp .eq off, 3)) (hoff : ((pc8 + 3 : Nat) : Int) + off = 1418)
    (L1 : e_E X (w_LR q) pc7 lo ((as.map Value.int).reverse ++ [.ref 0]) M → e_E X (w_LR q) p0 lo [] M) (L2 : ∀ (M' : e_M) (st : List Value), e_E X (w_LR q) pc8 lo ((as.map Value.int).reverse ++ .ref 90 :: st) M' → e_E X (w_LR q) (pc7 + 3) lo st M')
    (IH : ∀ M2, invL M2 → e_E X (w_LR q) 1418 lo [] M2) : e_E X (w_LR q) p0 lo [] M := by
  refine L1 ?_
  have hc : vwCl[6]? = some (y7.cls, TX7, 13) := by rw [hy7]; rfl
  have e := e_callV (is := List.range 1000) (M := M) (lo := lo) (rest := []) (as0 := as.map Value.int) (Sh0 := w_L q) (a0 := 0) hX sb_L (by rw [e_io_id]; exact hC7) hw7 rfl hc (by rw [List.length_map]; exact hn) (lw_R hR hd7) (Nat.zero_le _) h7 (fun r N hP7 => ?_)
  · rw [e_io_id, e_cv_id] at e
    simpa using e
  · rw [e_io_id, e_cv_id]
    obtain ⟨v, rfl⟩ := hv r N hP7
    show e_E X (w_LR q) (pc7 + 3) lo [.int v] _
    refine L2 _ _ ?_
    refine lw_8 (rest := [.int v]) hX hR (by rw [kM_L]; exact hC8) hw8 hy8 hn hd8 (show 1 ≤ 4 from by decide) h8 (fun r' K' hP8 => ?_)
    obtain ⟨rfl, h1, h2⟩ := hp _ N r' K' hP7 hP8
    show e_E X (w_LR q) (pc8 + 3) lo [.int v, .int v] _
    refine e_icmp hX hi (by rw [hoff]; decide) (fun _ => ?_) (fun z => absurd (show e_cm .eq v v from rfl) z)
    rw [hoff]
    exact IH _ (invL_2 h1 h2)
/-- text: the Reader's names may be others behind it -/
theorem lw_text {nn : Nat} (hX : e_ok 9 cL_law X (w_LR q)) (hR : e_R X = room_1) (hq : oknq q) (hI : invL M) (hn : kM M 0 7 = nI nn) (h96 : nn ≤ 96) (IH : ∀ q' M2, oknq q' → invL M2 → e_E X (w_LR q') 1418 lo [] M2) (g1 : e_get lo 1 = some (.ref 0)) (g2 : e_get lo 2 = some (.ref 90)) : e_E X (w_LR q) 917 lo [] M := by
  refine e_aload_n hX dL_law_917 g1 ?_
  have hC7 := c7_text (q := q) (e_g X) M (kM M) hI.1 hI.2.1 hn h96 hI.2.2.2 hq
  have e := e_callVW (is := List.range 1000) (M := M) (lo := lo) (rest := []) (as0 := []) (Sh0 := w_L q) (a0 := 0) hX sb_L (by rw [e_io_id]; exact hC7) k_9_109 rfl rfl rfl (lw_R hR (by decide)) (Nat.zero_le _) dL_law_918 (fun r Sh0' N hP7 => ?_)
  · rw [e_io_id, e_cv_id] at e
    simpa using e
  · rw [e_io_id, e_cv_id]
    obtain ⟨⟨q', hq', rfl⟩, ⟨⟨v, rfl⟩, hcl⟩, hall⟩ := hP7
    refine ⟨w_LR q', rfl, rfl, sb_L, fun k hk => ?_, ?_⟩
    · have hk : 90 ≤ k := by
        refine Nat.not_lt.mp (fun z => hk ?_)
        have := e_io_mem (sb_L (q := q)) (j := k) z
        rw [e_io_id] at this
        exact this
      have hl : (w_L q).length = 90 := rfl
      have hl' : (w_L q').length = 90 := rfl
      unfold w_LR
      rw [List.getElem?_append_right (by omega), List.getElem?_append_right (by omega), hl, hl']
    · have hX' : e_ok 9 cL_law X (w_LR q') := e_ok_sh (Sh := w_LR q) rfl hX
      show e_E X (w_LR q') 921 lo [.int v] _
      refine e_aload_n hX' dL_law_921 g2 ?_
      refine lw_8 (as := []) (rest := [.int v]) hX' hR (by rw [kM_L]; exact c8_text (e_g X) (kM M) nn hn h96 hI.2.2.1 (inv_T hI.2).1 (inv_T hI.2).2.1) k_9_112 rfl rfl (by decide) (show 1 ≤ 4 from by decide) dL_law_922 (fun r' K' hP8 => ?_)
      obtain ⟨rfl, h1⟩ := hall r' K' hP8
      have h2 : inv K' := inv_k hI.2 (okK_tx hI.2.1 h96 hcl hP8) (hP8.1.1 6 (by decide) (by decide) (by decide) (by decide) (by decide)) (hP8.1.1 7 (by decide) (by decide) (by decide) (by decide) (by decide)) (hP8.1.1 8 (by decide) (by decide) (by decide) (by decide) (by decide))
      show e_E X (w_LR q') 925 lo [.int v, .int v] _
      refine e_icmp hX' dL_law_925 (by decide) (fun _ => ?_) (fun z => absurd (show e_cm .eq v v from rfl) z)
      exact IH q' _ hq' (invL_2 (q := q) h1 h2)
end LC
