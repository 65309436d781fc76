-- WHAT HOLDS AT THE LAW'S ENTRY
def xc_ows : List (List Nat) := [[13, 410, 419, 424, 427, 429, 411, 412, 27, 28, 413, 418, 425, 441, 400, 442, 402, 443, 404, 414, 415, 416, 417, 406, 431, 432, 433, 434, 391, 434, 435, 436, 437, 393, 437, 438, 439, 411, 395, 430, 389, 390, 397, 398, 399, 401, 403, 405, 9999, 9999, 409, 408, 407], [13, 410, 419, 424, 427, 429, 411, 412, 27, 28, 413, 418, 425, 441, 400, 442, 402, 443, 404, 414, 415, 416, 417, 406, 481, 482, 483, 434, 391, 434, 435, 436, 437, 393, 437, 438, 439, 411, 395, 480, 472, 473, 474, 421, 475, 476, 477, 478, 9999, 9999, 409, 408, 479], [13, 410, 419, 424, 427, 429, 411, 412, 27, 28, 413, 418, 425, 441, 400, 442, 402, 443, 404, 414, 415, 416, 417, 406, 749, 750, 751, 434, 391, 434, 435, 436, 437, 393, 437, 438, 439, 411, 395, 748, 740, 741, 742, 422, 743, 744, 745, 746, 9999, 9999, 409, 408, 747], [13, 410, 419, 424, 427, 429, 411, 412, 27, 28, 413, 418, 425, 441, 400, 442, 402, 443, 404, 414, 415, 416, 417, 406, 773, 774, 775, 434, 391, 434, 435, 436, 437, 393, 437, 438, 439, 411, 395, 772, 764, 765, 766, 423, 767, 768, 769, 770, 9999, 9999, 409, 408, 771]]
def xf_ow (e : Nat) : Bool := (List.range 60).all (fun k => match (Bundle.ownAtoms0 "SnapForge" (xc_ic e) (xc_en e) xc_up)[k]? with
  | some w => !w.onTables || decide (tables_1[(xc_ows.getD e []).getD k 9999]? = some w)
  | none => true)
set_option maxRecDepth 100000 in
theorem xf_ow_ok : (List.range 4).all xf_ow = true := by decide +kernel
theorem xc_owl (e : Nat) : (Bundle.ownAtoms0 "SnapForge" (xc_ic e) (xc_en e) xc_up).length = 53 := rfl
theorem xt_in {i : Nat} {w : Cond} (h : tables_1[i]? = some w) : w ∈ lw_tbl := List.mem_append_right _ (List.mem_of_getElem? h)
theorem xst_th {s : State} {args : Array Value} (hts : ∀ w ∈ lw_tbl, w.before args s = true) : ∀ e, e < 4 → ∀ w ∈ Bundle.ownAtoms0 "SnapForge" (xc_ic e) (xc_en e) xc_up, w.onTables = true → w.before #[] s = true := by
  intro e he w hw ht
  obtain ⟨k, hk, hkw⟩ := List.getElem_of_mem hw
  have h1 := List.all_eq_true.mp xf_ow_ok e (List.mem_range.mpr he)
  unfold xf_ow at h1
  have hk2 := hk
  rw [xc_owl] at hk2
  have h2 := List.all_eq_true.mp h1 k (List.mem_range.mpr (by omega))
  rw [List.getElem?_eq_getElem hk, hkw] at h2
  simp only [ht, Bool.not_true, Bool.false_or, decide_eq_true_eq] at h2
  exact va_tabs ht rfl (hts w (xt_in h2))
set_option maxRecDepth 100000 in
theorem xw_ls1 : Cond.laysStatic Bundle.tN "UNASSIGNED_STACK" Bundle.steD ∈ lw_tbl := xt_in (i := 415) (by decide +kernel)
set_option maxRecDepth 100000 in
theorem xw_ls2 : Cond.laysStatic Bundle.tN "SUPPRESSED_SENTINEL" Bundle.listD ∈ lw_tbl := xt_in (i := 417) (by decide +kernel)
set_option maxRecDepth 100000 in
theorem xst_nc {s : State} {args : Array Value} (hs : (Jvm.Cond.and given_1 narrow_1).before args s = true) : ∀ e1 e2, e1 < 4 → e2 < 4 → e1 ≠ e2 → va_Nc (xc_en e1) (xc_en e2) s := by
  have h := flat_of_before _ hs
  intro e1 e2 h1 h2 h3
  match e1, e2, h1, h2, h3 with
  | 0, 0, _, _, h3 => exact absurd rfl h3
  | 0, 1, _, _, _ => exact va_Nc.of (h (.not (.castable "java/lang/IllegalArgumentException" "java/lang/IllegalStateException")) (by decide +kernel))
  | 0, 2, _, _, _ => exact va_Nc.of (h (.not (.castable "java/lang/IllegalArgumentException" "java/lang/IndexOutOfBoundsException")) (by decide +kernel))
  | 0, 3, _, _, _ => exact va_Nc.of (h (.not (.castable "java/lang/IllegalArgumentException" "java/lang/UnsupportedOperationException")) (by decide +kernel))
  | 1, 0, _, _, _ => exact va_Nc.of (h (.not (.castable "java/lang/IllegalStateException" "java/lang/IllegalArgumentException")) (by decide +kernel))
  | 1, 1, _, _, h3 => exact absurd rfl h3
  | 1, 2, _, _, _ => exact va_Nc.of (h (.not (.castable "java/lang/IllegalStateException" "java/lang/IndexOutOfBoundsException")) (by decide +kernel))
  | 1, 3, _, _, _ => exact va_Nc.of (h (.not (.castable "java/lang/IllegalStateException" "java/lang/UnsupportedOperationException")) (by decide +kernel))
  | 2, 0, _, _, _ => exact va_Nc.of (h (.not (.castable "java/lang/IndexOutOfBoundsException" "java/lang/IllegalArgumentException")) (by decide +kernel))
  | 2, 1, _, _, _ => exact va_Nc.of (h (.not (.castable "java/lang/IndexOutOfBoundsException" "java/lang/IllegalStateException")) (by decide +kernel))
  | 2, 2, _, _, h3 => exact absurd rfl h3
  | 2, 3, _, _, _ => exact va_Nc.of (h (.not (.castable "java/lang/IndexOutOfBoundsException" "java/lang/UnsupportedOperationException")) (by decide +kernel))
  | 3, 0, _, _, _ => exact va_Nc.of (h (.not (.castable "java/lang/UnsupportedOperationException" "java/lang/IllegalArgumentException")) (by decide +kernel))
  | 3, 1, _, _, _ => exact va_Nc.of (h (.not (.castable "java/lang/UnsupportedOperationException" "java/lang/IllegalStateException")) (by decide +kernel))
  | 3, 2, _, _, _ => exact va_Nc.of (h (.not (.castable "java/lang/UnsupportedOperationException" "java/lang/IndexOutOfBoundsException")) (by decide +kernel))
  | 3, 3, _, _, h3 => exact absurd rfl h3
  | n + 4, _, h1, _, _ => omega
  | _, n + 4, _, h2, _ => omega
theorem xst_tq {s : State} {args : Array Value} (hts : ∀ w ∈ lw_tbl, w.before args s = true) (hs : (Jvm.Cond.and given_1 narrow_1).before args s = true) : xTq s.heap.size s := by
  have h := flat_of_before _ hs
  exact ⟨xst_th hts, xLs.of (hts _ xw_ls1) (h _ (by decide +kernel)) rfl, xLs.of (hts _ xw_ls2) (h _ (by decide +kernel)) rfl, xst_nc hs⟩
set_option maxRecDepth 100000 in
theorem xw_ao1 : Cond.arrayOver (.object "SnapForge$Strand") ∈ lw_tbl := xt_in (i := 84) (by decide +kernel)
set_option maxRecDepth 100000 in
theorem xw_ao2 : Cond.arrayOver (.object "SnapForge$Frame") ∈ lw_tbl := xt_in (i := 164) (by decide +kernel)
set_option maxRecDepth 100000 in
theorem xw_fn : Cond.fieldLinkNest "SnapForge$Program" 39 "SnapForge" "TAKES" "[I" "SnapForge" ∈ lw_tbl := xt_in (i := 573) (by decide +kernel)
theorem xst_nw {s : State} {args : Array Value} (hts : ∀ w ∈ lw_tbl, w.before args s = true) : xNw s := by
  refine ⟨va_AO.of (hts _ xw_ao1), va_AO.of (hts _ xw_ao2), va_Nw.of rfl (hts _ xw_fn), fun own e he hb => ?_⟩
  have hown : own < 13 := by
    rcases Nat.lt_or_ge own 13 with q | q
    · exact q
    · rw [List.getD_eq_getElem?_getD, List.getElem?_eq_none (by exact q)] at he
      simp at he
  have h1 := List.all_eq_true.mp (List.all_eq_true.mp xf_spc_ok own (List.mem_range.mpr hown)) e he
  unfold xf_spc at h1
  rw [if_pos hb] at h1
  simp only [Bool.and_eq_true, decide_eq_true_eq] at h1
  exact va_Nw.of rfl (hts _ (xt_in h1.2))
theorem xst_sta {s : State} {args : Array Value} (hts : ∀ w ∈ lw_tbl, w.before args s = true) (hs : (Jvm.Cond.and given_1 narrow_1).before args s = true) (n : String) (L : List Int32) (hN : L.length < 2 ^ 31) (hl : Cond.laysStatic "SnapForge" n "[I" ∈ lw_tbl) (ha : (Cond.arrayOf (.static "SnapForge" n "[I") .int).before args s = true) (hlen : (Cond.eq (.length (.static "SnapForge" n "[I")) (.int (Int32.ofNat L.length))).before args s = true) (hel : ∀ j : Nat, j < L.length → (Cond.eq (.elem (.static "SnapForge" n "[I") (.int (Int32.ofNat j))) (.int (L.getD j 0))).before args s = true) (hini : Cond.initialized "SnapForge" ∈ lw_tbl) : ∃ t : Nat, va_Z "SnapForge" n "[I" (.ref t) (fun q => s.heap.size ≤ q) s s.heap ∧ va_T .int t L.length (fun k => .int (L.getD k 0)) (fun q => s.heap.size ≤ q) s s.heap := by
  have hA : ∀ a : Nat, a < s.heap.size → ¬ (fun q => s.heap.size ≤ q) a := fun a h => Nat.not_le.mpr h
  obtain ⟨t, h1, h2⟩ := va_Tof (A := fun q => s.heap.size ≤ q) (f := fun k => .int (L.getD k 0)) hN ha (va_eqt hlen) (fun j hj => va_eqt (hel j hj)) hA
  exact ⟨t, va_Zref (hts _ hl) (hts _ hini) h1 hA, h2⟩
set_option maxRecDepth 100000 in
theorem xw_sl0 : Cond.laysStatic "SnapForge" "TOP_A" "[I" ∈ lw_tbl := xt_in (i := 465) (by decide +kernel)
set_option maxRecDepth 100000 in
theorem xw_el0 : (List.range 28).all (fun j => decide (Cond.eq (.elem (.static "SnapForge" "TOP_A" "[I") (.int (Int32.ofNat j))) (.int ((xc_ros.getD 0 []).getD j 0)) ∈ flatC (Jvm.Cond.and given_1 narrow_1))) = true := by decide +kernel
set_option maxRecDepth 100000 in
theorem xw_sl1 : Cond.laysStatic "SnapForge" "TOP_B" "[I" ∈ lw_tbl := xt_in (i := 470) (by decide +kernel)
set_option maxRecDepth 100000 in
theorem xw_el1 : (List.range 28).all (fun j => decide (Cond.eq (.elem (.static "SnapForge" "TOP_B" "[I") (.int (Int32.ofNat j))) (.int ((xc_ros.getD 1 []).getD j 0)) ∈ flatC (Jvm.Cond.and given_1 narrow_1))) = true := by decide +kernel
set_option maxRecDepth 100000 in
theorem xw_sl2 : Cond.laysStatic "SnapForge" "TAKES" "[I" ∈ lw_tbl := xt_in (i := 574) (by decide +kernel)
set_option maxRecDepth 100000 in
theorem xw_el2 : (List.range 28).all (fun j => decide (Cond.eq (.elem (.static "SnapForge" "TAKES" "[I") (.int (Int32.ofNat j))) (.int ((xc_ros.getD 2 []).getD j 0)) ∈ flatC (Jvm.Cond.and given_1 narrow_1))) = true := by decide +kernel
set_option maxRecDepth 100000 in
theorem xw_iniS : Cond.initialized "SnapForge" ∈ lw_tbl := xt_in (i := 1) (by decide +kernel)
theorem xst_sg {s : State} {args : Array Value} (hts : ∀ w ∈ lw_tbl, w.before args s = true) (hs : (Jvm.Cond.and given_1 narrow_1).before args s = true) (b : Nat) : ∃ g : Nat → Nat, xSg g s.heap.size s ∧ g 3 = b := by
  have h := flat_of_before _ hs
  obtain ⟨t0, z0, w0⟩ := xst_sta hts hs "TOP_A" (xc_ros.getD 0 []) (by decide) xw_sl0 (h _ (by decide +kernel)) (h _ (by decide +kernel)) (fun j hj => h _ (of_decide_eq_true (List.all_eq_true.mp xw_el0 j (List.mem_range.mpr hj)))) xw_iniS
  obtain ⟨t1, z1, w1⟩ := xst_sta hts hs "TOP_B" (xc_ros.getD 1 []) (by decide) xw_sl1 (h _ (by decide +kernel)) (h _ (by decide +kernel)) (fun j hj => h _ (of_decide_eq_true (List.all_eq_true.mp xw_el1 j (List.mem_range.mpr hj)))) xw_iniS
  obtain ⟨t2, z2, w2⟩ := xst_sta hts hs "TAKES" (xc_ros.getD 2 []) (by decide) xw_sl2 (h _ (by decide +kernel)) (h _ (by decide +kernel)) (fun j hj => h _ (of_decide_eq_true (List.all_eq_true.mp xw_el2 j (List.mem_range.mpr hj)))) xw_iniS
  refine ⟨fun j => if j = 0 then t0 else if j = 1 then t1 else if j = 2 then t2 else b, ⟨fun j hj => ?_, fun j L hL => ?_⟩, rfl⟩
  · match j, hj with
    | 0, _ => exact z0
    | 1, _ => exact z1
    | 2, _ => exact z2
  · match j, hL with
    | 0, hL => cases hL; exact w0
    | 1, hL => cases hL; exact w1
    | 2, hL => cases hL; exact w2
theorem xst_arr {s : State} {ty : FieldType} {args : Array Value} (h : (Cond.arrayClass ty).before args s = true) : ∃ cA : ClassId, ArrOfT s cA ty ∧ s.vm.findClass ("[" ++ ty.toString) = some cA := by
  obtain ⟨c, k, comp, h1, h2, h3⟩ := Cond.arrayClass_spec h
  exact ⟨c, fun n z => ⟨fun k h => (by cases h), k, h2, comp, h3⟩, h1⟩
theorem xst_arro {s : State} {C : String} {args : Array Value} (h : (Cond.arrayOver (.object C)).before args s = true) : ∃ cA : ClassId, ArrOfT s cA (.object C) ∧ va_RA s cA (.object C) := by
  obtain ⟨comp, c, k, h1, h2, h3, h4, h5⟩ := Cond.arrayOver_spec h
  exact ⟨c, fun n z => ⟨fun k h => (by cases h), k, h3, comp, h4⟩, k, comp, h3, h4, h1, h5⟩
theorem xst_k {s : State} {args : Array Value} (hts : ∀ w ∈ lw_tbl, w.before args s = true) : ∃ (D : va_G) (dA : Nat → ClassId), va_K D xc_cl (xc_tys dA) s := by
  have hc : ∀ ci : Nat, ∃ (cC : ClassId) (iS : Nat → Nat), ∀ q : vw_C, xc_cl[ci]? = some q → u_Kn s q.1 q.2.1 q.2.2 cC iS := by
    intro ci
    cases hq : xc_cl[ci]? with
    | none => exact ⟨0, fun _ => 0, fun q h => by cases h⟩
    | some q =>
      obtain ⟨C, T, N⟩ := q
      obtain ⟨Y, -, -, h3, -, h5, -⟩ := xh_cls hq
      obtain ⟨cC, iS, hK⟩ := u_known (C := C) (T := T) (N := N) (n := N) hts (fun w hw => xw_sub (h5 w hw)) (hts _ (xw_sub h3))
      exact ⟨cC, iS, fun q h => by cases h; exact hK⟩
  obtain ⟨a0, p0, q0⟩ := xst_arr (hts _ (xw_sub xw_ai))
  obtain ⟨a1, p1, q1⟩ := xst_arr (hts _ (xw_sub xw_al))
  obtain ⟨a2, p2, q2⟩ := xst_arr (hts _ (xw_sub xw_az))
  obtain ⟨a3, p3, q3⟩ := xst_arro (hts _ xw_ao1)
  obtain ⟨a4, p4, q4⟩ := xst_arro (hts _ xw_ao2)
  refine ⟨(fun ci => (hc ci).choose, fun ci => (hc ci).choose_spec.choose), fun j => if j = 0 then a0 else if j = 1 then a1 else if j = 2 then a2 else if j = 3 then a3 else a4, fun c q hq => (hc c).choose_spec.choose_spec q hq, fun k q hk => ?_⟩
  match k, hk with
  | 0, hk => cases hk; exact ⟨p0, q0⟩
  | 1, hk => cases hk; exact ⟨p1, q1⟩
  | 2, hk => cases hk; exact ⟨p2, q2⟩
  | 3, hk => cases hk; exact ⟨p3, q3⟩
  | 4, hk => cases hk; exact ⟨p4, q4⟩
  | k + 5, hk => simp [xc_tys] at hk
/-- THE LAW FROM ITS ENTRY, out of a run of its evaluator -/
theorem xstart {p : Program} {e : Env} {s : State} {m : MethodId} {below : List Frame} {meth : Method} {c : Code} (l : Launch) (hfl : l.stackTraces = false) {b L : Nat} {xs : Nat → Int32} (C0 : lw_At p s m meth c b L xs) (hrun : ∃ (n : Nat) (S1 : xS), xlev L xs n 0 [(0, .ref 1000003)] [] 0 0 xS0 = some (.inr (some (.int 1)), S1)) : W p l e room_1 s m #[Value.ref b] below meth c s.heap [] 0 0 (lw_Z below #[Value.ref b] s) (entryFrame m ([Value.ref b] : List Value).toArray 8) := by
  obtain ⟨hx, hb, hr, hml, hown, hts, hXs, hbl, hlk, hgv⟩ := id C0
  obtain ⟨D, dA, hK⟩ := xst_k hts
  obtain ⟨g, hG, hg⟩ := xst_sg hts hgv b
  obtain ⟨n, S1, hn⟩ := hrun
  exact xsoundL l hfl C0 hK (xst_nw hts) hG hg (xst_tq hts hgv) hn
