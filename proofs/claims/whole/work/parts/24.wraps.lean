-- THE LAW'S WRAPPERS: methods with a table of catches, sound too
def xc_hcl : List Nat := [380, 459, 734, 757]
def xf_hs (y : Nat) : Bool := (xc_hnds.getD y []).all (fun e => decide (e.2.2.2.2 < 4) && decide (e.2.2.2.1 ≠ 0) && decide (tables_1[xc_hcl.getD e.2.2.2.2 9999]? = some (Cond.classLink "SnapForgeLaw" e.2.2.2.1 (xc_en e.2.2.2.2))) && (xc_hnds.getD y []).all (fun z => decide (z.1 = e.1) && decide (z.2.1 = e.2.1)))
set_option maxRecDepth 100000 in
theorem xf_hs_ok : (List.range 187).all xf_hs = true := by decide +kernel
/-- the calls in reach of a catch are virtual ones -/
def xf_hc (y : Nat) : Bool := (xc_hnds.getD y []).isEmpty || (xc_all.getD y []).all (fun e => match e.2 with
  | .invokespecial _ => false
  | .invokestatic _ => false
  | _ => true)
set_option maxRecDepth 100000 in
theorem xf_hc_ok : (List.range 187).all xf_hc = true := by decide +kernel
theorem x_tab {y pc ex t : Nat} (hy : y < 187) (h : xc_hnd y pc ex = some t) {ET : List ExceptionTableEntry} (hET : ET.map (fun h => (h.startPc, h.endPc, h.handlerPc, h.catchType)) = (xc_hnds.getD y []).map (fun e => (e.1, e.2.1, e.2.2.1, e.2.2.2.1))) :
    ∃ (pre : List ExceptionTableEntry) (x : ExceptionTableEntry) (rest : List ExceptionTableEntry), ET = pre ++ x :: rest ∧ covers x pc = true ∧ x.handlerPc = t ∧ x.catchType ≠ 0 ∧ Cond.classLink "SnapForgeLaw" x.catchType (xc_en ex) ∈ xc_tbl ∧ ex < 4 ∧ ∀ z ∈ pre, covers z pc = true ∧ z.catchType ≠ 0 ∧ ∃ ez, ez < 4 ∧ ez ≠ ex ∧ Cond.classLink "SnapForgeLaw" z.catchType (xc_en ez) ∈ xc_tbl := by
  have h0 := List.all_eq_true.mp xf_hs_ok y (List.mem_range.mpr hy)
  unfold xf_hs at h0
  unfold xc_hnd at h
  obtain ⟨e0, he, ht⟩ := Option.map_eq_some_iff.mp h
  generalize xc_hnds.getD y [] = L at *
  obtain ⟨hp, as, bs, hL, has⟩ := List.find?_eq_some_iff_append.mp he
  simp only [Bool.and_eq_true, decide_eq_true_eq, beq_iff_eq] at hp
  obtain ⟨⟨p1, p2⟩, p3⟩ := hp
  have g0 := List.all_eq_true.mp h0
  have ge := g0 e0 (by rw [hL]; simp)
  simp only [Bool.and_eq_true, decide_eq_true_eq] at ge
  obtain ⟨⟨⟨q1, q2⟩, q3⟩, q4⟩ := ge
  have q5 := List.all_eq_true.mp q4
  rw [hL, List.map_append, List.map_cons] at hET
  obtain ⟨l1, l2, e1, e2, e3⟩ := List.map_eq_append_iff.mp hET
  obtain ⟨x, rest, e4, e5, e6⟩ := List.map_eq_cons_iff.mp e3
  simp only [Prod.mk.injEq] at e5
  obtain ⟨f1, f2, f3, f4⟩ := e5
  refine ⟨l1, x, rest, by rw [e1, e4], ?_, by rw [f3]; exact ht, by rw [f4]; exact q2, ?_, by rw [← p3]; exact q1, fun z hz => ?_⟩
  · simp only [covers, f1, f2, Bool.and_eq_true, decide_eq_true_eq]
    exact ⟨p1, p2⟩
  · rw [f4, ← p3]
    exact xw_in q3 rfl
  · have hz2 : (z.startPc, z.endPc, z.handlerPc, z.catchType) ∈ as.map (fun e => (e.1, e.2.1, e.2.2.1, e.2.2.2.1)) := by
      rw [← e2]
      exact List.mem_map.mpr ⟨z, hz, rfl⟩
    obtain ⟨z1, hz1, hz3⟩ := List.mem_map.mp hz2
    simp only [Prod.mk.injEq] at hz3
    obtain ⟨k1, k2, k3, k4⟩ := hz3
    have gz := g0 z1 (by rw [hL]; simp [hz1])
    simp only [Bool.and_eq_true, decide_eq_true_eq] at gz
    obtain ⟨⟨⟨r1, r2⟩, r3⟩, -⟩ := gz
    have r5 := q5 z1 (by rw [hL]; simp [hz1])
    simp only [Bool.and_eq_true, decide_eq_true_eq] at r5
    have hn := has z1 hz1
    refine ⟨?_, by rw [← k4]; exact r2, z1.2.2.2.2, r1, ?_, ?_⟩
    · simp only [covers, ← k1, ← k2, Bool.and_eq_true, decide_eq_true_eq]
      rw [r5.1, r5.2]
      exact ⟨p1, p2⟩
    · intro hq
      have : (decide (z1.1 ≤ pc) && decide (pc < z1.2.1) && z1.2.2.2.2 == ex) = true := by
        simp only [Bool.and_eq_true, decide_eq_true_eq, beq_iff_eq]
        rw [r5.1, r5.2]
        exact ⟨⟨p1, p2⟩, hq⟩
      rw [this] at hn
      simp at hn
    · rw [← k4]
      exact xw_in r3 rfl
section XCW
variable {p : Program} {l : Launch} {e : Env} {R : Room} {s : State} {m : MethodId} {args : Array Value} {below : List Frame} {meth : Method} {c : Code} {Q : State → Prop} {D : va_G} {dA : Nat → ClassId} {B : Nat} {g : Nat → Nat} {A : Nat → Prop} {pc y : Nat} {lv : xL} {st : List Value} {cn qn : Nat} {S : xS} {K : xK} {r : xR}
theorem xs_ct (hX : xX p R s m args meth c D dA y) (hown2 : xc_own y = 12) (hN : xNw s) (hG : xSg g B s) (hTq : xTq B s) (hA : ∀ q, s.heap.size ≤ q → A q) (hAB : ∀ q, A q → B ≤ q) (hK : xG p l e R s m args below meth c Q D dA B g A (xc_nl y) K r) (hET : c.exceptionTable.toList.map (fun h => (h.startPc, h.endPc, h.handlerPc, h.catchType)) = (xc_hnds.getD y []).map (fun e => (e.1, e.2.1, e.2.2.1, e.2.2.2.1)))
    {x y2 na ex t : Nat} {S1 : xS} (hc : xc_code y pc = some (.invokevirtual x)) (ho : xc_vrt (xc_own y) x = some (y2, na)) (ht : xc_hnd y pc ex = some t) (hna : na ≤ st.length) (hlev : xc_lev y2 < xc_lev y) (hcc : cn + xc_mc y2 ≤ xc_mc y) (hqq : qn + xc_ms y2 ≤ xc_ms y) (hcat : ((st.drop na).map fun v => v.category).sum ≤ 8) (hrc : xrcv y2 S (st.take na).reverse = true) (hM : xMT l D dA B g y2 (st.take na).reverse S ex S1) (hz1 : xz S1 ≤ 1000000) (hk : K t lv [.ref (xz S1 - 1)] (cn + xc_mc y2) (qn + xc_ms y2) S1 = some r) : xW p l e R s m args below meth c Q D dA B g A (xc_nl y) pc lv st cn qn S := by
  obtain ⟨hx, hb, hml, hown, hts, hKK, -, -, -, hy, hRf, hRl, hRc, hRs⟩ := id hX
  obtain ⟨w1, w2, w3, w4, w5⟩ := xh_vrt ho
  obtain ⟨b, as2, e1, e2⟩ := xrcv_ref hrc (by omega)
  intro ls H locs hl hH hS hAd
  have hlen : (st.take na).reverse.length = na := by
    rw [List.length_reverse, List.length_take]
    omega
  have hlen2 : as2.length = na - 1 := by
    rw [e1, List.length_cons] at hlen
    omega
  rw [x_stk B g st na]
  rw [e1] at hM ⊢
  intro T hT X
  obtain ⟨T2, L, a, ce, X2, g1, g2, g3, g4, g5, g6, g7, g8, g9, st1⟩ := x_callT hX w1 w2 w5 (by rw [hlen2]; exact w4) hM (e2 w2) (fun U hU hW => by
      obtain ⟨k1, k2⟩ := xU_at hX hN hG hAB hH hS ((Value.ref b :: as2).map (xv B g)) U hU hW
      refine ⟨k1, k2, (hTq.move hW (fun q h1 h2 => ?_)).th⟩
      rw [hU]
      exact hS.2.1 q h1 (fun h => h2 (hAB q h))) (xTh.blind _) hlev hl.1 hcat (by rw [hRc]; exact hcc) (by rw [hRs]; exact hqq) hH (xh_dec1 hc rfl (by decide)) hT X
  obtain ⟨pre, z, rest, k1, k2, k3, k4, k5, k6, k7⟩ := x_tab hy ht hET
  have hownL : s.vm.findClass "SnapForgeLaw" = some m.cls := by
    rw [hown2] at hown
    exact hown
  have hpl : e.platform.magicAccessors = ({} : Platform).magicAccessors := by rw [X.admits.platform]
  obtain ⟨cx, hcx, hlx⟩ := Cond.classLink_spec hownL (hts _ k5) e.platform hpl
  have hcs : (Cond.castable (xc_en ex) (xc_en ex)).before #[] s = true := hTq.1 ex k6 _ (by simp [Bundle.ownAtoms0]) rfl
  obtain ⟨c1, c2, v1, v2, v3⟩ := Cond.castable_spec hcs
  cases g5.symm.trans v1
  cases g5.symm.trans v2
  cases g5.symm.trans hcx
  obtain ⟨dk, _, _, kt, hd, _, _, _, _, hkt, _, hopen⟩ := hlx.here
  obtain ⟨vm2, hW2, hq⟩ := x_search (e := e) (s₀ := s) (f := F0 m pc ls ((st.drop na).map (xv B g))) (a := B + a) (cell := ce) (fun k hk2 => by rw [g4] at hk2; cases hk2) ⟨kt, hkt⟩ z rest k2 k4 hlx v3 pre ((T2.setTop (F0 m pc ls ((st.drop na).map (xv B g)))).pushFrame (.throwing (B + a))) (by
      have h9 : ((T2.setTop (F0 m pc ls ((st.drop na).map (xv B g)))).pushFrame (.throwing (B + a))).vm = T2.vm := by
        rw [State.pushFrame]
        rfl
      rw [h9]
      exact X2.warmed) g3 (fun q hq => by
      obtain ⟨r1, r2, ez, r3, r4, r5⟩ := k7 q hq
      obtain ⟨cz, hcz, hlz⟩ := Cond.classLink_spec hownL (hts _ r5) e.platform hpl
      obtain ⟨d1, d2, n1, n2, n3⟩ := hTq.2.2.2 ex ez k6 r3 (fun h => r4 h.symm)
      cases g5.symm.trans n1
      cases hcz.symm.trans n2
      exact ⟨r1, r2, cz, hlz, n3⟩)
  have hfd : xFd e ((T2.setTop (F0 m pc ls ((st.drop na).map (xv B g)))).pushFrame (.throwing (B + a))) (F0 m pc ls ((st.drop na).map (xv B g))) (B + a) (.found t) vm2 := by
    intro Q1 E1 d1 acts1
    have hm1 : T2.vm.method? m = some meth := X2.method'
    have hcd : meth.code = some c := X2.code
    have h8 := hq Q1 E1 d1 acts1
    rw [← k1, k3] at h8
    rw [← h8]
    unfold findHandler
    simp [W.theMethod, State.pushFrame, hm1, hcd]
  have hin := xA_in hA hH hS hAd
  have kk := hK _ _ _ _ _ _ hk ls T2.heap (locs ++ L) hl g7 ⟨Nat.le_trans hS.1 g9.1, fun q h1 h2 => by rw [g9.2 q (Nat.lt_of_lt_of_le h1 hS.1) (fun z => h2 (hin q z))]; exact hS.2.1 q h1 h2, fun q hq => by
      rcases List.mem_append.mp hq with h | h
      · exact hS.2.2 q h
      · exact hin _ (g1 q h)⟩ (fun q hq => hin _ (g8 q hq)) (T2.setVm vm2) rfl (X2.noted hW2)
  obtain ⟨tt, s1, s2⟩ := kk
  refine ⟨tt, st1.trans ?_, s2⟩
  refine x_caught (g := F0 m pc ls ((st.drop na).map (xv B g))) (by exact X2.here) hfd ?_
  have e9 : ([Value.ref (xz S1 - 1)]).map (xv B g) = [.ref (B + a)] := by
    have h7 : a < 1000000 := by omega
    rw [g2]
    show [Value.ref (xad B g (a + 1 - 1))] = _
    rw [Nat.add_sub_cancel, xad_lt h7]
  rw [e9] at s1
  exact s1
end XCW
theorem xh_hc {y pc ex t : Nat} (hy : y < 187) (h : xc_hnd y pc ex = some t) : ¬ ((∃ x, xc_code y pc = some (.invokespecial x)) ∨ ∃ x, xc_code y pc = some (.invokestatic x)) := by
  have h0 := List.all_eq_true.mp xf_hc_ok y (List.mem_range.mpr hy)
  unfold xf_hc at h0
  have h1 : (xc_hnds.getD y []).isEmpty = false := by
    cases hL : xc_hnds.getD y [] with
    | nil =>
      unfold xc_hnd at h
      rw [hL] at h
      cases h
    | cons a b => rfl
  rw [h1, Bool.false_or] at h0
  have h2 := List.all_eq_true.mp h0
  rintro (⟨x, hx⟩ | ⟨x, hx⟩)
  · unfold xc_code at hx
    obtain ⟨e0, he, hv⟩ := Option.map_eq_some_iff.mp hx
    have h3 := h2 e0 (List.mem_of_find?_eq_some he)
    rw [hv] at h3
    cases h3
  · unfold xc_code at hx
    obtain ⟨e0, he, hv⟩ := Option.map_eq_some_iff.mp hx
    have h3 := h2 e0 (List.mem_of_find?_eq_some he)
    rw [hv] at h3
    cases h3
def xf_w (y : Nat) : Bool := decide ((xc_y y).cls = "SnapForgeLaw") && decide (xc_own y = 12) && decide (xc_kind y = 0) && decide (xc_nl y ≤ 20)
set_option maxRecDepth 100000 in
theorem xf_w_ok : (List.range' 173 13).all xf_w = true := by decide +kernel
theorem xh_w {y : Nat} (h1 : 173 ≤ y) (h2 : y < 186) : (xc_y y).cls = "SnapForgeLaw" ∧ xc_own y = 12 ∧ xc_kind y = 0 ∧ xc_nl y ≤ 20 := by
  have h := List.all_eq_true.mp xf_w_ok y (List.mem_range'_1.mpr ⟨h1, by omega⟩)
  unfold xf_w at h
  simp only [Bool.and_eq_true, decide_eq_true_eq] at h
  exact ⟨h.1.1.1, h.1.1.2, h.1.2, h.2⟩
def xc_hh (y : Nat) : List (Nat × Nat × Nat × Nat) := (xc_hnds.getD y []).map (fun e => (e.1, e.2.1, e.2.2.1, e.2.2.2.1))
def xwsW (y : Nat) : List Cond := Cond.codeWith (xc_y y) (xc_b y) (xc_nl y) (xc_rt y) (xc_hh y) :: xc_tbl
/-- THE CONTRACT of a wrapper -/
def xMW (l : Launch) (D : va_G) (dA : Nat → ClassId) (B : Nat) (g : Nat → Nat) (y : Nat) (as : List Value) (S : xS) (v : Option Value) (S1 : xS) : Prop := Met l (xc_y y) (xwsW y) (xrm y) (va_Pc (as.map (xv B g)) (fun U => xU D dA B g S U ∧ xTq B U)) (xQc D dA B g (xA B S) v S1) (xc_mc y) (xc_ms y) (xA B S)
set_option maxHeartbeats 1000000 in
theorem xsoundW (l : Launch) (hfl : l.stackTraces = false) (D : va_G) (dA : Nat → ClassId) (B : Nat) (g : Nat → Nat) {n y : Nat} {as : List Value} {S : xS} {v : Option Value} {S1 : xS} (hy1 : 173 ≤ y) (hy2 : y < 186) (h : xmeth n y as S = some (.inr v, S1)) : xMW l D dA B g y as S v S1 := by
  unfold xmeth at h
  split at h
  · next hfit =>
    obtain ⟨q1, q2, q3, q4⟩ := xh_w hy1 hy2
    refine va_MetW (cc := xc_b y) (maxL := xc_nl y) (ret := xc_rt y) (hh := xc_hh y) (by rw [q1]; decide) rfl ?_
    intro p e s m args below meth c s₁ Bd hml hv
    obtain ⟨rfl, ⟨hH, hKK, hN, hG⟩, hTq⟩ := hv
    have hts0 := atoms_spec (ws := xwsW y) Bd.pre
    have hET : c.exceptionTable.toList.map (fun h => (h.startPc, h.endPc, h.handlerPc, h.catchType)) = (xc_hnds.getD y []).map (fun e => (e.1, e.2.1, e.2.2.1, e.2.2.2.1)) := by
      obtain ⟨m9, meth9, c9, n1, n2, n3, -, -, n6, -⟩ := Cond.codeWith_spec (hts0 _ List.mem_cons_self)
      cases Bd.named.symm.trans n1
      cases Bd.method.symm.trans n2
      cases (Stand.of_body Bd).code.symm.trans n3
      exact n6
    have hX : xX p (headSpec (xwsW y) (xrm y)).room s m (as.map (xv B g)).toArray meth c D dA y := by
      refine ⟨Bd.exec, Bd.bytes, hml, ?_, fun w hw => hts0 w (List.mem_cons_of_mem _ hw), hKK, Bd.returns, Bd.notSynchronized, fun hk => by omega, by omega, Nat.le_refl _, Nat.le_refl _, rfl, rfl⟩
      have h9 := findClass_of_methodNamed Bd.named
      rw [q1] at h9
      rw [q2]
      exact h9
    have hA : ∀ q, s.heap.size ≤ q → xA B S q := fun q hq => Or.inr (by rw [← hH.1]; exact hq)
    have hAB : ∀ q, xA B S q → B ≤ q := by
      intro q hq
      rcases hq with ⟨a, -, rfl⟩ | hq
      · omega
      · omega
    have key : ∀ k, xG p l e (headSpec (xwsW y) (xrm y)).room s m (as.map (xv B g)).toArray below meth c (MQ below (xQc D dA B g (xA B S) v S1) (as.map (xv B g)).toArray s (xc_mc y) (xc_ms y) (xA B S)) D dA B g (xA B S) (xc_nl y) (xev k y) (.inr v, S1) := by
      intro k
      induction k with
      | zero =>
        intro pc lv st cn qn S2 h2
        cases h2
      | succ k ihk =>
        intro pc lv st cn qn S2 h2
        unfold xev at h2
        split at h2
        · next i hc =>
          exact xstep_ok hX hN hG hA hAB ihk (fun y2 as2 S3 v2 S4 hy2 h3 => xsound l D dA B g k y2 as2 S3 v2 S4 hy2 h3)
            (fun x o hcx ho hcs h3 => by
              unfold xthr at h3
              repeat' split at h3
              all_goals cases h3)
            (fun hc1 c1 c2 h3 => xs_ends hX hc1 c1 c2 h3) (fun hc1 c1 c2 h3 => xs_endl hX hc1 c1 c2 h3) (fun hc1 c1 c2 h3 => xs_enda hX hc1 c1 c2 h3) (fun hc1 c1 c2 h3 => xs_endv hX hc1 c1 c2 h3)
            (fun o x y2 na ex t S3 hdis ho ht hna hlev hcc hqq hcat hrc hcl hz hk => by
              rcases hdis with ⟨hc2, ho2⟩ | hbad
              · rw [ho2] at ho
                exact xs_ct hX q2 hN hG hTq hA hAB ihk hET hc2 ho ht hna hlev hcc hqq hcat hrc (xsoundT l hfl D dA B g k y2 _ S2 ex S3 (xh_vrt ho).1 hcl) hz hk
              · exact absurd hbad (xh_hc (by omega) ht)) hc h2
        · cases h2
    have hl := lv_entry (as.map (xv B g)) (n := xc_nl y) (by rw [x_sl]; exact hfit)
    rw [x_args] at hl
    rw [lg_entry_eq]
    exact key n 0 _ [] 0 0 S h _ s.heap [] hl hH va_S.rf (fun a ha => Or.inl ⟨a, ha, rfl⟩)
  · cases h
