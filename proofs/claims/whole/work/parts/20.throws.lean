-- METHODS THAT THROW: what the evaluator says of them
def xc_en (e : Nat) : String := if e = 0 then "java/lang/IllegalArgumentException" else if e = 1 then "java/lang/IllegalStateException" else if e = 2 then "java/lang/IndexOutOfBoundsException" else "java/lang/UnsupportedOperationException"
def xc_ic (e : Nat) : Nat := if e = 0 then 61 else if e = 1 then 82 else if e = 2 then 126 else 154
def xc_up : List String := ["java/lang/RuntimeException", "java/lang/Exception"]
/-- what a throw asks of the tables and the statics -/
def xTh (U : State) : Prop := ∀ e, e < 4 → ∀ w ∈ Bundle.ownAtoms0 "SnapForge" (xc_ic e) (xc_en e) xc_up, w.before #[] U = true
def xFE (first : State) (o : Outcome) (t : State) (L : List Loc) (k n : Nat) : Prop := (∃ x, o = .threw x) ∧ first.WarmedH t.vm ∧ first.sameButNew ({ t with vm := first.vm } : State) L k n
def xQt (D : va_G) (dA : Nat → ClassId) (B : Nat) (g : Nat → Nat) (A : Nat → Prop) (ex : Nat) (S1 : xS) : Array Value → State → Outcome → State → Prop := fun _ st oc t => ∃ (a : Nat) (ce : Cell), xz S1 = a + 1 ∧ oc = .threw (B + a) ∧ t.heap[B + a]? = some ce ∧ ce.vm = .none ∧ st.vm.findClass (xc_en ex) = some ce.cls ∧ ex < 4 ∧ xH D dA B g S1 t.heap ∧ (∀ a, (xt S1 a).isSome = true → A (B + a)) ∧ va_F A st t
def xMQt (below : List Frame) (Qc : Array Value → State → Outcome → State → Prop) (a : Array Value) (s : State) (mc ms : Nat) (free : Addr → Prop) : State → Prop := fun t => ∃ o, t.status = .running ∧ Ended t below o ∧ Qc a s o t ∧ ∃ L, xFE s o t L mc ms ∧ ∀ q ∈ L, free q.base
/-- THE CONTRACT of a method that throws the exception ex -/
def xMT (l : Launch) (D : va_G) (dA : Nat → ClassId) (B : Nat) (g : Nat → Nat) (y : Nat) (as : List Value) (S : xS) (ex : Nat) (S1 : xS) : Prop := MetFree l (xc_y y) (headSpec (xc_ws y) (xrm y)) (va_Pc (as.map (xv B g)) (fun U => xU D dA B g S U ∧ xTh U)) (fun _ _ _ _ _ => True) (fun a st o t => xQt D dA B g (xA B S) ex S1 a st o t ∧ ∃ L, xFE st o t L (xc_mc y) (xc_ms y) ∧ ∀ q ∈ L, xA B S q.base)
def xf_thr (e : Nat × Nat) : Bool := decide (xc_own e.1 = 0) && decide (7 ≤ xc_lev e.1) && (match xc_code e.1 e.2 with
  | some (.new x) => (match xc_exc 0 x with
    | some (ex, n) => decide (ex < 4) && decide (n = 6) && decide (xc_code e.1 (e.2 + 3) = some .dup) && decide (xc_code e.1 (e.2 + 4) = some (.invokespecial (xc_ic ex))) && decide (xc_code e.1 (e.2 + 7) = some .athrow)
    | none => false)
  | _ => false)
set_option maxRecDepth 100000 in
theorem xf_thr_ok : xc_thrs.all xf_thr = true := by decide +kernel
def xc_eps : List (Nat × Nat) := [(389, 16), (472, 17), (740, 18), (764, 19)]
def xf_exc (e : Nat × (Nat × Nat) × Nat) : Bool := decide (e.2.1.1 < 4) && decide (tables_1[e.2.2]? = some (Cond.classLink "SnapForge" e.1 (xc_en e.2.1.1))) && decide (tables_1[(xc_eps.getD e.2.1.1 (0, 0)).1]? = some (Cond.instantiable (xc_en e.2.1.1) 6)) && decide (tables_1[(xc_eps.getD e.2.1.1 (0, 0)).2]? = some (Cond.initialized (xc_en e.2.1.1)))
set_option maxRecDepth 100000 in
theorem xf_exc_ok : (xc_excs.getD 0 []).all xf_exc = true := by decide +kernel
theorem x_fits : ∀ e, e < 4 → Bundle.fit (xc_en e) = true := by decide +kernel
theorem x_fitn : ∀ n ∈ xc_up, Bundle.fit n = true := by decide +kernel
section XS
variable {p : Program} {l : Launch} {e : Env} {R : Room} {s : State} {m : MethodId} {args : Array Value} {below : List Frame} {meth : Method} {c : Code} {D : va_G} {dA : Nat → ClassId} {B : Nat} {g : Nat → Nat} {pc y : Nat} {lv : xL} {st : List Value} {cn qn : Nat} {S : xS}
theorem x_locs {S0 : xS} {locs : List Loc} (hH0 : xH D dA B g S0 s.heap) (hl : ∀ x ∈ locs, xA B S0 x.base) : ∀ x ∈ locs, ∀ cell, s.heap[x.base]? = some cell → cell.vm.isStatics = false := by
  intro x hx cell hc
  rcases hl x hx with ⟨a, ha, hb⟩ | hb
  · obtain ⟨t, ht⟩ := Option.isSome_iff_exists.mp ha
    have h1 := (hH0.2 a t ht).2
    rw [hb] at hc
    cases t with
    | inl ci =>
      obtain ⟨r, -, cell2, q1, q2, q3, -⟩ := h1
      rw [q1] at hc
      cases hc
      rw [q3]; rfl
    | inr jn =>
      obtain ⟨j, n⟩ := jn
      have h2 : s.heap[B + a]? = some (vp_cell (dA j) _) := h1
      rw [h2] at hc
      cases hc
      unfold vp_cell
      split <;> rfl
  · have h2 := (Array.getElem?_eq_some_iff.mp hc).1
    rw [hH0.1] at h2
    omega
set_option maxHeartbeats 1000000 in
theorem xs_thr {S0 S1 : xS} {ex x : Nat} (hX : xX p R s m args meth c D dA y) (htr : e.platform.stackTraces = false) (hTh : ∀ e, e < 4 → ∀ w ∈ Bundle.ownAtoms0 "SnapForge" (xc_ic e) (xc_en e) xc_up, w.before args s = true) (hex : c.exceptionTable.toList = []) (hH0 : xH D dA B g S0 s.heap) (hc : xc_code y pc = some (.new x)) (hcs : (st.map fun v => v.category).sum ≤ 8) (h : xthr (xc_exc (xc_own y) x) y pc (xc_mc y) (xc_ms y) cn qn S = some (.inl ex, S1)) : xW p l e R s m args below meth c (xMQt below (xQt D dA B g (xA B S0) ex S1) args s (xc_mc y) (xc_ms y) (xA B S0)) D dA B g (xA B S0) (xc_nl y) pc lv st cn qn S := by
  obtain ⟨hx, hb, hml, hown, hts, hKK, -, hlk, -, hy, hRf, hRl, hRc, hRs⟩ := id hX
  unfold xthr at h
  split at h
  · next ex2 n ho =>
    split at h
    · next h1 =>
      split at h
      · next h2 =>
        split at h
        · next h3 =>
          have hm : (y, pc) ∈ xc_thrs := by
            unfold xc_thr at h3
            simpa using h3
          have w1 := List.all_eq_true.mp xf_thr_ok _ hm
          unfold xf_thr at w1
          simp only [Bool.and_eq_true, decide_eq_true_eq] at w1
          obtain ⟨⟨hown0, hlev⟩, w2⟩ := w1
          rw [hown0] at ho
          simp only [hc, ho, Bool.and_eq_true, decide_eq_true_eq] at w2
          obtain ⟨⟨⟨⟨hex4, hn6⟩, hc3⟩, hc4⟩, hc7⟩ := w2
          subst hn6
          cases h
          have hexc : ∃ pos, (x, (ex, 6), pos) ∈ xc_excs.getD 0 [] := by
            unfold xc_exc at ho
            obtain ⟨e0, he, hv⟩ := Option.map_eq_some_iff.mp ho
            have := xc_at_mem he
            obtain ⟨e1, e2⟩ := e0
            cases hv
            exact ⟨e2, this⟩
          obtain ⟨pos, hpos⟩ := hexc
          have w3 := List.all_eq_true.mp xf_exc_ok _ hpos
          unfold xf_exc at w3
          simp only [Bool.and_eq_true, decide_eq_true_eq] at w3
          obtain ⟨⟨⟨-, w4⟩, w5⟩, w6⟩ := w3
          rw [hown0] at hown
          have hown1 : s.vm.findClass "SnapForge" = some m.cls := hown
          intro ls H locs hl hH hS hAd
          obtain ⟨cX, kX0, hfc, hkc, -⟩ := Cond.instantiable_spec (hts _ (xw_in w5 rfl))
          refine W.newcK hx hb hown1 (hts _ (xw_in w4 rfl)) (hts _ (xw_in w5 rfl)) (hts _ (xw_in w6 rfl)) rfl (xh_dec1 hc rfl (by decide)) (by rw [hRc]; exact h1) (by rw [hRs]; exact h2) hfc hH.1 fun H1 kX hkX e1 e2 e3 => ?_
          refine W.widen (k := xc_mc y) (n := xc_ms y) h1 h2 ?_
          refine lv_dup hx hb (xh_dec1 hc3 rfl (by decide)) rfl ?_
          intro T hT X
          subst hT
          have hd4 := xh_dec1 hc4 (n := 3) rfl (by decide)
          have hd7 := xh_dec1 hc7 (n := 1) rfl (by decide)
          have hnew : s.heap.size ≤ B + xz S := by
            have := hS.1
            rw [hH.1] at this
            exact this
          obtain ⟨U, ce, z1, z2, z3, z4, z5, z6, z7, z8, z9, z10⟩ := x_throw X hx htr (own := "SnapForge") (cls := xc_en ex) (names := xc_up) (ic := xc_ic ex) hown1 (x_fits ex hex4) x_fitn (hTh ex hex4) (x_locs hH0 hS.2.2) (a := B + xz S) hfc hkX e1 hnew
            (g := F0 m (pc + 3 + 1) ls (.ref (B + xz S) :: .ref (B + xz S) :: st.map (xv B g))) rfl (by rw [hml]; exact hl.1) rfl rfl rfl (by rw [hb]; exact hd4) (by rw [hb]; exact hd7) (by rw [hex]; intro z hz; cases hz) (by show 2 + 3 < R.frames; omega) (by
              refine Nat.le_trans ?_ hRl
              have e5 : ((Value.ref (B + xz S) :: st.map (xv B g)).map fun v => v.category).sum = 1 + (st.map fun v => v.category).sum := by
                rw [List.map_cons, List.sum_cons, x_cats]
                rfl
              rw [e5]
              show 2 * 0 + (1 + (st.map fun v => v.category).sum) + (13 * 3 + 41) ≤ 40 * xc_lev y
              omega) hlk
          have hHU : xH D dA B g (xz S + 1, xt S, xi S, xj S, xr S) U.heap := by
            refine ⟨by rw [z9, e2]; show B + xz S + 1 = B + (xz S + 1); omega, fun b t hb2 => ?_⟩
            have h9 := hH.2 b t hb2
            refine ⟨h9.1, ?_⟩
            have hlt : B + b < H.size := h9.2.lt
            rw [hH.1] at hlt
            exact h9.2.kept ((z10 _ (show B + b ≠ B + xz S by omega)).trans (e3 _ hlt))
          refine ⟨U, z1, .threw (B + xz S), z2, z3, ⟨xz S, ce, rfl, rfl, z6, z8, by rw [z7]; exact hfc, hex4, hHU, hAd, ?_⟩, locs, ⟨⟨_, rfl⟩, z4, z5⟩, hS.2.2⟩
          refine ⟨by rw [z9, e2]; have := hS.1; rw [hH.1] at this; omega, fun q h8 h9 => ?_⟩
          have hq : q < B + xz S := by omega
          rw [z10 q (Nat.ne_of_lt hq), e3 q hq]
          exact hS.2.1 q h8 h9
        · cases h
      · cases h
    · cases h
  · cases h
end XS
theorem xsoundT (l : Launch) (hfl : l.stackTraces = false) (D : va_G) (dA : Nat → ClassId) (B : Nat) (g : Nat → Nat) : ∀ (n y : Nat) (as : List Value) (S : xS) (ex : Nat) (S1 : xS), y < 173 → xmeth n y as S = some (.inl ex, S1) → xMT l D dA B g y as S ex S1 := by
  intro n y as S ex S1 hy h
  unfold xmeth at h
  split at h
  · next hfit =>
    obtain ⟨q1, q2, q3, q4, q5, q6, q7, q8, q9, q10⟩ := xh_m hy
    refine MetFree.of_bodyS (code := xc_b y) (maxLocals := xc_nl y) (ret := xc_rt y) q3 ?_ ?_
    · intro args s m h1 hn
      obtain ⟨meth, c, h1, h2, h3, h4, h5, h6, -, -⟩ := Cond.code_spec hn (atoms_spec (ws := xc_ws y) h1 _ List.mem_cons_self)
      exact ⟨meth, c, h1, h2, h3, h4, h5, h6⟩
    · intro p e s m args below meth c s₁ Bd hml hv _
      obtain ⟨rfl, ⟨hH, hKK, hN, hG⟩, hTh⟩ := hv
      have hts0 := atoms_spec (ws := xc_ws y) Bd.pre
      have htr : e.platform.stackTraces = false := by
        rw [Bd.admits.platform]
        exact hfl
      have hexc : c.exceptionTable.toList = [] := by
        have h9 := Bd.noHandlers (hts0 _ List.mem_cons_self)
        simpa using h9
      have hX : xX p (headSpec (xc_ws y) (xrm y)).room s m (as.map (xv B g)).toArray meth c D dA y := by
        refine ⟨Bd.exec, Bd.bytes, hml, ?_, fun w hw => hts0 w (List.mem_cons_of_mem _ hw), hKK, Bd.returns, Bd.notSynchronized, fun hk => ?_, by omega, Nat.le_refl _, Nat.le_refl _, rfl, rfl⟩
        · rw [← q1]
          exact findClass_of_methodNamed Bd.named
        · rw [(name_of_methodNamed Bd.named Bd.method).1]
          exact q10 hk
      have hA : ∀ q, s.heap.size ≤ q → xA B S q := fun q hq => Or.inr (by rw [← hH.1]; exact hq)
      have hAB : ∀ q, xA B S q → B ≤ q := by
        intro q hq
        rcases hq with ⟨a, -, rfl⟩ | hq
        · omega
        · omega
      have hTh2 : ∀ e, e < 4 → ∀ w ∈ Bundle.ownAtoms0 "SnapForge" (xc_ic e) (xc_en e) xc_up, w.before (as.map (xv B g)).toArray s = true := by
        intro e he w hw
        have h9 := hTh e he w hw
        by_cases ht : w.onTables = true
        · exact va_tabs ht rfl h9
        · simp only [Bundle.ownAtoms0, Bundle.throwableAtoms, Bundle.chain0Atoms, Bundle.passAtoms, xc_up, List.mem_append, List.mem_cons, List.not_mem_nil, or_false] at hw
          rcases hw with ((((hw | hw | hw | hw | hw | hw | hw | hw | hw | hw | hw | hw | hw | hw | hw | hw | hw | hw | hw | hw | hw | hw | hw | hw) | (hw | hw | hw | hw | hw) | (hw | hw | hw | hw | hw) | (hw | hw | hw | hw | hw))) | (hw | hw | hw | hw | hw | hw | hw | hw | hw | hw | hw | hw | hw | hw)) <;> subst hw <;> first | exact absurd rfl ht | exact h9
      have key : ∀ k, xG p l e (headSpec (xc_ws y) (xrm y)).room s m (as.map (xv B g)).toArray below meth c (xMQt below (xQt D dA B g (xA B S) ex S1) (as.map (xv B g)).toArray s (xc_mc y) (xc_ms y) (xA B S)) D dA B g (xA B S) (xc_nl y) (xev k y) (.inl ex, S1) := by
        intro k
        induction k with
        | zero =>
          intro pc lv st cn qn S2 h2
          cases h2
        | succ k ihk =>
          intro pc lv st cn qn S2 h2
          unfold xev at h2
          split at h2
          · next i hc =>
            refine xstep_ok hX hN hG hA hAB ihk (fun y2 as2 S3 v2 S4 hy2 h3 => xsound l D dA B g k y2 as2 S3 v2 S4 hy2 h3)
              (fun x o hcx ho hcs h3 => ?_) (fun _ _ _ h3 => ?_) (fun _ _ _ h3 => ?_) (fun _ _ _ h3 => ?_) (fun _ _ _ h3 => ?_) (fun o x y2 na ex2 t S3 _ _ ht => by rw [xh_hnd hy] at ht; cases ht) hc h2
            · subst ho
              exact xs_thr hX htr hTh2 hexc hH hcx hcs h3
            · unfold xret at h3
              repeat' split at h3
              all_goals cases h3
            · unfold xrel at h3
              repeat' split at h3
              all_goals cases h3
            · unfold xrea at h3
              repeat' split at h3
              all_goals cases h3
            · unfold xrev at h3
              repeat' split at h3
              all_goals cases h3
          · cases h2
      have hl := lv_entry (as.map (xv B g)) (n := xc_nl y) (by rw [x_sl]; exact hfit)
      rw [x_args] at hl
      obtain ⟨t, a1, o, b1, b2, b3⟩ := key n 0 _ [] 0 0 S h _ s.heap [] hl hH va_S.rf (fun a ha => Or.inl ⟨a, ha, rfl⟩) s₁ (by rw [Bd.state]; rfl) (Stand.of_body Bd)
      rw [lg_entry_eq]
      exact ⟨t, o, a1, b1, b2, b3⟩
  · cases h
