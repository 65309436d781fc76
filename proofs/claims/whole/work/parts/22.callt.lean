-- A CALL THAT THROWS, and its catching
section XCT
variable {p : Program} {l : Launch} {e : Env} {R : Room} {s : State} {m : MethodId} {args : Array Value} {below : List Frame} {meth : Method} {c : Code} {Q : State → Prop} {D : va_G} {dA : Nat → ClassId} {B : Nat} {g : Nat → Nat} {A : Nat → Prop} {pc y : Nat} {cn qn : Nat} {S : xS} {H : Heap} {locs : List Loc} {ls : Array Slot}
/-- the call: it comes back with the exception over the frame -/
theorem x_callT (hX : xX p R s m args meth c D dA y) {y2 x ex : Nat} {S1 : xS} {b : Nat} {as2 t : List Value} (hy2 : y2 < 173) (hk1 : xc_kind y2 = 1) (hlk : Cond.methodLink (xc_on (xc_own y)) x (xc_y y2) ∈ xc_tbl) (hnp : (parseMethodDescriptor (xc_y y2).desc).map (fun d => d.parameters.length) = some as2.length) (hM : xMT l D dA B g y2 (.ref b :: as2) S ex S1) (hb : xt S b = some (.inl (xc_yc y2)))
    (hpre : ∀ U : State, U.heap = H → s.WarmedH U.vm → va_Pc ((Value.ref b :: as2).map (xv B g)) (fun U => xU D dA B g S U ∧ xTh U) ((Value.ref b :: as2).map (xv B g)).toArray U) (hblind : FrameBlind (va_Pc ((Value.ref b :: as2).map (xv B g)) (fun U => xU D dA B g S U ∧ xTh U))) (hlev : xc_lev y2 < xc_lev y) (hls : ls.size = xc_nl y) (hcat : (t.map fun v => v.category).sum ≤ 8) (hcc : cn + xc_mc y2 ≤ R.cells) (hqq : qn + xc_ms y2 ≤ R.slots) (hH : xH D dA B g S H) (hd : decode (xc_b y) pc = .ok (.invokevirtual x, 3))
    {T : State} (hT : T.heap = H) (X : Stand p l e R s m args below meth c T locs cn qn) :
    ∃ (T2 : State) (L : List Loc) (a : Nat) (ce : Cell), Stand p l e R s m args below meth c T2 (locs ++ L) (cn + xc_mc y2) (qn + xc_ms y2) ∧ (∀ q ∈ L, xA B S q.base) ∧ xz S1 = a + 1 ∧ T2.heap[B + a]? = some ce ∧ ce.vm = .none ∧ s.vm.findClass (xc_en ex) = some ce.cls ∧ ex < 4 ∧ xH D dA B g S1 T2.heap ∧ (∀ a, (xt S1 a).isSome = true → xA B S (B + a)) ∧ (H.size ≤ T2.heap.size ∧ ∀ q : Nat, q < H.size → ¬ xA B S q → T2.heap[q]? = H[q]?) ∧
      Steps p.tables e below (T.setTop (F0 m pc ls (((Value.ref b :: as2).map (xv B g)).reverse ++ t.map (xv B g)))) ((T2.setTop (F0 m pc ls (t.map (xv B g)))).pushFrame (.throwing (B + a))) := by
  obtain ⟨hx, hbb, hml, hown, hts, hKK, -, -, -, -, hRf, hRl, hRc, hRs⟩ := id hX
  obtain ⟨q1, q2, q3, q4, q5, q6, q7, q8, q9, q10⟩ := xh_m hy2
  obtain ⟨hba, hbt⟩ := hH.2 b _ hb
  obtain ⟨C, Tb, N, hc⟩ := xh_at q5
  obtain ⟨Y, z1, z2, -⟩ := xh_cls hc
  have hcls : (xc_y y2).cls = C := by rw [q1, z2]
  obtain ⟨cellB, hcB, hoB, hclB⟩ := va_recv hKK (xP1 hbt) (ci := xc_yc y2) (q0 := 0) hc rfl
  obtain ⟨mk, methM, hnamed, hmethM, hstM, habM⟩ := Cond.instanceMethod_spec (hts _ (q8 (by omega)))
  obtain ⟨methM2, cM, hmethM2, hcM, -, hlM, -, -, -, hsigM⟩ := Cond.code_spec hnamed (hts _ (xh_code hy2))
  cases hmethM.symm.trans hmethM2
  obtain ⟨c2, r2, m2, w1, w2, w3, w4, kP, hkP, hkPi⟩ := Cond.selects_spec (hts _ (q9 hk1))
  rw [hcls] at w1
  cases hclB.symm.trans w1
  cases (State.methodFound?_of_named hnamed q2).symm.trans w2
  cases hnamed.symm.trans w3
  have hselP : selectMethod e.platform s.vm cellB.cls mk = .method mk := by rw [Launch.admits_selectMethod X.admits]; exact w4
  have hlen : (as2.map (xv B g)).length = methM.sig.parameters.length := by
    rw [hsigM] at hnp
    rw [List.length_map]
    exact (Option.some.inj hnp).symm
  have hstk : (F0 m pc ls (((Value.ref b :: as2).map (xv B g)).reverse ++ t.map (xv B g))).stack = (as2.map (xv B g)).reverse ++ .ref (B + b) :: t.map (xv B g) := by
    show ((Value.ref b :: as2).map (xv B g)).reverse ++ t.map (xv B g) = _
    rw [List.map_cons, List.reverse_cons, List.append_assoc]
    simp [xv, xad_lt hba]
  have hargs : (Value.ref (B + b) :: as2.map (xv B g)).toArray = ((Value.ref b :: as2).map (xv B g)).toArray := by
    simp [xv, xad_lt hba]
  have hdc : decode c.code pc = .ok (.invokevirtual x, 3) := by rw [hbb]; exact hd
  obtain ⟨vm1, X1, st1⟩ := X.invokevirtual hx hown (hts _ hlk) hnamed hmethM hstM hkP hkPi q2 (a := B + b) (cell := cellB) (by rw [hT]; exact hcB) (fun z h => by rw [h] at hoB; cases hoB) hselP hmethM habM hkP hkPi (g := F0 m pc ls (((Value.ref b :: as2).map (xv B g)).reverse ++ t.map (xv B g))) rfl (argsL := as2.map (xv B g)) (rest := t.map (xv B g)) hlen hstk hdc
  rw [hargs] at st1
  generalize hg0 : F0 m pc ls (t.map (xv B g)) = g0 at *
  have hg0m : g0.method = m := by rw [← hg0]
  have hg0s : g0.locals.size = c.maxLocals := by rw [← hg0, hml]; exact hls
  have hg0d : decode c.code g0.pc = .ok (.invokevirtual x, 3) := by rw [← hg0]; exact hdc
  have hg0c : 2 * g0.monitorRoom + (g0.stack.map fun v => v.category).sum ≤ 8 := by
    rw [← hg0]
    show 2 * 0 + ((t.map (xv B g)).map fun v => v.category).sum ≤ 8
    rw [x_cats]; omega
  have hn1 : (T.setVm vm1).methodNamed? (xc_y y2) = some mk := X1.named hnamed
  obtain ⟨methY, cY, hmY, hcY, -, hlY, -, -, -, -⟩ := Cond.code_spec (args := ((Value.ref b :: as2).map (xv B g)).toArray) hn1 (word_at X1.warmed (good_of_word (xw_good (xh_code hy2))) (hts _ (xh_code hy2)))
  obtain ⟨kY, hkY, -⟩ := className_of_methodNamed hn1
  have hinitY : kY.init = .initialized := Cond.initialized_spec (args := ((Value.ref b :: as2).map (xv B g)).toArray) (findClass_of_methodNamed hn1) hkY (word_at X1.warmed (good_of_word (xw_good q6)) (hts _ q6))
  have h : At (T.setVm vm1) g0.method c below := by rw [hg0m]; exact X1.here
  have hrm := x_rooms hX hlev q4
  have happ : (headSpec (xc_ws y2) (xrm y2)).appliesLoose (xc_y y2) e.platform ((T.setVm vm1).calling g0 mk ((Value.ref b :: as2).map (xv B g)).toArray) = true :=
    Spec.appliesLoose_calling (g := g0) h hg0d hn1 hkY hinitY (X1.room_calling (g := g0) (R' := xrm y2) hg0s hmY hcY hrm.1 (by rw [hlY]; have := hrm.2; omega) hcc hqq) (atoms_intro fun w hw => word_at X1.warmed (good_of_word (xw_good (xws_in hy2 w hw))) (hts _ (xws_in hy2 w hw)))
  have hfr : ((T.setVm vm1).setTop g0).frames = [.java g0] ++ below := by
    rw [State.frames_setTop' g0 h.top, X1.tail]; rfl
  obtain ⟨o, s2, hsteps, -, hend, hq⟩ := Steps.callFree hM p X.admits X.cas X.clock (acts := []) hfr happ (hblind _ _ _ _ (hpre (T.setVm vm1) hT X1.warmed)) trivial
  obtain ⟨⟨a, ce, f1, rfl, f3, f4, f5, f6, f7, f8, f9⟩, L, ⟨-, g2, g3⟩, g4⟩ := hq
  have hend2 : Ended s2 (.java g0 :: below) (.threw (B + a)) := by
    have h9 : ((T.setVm vm1).setTop g0).frames = .java g0 :: below := hfr
    rw [h9] at hend
    exact hend
  obtain ⟨T2, X2, hW2, -, ht⟩ := X1.outOfThrown hg0m hend2 g2 g3
  have hheap : T2.heap = s2.heap := by rw [ht, Stand.throwing_heap]
  have f5b : s.vm.findClass (xc_en ex) = some ce.cls := by
    have h9 : (T.setVm vm1).vm.findClass (xc_en ex) = some ce.cls := f5
    rw [← X1.warmed.alike.findClass]
    exact h9
  refine ⟨T2, L, a, ce, X2, g4, f1, by rw [hheap]; exact f3, f4, f5b, f6, by rw [hheap]; exact f7, f8, ?_, ?_⟩
  · have h9 : H.size ≤ s2.heap.size ∧ ∀ q : Nat, q < H.size → ¬ xA B S q → s2.heap[q]? = H[q]? := by
      have h8 := f9
      have e8 : (((T.setVm vm1).setTop g0).pushFrame (.invoking mk ((Value.ref b :: as2).map (xv B g)).toArray)).heap = H := hT
      unfold va_F at h8
      rw [e8] at h8
      exact h8
    rw [hheap]
    exact h9
  · refine st1 _ (fun acts => ?_)
    rw [doInvoke_state]
    rw [ht] at hsteps
    subst hg0
    exact hsteps
end XCT
