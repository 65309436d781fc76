-- THE LAW ITSELF in the evaluator: its script is the array at 1000003
def R_law : String := "SnapForgeLaw"
def lw_P (b : Addr) (xs : List Int32) (args : Array Value) (s : State) : Prop := args = #[.ref b] ∧ s.IntsAt b xs ∧ xs.length ≤ 2560 ∧ (Jvm.Cond.and given_1 narrow_1).before args s = true
def lw_Q (_ : Array Value) (s : State) (o : Outcome) (t : State) : Prop := o = .returned (some (.int 1)) ∧ Framed s o t [] 601024 7293034
def lw_Z (below : List Frame) (a : Array Value) (s : State) : State → Prop := fun t => ∃ o, t.status = .running ∧ Ended t below o ∧ lw_Q a s o t
/-- the law's own end, with 1 on the stack, nothing written that was there before, its room as the claim has it -/
theorem lw_ret {p : Program} {l : Launch} {e : Env} {s : State} {m : MethodId} {below : List Frame} {meth : Method} {c : Code} {b : Nat} (hx : p.tables.exec = Jvm.exec) (hb : c.code = code) (hr : meth.sig.returnType = ret) (hlocks : meth.locks = false) {pc : Nat} {H : Heap} {ls : Array Slot} (hdg : decode code pc = .ok (.ireturn, 1)) : W p l e room_1 s m #[Value.ref b] below meth c H [] 601024 7293034 (lw_Z below #[Value.ref b] s) (F0 m pc ls [.int 1]) := by
  intro T hT X
  obtain ⟨fs, hret, hrun, hended, hW, hframe⟩ := X.leave (v := some (.int 1)) (hlocks := hlocks) (fun h => by rw [hr] at h; cases h)
  have hmeth' : T.vm.method? m = some meth := X.method'
  refine ⟨T.setFrames fs, ?_, .returned (some (.int 1)), hrun, hended, rfl, ⟨_, rfl⟩, hW, hframe⟩
  jvm_step X.here [X.here.top, hx, hb, hdg, hmeth', hr, ret, narrow_b1]
  (try refine ⟨rfl, ?_⟩); (try refine ⟨rfl, ?_⟩)
  first | (intro acts; rw [hret _ acts rfl rfl rfl]) | rw [hret _ _ rfl rfl rfl]
  exact Steps.refl _
/-- what holds at the law's entry: the machine, the code, the tables' words (any of lw_tbl by 'hts w (by decide +kernel)'), the script of L ints xs at the cell b, what the Statement gives of the start (any of its parts by flat_of_before) -/
def lw_At (p : Program) (s : State) (m : MethodId) (meth : Method) (c : Code) (b L : Nat) (xs : Nat → Int32) : Prop :=
  p.tables.exec = Jvm.exec ∧ c.code = code ∧ meth.sig.returnType = ret ∧ c.maxLocals = 8 ∧ s.vm.findClass R_law = some m.cls ∧ (∀ w ∈ lw_tbl, w.before #[Value.ref b] s = true) ∧ va_X b L xs s s.heap ∧ b < s.heap.size ∧ meth.locks = false ∧ (Jvm.Cond.and given_1 narrow_1).before #[Value.ref b] s = true
def xc_cwp : List Nat := [379, 458, 495, 509, 540, 733, 756, 780, 798, 843, 917, 924, 936]
def xc_swp : List Nat := [378, 457, 494, 508, 539, 732, 755, 779, 797, 842, 916, 923, 935]
set_option maxRecDepth 1000000 in
theorem xk_w : (List.range' 173 13).map (fun y => Cond.codeWith (xc_y y) (xc_b y) (xc_nl y) (xc_rt y) (xc_hh y)) = xc_cwp.filterMap (fun i => tables_1[i]?) := rfl
theorem xh_codeW {y : Nat} (h1 : 173 ≤ y) (h2 : y < 186) : Cond.codeWith (xc_y y) (xc_b y) (xc_nl y) (xc_rt y) (xc_hh y) ∈ xc_tbl := by
  have h3 : Cond.codeWith (xc_y y) (xc_b y) (xc_nl y) (xc_rt y) (xc_hh y) ∈ (List.range' 173 13).map (fun y => Cond.codeWith (xc_y y) (xc_b y) (xc_nl y) (xc_rt y) (xc_hh y)) := List.mem_map.mpr ⟨y, List.mem_range'_1.mpr ⟨h1, by omega⟩, rfl⟩
  rw [xk_w] at h3
  obtain ⟨i, -, hi⟩ := List.mem_filterMap.mp h3
  exact xw_in hi rfl
def xf_stw (e : Nat × (Nat × Nat) × Nat) : Bool := decide (173 ≤ e.2.1.1) && decide (e.2.1.1 < 186) && xf_np e.2.1.1 e.2.1.2 && decide (tables_1[e.2.2]? = some (Cond.methodLink "SnapForgeLaw" e.1 (xc_y e.2.1.1))) && decide (tables_1[xc_swp.getD (e.2.1.1 - 173) 9999]? = some (Cond.static (xc_y e.2.1.1))) && decide (xc_mc e.2.1.1 = 1)
set_option maxRecDepth 100000 in
theorem xf_stw_ok : xc_stws.all xf_stw = true := by decide +kernel
theorem xw_iniL : Cond.initialized "SnapForgeLaw" ∈ xc_tbl := xw_in (i := 0) (by decide +kernel) rfl
def xc_stw (x : Nat) : Option (Nat × Nat) := (xc_stws.find? (fun e => e.1 == x)).map (fun e => e.2.1)
theorem xh_stw {x y2 na : Nat} (h : xc_stw x = some (y2, na)) : 173 ≤ y2 ∧ y2 < 186 ∧ (parseMethodDescriptor (xc_y y2).desc).map (fun d => d.parameters.length) = some na ∧ Cond.methodLink "SnapForgeLaw" x (xc_y y2) ∈ xc_tbl ∧ Cond.static (xc_y y2) ∈ xc_tbl := by
  unfold xc_stw at h
  obtain ⟨e0, he, hv⟩ := Option.map_eq_some_iff.mp h
  have h1 := List.mem_of_find?_eq_some he
  have h2 : e0.1 = x := by simpa using List.find?_some he
  have h3 := List.all_eq_true.mp xf_stw_ok _ h1
  unfold xf_stw xf_np at h3
  simp only [Bool.and_eq_true, decide_eq_true_eq] at h3
  obtain ⟨⟨⟨⟨⟨w1, w2⟩, w3⟩, w4⟩, w5⟩, -⟩ := h3
  rw [hv] at w1 w2 w3 w4 w5
  rw [h2] at w4
  exact ⟨w1, w2, w3, xw_in w4 rfl, xw_in w5 rfl⟩
/-- a static call of a method with a table of catches: as the kit's own row for one without -/
theorem x_callSW {p : Program} {l : Launch} {e : Env} {R : Room} {s : State} {m : MethodId} {args : Array Value} {below : List Frame} {meth : Method} {c : Code} {T : State} {locs : List Loc} {cells slots : Nat} (X : Stand p l e R s m args below meth c T locs cells slots) (hexec : p.tables.exec = Jvm.exec) {own : String} {index : Nat} {y : MethodName} {bytes : ByteArray} {maxL : Nat} {ret : Option FieldType} {hh : List (Nat × Nat × Nat × Nat)}
    (hown : s.vm.findClass own = some m.cls) (hlink : (Cond.methodLink own index y).before args s = true) (hstat : (Cond.static y).before args s = true) (hinit : (Cond.initialized y.cls).before args s = true)
    (hcode : (Cond.codeWith y bytes maxL ret hh).before args s = true) (hy : y.cls ≠ "java/lang/invoke/MethodHandle" ∧ y.cls ≠ "java/lang/invoke/VarHandle")
    {W : Nat} {Pre : Pt → Array Value → Prop} {Post : Pt → Array Value → Option Value → Pt → Prop} (hK : Back l R p e below s args y 3 W Pre Post)
    {g : JFrame} (hg : g.method = m) (hsize : g.locals.size = c.maxLocals) {argsL rest : List Value} (hlen : ∀ sig, parseMethodDescriptor y.desc = some sig → argsL.length = sig.parameters.length)
    (hstack : g.stack = argsL.reverse ++ rest) (hW : 2 * g.monitorRoom + (rest.map fun v => v.category).sum ≤ W) (hdg : decode c.code g.pc = .ok (.invokestatic index, 3))
    (hpre : ∀ vm₁, s.WarmedH vm₁ → Pre ⟨T.setVm vm₁, locs, cells, slots⟩ argsL.toArray) :
    ∃ (v : Option Value) (vm₁ : Vm) (B : Pt), s.WarmedH vm₁ ∧ Stand p l e R s m args below meth c B.U B.locs B.cells B.slots ∧ Post ⟨T.setVm vm₁, locs, cells, slots⟩ argsL.toArray v B ∧
      ∀ target, Steps p.tables e below (B.U.setTop { g with pc := g.pc + 3, stack := v.toList ++ rest }) target → Steps p.tables e below (T.setTop g) target := by
  obtain ⟨mk, methM, cM, hnamed, hmethM, -, -, -, -, -, -, hsigM⟩ := Cond.codeWith_spec hcode
  have hstatic : methM.isStatic = true := Cond.static_spec hnamed hmethM hstat
  obtain ⟨kP, hkP, -⟩ := className_of_methodNamed hnamed
  have hinitP : kP.init = .initialized := Cond.initialized_spec (findClass_of_methodNamed hnamed) hkP hinit
  obtain ⟨vm₁, X₁, hstep₁⟩ := X.invokestatic hexec hown hlink hnamed hmethM hstatic hkP hinitP hy (g := g) hg (argsL := argsL) (rest := rest) (hlen _ hsigM) hstack hdg
  obtain ⟨v, B, X', hpost, hsteps⟩ := hK m meth c ⟨T.setVm vm₁, locs, cells, slots⟩ { g with stack := rest } (.invokestatic index) mk argsL.toArray X₁ hg hsize hdg hW (X₁.named hnamed) (hpre vm₁ X₁.warmed)
  exact ⟨v, vm₁, B, X₁.warmed, X', hpost, fun target h => hstep₁ _ fun acts => by rw [doInvoke_state]; exact hsteps.trans h⟩
section XLW
variable {p : Program} {l : Launch} {e : Env} {R : Room} {s : State} {m : MethodId} {args : Array Value} {below : List Frame} {meth : Method} {c : Code} {Q : State → Prop} {D : va_G} {dA : Nat → ClassId} {B : Nat} {g : Nat → Nat} {A : Nat → Prop} {pc y : Nat} {lv : xL} {st : List Value} {cn qn : Nat} {S : xS} {K : xK} {r : xR}
theorem x_runSW (hX : xX p R s m args meth c D dA 186) (hN : xNw s) (hG : xSg g B s) (hTq : xTq B s) (hAB : ∀ q, A q → B ≤ q) {x : Nat} (hd : decode (xc_b 186) pc = .ok (.invokestatic x, 3)) : ∀ (y2 na : Nat) (as : List Value) (v : Option Value) (S1 : xS) (ls : Array Slot) (H : Heap) (locs : List Loc) (t : List Value), xc_stw x = some (y2, na) → xMW l D dA B g y2 as S v S1 → as.length = na → xc_lev y2 < xc_lev 186 → ls.size = xc_nl 186 → (t.map fun v => v.category).sum ≤ 8 → cn + xc_mc y2 ≤ R.cells → qn + xc_ms y2 ≤ R.slots → xH D dA B g S H → va_S A s.heap H locs → va_Run p l e R s m args below meth c H locs cn qn (xc_mc y2) (xc_ms y2) (F0 m pc ls ((as.map (xv B g)).reverse ++ t.map (xv B g))) (t.map (xv B g)) (xQc D dA B g (xA B S) v S1 (as.map (xv B g)).toArray) (xA B S) := by
  intro y2 na as v S1 ls H locs t ho hM hlen hlev hls hcat hcc hqq hH hS
  obtain ⟨w1, w2, w3, w4, w5⟩ := xh_stw ho
  obtain ⟨q1, q2, q3, q4⟩ := xh_w w1 w2
  obtain ⟨hx, hb, hml, hown, hts, hKK, -⟩ := id hX
  have hownL : s.vm.findClass "SnapForgeLaw" = some m.cls := hown
  have hrooms := x_rooms hX hlev q4
  have hini : (Cond.initialized (xc_y y2).cls).before args s = true := by rw [q1]; exact hts _ xw_iniL
  have hK0 : Back l R p e below s args (xc_y y2) 3 8 (PreOf R (xc_mc y2) (xc_ms y2) (va_Pc (as.map (xv B g)) (fun U => xU D dA B g S U ∧ xTq B U))) (PostOf (xQc D dA B g (xA B S) v S1) (xc_mc y2) (xc_ms y2) (xA B S)) :=
    va_backW (hh := xc_hh y2) (bytes := xc_b y2) (maxL := xc_nl y2) (ret := xc_rt y2) hM (xTq.blind _) rfl rfl hrooms.1 hrooms.2 (fun w hw a' U hW => by
      rcases List.mem_cons.mp hw with h9 | h9
      · rw [h9]
        exact word_at hW (good_of_word (xw_good (xh_codeW w1 w2))) (hts _ (xh_codeW w1 w2))
      · exact word_at hW (good_of_word (xw_good h9)) (hts _ h9)) List.mem_cons_self (fun a' U hW => word_at hW (Or.inl (by first | rfl | simp [Cond.onTables, Cond.keeps, Cond.steady])) hini)
  intro T hT X
  obtain ⟨v2, vm₁, ⟨U', l2, c2, s2⟩, hW₁, X', ⟨g', mk, t2, L, e1, e2, hq, h1, hL, h2, h3⟩, st2⟩ := x_callSW X hx (hh := xc_hh y2) (bytes := xc_b y2) (maxL := xc_nl y2) (ret := xc_rt y2) hownL (hts _ w4) (hts _ w5) hini (hts _ (xh_codeW w1 w2)) (by rw [q1]; decide) hK0 (g := F0 m pc ls ((as.map (xv B g)).reverse ++ t.map (xv B g))) rfl (hls.trans hml.symm) (argsL := as.map (xv B g)) (rest := t.map (xv B g)) (fun sig h => by
      rw [h] at w3
      rw [List.length_map, hlen]
      exact (Option.some.inj w3).symm) rfl (by show 2 * 0 + _ ≤ 8; rw [x_cats]; omega) (by rw [hb]; exact hd)
    (fun vm₁ hW₁ => ⟨hcc, hqq, by
      obtain ⟨k1, k2⟩ := xU_at hX hN hG hAB hH hS (as.map (xv B g)) (T.setVm vm₁) hT hW₁
      refine ⟨k1, k2, hTq.move hW₁ (fun q z1 z2 => ?_)⟩
      show T.heap[q]? = s.heap[q]?
      rw [hT]
      exact hS.2.1 q z1 (fun h => z2 (hAB q h))⟩)
  dsimp only [Pt.U, Pt.locs, Pt.cells, Pt.slots] at X' e1 e2 h1 h2 h3 st2
  subst h1; subst h2; subst h3
  exact ⟨v2, (T.setVm vm₁).calling g' mk (as.map (xv B g)).toArray, t2, U', L, hT, X', hL, e1, e2, hq, st2⟩
/-- a wrapper's call in the law -/
def xclW (k : List Value → Nat → Nat → xS → Option xR) (call : Nat → List Value → xS → Option xR) (o : Option (Nat × Nat)) (c q : Nat) (S : xS) (st : List Value) : Option xR := match o with
  | some (y, na) => if na ≤ st.length then (if xc_lev y < xc_lev 186 then (if c + xc_mc y ≤ xc_mc 186 then (if q + xc_ms y ≤ xc_ms 186 then (if ((st.drop na).map fun v => v.category).sum ≤ 8 then (match call y (st.take na).reverse S with
    | some (.inr v, S1) => k (v.toList ++ st.drop na) (c + xc_mc y) (q + xc_ms y) S1
    | _ => none) else none) else none) else none) else none) else none
  | none => none
def xsld (k : List Value → Option xR) (L : Nat) (xs : Nat → Int32) (st : List Value) : Option xR := match st with
  | .int i :: .ref a :: r => if a = 1000003 then (if i < 0 ∨ L ≤ i.toNatClampNeg then none else k (.int (xs i.toNatClampNeg) :: r)) else none
  | _ => none
def xsln (k : List Value → Option xR) (L : Nat) (st : List Value) : Option xR := match st with
  | .ref a :: r => if a = 1000003 then k (.int (nI L) :: r) else none
  | _ => none
def xstepL (L : Nat) (xs : Nat → Int32) (K : xK) (call : Nat → List Value → xS → Option xR) (pc : Nat) (i : Instr) (lv : xL) (st : List Value) (c q : Nat) (S : xS) : Option xR := match i with
  | .iaload => xsld (fun r => K (pc + 1) lv r c q S) L xs st
  | .arraylength => xsln (fun r => K (pc + 1) lv r c q S) L st
  | .invokestatic x => xclW (fun r c q S => K (pc + 3) lv r c q S) call (xc_stw x) c q S st
  | i => xstep K call 186 pc i lv st c q S
def xlev (L : Nat) (xs : Nat → Int32) : Nat → xK
  | 0 => fun _ _ _ _ _ _ => none
  | n + 1 => fun pc lv st c q S => match xc_code 186 pc with
    | some i => xstepL L xs (xlev L xs n) (fun y2 as S2 => xmeth n y2 as S2) pc i lv st c q S
    | none => none
theorem xs_clW (hX : xX p R s m args meth c D dA 186) (hN : xNw s) (hG : xSg g B s) (hTq : xTq B s) (hA : ∀ q, s.heap.size ≤ q → A q) (hAB : ∀ q, A q → B ≤ q) (hK : xG p l e R s m args below meth c Q D dA B g A (xc_nl 186) K r) {call : Nat → List Value → xS → Option xR} (hcall : ∀ (y2 : Nat) (as : List Value) (S2 : xS) (v : Option Value) (S1 : xS), 173 ≤ y2 → y2 < 186 → call y2 as S2 = some (.inr v, S1) → xMW l D dA B g y2 as S2 v S1) {x : Nat} (hd : decode (xc_b 186) pc = .ok (.invokestatic x, 3))
    (h : xclW (fun t c q S => K (pc + 3) lv t c q S) call (xc_stw x) cn qn S st = some r) : xW p l e R s m args below meth c Q D dA B g A (xc_nl 186) pc lv st cn qn S := by
  have hR : R.cells = xc_mc 186 ∧ R.slots = xc_ms 186 := ⟨hX.2.2.2.2.2.2.2.2.2.2.2.2.1, hX.2.2.2.2.2.2.2.2.2.2.2.2.2⟩
  unfold xclW at h
  split at h
  · next y2 na ho =>
    obtain ⟨w1, w2, -⟩ := xh_stw ho
    split at h
    · next c1 =>
      split at h
      · next c2 =>
        split at h
        · next c3 =>
          split at h
          · next c4 =>
            split at h
            · next c5 =>
              split at h
              · next v S1 hc =>
                intro ls H locs hl hH hS hAd
                have hlen : (st.take na).reverse.length = na := by
                  rw [List.length_reverse, List.length_take]
                  omega
                have hrun := x_runSW (e := e) (below := below) (l := l) (cn := cn) (qn := qn) (S := S) hX hN hG hTq hAB hd y2 na (st.take na).reverse v S1 ls H locs (st.drop na) ho (hcall y2 _ S v S1 w1 w2 hc) hlen c2 hl.1 c5 (by rw [hR.1]; exact c3) (by rw [hR.2]; exact c4) hH hS
                rw [x_stk B g st na]
                refine x_back hrun hS (xA_in hA hH hS hAd) (xA_in hA hH hS hAd) (fun H1 locs1 hH1 hAd1 hS1 => ?_)
                have k9 := hK _ _ _ _ _ _ h ls H1 locs1 hl hH1 hS1 hAd1
                have e9 : (v.toList ++ st.drop na).map (xv B g) = (v.map (xv B g)).toList ++ (st.drop na).map (xv B g) := by
                  rw [List.map_append]
                  cases v <;> rfl
                rw [e9] at k9
                exact k9
              · cases h
            · cases h
          · cases h
        · cases h
      · cases h
    · cases h
  · cases h
end XLW
def xS0 : xS := (0, fun _ => none, fun _ _ => 0, fun _ _ => 0, fun _ _ => none)
theorem xc_mcL : xc_mc 186 = 601024 := by decide +kernel
theorem xc_msL : xc_ms 186 = 7293034 := by decide +kernel
theorem xc_bL : xc_b 186 = code := rfl
set_option maxHeartbeats 1000000 in
/-- what the law's evaluator comes to, the law comes to -/
theorem xsoundL {p : Program} {e : Env} {s : State} {m : MethodId} {below : List Frame} {meth : Method} {c : Code} (l : Launch) (hfl : l.stackTraces = false) {b L : Nat} {xs : Nat → Int32} (C0 : lw_At p s m meth c b L xs) {D : va_G} {dA : Nat → ClassId} {g : Nat → Nat} (hKK : va_K D xc_cl (xc_tys dA) s) (hN : xNw s) (hG : xSg g s.heap.size s) (hg : g 3 = b) (hTq : xTq s.heap.size s) {n : Nat} {S1 : xS} (h : xlev L xs n 0 [(0, .ref 1000003)] [] 0 0 xS0 = some (.inr (some (.int 1)), S1)) : W p l e room_1 s m #[Value.ref b] below meth c s.heap [] 0 0 (lw_Z below #[Value.ref b] s) (entryFrame m ([Value.ref b] : List Value).toArray 8) := by
  obtain ⟨hx, hb, hr, hml, hown, hts, hXs, hbl, hlk, -⟩ := C0
  have hX : xX p room_1 s m #[Value.ref b] meth c D dA 186 := ⟨hx, hb, hml, hown, fun w hw => hts w (xw_sub hw), hKK, hr, hlk, (fun hk => absurd hk (by decide)), (by decide), (by decide), (by decide), rfl, rfl⟩
  have key : ∀ k, xG p l e room_1 s m #[Value.ref b] below meth c (lw_Z below #[Value.ref b] s) D dA s.heap.size g (fun q => s.heap.size ≤ q) (xc_nl 186) (xlev L xs k) (.inr (some (.int 1)), S1) := by
    intro k
    induction k with
    | zero =>
      intro pc lv st cn qn S2 h2
      cases h2
    | succ k ihk =>
      intro pc lv st cn qn S2 h2
      unfold xlev at h2
      split at h2
      · next i hc =>
        unfold xstepL at h2
        split at h2
        · have hd := xh_dec1 hc (n := 1) rfl (by decide)
          unfold xsld at h2
          split at h2
          · next i a t =>
            split at h2
            · next ha =>
              split at h2
              · cases h2
              · next hin =>
                intro ls H locs hl hH hS hAd
                have e1 : (Value.int i :: Value.ref a :: t).map (xv s.heap.size g) = .int i :: .ref b :: t.map (xv s.heap.size g) := by
                  rw [ha, ← hg]
                  rfl
                rw [e1]
                exact va_sld hx hb hXs hbl (fun z => by omega) hS hin hd (ihk _ _ _ _ _ _ h2 ls H locs hl hH hS hAd)
            · cases h2
          · cases h2
        · have hd := xh_dec1 hc (n := 1) rfl (by decide)
          unfold xsln at h2
          split at h2
          · next a t =>
            split at h2
            · next ha =>
              intro ls H locs hl hH hS hAd
              have e1 : (Value.ref a :: t).map (xv s.heap.size g) = .ref b :: t.map (xv s.heap.size g) := by
                rw [ha, ← hg]
                rfl
              rw [e1]
              exact va_slen hx hb hXs hbl (fun z => by omega) hS hd (ihk _ _ _ _ _ _ h2 ls H locs hl hH hS hAd)
            · cases h2
          · cases h2
        · next x =>
          exact xs_clW hX hN hG hTq (fun _ q => q) (fun _ q => q) ihk (fun y2 as S3 v S4 w1 w2 h3 => xsoundW l hfl D dA _ g w1 w2 h3) (xh_dec1 hc rfl (by decide)) h2
        · refine xstep_ok hX hN hG (fun _ q => q) (fun _ q => q) ihk (fun y2 as2 S3 v2 S4 hy2 h3 => xsound l D dA _ g k y2 as2 S3 v2 S4 hy2 h3)
            (fun x o hcx ho hcs h3 => ?_) (fun hc1 c1 c2 h3 => ?_) (fun _ _ _ h3 => ?_) (fun _ _ _ h3 => ?_) (fun _ _ _ h3 => ?_) (fun o x y2 na ex2 t S3 _ _ ht => by cases ht) hc h2
          · unfold xthr at h3
            repeat' split at h3
            all_goals cases h3
          · unfold xret at h3
            split at h3
            · next w =>
              rw [if_neg (by decide), if_pos (by decide)] at h3
              split at h3
              · cases h3
                intro ls H locs hl hH hS hAd
                refine va_forget hS.2.2 ?_
                exact W.widen (by rw [xc_mcL] at c1; exact c1) (by rw [xc_msL] at c2; exact c2) (lw_ret hx hb hr hlk (by have h9 := xh_dec1 hc1 (n := 1) rfl (by decide); rw [xc_bL] at h9; exact h9))
              · cases h3
            · cases h3
          · unfold xrel at h3
            repeat' split at h3
            all_goals cases h3
          · unfold xrea at h3
            repeat' split at h3
            all_goals cases h3
          · unfold xrev at h3
            repeat' split at h3
            all_goals cases h3
      · cases h2
  have hl := lv_entry ([Value.ref b]) (n := 8) (by simp [lg_sl, Value.category])
  rw [lg_entry_eq]
  refine key n 0 _ [] 0 0 xS0 h _ s.heap [] ?_ ⟨rfl, fun a t ht => by cases ht⟩ va_S.rf (fun a ha => by cases ha)
  have e2 : ([(0, Value.ref 1000003)] : xL).map (fun q => (q.1, xv s.heap.size g q.2)) = lv_args 0 [Value.ref b] := by
    rw [← hg]
    rfl
  rw [e2]
  exact hl
