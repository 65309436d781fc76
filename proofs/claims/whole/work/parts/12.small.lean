-- THE EVALUATOR AND THE MACHINE, sixth part: new arrays, Object.<init>, Math.min, long constants, ends
set_option maxRecDepth 100000 in
theorem xw_obj1 : Cond.instanceMethod objectInit ∈ xc_tbl := xw_in (i := 27) (by decide +kernel) rfl
set_option maxRecDepth 100000 in
theorem xw_obj2 : Cond.code objectInit ⟨#[0xb1]⟩ 1 none ∈ xc_tbl := xw_in (i := 28) rfl rfl
set_option maxRecDepth 100000 in
theorem xw_min1 : Cond.static Lib.Math.min.name ∈ xc_tbl := xw_in (i := 876) (by decide +kernel) rfl
set_option maxRecDepth 100000 in
theorem xw_min2 : Cond.code Lib.Math.min.name Lib.Math.min.code 2 (some .int) ∈ xc_tbl := xw_in (i := 877) (by rfl) rfl
set_option maxRecDepth 100000 in
theorem xw_min3 : Cond.initialized "java/lang/Math" ∈ xc_tbl := xw_in (i := 20) (by decide +kernel) rfl
def xf_min (own : Nat) (e : Nat × Nat) : Bool := decide (tables_1[e.2]? = some (Cond.methodLink (xc_on own) e.1 Lib.Math.min.name))
set_option maxRecDepth 100000 in
theorem xf_min_ok : (List.range 13).all (fun own => (xc_mins.getD own []).all (xf_min own)) = true := by decide +kernel
section XM
variable {p : Program} {l : Launch} {e : Env} {R : Room} {s : State} {m : MethodId} {args : Array Value} {below : List Frame} {meth : Method} {c : Code} {Q : State → Prop} {D : va_G} {dA : Nat → ClassId} {B : Nat} {g : Nat → Nat} {A : Nat → Prop} {pc y : Nat} {lv : xL} {st : List Value} {cn qn : Nat} {S : xS} {K : xK} {r : xR} {H : Heap} {locs : List Loc} {ls : Array Slot} {rest : List Value} {a : Nat}
/-- an array of numbers -/
theorem xs_newn (hX : xX p R s m args meth c D dA y) (hA : ∀ q, s.heap.size ≤ q → A q) (hK : xG p l e R s m args below meth c Q D dA B g A (xc_nl y) K r) {j : Nat} {ty : FieldType} {aty : ArrayType} (hty : newarray.typeOf aty = ty) (hw : Cond.arrayClass ty ∈ xc_tbl) (hj : (xc_tys dA)[j]? = some (dA j, ty)) (hRA : va_RA s (dA j) ty → s.vm.findClass ("[" ++ ty.toString) = some (dA j)) (hcb : componentBytes ty ≤ 8) (hcell : ∀ n, vp_cell (dA j) (n, if j = 1 then .inr (.inl (fun _ => 0)) else if j < 3 then .inl (fun _ => 0) else .inr (.inr (.inr (.inr (fun _ => none))))) = arrV (dA j) n (fun _ => defaultValue ty)) (hd : decode (xc_b y) pc = .ok (.newarray aty, 2)) (h : xnewa (fun t c q S1 => K (pc + 2) lv t c q S1) (some j) (xc_mc y) (xc_ms y) cn qn S st = some r) : xW p l e R s m args below meth c Q D dA B g A (xc_nl y) pc lv st cn qn S := by
  obtain ⟨hx, hb, hml, hown, hts, hKK, -, -, -, hy, -, -, hRc, hRs⟩ := hX
  unfold xnewa at h
  split at h
  · next j2 n t hj2 =>
    cases hj2
    split at h
    · cases h
    · next h0 =>
      split at h
      · cases h
      · next h6 =>
        split at h
        · next h1 =>
          split at h
          · next h2 =>
            split at h
            · next h3 =>
              subst hty
              intro ls H locs hl hH hS hAd
              show W p l e R s m args below meth c H locs cn qn Q (F0 m pc ls (.int n :: t.map (xv B g)))
              refine va_newaK hx hb (hts _ hw) rfl hd rfl h0 rfl ?_ (by rw [hRc]; exact h1) (by rw [hRs]; exact h2) hH.1 fun H1 cA e1 e2 e3 e4 e5 => ?_
              · have : n.toNatClampNeg ≤ 60000000 := Nat.not_lt.mp h6
                calc n.toNatClampNeg * componentBytes (newarray.typeOf aty) ≤ 60000000 * 8 := Nat.mul_le_mul this hcb
                  _ ≤ 536870912 := by decide
              · have hcA : cA = dA j := Option.some.inj (e5.symm.trans (hRA (hKK.2 j _ hj).2))
                subst hcA
                have k9 := hK _ _ _ _ _ _ h ls H1 locs hl (xH_new hH h3 e2 e3 (show H1[B + xz S]? = some (vp_cell (dA j) _) by rw [hcell]; exact e1)) (xS_new hS hH.1 e2 e3) (xA_new hA hH hS hAd)
                simp only [List.map_cons] at k9
                rw [show xv B g (.ref (xz S)) = .ref (B + xz S) by simp [xv, xad_lt h3]] at k9
                exact k9
            · cases h
          · cases h
        · cases h
  · cases h
/-- an array of references -/
theorem xs_newq (hX : xX p R s m args meth c D dA y) (hN : xNw s) (hA : ∀ q, s.heap.size ≤ q → A q) (hK : xG p l e R s m args below meth c Q D dA B g A (xc_nl y) K r) {x : Nat} (hd : decode (xc_b y) pc = .ok (.anewarray x, 3)) (h : xnewa (fun t c q S1 => K (pc + 3) lv t c q S1) (xc_anew (xc_own y) x) (xc_mc y) (xc_ms y) cn qn S st = some r) : xW p l e R s m args below meth c Q D dA B g A (xc_nl y) pc lv st cn qn S := by
  obtain ⟨hx, hb, hml, hown, hts, hKK, -, -, -, hy, -, -, hRc, hRs⟩ := hX
  unfold xnewa at h
  split at h
  · next j n t ho =>
    split at h
    · cases h
    · next h0 =>
      split at h
      · cases h
      · next h6 =>
        split at h
        · next h1 =>
          split at h
          · next h2 =>
            split at h
            · next h3 =>
              unfold xc_anew at ho
              obtain ⟨e0, he, hv⟩ := Option.map_eq_some_iff.mp ho
              have hm := xc_at_mem he
              have hoo := xc_at_own (n := 13) rfl he
              have w1 := List.all_eq_true.mp (List.all_eq_true.mp xf_anew_ok _ (List.mem_range.mpr hoo)) _ hm
              obtain ⟨cj, pos⟩ := e0
              cases hv
              unfold xf_anew at w1
              simp only [Bool.and_eq_true, decide_eq_true_eq] at w1
              have hlk := hts _ (xw_in w1.2 rfl)
              intro ls H locs hl hH hS hAd
              show W p l e R s m args below meth c H locs cn qn Q (F0 m pc ls (.int n :: t.map (xv B g)))
              have hbytes : n.toNatClampNeg * 4 ≤ 536870912 := by omega
              have key : ∀ (C : String), xc_on (xc_ac cj) = C → va_AO C s → (xc_tys dA)[cj]? = some (dA cj, .object C) → W p l e R s m args below meth c H locs cn qn Q (F0 m pc ls (.int n :: t.map (xv B g))) := by
                intro C hC hO hT
                rw [hC] at hlk
                refine W.anew hx hb hown hlk (va_AO.use hO) rfl hd rfl h0 hbytes (by rw [hRc]; exact h1) (by rw [hRs]; exact h2) fun cA kA comp f1 f2 f3 f4 => ?_
                obtain ⟨_, _, -, -, -, f5⟩ := (hKK.2 cj _ hT).2
                have hcA : cA = dA cj := Option.some.inj (f1.symm.trans f5)
                subst hcA
                generalize hH1 : H.push ({ cls := dA cj, slots := Array.replicate n.toNatClampNeg .null, vm := .none } : Cell) = H1
                have z1 : H1.size = B + xz S + 1 := by rw [← hH1, Array.size_push, hH.1]
                have e1 : H1[B + xz S]? = some (arrV (dA cj) n.toNatClampNeg (fun _ => .null)) := by rw [← hH1, ← hH.1, Array.getElem?_push_size, ← arrV_new]
                have o1 : ∀ q : Nat, q < B + xz S → H1[q]? = H[q]? := fun q hq => by rw [← hH1, Array.getElem?_push, if_neg (by rw [hH.1]; omega)]
                have hat : va_at D xc_cl (B + xz S, xcell xc_fk dA (.inr (cj, n.toNatClampNeg)) (fun _ => 0) (fun _ => 0) (fun _ => none)) H1 := by
                  rcases (show cj = 3 ∨ cj = 4 by omega) with rfl | rfl <;> exact e1
                have k9 := hK _ _ _ _ _ _ h ls H1 locs hl (xH_new hH h3 z1 o1 hat) (xS_new hS hH.1 z1 o1) (xA_new hA hH hS hAd)
                simp only [List.map_cons] at k9
                rw [show xv B g (.ref (xz S)) = .ref (B + xz S) by simp [xv, xad_lt h3]] at k9
                rw [hH.1]
                exact k9
              rcases (show cj = 3 ∨ cj = 4 by omega) with rfl | rfl
              · exact key "SnapForge$Strand" rfl hN.1 rfl
              · exact key "SnapForge$Frame" rfl hN.2.1 rfl
            · cases h
          · cases h
        · cases h
  · cases h
theorem xs_obj (hX : xX p R s m args meth c D dA y) (hK : xG p l e R s m args below meth c Q D dA B g A (xc_nl y) K r) {x : Nat} (ho : xc_obj (xc_own y) x = true) (hd : decode (xc_b y) pc = .ok (.invokespecial x, 3)) (h : xobj (fun t => K (pc + 3) lv t cn qn S) st = some r) : xW p l e R s m args below meth c Q D dA B g A (xc_nl y) pc lv st cn qn S := by
  obtain ⟨hx, hb, hml, hown, hts, hKK, -, -, -, hy, hRf, hRl, hRc, hRs⟩ := hX
  have hlev : 1 ≤ xc_lev y := by
    have h1 := List.all_eq_true.mp xf_r_ok y (List.mem_range.mpr hy)
    unfold xf_r at h1
    simp only [Bool.and_eq_true, decide_eq_true_eq] at h1
    exact h1.2
  unfold xobj at h
  split at h
  · next a t =>
    split at h
    · next hw =>
      unfold xc_obj at ho
      obtain ⟨e0, he⟩ := Option.isSome_iff_exists.mp ho
      have hm := xc_at_mem he
      have hoo := xc_at_own (n := 13) rfl he
      have w1 := List.all_eq_true.mp (List.all_eq_true.mp xf_obj_ok _ (List.mem_range.mpr hoo)) _ hm
      unfold xf_obj at w1
      simp only [decide_eq_true_eq] at w1
      intro ls H locs hl hH hS hAd
      refine W.objInit hx hb hown (hts _ (xw_in w1 rfl)) (hts _ xw_obj1) (hts _ xw_obj2) (g := F0 m pc ls (.ref (xad B g a) :: t.map (xv B g))) (rest := t.map (xv B g)) rfl (by rw [hml]; exact hl.1) rfl hd (Nat.le_trans hlev hRf) ?_ (hK _ _ _ _ _ _ h ls H locs hl hH hS hAd)
      refine Nat.le_trans ?_ hRl
      have e1 : ((t.map (xv B g)).map fun v => v.category) = t.map fun v => v.category := by
        rw [List.map_map]
        exact List.map_congr_left (fun v _ => xv_cat B g v)
      rw [e1]
      have e2 : (F0 m pc ls (.ref (xad B g a) :: t.map (xv B g))).monitorRoom = 0 := rfl
      rw [e2]
      omega
    · cases h
  · cases h
theorem xs_min (hX : xX p R s m args meth c D dA y) (hK : xG p l e R s m args below meth c Q D dA B g A (xc_nl y) K r) {x : Nat} (ho : xc_min (xc_own y) x = true) (hcn : cn ≤ xc_mc y) (hqn : qn ≤ xc_ms y) (hd : decode (xc_b y) pc = .ok (.invokestatic x, 3)) (h : xmin (fun t => K (pc + 3) lv t cn qn S) st = some r) : xW p l e R s m args below meth c Q D dA B g A (xc_nl y) pc lv st cn qn S := by
  obtain ⟨hx, hb, hml, hown, hts, hKK, -, -, -, hy, hRf, hRl, hRc, hRs⟩ := hX
  have hlev : 1 ≤ xc_lev y := by
    have h1 := List.all_eq_true.mp xf_r_ok y (List.mem_range.mpr hy)
    unfold xf_r at h1
    simp only [Bool.and_eq_true, decide_eq_true_eq] at h1
    exact h1.2
  unfold xmin at h
  split at h
  · next b a t =>
    split at h
    · next hw =>
      unfold xc_min at ho
      obtain ⟨e0, he⟩ := Option.isSome_iff_exists.mp ho
      have hm := xc_at_mem he
      have hoo := xc_at_own (n := 13) rfl he
      have w1 := List.all_eq_true.mp (List.all_eq_true.mp xf_min_ok _ (List.mem_range.mpr hoo)) _ hm
      unfold xf_min at w1
      simp only [decide_eq_true_eq] at w1
      intro ls H locs hl hH hS hAd
      refine va_mmin hx hb (by rw [hml]; exact hl.1.symm) hown (hts _ (xw_in w1 rfl)) (hts _ xw_min1) (hts _ xw_min3) (hts _ xw_min2) (Nat.le_trans hlev hRf) ?_ (by rw [hRc]; exact hcn) (by rw [hRs]; exact hqn) hd (hK _ _ _ _ _ _ h ls H locs hl hH hS hAd)
      refine Nat.le_trans ?_ hRl
      have e1 : ((t.map (xv B g)).map fun v => v.category) = t.map fun v => v.category := by
        rw [List.map_map]
        exact List.map_congr_left (fun v _ => xv_cat B g v)
      rw [e1]
      omega
    · cases h
  · cases h
theorem xs_ldc2 (hX : xX p R s m args meth c D dA y) (hK : xG p l e R s m args below meth c Q D dA B g A (xc_nl y) K r) {x : Nat} (hd : decode (xc_b y) pc = .ok (.ldc2_w x, 3)) (h : xlc2 (fun v => K (pc + 3) lv (.long v :: st) cn qn S) (xc_long (xc_own y) x) = some r) : xW p l e R s m args below meth c Q D dA B g A (xc_nl y) pc lv st cn qn S := by
  obtain ⟨hx, hb, hml, hown, hts, -⟩ := hX
  unfold xlc2 at h
  split at h
  · next v ho =>
    unfold xc_long at ho
    obtain ⟨e0, he, hv⟩ := Option.map_eq_some_iff.mp ho
    have hm := xc_at_mem he
    have hoo := xc_at_own (n := 13) rfl he
    have w1 := List.all_eq_true.mp (List.all_eq_true.mp xf_long_ok _ (List.mem_range.mpr hoo)) _ hm
    obtain ⟨w, pos⟩ := e0
    cases hv
    unfold xf_long at w1
    simp only [decide_eq_true_eq] at w1
    exact fun ls H locs hl hH hS hAd => lv_ldc2 hx hb hown (hts _ (xw_in w1 rfl)) hd (hK _ _ _ _ _ _ h ls H locs hl hH hS hAd)
  · cases h
end XM
