-- THE EVALUATOR AND THE MACHINE, fourth part: arrays, statics, new
def xc_sn (j : Nat) : String := if j = 0 then "TOP_A" else if j = 1 then "TOP_B" else "TAKES"
/-- the static arrays, which nobody writes -/
def xSt (g : Nat → Nat) (A : Nat → Prop) (s : State) : Prop := (∀ j, j < 3 → va_Z "SnapForge" (xc_sn j) "[I" (.ref (g j)) A s s.heap) ∧ ∀ (j : Nat) (L : List Int32), xc_ro j = some L → va_T .int (g j) L.length (fun k => .int (L.getD k 0)) A s s.heap
def xf_sta (own : Nat) (e : Nat × Nat × Nat) : Bool := decide (e.2.1 < 3) && (if own = 6 then decide (tables_1[e.2.2]? = some (Cond.fieldLinkNest "SnapForge$Program" e.1 "SnapForge" (xc_sn e.2.1) "[I" "SnapForge")) else decide (tables_1[e.2.2]? = some (Cond.fieldLink (xc_on own) e.1 "SnapForge" (xc_sn e.2.1) "[I")))
set_option maxRecDepth 100000 in
theorem xf_sta_ok : (List.range 13).all (fun own => (xc_stas.getD own []).all (xf_sta own)) = true := by decide +kernel
set_option maxRecDepth 100000 in
theorem xw_ai : Cond.arrayClass .int ∈ xc_tbl := xw_in (i := 70) (by decide +kernel) rfl
set_option maxRecDepth 100000 in
theorem xw_al : Cond.arrayClass .long ∈ xc_tbl := xw_in (i := 113) (by decide +kernel) rfl
set_option maxRecDepth 100000 in
theorem xw_az : Cond.arrayClass .boolean ∈ xc_tbl := xw_in (i := 1113) (by decide +kernel) rfl
/-- words of the tables that are carried by hand: arrays of our classes, members of a nest mate -/
def xNw (s : State) : Prop := va_AO "SnapForge$Strand" s ∧ va_AO "SnapForge$Frame" s ∧ va_Nw (.fieldLinkNest "SnapForge$Program" 39 "SnapForge" "TAKES" "[I" "SnapForge") s ∧ ∀ (own : Nat) (e : Nat × (Nat × Nat) × Bool × Nat), e ∈ xc_spcs.getD own [] → e.2.2.1 = true → va_Nw (.methodLinkNest (xc_on own) e.1 (xc_y e.2.1.1) "SnapForge") s
theorem xNw.warm {s U : State} (hW : s.WarmedH U.vm) (h : xNw s) : xNw U := ⟨h.1.moved hW.alike, h.2.1.moved hW.alike, va_Nw.warmF hW h.2.2.1, fun own e he hb => va_Nw.warmM hW (h.2.2.2 own e he hb)⟩
theorem xNw.same {s U : State} (hv : s.vm = U.vm) (h : xNw s) : xNw U := ⟨h.1.moved (by rw [hv]; exact Vm.Alike.refl U.vm), h.2.1.moved (by rw [hv]; exact Vm.Alike.refl U.vm), va_Nw.same rfl hv h.2.2.1, fun own e he hb => va_Nw.same rfl hv (h.2.2.2 own e he hb)⟩
section XA
variable {p : Program} {l : Launch} {e : Env} {R : Room} {s : State} {m : MethodId} {args : Array Value} {below : List Frame} {meth : Method} {c : Code} {Q : State → Prop} {D : va_G} {dA : Nat → ClassId} {B : Nat} {g : Nat → Nat} {A : Nat → Prop} {pc y : Nat} {lv : xL} {st : List Value} {cn qn : Nat} {S : xS} {K : xK} {r : xR} {H : Heap} {locs : List Loc} {ls : Array Slot} {rest : List Value} {a : Nat}
theorem xs_gs (hX : xX p R s m args meth c D dA y) (hN : xNw s) (hT : xSt g A s) (hK : xG p l e R s m args below meth c Q D dA B g A (xc_nl y) K r) {x : Nat} (hd : decode (xc_b y) pc = .ok (.getstatic x, 3)) (h : xgs (fun v => K (pc + 3) lv (.ref (1000000 + v) :: st) cn qn S) (xc_sta (xc_own y) x) = some r) : xW p l e R s m args below meth c Q D dA B g A (xc_nl y) pc lv st cn qn S := by
  obtain ⟨hx, hb, hml, hown, hts, hKK, -⟩ := hX
  unfold xgs at h
  split at h
  · next v ho =>
    unfold xc_sta at ho
    obtain ⟨e, he, hv⟩ := Option.map_eq_some_iff.mp ho
    have hm := xc_at_mem he
    have hoo := xc_at_own (n := 13) rfl he
    have h1 := List.all_eq_true.mp (List.all_eq_true.mp xf_sta_ok _ (List.mem_range.mpr hoo)) _ hm
    obtain ⟨j, pos⟩ := e
    cases hv
    unfold xf_sta at h1
    simp only [Bool.and_eq_true, decide_eq_true_eq] at h1
    intro ls H locs hl hH hS hAd
    have k1 := hK _ _ _ _ _ _ h ls H locs hl hH hS hAd
    have e1 : xv B g (.ref (1000000 + j)) = .ref (g j) := by
      have hq : ¬ (1000000 + j < 1000000) := by omega
      simp [xv, xad, hq]
    simp only [List.map_cons, e1] at k1
    by_cases h6 : xc_own y = 6
    · rw [if_pos h6] at h1
      have hw : x = 39 ∧ j = 2 := by
        rw [h6] at hm
        have h9 : (x, j, pos) ∈ ([(39, (2, 573))] : List (Nat × Nat × Nat)) := hm
        simp at h9
        exact ⟨h9.1, h9.2.1⟩
      obtain ⟨rfl, rfl⟩ := hw
      refine va_getsN hx hb (hT.1 2 h1.1) hS hown (host := "SnapForge") (ref := "SnapForge") ?_ (fun _ h => h) hd k1
      rw [h6]
      exact va_Nw.use rfl hN.2.2.1
    · rw [if_neg h6] at h1
      exact va_gets hx hb (hT.1 j h1.1) hS hown (hts _ (xw_in (of_decide_eq_true h1.2) rfl)) (fun _ h => h) hd k1
  · cases h
theorem xs_iald (hX : xX p R s m args meth c D dA y) (hT : xSt g A s) (hK : xG p l e R s m args below meth c Q D dA B g A (xc_nl y) K r) (hd : decode (xc_b y) pc = .ok (.iaload, 1)) (h : xiald (fun t => K (pc + 1) lv t cn qn S) S st = some r) : xW p l e R s m args below meth c Q D dA B g A (xc_nl y) pc lv st cn qn S := by
  obtain ⟨hx, hb, hml, hown, hts, hKK, -⟩ := hX
  unfold xiald at h
  split at h
  · next i a t =>
    split at h
    · next j n ht =>
      split at h
      · next hj =>
        subst hj
        split at h
        · cases h
        · next hin =>
          intro ls H locs hl hH hS hAd
          obtain ⟨ha, hat⟩ := hH.2 a _ ht
          show W p l e R s m args below meth c H locs cn qn Q (F0 m pc ls (.int i :: .ref (xad B g a) :: t.map (xv B g)))
          rw [xad_lt ha]
          exact va_iald hx hb hKK (xP1 hat) 0 0 rfl rfl hin hd (hK _ _ _ _ _ _ h ls H locs hl hH hS hAd)
      · cases h
    · cases h
    · next ht =>
      split at h
      · cases h
      · next hge =>
        split at h
        · next L hL =>
          split at h
          · cases h
          · next hin =>
            intro ls H locs hl hH hS hAd
            show W p l e R s m args below meth c H locs cn qn Q (F0 m pc ls (.int i :: .ref (xad B g a) :: t.map (xv B g)))
            rw [show xad B g a = g (a - 1000000) by simp [xad, hge]]
            exact va_ti hx hb (hT.2 _ L hL) hS hin rfl hd (hK _ _ _ _ _ _ h ls H locs hl hH hS hAd)
        · cases h
  · cases h
theorem xs_lald (hX : xX p R s m args meth c D dA y) (hK : xG p l e R s m args below meth c Q D dA B g A (xc_nl y) K r) (hd : decode (xc_b y) pc = .ok (.laload, 1)) (h : xlald (fun t => K (pc + 1) lv t cn qn S) S st = some r) : xW p l e R s m args below meth c Q D dA B g A (xc_nl y) pc lv st cn qn S := by
  obtain ⟨hx, hb, hml, hown, hts, hKK, -⟩ := hX
  unfold xlald at h
  split at h
  · next i a t =>
    split at h
    · next j n ht =>
      split at h
      · next hj =>
        subst hj
        split at h
        · cases h
        · next hin =>
          intro ls H locs hl hH hS hAd
          obtain ⟨ha, hat⟩ := hH.2 a _ ht
          show W p l e R s m args below meth c H locs cn qn Q (F0 m pc ls (.int i :: .ref (xad B g a) :: t.map (xv B g)))
          rw [xad_lt ha]
          exact va_lald hx hb hKK (xP1 hat) 0 1 rfl rfl hin hd (hK _ _ _ _ _ _ h ls H locs hl hH hS hAd)
      · cases h
    · cases h
  · cases h
theorem xs_bald (hX : xX p R s m args meth c D dA y) (hK : xG p l e R s m args below meth c Q D dA B g A (xc_nl y) K r) (hd : decode (xc_b y) pc = .ok (.baload, 1)) (h : xbald (fun t => K (pc + 1) lv t cn qn S) S st = some r) : xW p l e R s m args below meth c Q D dA B g A (xc_nl y) pc lv st cn qn S := by
  obtain ⟨hx, hb, hml, hown, hts, hKK, -⟩ := hX
  unfold xbald at h
  split at h
  · next i a t =>
    split at h
    · next j n ht =>
      split at h
      · next hj =>
        subst hj
        split at h
        · cases h
        · next hin =>
          intro ls H locs hl hH hS hAd
          obtain ⟨ha, hat⟩ := hH.2 a _ ht
          show W p l e R s m args below meth c H locs cn qn Q (F0 m pc ls (.int i :: .ref (xad B g a) :: t.map (xv B g)))
          rw [xad_lt ha]
          exact va_zald hx hb hKK (xP1 hat) 0 2 rfl rfl hin hd (hK _ _ _ _ _ _ h ls H locs hl hH hS hAd)
      · cases h
    · cases h
  · cases h
theorem xs_aald (hX : xX p R s m args meth c D dA y) (hK : xG p l e R s m args below meth c Q D dA B g A (xc_nl y) K r) (hd : decode (xc_b y) pc = .ok (.aaload, 1)) (h : xaald (fun t => K (pc + 1) lv t cn qn S) S st = some r) : xW p l e R s m args below meth c Q D dA B g A (xc_nl y) pc lv st cn qn S := by
  obtain ⟨hx, hb, hml, hown, hts, hKK, -⟩ := hX
  unfold xaald at h
  split at h
  · next i a t =>
    split at h
    · next j n ht =>
      split at h
      · next hj =>
        split at h
        · next hj2 =>
          split at h
          · cases h
          · next hin =>
            intro ls H locs hl hH hS hAd
            obtain ⟨ha, hat⟩ := hH.2 a _ ht
            have k1 := hK _ _ _ _ _ _ h ls H locs hl hH hS hAd
            rw [List.map_cons, xv_rf] at k1
            show W p l e R s m args below meth c H locs cn qn Q (F0 m pc ls (.int i :: .ref (xad B g a) :: t.map (xv B g)))
            rw [xad_lt ha]
            rcases (show j = 3 ∨ j = 4 by unfold xc_na at hj2; omega) with rfl | rfl
            · exact va_aldq hx hb hKK (xP1 hat) 0 3 (f := fun k => (xr S a k).map (xad B g)) rfl rfl hin hd k1
            · exact va_aldq hx hb hKK (xP1 hat) 0 4 (f := fun k => (xr S a k).map (xad B g)) rfl rfl hin hd k1
        · cases h
      · cases h
    · cases h
  · cases h
theorem xs_iast (hX : xX p R s m args meth c D dA y) (hK : xG p l e R s m args below meth c Q D dA B g A (xc_nl y) K r) (hd : decode (xc_b y) pc = .ok (.iastore, 1)) (h : xiast (fun t S => K (pc + 1) lv t cn qn S) S st = some r) : xW p l e R s m args below meth c Q D dA B g A (xc_nl y) pc lv st cn qn S := by
  obtain ⟨hx, hb, hml, hown, hts, hKK, -⟩ := hX
  unfold xiast at h
  split at h
  · next x i a t =>
    split at h
    · next j n ht =>
      split at h
      · next hj =>
        subst hj
        split at h
        · cases h
        · next hin =>
          intro ls H locs hl hH hS hAd
          obtain ⟨ha, hat⟩ := hH.2 a _ ht
          show W p l e R s m args below meth c H locs cn qn Q (F0 m pc ls (.int x :: .int i :: .ref (xad B g a) :: t.map (xv B g)))
          rw [xad_lt ha]
          refine W.iast hx hb (show H[B + a]? = some (arrV (dA 0) n (fun k => .int (xi S a k))) from hat) ((hKK.2 0 _ rfl).1 n (fun k => .int (xi S a k))) (fun q => by cases q) (by rw [arrV_size]; exact hin) rfl rfl hd fun H1 e1 e2 e3 => ?_
          refine hK _ _ _ _ _ _ h ls H1 _ hl (xH_put (n := a) hH rfl rfl (fun b hb => ⟨x2_ne hb, rfl, rfl⟩) (fun t2 ht2 => ?_) e2 e3) (hS.put e2 e3 (hAd a (by rw [ht]; rfl))) hAd
          rw [ht] at ht2
          cases ht2
          show H1[B + a]? = some (arrV (dA 0) n (fun k => .int (x2 (xi S) a i.toNatClampNeg x a k)))
          rw [e1, arrV_store]
          congr 2
          funext k
          by_cases hk : k = i.toNatClampNeg <;> simp [updV, x2, hk]
      · cases h
    · cases h
  · cases h
theorem xs_bast (hX : xX p R s m args meth c D dA y) (hK : xG p l e R s m args below meth c Q D dA B g A (xc_nl y) K r) (hd : decode (xc_b y) pc = .ok (.bastore, 1)) (h : xbast (fun t S => K (pc + 1) lv t cn qn S) S st = some r) : xW p l e R s m args below meth c Q D dA B g A (xc_nl y) pc lv st cn qn S := by
  obtain ⟨hx, hb, hml, hown, hts, hKK, -⟩ := hX
  unfold xbast at h
  split at h
  · next x i a t =>
    split at h
    · next j n ht =>
      split at h
      · next hj =>
        subst hj
        split at h
        · cases h
        · next hin =>
          split at h
          · next hx01 =>
            intro ls H locs hl hH hS hAd
            obtain ⟨ha, hat⟩ := hH.2 a _ ht
            show W p l e R s m args below meth c H locs cn qn Q (F0 m pc ls (.int x :: .int i :: .ref (xad B g a) :: t.map (xv B g)))
            rw [xad_lt ha]
            refine W.zast hx hb (show H[B + a]? = some (arrV (dA 2) n (fun k => .int (xi S a k))) from hat) ((hKK.2 2 _ rfl).1 n (fun k => .int (xi S a k))) (fun q => by cases q) (by rw [arrV_size]; exact hin) rfl rfl hd fun H1 e1 e2 e3 => ?_
            refine hK _ _ _ _ _ _ h ls H1 _ hl (xH_put (n := a) hH rfl rfl (fun b hb => ⟨x2_ne hb, rfl, rfl⟩) (fun t2 ht2 => ?_) e2 e3) (hS.put e2 e3 (hAd a (by rw [ht]; rfl))) hAd
            rw [ht] at ht2
            cases ht2
            show H1[B + a]? = some (arrV (dA 2) n (fun k => .int (x2 (xi S) a i.toNatClampNeg x a k)))
            have hnar : narrow .boolean (.int x) = .int x := by rcases hx01 with rfl | rfl <;> rfl
            rw [e1, hnar, arrV_store]
            congr 2
            funext k
            by_cases hk : k = i.toNatClampNeg <;> simp [updV, x2, hk]
          · cases h
      · cases h
    · cases h
  · cases h
theorem xs_last (hX : xX p R s m args meth c D dA y) (hK : xG p l e R s m args below meth c Q D dA B g A (xc_nl y) K r) (hd : decode (xc_b y) pc = .ok (.lastore, 1)) (h : xlast (fun t S => K (pc + 1) lv t cn qn S) S st = some r) : xW p l e R s m args below meth c Q D dA B g A (xc_nl y) pc lv st cn qn S := by
  obtain ⟨hx, hb, hml, hown, hts, hKK, -⟩ := hX
  unfold xlast at h
  split at h
  · next x i a t =>
    split at h
    · next j n ht =>
      split at h
      · next hj =>
        subst hj
        split at h
        · cases h
        · next hin =>
          intro ls H locs hl hH hS hAd
          obtain ⟨ha, hat⟩ := hH.2 a _ ht
          show W p l e R s m args below meth c H locs cn qn Q (F0 m pc ls (.long x :: .int i :: .ref (xad B g a) :: t.map (xv B g)))
          rw [xad_lt ha]
          refine W.last hx hb (show H[B + a]? = some (arrV (dA 1) n (fun k => .long (xj S a k))) from hat) ((hKK.2 1 _ rfl).1 n (fun k => .long (xj S a k))) (fun q => by cases q) (by rw [arrV_size]; exact hin) rfl rfl hd fun H1 e1 e2 e3 => ?_
          refine hK _ _ _ _ _ _ h ls H1 _ hl (xH_put (n := a) hH rfl rfl (fun b hb => ⟨rfl, x2_ne hb, rfl⟩) (fun t2 ht2 => ?_) e2 e3) (hS.put e2 e3 (hAd a (by rw [ht]; rfl))) hAd
          rw [ht] at ht2
          cases ht2
          show H1[B + a]? = some (arrV (dA 1) n (fun k => .long (x2 (xj S) a i.toNatClampNeg x a k)))
          rw [e1, arrV_store]
          congr 2
          funext k
          by_cases hk : k = i.toNatClampNeg <;> simp [updV, x2, hk]
      · cases h
    · cases h
  · cases h
end XA
