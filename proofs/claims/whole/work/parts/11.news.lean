-- THE EVALUATOR AND THE MACHINE, fifth part: stores of references, new cells, small calls
theorem xh_at {ci : Nat} (h : ci < 12) : ∃ (C : String) (T : u_T) (N : Nat), xc_cl[ci]? = some (C, T, N) := by
  have : xc_cl[ci]? = some (xc_cl[ci]'h) := List.getElem?_eq_getElem h
  exact ⟨_, _, _, this⟩
section XN
variable {p : Program} {l : Launch} {e : Env} {R : Room} {s : State} {m : MethodId} {args : Array Value} {below : List Frame} {meth : Method} {c : Code} {Q : State → Prop} {D : va_G} {dA : Nat → ClassId} {B : Nat} {g : Nat → Nat} {A : Nat → Prop} {pc y : Nat} {lv : xL} {st : List Value} {cn qn : Nat} {S : xS} {K : xK} {r : xR} {H : Heap} {locs : List Loc} {ls : Array Slot} {rest : List Value} {a : Nat}
theorem xs_aast (hX : xX p R s m args meth c D dA y) (hK : xG p l e R s m args below meth c Q D dA B g A (xc_nl y) K r) (hd : decode (xc_b y) pc = .ok (.aastore, 1)) (h : xaast (fun t S => K (pc + 1) lv t cn qn S) S st = some r) : xW p l e R s m args below meth c Q D dA B g A (xc_nl y) pc lv st cn qn S := by
  obtain ⟨hx, hb, hml, hown, hts, hKK, -⟩ := hX
  unfold xaast at h
  split at h
  · next v i a t =>
    split at h
    · next j n ht =>
      split at h
      · next hj =>
        split at h
        · next hj2 =>
          split at h
          · cases h
          · next hin =>
            split at h
            · next hv =>
              intro ls H locs hl hH hS hAd
              obtain ⟨ha, hat⟩ := hH.2 a _ ht
              obtain ⟨hva, hvt⟩ := hH.2 v _ hv
              show W p l e R s m args below meth c H locs cn qn Q (F0 m pc ls (.ref (xad B g v) :: .int i :: .ref (xad B g a) :: t.map (xv B g)))
              rw [xad_lt ha, xad_lt hva]
              obtain ⟨q, hq, cellV, g1, g2, g3, -⟩ := hvt
              have hcls := (hKK.1 _ q hq).2
              obtain ⟨kC, hkC, -⟩ := hcls.2
              have hcell : H[B + a]? = some (arrV (dA j) n (fun k => va_rf ((xr S a k).map (xad B g)))) := by
                rcases (show j = 3 ∨ j = 4 by unfold xc_na at hj2; omega) with rfl | rfl <;> exact hat
              have hRA : ∃ (kA : Class) (C : String), s.vm.classes[dA j]? = some kA ∧ kA.kind = .array (D.1 (xc_ac j)) (.object C) := by
                rcases (show j = 3 ∨ j = 4 by unfold xc_na at hj2; omega) with rfl | rfl
                · obtain ⟨kA, comp, k1, k2, k3, -⟩ := (hKK.2 3 _ rfl).2
                  have hq2 : q.1 = "SnapForge$Strand" := by
                    have : xc_cl[8]? = some q := hq
                    have h8 : xc_cl[8]? = some ("SnapForge$Strand", xcT_8, 5) := rfl
                    rw [h8] at this
                    cases this
                    rfl
                  have h9 := hcls.1
                  rw [hq2] at h9
                  have : comp = D.1 8 := Option.some.inj (k3.symm.trans h9)
                  exact ⟨kA, _, k1, by rw [k2, this]; rfl⟩
                · obtain ⟨kA, comp, k1, k2, k3, -⟩ := (hKK.2 4 _ rfl).2
                  have hq2 : q.1 = "SnapForge$Frame" := by
                    have : xc_cl[3]? = some q := hq
                    have h8 : xc_cl[3]? = some ("SnapForge$Frame", xcT_3, 4) := rfl
                    rw [h8] at this
                    cases this
                    rfl
                  have h9 := hcls.1
                  rw [hq2] at h9
                  have : comp = D.1 3 := Option.some.inj (k3.symm.trans h9)
                  exact ⟨kA, _, k1, by rw [k2, this]; rfl⟩
              obtain ⟨kA, C, k1, k2⟩ := hRA
              have hlt : i.toNatClampNeg < n := Nat.not_le.mp fun q => hin (Or.inr q)
              refine W.aast hx hb hcell (fun q h => by cases h) (fun h => by cases h) k1 k2 rfl hkC ⟨fun q => hin (Or.inl q), by rw [arrV_size]; exact hlt⟩ g1 (fun q h => by rw [g3] at h; cases h) (by rw [g2]; exact hkC) (by rw [g2]; exact va_assign hcls) rfl rfl hd fun H1 e1 e2 e3 => ?_
              refine hK _ _ _ _ _ _ h ls H1 _ hl (xH_put (n := a) hH rfl rfl (fun b hb => ⟨rfl, rfl, x2_ne hb⟩) (fun t2 ht2 => ?_) e2 e3) (hS.put e2 e3 (hAd a (by rw [ht]; rfl))) hAd
              rw [ht] at ht2
              cases ht2
              have e4 : H1[B + a]? = some (arrV (dA j) n (fun k => va_rf ((x2 (xr S) a i.toNatClampNeg (some v) a k).map (xad B g)))) := by
                rw [e1, arrV_store]
                congr 2
                funext k
                by_cases hk : k = i.toNatClampNeg
                · simp [updV, x2, hk, va_rf, xad_lt hva]
                · simp [updV, x2, hk]
              rcases (show j = 3 ∨ j = 4 by unfold xc_na at hj2; omega) with rfl | rfl <;> exact e4
            · cases h
        · cases h
      · cases h
    · cases h
  · cases h
theorem xH_new {t : xT} {H1 : Heap} (hH : xH D dA B g S H) (hz : xz S < 1000000) (hs : H1.size = B + xz S + 1) (ho : ∀ q, q < B + xz S → H1[q]? = H[q]?) (hat : va_at D xc_cl (B + xz S, xcell xc_fk dA t (fun _ => 0) (fun _ => 0) (fun _ => none)) H1) : xH D dA B g (xnew S t) H1 := by
  refine ⟨by rw [hs]; simp [xnew, xz]; omega, fun b t2 hb => ?_⟩
  by_cases hbz : b = xz S
  · subst hbz
    have h1 : xt (xnew S t) (xz S) = some t := by simp [xnew, xt, va_up]
    rw [h1] at hb
    cases hb
    refine ⟨hz, ?_⟩
    have e1 : xi (xnew S t) (xz S) = fun _ => 0 := by simp [xnew, xi, va_up]
    have e2 : xj (xnew S t) (xz S) = fun _ => 0 := by simp [xnew, xj, va_up]
    have e3 : (fun k => (xr (xnew S t) (xz S) k).map (xad B g)) = fun _ => none := by funext k; simp [xnew, xr, va_up]
    rw [e1, e2, e3]
    exact hat
  · have h1 : xt (xnew S t) b = xt S b := by simp [xnew, xt, va_up, hbz]
    rw [h1] at hb
    have h2 := hH.2 b t2 hb
    refine ⟨h2.1, ?_⟩
    have e1 : xi (xnew S t) b = xi S b := by simp [xnew, xi, va_up, hbz]
    have e2 : xj (xnew S t) b = xj S b := by simp [xnew, xj, va_up, hbz]
    have e3 : xr (xnew S t) b = xr S b := by simp [xnew, xr, va_up, hbz]
    rw [e1, e2, e3]
    have hlt : B + b < H.size := h2.2.lt
    rw [hH.1] at hlt
    exact h2.2.kept (ho _ hlt)
theorem xS_new {H1 : Heap} {n : Nat} (hS : va_S A s.heap H locs) (hn : H.size = n) (hs : H1.size = n + 1) (ho : ∀ q, q < n → H1[q]? = H[q]?) : va_S A s.heap H1 locs := by
  subst hn
  exact ⟨Nat.le_trans hS.1 (by omega), fun q h1 h2 => (ho q (Nat.lt_of_lt_of_le h1 hS.1)).trans (hS.2.1 q h1 h2), hS.2.2⟩
theorem xA_new {t : xT} (hA : ∀ q, s.heap.size ≤ q → A q) (hH : xH D dA B g S H) (hS : va_S A s.heap H locs) (hAd : ∀ a, (xt S a).isSome = true → A (B + a)) : ∀ a, (xt (xnew S t) a).isSome = true → A (B + a) := by
  intro b hb
  by_cases hbz : b = xz S
  · subst hbz
    refine hA _ ?_
    rw [← hH.1]
    exact hS.1
  · refine hAd b ?_
    have h1 : xt (xnew S t) b = xt S b := by simp [xnew, xt, va_up, hbz]
    rw [← h1]
    exact hb
theorem xs_newo (hX : xX p R s m args meth c D dA y) (hA : ∀ q, s.heap.size ≤ q → A q) (hK : xG p l e R s m args below meth c Q D dA B g A (xc_nl y) K r) {x : Nat} (hd : decode (xc_b y) pc = .ok (.new x, 3)) (h : xnewo (fun c q S1 => K (pc + 3) lv (.ref (xz S) :: st) c q S1) (xc_new (xc_own y) x) (xc_mc y) (xc_ms y) cn qn S = some r) : xW p l e R s m args below meth c Q D dA B g A (xc_nl y) pc lv st cn qn S := by
  obtain ⟨hx, hb, hml, hown, hts, hKK, -, -, -, hy, -, -, hRc, hRs⟩ := hX
  unfold xnewo at h
  split at h
  · next ci ho =>
    split at h
    · next h1 =>
      split at h
      · next h2 =>
        split at h
        · next h3 =>
          unfold xc_new at ho
          obtain ⟨e0, he, hv⟩ := Option.map_eq_some_iff.mp ho
          have hm := xc_at_mem he
          have hoo := xc_at_own (n := 13) rfl he
          have w1 := List.all_eq_true.mp (List.all_eq_true.mp xf_new_ok _ (List.mem_range.mpr hoo)) _ hm
          obtain ⟨cj, pos⟩ := e0
          cases hv
          unfold xf_new at w1
          simp only [Bool.and_eq_true, decide_eq_true_eq] at w1
          obtain ⟨C, T, N, hc⟩ := xh_at w1.1
          obtain ⟨Y, z1, z2, z3, z4, z5, z6, z7, z8, z9, z10⟩ := xh_cls hc
          have hlk := xw_in w1.2 rfl
          simp only [z2] at hlk
          intro ls H locs hl hH hS hAd
          have hKn := hKK.1 _ _ hc
          refine W.newcK hx hb hown (hts _ hlk) (hts _ z3) (hts _ z4) rfl hd (by rw [hRc]; exact h1) (by rw [hRs, ← z1]; exact h2) hKn.2.1 hH.1 fun H1 kC hkC e1 e2 e3 => ?_
          have hob : va_at D xc_cl (B + xz S, xcell xc_fk dA (.inl cj) (fun _ => 0) (fun _ => 0) (fun _ => none)) H1 := by
            refine ⟨_, hc, (u_born Y hts z5 hKn hkC e1 z6).to (fun k hk => ?_)⟩
            have hk2 : k < (xc_fk cj).length := by rw [z1]; exact hk
            show defaultValue (Y k) = vp_V (xfs (xc_fk cj) (fun _ => 0) (fun _ => 0) (fun _ => none)) k
            unfold vp_V
            rw [List.getD_eq_getElem?_getD, xfs_get _ _ _ _ hk2]
            have h10 := z10 k hk
            by_cases k0 : (xc_fk cj).getD k 0 = 0
            · simp only [k0, if_true, decide_eq_true_eq] at h10
              rw [h10, k0]; rfl
            · by_cases k1 : (xc_fk cj).getD k 0 = 1
              · simp only [k1, if_true, if_false, decide_eq_true_eq, Nat.reduceEqDiff] at h10
                rw [h10, k1]; rfl
              · by_cases k3 : (xc_fk cj).getD k 0 = 3
                · simp only [k3, if_true, if_false, decide_eq_true_eq, Nat.reduceEqDiff] at h10
                  rw [h10, k3]; rfl
                · simp only [k0, k1, k3, if_false, Bool.and_eq_true, decide_eq_true_eq] at h10
                  rw [h10.1]
                  cases hYk : Y k <;> rw [hYk] at h10 <;> first | rfl | simp [FieldType.isReference] at h10
          have k9 := hK _ _ _ _ _ _ h ls H1 locs hl (xH_new hH h3 e2 e3 hob) (xS_new hS hH.1 e2 e3) (xA_new hA hH hS hAd)
          simp only [List.map_cons] at k9
          rw [show xv B g (.ref (xz S)) = .ref (B + xz S) by simp [xv, xad_lt h3], z1] at k9
          exact k9
        · cases h
      · cases h
    · cases h
  · cases h
end XN
