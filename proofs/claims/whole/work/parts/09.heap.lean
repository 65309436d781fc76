-- THE EVALUATOR AND THE MACHINE, third part: fields and arrays
theorem xh_cls {ci : Nat} {C : String} {T : u_T} {N : Nat} (h : xc_cl[ci]? = some (C, T, N)) : ∃ Y : Nat → FieldType, (xc_fk ci).length = N ∧ xc_on ci = C ∧ Cond.instantiable C N ∈ xc_tbl ∧ Cond.initialized C ∈ xc_tbl ∧ (∀ w ∈ u_ws C T N, w ∈ xc_tbl) ∧ (∀ k, k < N → parseFieldDescriptor (T k).2.2.1 = some (Y k)) ∧ (∀ k, k < N → (T k).1 = C) ∧ (∀ k, k < N → (T k).2.2.2 = (xc_fins.getD ci []).getD k true) ∧ (∀ a, a < N → ∀ b, b < N → a ≠ b → (T a).2.1 ≠ (T b).2.1) ∧
    (∀ k, k < N → (if (xc_fk ci).getD k 0 = 0 then decide (Y k = .int) else if (xc_fk ci).getD k 0 = 1 then decide (Y k = .long) else if (xc_fk ci).getD k 0 = 3 then decide (Y k = .boolean) else decide ((xc_fk ci).getD k 0 = 2) && (Y k).isReference) = true) := by
  have hlt : ci < 12 := (List.getElem?_eq_some_iff.mp h).1
  have h1 := List.all_eq_true.mp xf_cls_ok ci (List.mem_range.mpr hlt)
  unfold xf_cls at h1
  rw [h] at h1
  cases hY : xc_cy[ci]? with
  | none => rw [hY] at h1; simp at h1
  | some Y =>
    rw [hY] at h1
    simp only [Bool.and_eq_true, decide_eq_true_eq] at h1
    obtain ⟨⟨⟨⟨q1, q2⟩, q3⟩, q4⟩, q5⟩ := h1
    have q6 := fun k (hk : k < N) => List.all_eq_true.mp q5 k (List.mem_range.mpr hk)
    simp only [Bool.and_eq_true, decide_eq_true_eq] at q6
    refine ⟨Y, q1, q2, xw_in q3 rfl, xw_in q4 rfl, fun w hw => ?_, fun k hk => (q6 k hk).1.1.1.1.2, fun k hk => (q6 k hk).1.1.1.2, fun k hk => (q6 k hk).1.1.2, fun a ha b hb hab => ?_, fun k hk => (q6 k hk).2⟩
    · obtain ⟨k, hk, rfl⟩ := List.mem_map.mp hw
      have hk := List.mem_range.mp hk
      exact xw_in (q6 k hk).1.1.1.1.1.1 (q6 k hk).1.1.1.1.1.2
    · have h2 := List.all_eq_true.mp (q6 a ha).1.2 b (List.mem_range.mpr hb)
      simp only [Bool.or_eq_true, decide_eq_true_eq] at h2
      exact h2.resolve_left hab
theorem xh_fld {own x ci k : Nat} (h : xc_fld own x = some (ci, k)) : ∃ (C : String) (T : u_T) (N : Nat), xc_cl[ci]? = some (C, T, N) ∧ k < N ∧ Cond.fieldLink (xc_on own) x C (T k).2.1 (T k).2.2.1 ∈ xc_tbl := by
  unfold xc_fld at h
  obtain ⟨e, he, hv⟩ := Option.map_eq_some_iff.mp h
  have hm := xc_at_mem he
  have ho := xc_at_own (n := 13) rfl he
  have h1 := List.all_eq_true.mp (List.all_eq_true.mp xf_fld_ok own (List.mem_range.mpr ho)) _ hm
  unfold xf_fld at h1
  obtain ⟨⟨ci2, k2⟩, pos⟩ := e
  cases hv
  cases hc : xc_cl[ci]? with
  | none => simp [hc] at h1
  | some q =>
    obtain ⟨C, T, N⟩ := q
    simp only [hc, Bool.and_eq_true, decide_eq_true_eq] at h1
    exact ⟨C, T, N, rfl, h1.1, xw_in h1.2 rfl⟩
section XH
variable {p : Program} {l : Launch} {e : Env} {R : Room} {s : State} {m : MethodId} {args : Array Value} {below : List Frame} {meth : Method} {c : Code} {Q : State → Prop} {D : va_G} {dA : Nat → ClassId} {B : Nat} {g : Nat → Nat} {A : Nat → Prop} {pc y : Nat} {lv : xL} {st : List Value} {cn qn : Nat} {S : xS} {K : xK} {r : xR} {H : Heap} {locs : List Loc} {ls : Array Slot} {rest : List Value} {a : Nat}
/-- one cell has changed -/
theorem xH_put {S2 : xS} {H1 : Heap} {n : Nat} (hH : xH D dA B g S H) (hz : xz S2 = xz S) (ht : xt S2 = xt S) (ho : ∀ b, b ≠ n → xi S2 b = xi S b ∧ xj S2 b = xj S b ∧ xr S2 b = xr S b) (hat : ∀ t, xt S n = some t → va_at D xc_cl (B + n, xcell xc_fk dA t (xi S2 n) (xj S2 n) (fun k => (xr S2 n k).map (xad B g))) H1) (hs : H1.size = H.size) (oq : ∀ q, q ≠ B + n → H1[q]? = H[q]?) : xH D dA B g S2 H1 := by
  refine ⟨by rw [hs, hH.1, hz], fun b t hb => ?_⟩
  rw [ht] at hb
  have h1 := hH.2 b t hb
  refine ⟨h1.1, ?_⟩
  by_cases hbn : b = n
  · subst hbn
    exact hat t hb
  · obtain ⟨e1, e2, e3⟩ := ho b hbn
    rw [e1, e2, e3]
    exact h1.2.kept (oq _ (show B + b ≠ B + n by omega))
theorem xput (hexec : p.tables.exec = Jvm.exec) {cc : ByteArray} (hb : c.code = cc) {own ref C : String} {T : u_T} {N ci index : Nat} {tys : List (ClassId × FieldType)} (hts : ∀ w ∈ xc_tbl, w.before args s = true) (hin : ∀ w ∈ u_ws C T N, w ∈ xc_tbl) (ty0 : Nat → FieldType) (hty : ∀ k, k < N → parseFieldDescriptor (T k).2.2.1 = some (ty0 k)) (hnm : ∀ a, a < N → ∀ b, b < N → a ≠ b → (T a).2.1 ≠ (T b).2.1) (hown : s.vm.findClass own = some m.cls) (hK : va_K D xc_cl tys s) {fs : List Value} (hat : va_at D xc_cl (a, .inr (ci, fs)) H) (hc : xc_cl[ci]? = some (C, T, N)) (k : Nat) (hk : k < N) (hlink : (Cond.fieldLink own index ref (T k).2.1 (T k).2.2.1).before args s = true) (hsame : ∀ x, s.fieldFound? (T k).1 (T k).2.1 (T k).2.2.1 = some x → s.fieldFound? ref (T k).2.1 (T k).2.2.1 = some x) (hfin : (T k).2.2.2 = false ∨ ((T k).2.2.2 = true ∧ meth.name = "<init>" ∧ (T k).1 = own)) {ty : FieldType} {v : Value} (hd : parseFieldDescriptor (T k).2.2.1 = some ty) (hn : narrow ty v = v) (hfit : fits ty v = true) (hl : k < fs.length)
    (hdg : decode cc pc = .ok (.putfield index, 3)) (kk : ∀ (H1 : Heap) (f : Nat), va_at D xc_cl (a, .inr (ci, fs.set k v)) H1 → H1.size = H.size → (∀ q, q ≠ a → H1[q]? = H[q]?) → W p l e R s m args below meth c H1 (locs ++ [⟨a, f⟩]) cn qn Q (F0 m (pc + 3) ls rest)) : W p l e R s m args below meth c H locs cn qn Q (F0 m pc ls (v :: .ref a :: rest)) := by
  have hap := va_apart (own := own) hts hin ty0 hty hnm hK hc
  obtain ⟨r, h1, cell, q1, q2, q3, q4⟩ := hat
  have hr : r = (C, T, N) := Option.some.inj (h1.symm.trans hc)
  subst hr
  obtain ⟨hS, hfc, kC, hkC, hkind⟩ := hK.1 ci _ hc
  obtain ⟨cf, kf, fi, f, hi, hsl⟩ := hS k hk
  have hst := (u_facts hfc hkC (u_lays hts hin hk) hi).1
  have hslot : f.slot < cell.slots.size := by rw [hsl]; exact k2_hasslot (q4 k hk)
  have fin : ∀ H1 : Heap, H1[a]? = some (cell.setSlot f.slot v) → H1.size = H.size → (∀ q, q ≠ a → H1[q]? = H[q]?) → W p l e R s m args below meth c H1 (locs ++ [⟨a, f.slot⟩]) cn qn Q (F0 m (pc + 3) ls rest) := by
    intro H1 e1 e2 e3
    refine kk H1 _ ⟨_, hc, t_OB.to (V := updV (vp_V fs) k v) ⟨_, e1, q2, q3, ?_⟩ (fun j _ => vp_updV_set hl v j)⟩ e2 e3
    rw [hsl]
    exact t_set q4 hap hk v
  have hlay := hts _ (hin _ (u_in_lay hk))
  unfold u_lay at hlay
  rcases hfin with hf | ⟨hf, hin2, hdecl⟩
  · rw [if_neg (by rw [hf]; decide)] at hlay
    exact W.putK hexec hb (f := f) ⟨hown, hlink, ⟨_, _, _, hsame _ hi⟩, hst⟩ (by rw [q2]; exact u_store hfc hkC hkind hlay hi hd hn hfit) q1 q3 hslot rfl rfl hdg fin
  · rw [if_pos hf] at hlay
    have hcf : m.cls = cf := by
      obtain ⟨_, _, c2, _, _, _, -, -, hf2, -, -, -, hown2, -⟩ := Cond.laysFinal_spec hlay
      have e1 : c2 = cf := by have := hi.symm.trans hf2; simp at this; exact this.1.symm
      rw [hdecl] at hown2
      rw [← e1]; exact Option.some.inj (hown.symm.trans hown2)
    exact W.putFinK hexec hb hown hlink (hsame _ hi) hst hcf hin2 (by rw [q2]; exact u_fits hfc hkC hkind (Or.inr hlay) hi hd hn hfit) q1 q3 hslot rfl rfl hdg fin
theorem xs_gf (hX : xX p R s m args meth c D dA y) (hK : xG p l e R s m args below meth c Q D dA B g A (xc_nl y) K r) {x : Nat} (hd : decode (xc_b y) pc = .ok (.getfield x, 3)) (h : xgf (fun t => K (pc + 3) lv t cn qn S) (xc_fld (xc_own y) x) S st = some r) : xW p l e R s m args below meth c Q D dA B g A (xc_nl y) pc lv st cn qn S := by
  obtain ⟨hx, hb, hml, hown, hts, hKK, -⟩ := hX
  unfold xgf at h
  split at h
  · next ci f a t ho =>
    split at h
    · next ht =>
      split at h
      · next hf =>
        obtain ⟨C, T, N, hc, hk, hlk⟩ := xh_fld ho
        obtain ⟨Y, z1, z2, z3, z4, z5, z6, z7, z8, z9, z10⟩ := xh_cls hc
        intro ls H locs hl hH hS hAd
        obtain ⟨ha, hat⟩ := hH.2 a _ ht
        have k1 := hK _ _ _ _ _ _ h ls H locs hl hH hS hAd
        rw [List.map_cons, xv_fv] at k1
        show W p l e R s m args below meth c H locs cn qn Q (F0 m pc ls (.ref (xad B g a) :: t.map (xv B g)))
        rw [xad_lt ha]
        exact va_get hx hb hts z5 hown hKK (xP1 hat) 0 rfl hc f hk (hts _ hlk) (fun q hq => by rw [z7 f hk] at hq; exact hq) (xfs_get _ _ _ _ hf) hd k1
      · cases h
    · cases h
  · cases h
theorem xpv_spec {t : Nat} {v : Value} {S S1 : xS} {a f : Nat} (h : xpv t v S a f = some S1) : xz S1 = xz S ∧ xt S1 = xt S ∧ (∀ b, b ≠ a → xi S1 b = xi S b ∧ xj S1 b = xj S b ∧ xr S1 b = xr S b) ∧ (∀ k, k ≠ f → xi S1 a k = xi S a k ∧ xj S1 a k = xj S a k ∧ xr S1 a k = xr S a k) ∧ xfv t (xi S1 a) (xj S1 a) (xr S1 a) f = v ∧ ((t = 0 ∧ ∃ x : Int32, v = .int x) ∨ (t = 3 ∧ ∃ x : Int32, v = .int x ∧ (x = 0 ∨ x = 1)) ∨ (t = 1 ∧ ∃ x : Int64, v = .long x) ∨ (t = 2 ∧ (v = .null ∨ ∃ b, v = .ref b))) := by
  unfold xpv at h
  split at h
  · next x =>
    split at h
    · next h0 => cases h; subst h0; refine ⟨rfl, rfl, fun b hb => ⟨x2_ne hb, rfl, rfl⟩, fun k hk => ⟨by simp [xsi, xi, x2, hk], rfl, rfl⟩, by simp [xfv, xsi, xi, x2], Or.inl ⟨rfl, x, rfl⟩⟩
    · split at h
      · next h3 =>
        split at h
        · next hx => cases h; subst h3; refine ⟨rfl, rfl, fun b hb => ⟨x2_ne hb, rfl, rfl⟩, fun k hk => ⟨by simp [xsi, xi, x2, hk], rfl, rfl⟩, by simp [xfv, xsi, xi, x2], Or.inr (Or.inl ⟨rfl, x, rfl, hx⟩)⟩
        · cases h
      · cases h
  · next x =>
    split at h
    · next h0 => cases h; subst h0; refine ⟨rfl, rfl, fun b hb => ⟨rfl, x2_ne hb, rfl⟩, fun k hk => ⟨rfl, by simp [xsj, xj, x2, hk], rfl⟩, by simp [xfv, xsj, xj, x2], Or.inr (Or.inr (Or.inl ⟨rfl, x, rfl⟩))⟩
    · cases h
  · next x =>
    split at h
    · next h0 => cases h; subst h0; refine ⟨rfl, rfl, fun b hb => ⟨rfl, rfl, x2_ne hb⟩, fun k hk => ⟨rfl, rfl, by simp [xsr, xr, x2, hk]⟩, by simp [xfv, xsr, xr, x2, va_rf], Or.inr (Or.inr (Or.inr ⟨rfl, Or.inr ⟨x, rfl⟩⟩))⟩
    · cases h
  · split at h
    · next h0 => cases h; subst h0; refine ⟨rfl, rfl, fun b hb => ⟨rfl, rfl, x2_ne hb⟩, fun k hk => ⟨rfl, rfl, by simp [xsr, xr, x2, hk]⟩, by simp [xfv, xsr, xr, x2, va_rf], Or.inr (Or.inr (Or.inr ⟨rfl, Or.inl rfl⟩))⟩
    · cases h
  · cases h
theorem xs_pf (hX : xX p R s m args meth c D dA y) (hK : xG p l e R s m args below meth c Q D dA B g A (xc_nl y) K r) {x : Nat} (hd : decode (xc_b y) pc = .ok (.putfield x, 3)) (h : xpf (fun t S => K (pc + 3) lv t cn qn S) (xc_fld (xc_own y) x) (xc_may y) S st = some r) : xW p l e R s m args below meth c Q D dA B g A (xc_nl y) pc lv st cn qn S := by
  obtain ⟨hx, hb, hml, hown, hts, hKK, -, -, hini, hy, -⟩ := hX
  unfold xpf at h
  split at h
  · next ci f v a t ho =>
    split at h
    · next ht =>
      split at h
      · next hf =>
        split at h
        · next hmay =>
          split at h
          · next S1 hS1 =>
            obtain ⟨C, T, N, hc, hk, hlk⟩ := xh_fld ho
            obtain ⟨Y, z1, z2, z3, z4, z5, z6, z7, z8, z9, z10⟩ := xh_cls hc
            obtain ⟨s1, s2, s3, s4, s5, s6⟩ := xpv_spec hS1
            intro ls H locs hl hH hS hAd
            obtain ⟨ha, hat⟩ := hH.2 a _ ht
            show W p l e R s m args below meth c H locs cn qn Q (F0 m pc ls (xv B g v :: .ref (xad B g a) :: t.map (xv B g)))
            rw [xad_lt ha]
            have hn : narrow (Y f) (xv B g v) = xv B g v ∧ fits (Y f) (xv B g v) = true := by
              have h10 := z10 f hk
              rcases s6 with ⟨t0, w, rfl⟩ | ⟨t0, w, rfl, hw⟩ | ⟨t0, w, rfl⟩ | ⟨t0, rfl | ⟨w, rfl⟩⟩ <;> simp only [t0, if_true, if_false, decide_eq_true_eq, Nat.reduceEqDiff, Bool.and_eq_true, decide_true, true_and] at h10
              · rw [h10]; exact ⟨rfl, rfl⟩
              · rw [h10]; rcases hw with rfl | rfl <;> exact ⟨rfl, rfl⟩
              · rw [h10]; exact ⟨rfl, rfl⟩
              · cases hYf : Y f <;> rw [hYf] at h10 <;> first | exact ⟨rfl, rfl⟩ | simp [FieldType.isReference] at h10
              · cases hYf : Y f <;> rw [hYf] at h10 <;> first | exact ⟨rfl, rfl⟩ | simp [FieldType.isReference] at h10
            have hfin : (T f).2.2.2 = false ∨ ((T f).2.2.2 = true ∧ meth.name = "<init>" ∧ (T f).1 = xc_on (xc_own y)) := by
              rw [z8 f hk]
              unfold xc_may at hmay
              simp only [Bool.or_eq_true, Bool.not_eq_true', Bool.and_eq_true, decide_eq_true_eq] at hmay
              rcases hmay with q | ⟨q1, q2⟩
              · exact Or.inl q
              · by_cases hf2 : (xc_fins.getD ci []).getD f true = true
                · exact Or.inr ⟨hf2, hini q1, by rw [z7 f hk, q2]; exact z2.symm⟩
                · exact Or.inl (by simpa using hf2)
            refine xput hx hb hts z5 Y z6 z9 hown hKK hat hc f hk (hts _ hlk) (fun q hq => by rw [z7 f hk] at hq; exact hq) hfin (z6 f hk) hn.1 hn.2 (by rw [xfs_len]; exact hf) hd (fun H1 fz e1 e2 e3 => ?_)
            refine hK _ _ _ _ _ _ h ls H1 _ hl (xH_put (n := a) hH s1 s2 s3 (fun t2 ht2 => ?_) e2 e3) (hS.put e2 e3 (hAd a (by rw [ht]; rfl))) (fun b hb => hAd b (by rw [← s2]; exact hb))
            rw [ht] at ht2
            cases ht2
            have e5 : (xfs (xc_fk ci) (xi S a) (xj S a) (fun k => (xr S a k).map (xad B g))).set f (xv B g v) = xfs (xc_fk ci) (xi S1 a) (xj S1 a) (fun k => (xr S1 a k).map (xad B g)) := by
              refine xfs_set _ hf ?_ (fun n hn => ?_)
              · rw [← xv_fv, s5]
              · obtain ⟨w1, w2, w3⟩ := s4 n hn
                exact ⟨w1, w2, by rw [w3]⟩
            rw [e5] at e1
            exact e1
          · cases h
        · cases h
      · cases h
    · cases h
  · cases h
end XH
