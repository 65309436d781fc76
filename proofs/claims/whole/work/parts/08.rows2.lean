-- THE EVALUATOR AND THE MACHINE, second part: the stack, branches, the heap
section XR2
variable {p : Program} {l : Launch} {e : Env} {R : Room} {s : State} {m : MethodId} {args : Array Value} {below : List Frame} {meth : Method} {c : Code} {Q : State → Prop} {D : va_G} {dA : Nat → ClassId} {B : Nat} {g : Nat → Nat} {A : Nat → Prop} {nL pc pc2 y : Nat} {lv : xL} {st : List Value} {cn qn : Nat} {S : xS} {K : xK} {r : xR}
theorem xs_tg {k : Nat → Option xR} {off : Int} (h : xtg k pc off = some r) : ∃ t : Nat, (pc : Int) + off = (t : Int) ∧ k t = some r := by
  unfold xtg at h
  split at h
  · cases h
  · next hn => exact ⟨_, by omega, h⟩
theorem xs_dup (hK : xG p l e R s m args below meth c Q D dA B g A nL K r) (row : ∀ (ls : Array Slot) (H : Heap) (locs : List Loc) (a : Value) (t : List Value), a.category = 1 → W p l e R s m args below meth c H locs cn qn Q (F0 m pc2 ls (a :: a :: t)) → W p l e R s m args below meth c H locs cn qn Q (F0 m pc ls (a :: t))) (h : xdup (fun t => K pc2 lv t cn qn S) st = some r) : xW p l e R s m args below meth c Q D dA B g A nL pc lv st cn qn S := by
  unfold xdup at h
  split at h
  · split at h
    · next hc => exact fun ls H locs hl hH hS hAd => row ls H locs _ _ ((xv_cat B g _).trans hc) (hK _ _ _ _ _ _ h ls H locs hl hH hS hAd)
    · cases h
  · cases h
theorem xs_pop (hK : xG p l e R s m args below meth c Q D dA B g A nL K r) (row : ∀ (ls : Array Slot) (H : Heap) (locs : List Loc) (a : Value) (t : List Value), a.category = 1 → W p l e R s m args below meth c H locs cn qn Q (F0 m pc2 ls t) → W p l e R s m args below meth c H locs cn qn Q (F0 m pc ls (a :: t))) (h : xpop (fun t => K pc2 lv t cn qn S) st = some r) : xW p l e R s m args below meth c Q D dA B g A nL pc lv st cn qn S := by
  unfold xpop at h
  split at h
  · split at h
    · next hc => exact fun ls H locs hl hH hS hAd => row ls H locs _ _ ((xv_cat B g _).trans hc) (hK _ _ _ _ _ _ h ls H locs hl hH hS hAd)
    · cases h
  · cases h
theorem xs_pop2 (hK : xG p l e R s m args below meth c Q D dA B g A nL K r) (row : ∀ (ls : Array Slot) (H : Heap) (locs : List Loc) (a : Value) (t : List Value), a.category = 2 → W p l e R s m args below meth c H locs cn qn Q (F0 m pc2 ls t) → W p l e R s m args below meth c H locs cn qn Q (F0 m pc ls (a :: t))) (h : xpop2 (fun t => K pc2 lv t cn qn S) st = some r) : xW p l e R s m args below meth c Q D dA B g A nL pc lv st cn qn S := by
  unfold xpop2 at h
  split at h
  · split at h
    · next hc => exact fun ls H locs hl hH hS hAd => row ls H locs _ _ ((xv_cat B g _).trans hc) (hK _ _ _ _ _ _ h ls H locs hl hH hS hAd)
    · cases h
  · cases h
theorem xs_dupx1 (hK : xG p l e R s m args below meth c Q D dA B g A nL K r) (row : ∀ (ls : Array Slot) (H : Heap) (locs : List Loc) (a b : Value) (t : List Value), a.category = 1 → b.category = 1 → W p l e R s m args below meth c H locs cn qn Q (F0 m pc2 ls (a :: b :: a :: t)) → W p l e R s m args below meth c H locs cn qn Q (F0 m pc ls (a :: b :: t))) (h : xdupx1 (fun t => K pc2 lv t cn qn S) st = some r) : xW p l e R s m args below meth c Q D dA B g A nL pc lv st cn qn S := by
  unfold xdupx1 at h
  split at h
  · split at h
    · next hc =>
      split at h
      · next hd => exact fun ls H locs hl hH hS hAd => row ls H locs _ _ _ ((xv_cat B g _).trans hc) ((xv_cat B g _).trans hd) (hK _ _ _ _ _ _ h ls H locs hl hH hS hAd)
      · cases h
    · cases h
  · cases h
theorem xs_dup2 (hK : xG p l e R s m args below meth c Q D dA B g A nL K r) (row : ∀ (ls : Array Slot) (H : Heap) (locs : List Loc) (a b : Value) (t : List Value), a.category = 1 → b.category = 1 → W p l e R s m args below meth c H locs cn qn Q (F0 m pc2 ls (a :: b :: a :: b :: t)) → W p l e R s m args below meth c H locs cn qn Q (F0 m pc ls (a :: b :: t))) (h : xdup2 (fun t => K pc2 lv t cn qn S) st = some r) : xW p l e R s m args below meth c Q D dA B g A nL pc lv st cn qn S := by
  unfold xdup2 at h
  split at h
  · split at h
    · next hc =>
      split at h
      · next hd => exact fun ls H locs hl hH hS hAd => row ls H locs _ _ _ ((xv_cat B g _).trans hc) ((xv_cat B g _).trans hd) (hK _ _ _ _ _ _ h ls H locs hl hH hS hAd)
      · cases h
    · cases h
  · cases h
theorem xs_dupx2 (hK : xG p l e R s m args below meth c Q D dA B g A nL K r) (row : ∀ (ls : Array Slot) (H : Heap) (locs : List Loc) (a b d : Value) (t : List Value), a.category = 1 → b.category = 1 → d.category = 1 → W p l e R s m args below meth c H locs cn qn Q (F0 m pc2 ls (a :: b :: d :: a :: t)) → W p l e R s m args below meth c H locs cn qn Q (F0 m pc ls (a :: b :: d :: t))) (h : xdupx2 (fun t => K pc2 lv t cn qn S) st = some r) : xW p l e R s m args below meth c Q D dA B g A nL pc lv st cn qn S := by
  unfold xdupx2 at h
  split at h
  · split at h
    · next hc =>
      split at h
      · next hd =>
        split at h
        · next he => exact fun ls H locs hl hH hS hAd => row ls H locs _ _ _ _ ((xv_cat B g _).trans hc) ((xv_cat B g _).trans hd) ((xv_cat B g _).trans he) (hK _ _ _ _ _ _ h ls H locs hl hH hS hAd)
        · cases h
      · cases h
    · cases h
  · cases h
theorem xs_if (hK : xG p l e R s m args below meth c Q D dA B g A nL K r) {d : Jvm.ClassFile.Cond} {off : Int} (row : ∀ (ls : Array Slot) (H : Heap) (locs : List Loc) (a : Int32) (t : List Value) (tgt : Nat), (pc : Int) + off = (tgt : Int) → (xcb d a 0 = true → W p l e R s m args below meth c H locs cn qn Q (F0 m tgt ls t)) → (¬ xcb d a 0 = true → W p l e R s m args below meth c H locs cn qn Q (F0 m (pc + 3) ls t)) → W p l e R s m args below meth c H locs cn qn Q (F0 m pc ls (.int a :: t))) (h : xif (fun t q => K t lv q cn qn S) d pc off st = some r) : xW p l e R s m args below meth c Q D dA B g A nL pc lv st cn qn S := by
  unfold xif at h
  split at h
  · split at h
    · cases h
    · next hn =>
      split at h
      · next hc => exact fun ls H locs hl hH hS hAd => row ls H locs _ _ ((pc : Int) + off).toNat (by omega) (fun _ => hK _ _ _ _ _ _ h ls H locs hl hH hS hAd) (fun q => absurd hc q)
      · next hc => exact fun ls H locs hl hH hS hAd => row ls H locs _ _ ((pc : Int) + off).toNat (by omega) (fun q => absurd q hc) (fun _ => hK _ _ _ _ _ _ h ls H locs hl hH hS hAd)
  · cases h
theorem xs_ic (hK : xG p l e R s m args below meth c Q D dA B g A nL K r) {d : Jvm.ClassFile.Cond} {off : Int} (row : ∀ (ls : Array Slot) (H : Heap) (locs : List Loc) (a b : Int32) (t : List Value) (tgt : Nat), (pc : Int) + off = (tgt : Int) → (xcb d a b = true → W p l e R s m args below meth c H locs cn qn Q (F0 m tgt ls t)) → (¬ xcb d a b = true → W p l e R s m args below meth c H locs cn qn Q (F0 m (pc + 3) ls t)) → W p l e R s m args below meth c H locs cn qn Q (F0 m pc ls (.int b :: .int a :: t))) (h : xic (fun t q => K t lv q cn qn S) d pc off st = some r) : xW p l e R s m args below meth c Q D dA B g A nL pc lv st cn qn S := by
  unfold xic at h
  split at h
  · split at h
    · cases h
    · next hn =>
      split at h
      · next hc => exact fun ls H locs hl hH hS hAd => row ls H locs _ _ _ ((pc : Int) + off).toNat (by omega) (fun _ => hK _ _ _ _ _ _ h ls H locs hl hH hS hAd) (fun q => absurd hc q)
      · next hc => exact fun ls H locs hl hH hS hAd => row ls H locs _ _ _ ((pc : Int) + off).toNat (by omega) (fun q => absurd q hc) (fun _ => hK _ _ _ _ _ _ h ls H locs hl hH hS hAd)
  · cases h
theorem xs_goto (hK : xG p l e R s m args below meth c Q D dA B g A nL K r) {off : Int} (row : ∀ (ls : Array Slot) (H : Heap) (locs : List Loc) (t : List Value) (tgt : Nat), (pc : Int) + off = (tgt : Int) → W p l e R s m args below meth c H locs cn qn Q (F0 m tgt ls t) → W p l e R s m args below meth c H locs cn qn Q (F0 m pc ls t)) (h : xtg (fun t => K t lv st cn qn S) pc off = some r) : xW p l e R s m args below meth c Q D dA B g A nL pc lv st cn qn S := by
  obtain ⟨t, ht, hk⟩ := xs_tg h
  exact fun ls H locs hl hH hS hAd => row ls H locs _ t ht (hK _ _ _ _ _ _ hk ls H locs hl hH hS hAd)
theorem xs_tsw (hK : xG p l e R s m args below meth c Q D dA B g A nL K r) {dflt lo hi : Int} {offs : Array Int} (row1 : ∀ (ls : Array Slot) (H : Heap) (locs : List Loc) (x : Int32) (t : List Value) (tgt : Nat), x.toInt < lo ∨ hi < x.toInt → (pc : Int) + dflt = (tgt : Int) → W p l e R s m args below meth c H locs cn qn Q (F0 m tgt ls t) → W p l e R s m args below meth c H locs cn qn Q (F0 m pc ls (.int x :: t))) (row2 : ∀ (ls : Array Slot) (H : Heap) (locs : List Loc) (x : Int32) (t : List Value) (tgt : Nat) (off : Int), ¬ x.toInt < lo → ¬ hi < x.toInt → offs[(x.toInt - lo).toNat]? = some off → (pc : Int) + off = (tgt : Int) → W p l e R s m args below meth c H locs cn qn Q (F0 m tgt ls t) → W p l e R s m args below meth c H locs cn qn Q (F0 m pc ls (.int x :: t))) (h : xtsw (fun t q => K t lv q cn qn S) pc dflt lo hi offs st = some r) : xW p l e R s m args below meth c Q D dA B g A nL pc lv st cn qn S := by
  unfold xtsw at h
  split at h
  · split at h
    · next hc =>
      obtain ⟨t, ht, hk⟩ := xs_tg h
      exact fun ls H locs hl hH hS hAd => row1 ls H locs _ _ t hc ht (hK _ _ _ _ _ _ hk ls H locs hl hH hS hAd)
    · next hc =>
      split at h
      · next off ho =>
        obtain ⟨t, ht, hk⟩ := xs_tg h
        exact fun ls H locs hl hH hS hAd => row2 ls H locs _ _ t off (fun q => hc (Or.inl q)) (fun q => hc (Or.inr q)) ho ht (hK _ _ _ _ _ _ hk ls H locs hl hH hS hAd)
      · cases h
  · cases h
theorem xs_lsw (hK : xG p l e R s m args below meth c Q D dA B g A nL K r) {dflt : Int} {ps : Array (Int × Int)} (row : ∀ (ls : Array Slot) (H : Heap) (locs : List Loc) (x : Int32) (t : List Value) (tgt : Nat), (ps.toList.zip (ps.toList.drop 1)).all (fun (a, next) => a.1 < next.1) = true → (pc : Int) + Op.lookupswitch.offset ps.toList dflt x.toInt = (tgt : Int) → W p l e R s m args below meth c H locs cn qn Q (F0 m tgt ls t) → W p l e R s m args below meth c H locs cn qn Q (F0 m pc ls (.int x :: t))) (h : xlsw (fun t q => K t lv q cn qn S) pc dflt ps st = some r) : xW p l e R s m args below meth c Q D dA B g A nL pc lv st cn qn S := by
  unfold xlsw at h
  split at h
  · split at h
    · next hc =>
      obtain ⟨t, ht, hk⟩ := xs_tg h
      exact fun ls H locs hl hH hS hAd => row ls H locs _ _ t hc ht (hK _ _ _ _ _ _ hk ls H locs hl hH hS hAd)
    · cases h
  · cases h
theorem xs_nul (hK : xG p l e R s m args below meth c Q D dA B g A nL K r) {off : Int} (row1 : ∀ (ls : Array Slot) (H : Heap) (locs : List Loc) (t : List Value) (tgt : Nat), (pc : Int) + off = (tgt : Int) → W p l e R s m args below meth c H locs cn qn Q (F0 m tgt ls t) → W p l e R s m args below meth c H locs cn qn Q (F0 m pc ls (.null :: t))) (row2 : ∀ (ls : Array Slot) (H : Heap) (locs : List Loc) (x : Nat) (t : List Value), W p l e R s m args below meth c H locs cn qn Q (F0 m (pc + 3) ls t) → W p l e R s m args below meth c H locs cn qn Q (F0 m pc ls (.ref x :: t))) (h : xnul (fun t q => K t lv q cn qn S) pc off st = some r) : xW p l e R s m args below meth c Q D dA B g A nL pc lv st cn qn S := by
  unfold xnul at h
  split at h
  · obtain ⟨t, ht, hk⟩ := xs_tg h
    exact fun ls H locs hl hH hS hAd => row1 ls H locs _ t ht (hK _ _ _ _ _ _ hk ls H locs hl hH hS hAd)
  · exact fun ls H locs hl hH hS hAd => row2 ls H locs _ _ (hK _ _ _ _ _ _ h ls H locs hl hH hS hAd)
  · cases h
theorem xs_nnl (hK : xG p l e R s m args below meth c Q D dA B g A nL K r) {off : Int} (row1 : ∀ (ls : Array Slot) (H : Heap) (locs : List Loc) (t : List Value), W p l e R s m args below meth c H locs cn qn Q (F0 m (pc + 3) ls t) → W p l e R s m args below meth c H locs cn qn Q (F0 m pc ls (.null :: t))) (row2 : ∀ (ls : Array Slot) (H : Heap) (locs : List Loc) (x : Nat) (t : List Value) (tgt : Nat), (pc : Int) + off = (tgt : Int) → W p l e R s m args below meth c H locs cn qn Q (F0 m tgt ls t) → W p l e R s m args below meth c H locs cn qn Q (F0 m pc ls (.ref x :: t))) (h : xnnl (fun t q => K t lv q cn qn S) pc off st = some r) : xW p l e R s m args below meth c Q D dA B g A nL pc lv st cn qn S := by
  unfold xnnl at h
  split at h
  · exact fun ls H locs hl hH hS hAd => row1 ls H locs _ (hK _ _ _ _ _ _ h ls H locs hl hH hS hAd)
  · obtain ⟨t, ht, hk⟩ := xs_tg h
    exact fun ls H locs hl hH hS hAd => row2 ls H locs _ _ t ht (hK _ _ _ _ _ _ hk ls H locs hl hH hS hAd)
  · cases h
end XR2
