-- THE EVALUATOR AND THE MACHINE, first part: what holds where, and one row an instruction
/-- the heap holds the flat memory, from the address B on -/
def xH (D : va_G) (dA : Nat → ClassId) (B : Nat) (g : Nat → Nat) (S : xS) (H : Heap) : Prop := H.size = B + xz S ∧ ∀ (a : Nat) (t : xT), xt S a = some t → a < 1000000 ∧ va_at D xc_cl (B + a, xcell xc_fk dA t (xi S a) (xj S a) (fun k => (xr S a k).map (xad B g))) H
/-- what is the same all through an invocation of method y -/
def xX (p : Program) (R : Room) (s : State) (m : MethodId) (args : Array Value) (meth : Method) (c : Code) (D : va_G) (dA : Nat → ClassId) (y : Nat) : Prop :=
  p.tables.exec = Jvm.exec ∧ c.code = xc_b y ∧ c.maxLocals = xc_nl y ∧ s.vm.findClass (xc_on (xc_own y)) = some m.cls ∧ (∀ w ∈ xc_tbl, w.before args s = true) ∧ va_K D xc_cl (xc_tys dA) s ∧ meth.sig.returnType = xc_rt y ∧ meth.locks = false ∧ (xc_kind y = 2 → meth.name = "<init>") ∧ y < 187 ∧ (xc_lev y ≤ R.frames ∧ 40 * xc_lev y ≤ R.locals ∧ R.cells = xc_mc y ∧ R.slots = xc_ms y)
/-- from this point of the evaluator the machine comes to Q -/
def xW (p : Program) (l : Launch) (e : Env) (R : Room) (s : State) (m : MethodId) (args : Array Value) (below : List Frame) (meth : Method) (c : Code) (Q : State → Prop) (D : va_G) (dA : Nat → ClassId) (B : Nat) (g : Nat → Nat) (A : Nat → Prop) (nL pc : Nat) (lv : xL) (st : List Value) (cn qn : Nat) (S : xS) : Prop :=
  ∀ (ls : Array Slot) (H : Heap) (locs : List Loc), lv_has ls nL (lv.map (fun q => (q.1, xv B g q.2))) → xH D dA B g S H → va_S A s.heap H locs → (∀ a, (xt S a).isSome = true → A (B + a)) → W p l e R s m args below meth c H locs cn qn Q (F0 m pc ls (st.map (xv B g)))
theorem xP1 {D : va_G} {cl : List vw_C} {a : Nat} {e : va_E} {H : Heap} (h : va_at D cl (a, e) H) : va_P D cl [(a, e)] H := by
  intro k q hk
  match k, hk with
  | 0, hk => cases hk; exact h
  | k + 1, hk => simp at hk
theorem xfs_len (L : List Nat) (i : Nat → Int32) (j : Nat → Int64) (r : Nat → Option Nat) : (xfs L i j r).length = L.length := by simp [xfs]
theorem xfs_get (L : List Nat) (i : Nat → Int32) (j : Nat → Int64) (r : Nat → Option Nat) {k : Nat} (h : k < L.length) : (xfs L i j r)[k]? = some (xfv (L.getD k 0) i j r k) := by
  simp [xfs, h]
theorem xfs_set (L : List Nat) {i i2 : Nat → Int32} {j j2 : Nat → Int64} {r r2 : Nat → Option Nat} {k : Nat} {v : Value} (h : k < L.length) (hv : xfv (L.getD k 0) i2 j2 r2 k = v) (ho : ∀ n, n ≠ k → i2 n = i n ∧ j2 n = j n ∧ r2 n = r n) : (xfs L i j r).set k v = xfs L i2 j2 r2 := by
  apply List.ext_getElem?
  intro n
  by_cases hn : n = k
  · subst hn
    rw [List.getElem?_set_self (by rw [xfs_len]; exact h), xfs_get L i2 j2 r2 h, hv]
  · rw [List.getElem?_set_ne (fun q => hn q.symm)]
    by_cases hl : n < L.length
    · rw [xfs_get L i j r hl, xfs_get L i2 j2 r2 hl]
      obtain ⟨e1, e2, e3⟩ := ho n hn
      simp only [xfv, e1, e2, e3]
    · rw [List.getElem?_eq_none (by rw [xfs_len]; omega), List.getElem?_eq_none (by rw [xfs_len]; omega)]
theorem x2_ne {α : Type} {f : Nat → Nat → α} {a k b : Nat} {v : α} (h : b ≠ a) : x2 f a k v b = f b := by
  funext j; simp [x2, h]
theorem x2_self {α : Type} (f : Nat → Nat → α) (a k : Nat) (v : α) : x2 f a k v a = va_up (f a) k v := by
  funext j; simp [x2, va_up]
theorem xv_cat (B : Nat) (g : Nat → Nat) (v : Value) : (xv B g v).category = v.category := by cases v <;> rfl
theorem xv_rf (B : Nat) (g : Nat → Nat) (r : Option Nat) : xv B g (va_rf r) = va_rf (r.map (xad B g)) := by cases r <;> rfl
theorem xv_fv (B : Nat) (g : Nat → Nat) (t : Nat) (i : Nat → Int32) (j : Nat → Int64) (r : Nat → Option Nat) (k : Nat) : xv B g (xfv t i j r k) = xfv t i j (fun k => (r k).map (xad B g)) k := by
  unfold xfv
  by_cases h1 : t = 1
  · simp [h1, xv]
  · by_cases h2 : t = 2
    · simp [h2, xv_rf]
    · simp [h1, h2, xv]
theorem xad_lt {B : Nat} {g : Nat → Nat} {a : Nat} (h : a < 1000000) : xad B g a = B + a := by simp [xad, h]
theorem xst1_map (B : Nat) (g : Nat → Nat) (lv : xL) (i : Nat) (v : Value) : (i, xv B g v) :: (lv.map (fun q => (q.1, xv B g q.2))).filter (fun q => !(q.1 == i) && !(q.1 + 1 == i && q.2.category == 2)) = (xst1 lv i v).map (fun q => (q.1, xv B g q.2)) := by
  unfold xst1
  rw [List.map_cons, List.filter_map]
  congr 2
  apply List.filter_congr
  intro q _
  simp [xv_cat]
theorem xst2_map (B : Nat) (g : Nat → Nat) (lv : xL) (i : Nat) (v : Value) : (i, xv B g v) :: (lv.map (fun q => (q.1, xv B g q.2))).filter (fun q => !(q.1 == i) && (!(q.1 == i + 1) && !(q.1 + 1 == i && q.2.category == 2))) = (xst2 lv i v).map (fun q => (q.1, xv B g q.2)) := by
  unfold xst2
  rw [List.map_cons, List.filter_map]
  congr 2
  apply List.filter_congr
  intro q _
  simp [xv_cat]
theorem xld_mem {lv : xL} {i : Nat} {v : Value} (h : xld lv i = some v) : (i, v) ∈ lv := by
  unfold xld at h
  obtain ⟨e, he, hv⟩ := Option.map_eq_some_iff.mp h
  have h1 := List.mem_of_find?_eq_some he
  have h2 : e.1 = i := by simpa using List.find?_some he
  rw [← h2, ← hv]
  exact h1
theorem xld_at {lv : xL} {i nL : Nat} {v : Value} {B : Nat} {g : Nat → Nat} {ls : Array Slot} (h : xld lv i = some v) (hl : lv_has ls nL (lv.map (fun q => (q.1, xv B g q.2)))) : ls[i]? = some (.val (xv B g v)) :=
  hl.2.2 (i, xv B g v) (List.mem_map.mpr ⟨(i, v), xld_mem h, rfl⟩)
section XR
variable {p : Program} {l : Launch} {e : Env} {R : Room} {s : State} {m : MethodId} {args : Array Value} {below : List Frame} {meth : Method} {c : Code} {Q : State → Prop} {D : va_G} {dA : Nat → ClassId} {B : Nat} {g : Nat → Nat} {A : Nat → Prop} {nL pc pc2 : Nat} {lv : xL} {st : List Value} {cn qn : Nat} {S : xS} {K : xK} {r : xR}
/-- the goal of all that follows: what K comes to, the machine comes to -/
def xG (p : Program) (l : Launch) (e : Env) (R : Room) (s : State) (m : MethodId) (args : Array Value) (below : List Frame) (meth : Method) (c : Code) (Q : State → Prop) (D : va_G) (dA : Nat → ClassId) (B : Nat) (g : Nat → Nat) (A : Nat → Prop) (nL : Nat) (K : xK) (r : xR) : Prop :=
  ∀ (pc : Nat) (lv : xL) (st : List Value) (cn qn : Nat) (S : xS), K pc lv st cn qn S = some r → xW p l e R s m args below meth c Q D dA B g A nL pc lv st cn qn S
theorem xs_bI (hK : xG p l e R s m args below meth c Q D dA B g A nL K r) {f : Int32 → Int32 → Int32} (row : ∀ (ls : Array Slot) (H : Heap) (locs : List Loc) (a b : Int32) (t : List Value), W p l e R s m args below meth c H locs cn qn Q (F0 m pc2 ls (.int (f a b) :: t)) → W p l e R s m args below meth c H locs cn qn Q (F0 m pc ls (.int b :: .int a :: t))) (h : xbI (fun t => K pc2 lv t cn qn S) f st = some r) : xW p l e R s m args below meth c Q D dA B g A nL pc lv st cn qn S := by
  unfold xbI at h
  split at h
  · intro ls H locs hl hH hS hAd
    exact row ls H locs _ _ _ (hK _ _ _ _ _ _ h ls H locs hl hH hS hAd)
  · cases h
theorem xs_bD (hK : xG p l e R s m args below meth c Q D dA B g A nL K r) {f : Int32 → Int32 → Int32} (row : ∀ (ls : Array Slot) (H : Heap) (locs : List Loc) (a b : Int32) (t : List Value), ¬ b = 0 → W p l e R s m args below meth c H locs cn qn Q (F0 m pc2 ls (.int (f a b) :: t)) → W p l e R s m args below meth c H locs cn qn Q (F0 m pc ls (.int b :: .int a :: t))) (h : xbD (fun t => K pc2 lv t cn qn S) f st = some r) : xW p l e R s m args below meth c Q D dA B g A nL pc lv st cn qn S := by
  unfold xbD at h
  split at h
  · split at h
    · cases h
    · next hne => exact fun ls H locs hl hH hS hAd => row ls H locs _ _ _ hne (hK _ _ _ _ _ _ h ls H locs hl hH hS hAd)
  · cases h
theorem xs_bL (hK : xG p l e R s m args below meth c Q D dA B g A nL K r) {f : Int64 → Int64 → Int64} (row : ∀ (ls : Array Slot) (H : Heap) (locs : List Loc) (a b : Int64) (t : List Value), W p l e R s m args below meth c H locs cn qn Q (F0 m pc2 ls (.long (f a b) :: t)) → W p l e R s m args below meth c H locs cn qn Q (F0 m pc ls (.long b :: .long a :: t))) (h : xbL (fun t => K pc2 lv t cn qn S) f st = some r) : xW p l e R s m args below meth c Q D dA B g A nL pc lv st cn qn S := by
  unfold xbL at h
  split at h
  · intro ls H locs hl hH hS hAd
    exact row ls H locs _ _ _ (hK _ _ _ _ _ _ h ls H locs hl hH hS hAd)
  · cases h
theorem xs_bE (hK : xG p l e R s m args below meth c Q D dA B g A nL K r) {f : Int64 → Int64 → Int64} (row : ∀ (ls : Array Slot) (H : Heap) (locs : List Loc) (a b : Int64) (t : List Value), ¬ b = 0 → W p l e R s m args below meth c H locs cn qn Q (F0 m pc2 ls (.long (f a b) :: t)) → W p l e R s m args below meth c H locs cn qn Q (F0 m pc ls (.long b :: .long a :: t))) (h : xbE (fun t => K pc2 lv t cn qn S) f st = some r) : xW p l e R s m args below meth c Q D dA B g A nL pc lv st cn qn S := by
  unfold xbE at h
  split at h
  · split at h
    · cases h
    · next hne => exact fun ls H locs hl hH hS hAd => row ls H locs _ _ _ hne (hK _ _ _ _ _ _ h ls H locs hl hH hS hAd)
  · cases h
theorem xs_bS (hK : xG p l e R s m args below meth c Q D dA B g A nL K r) {f : Int64 → Int32 → Int64} (row : ∀ (ls : Array Slot) (H : Heap) (locs : List Loc) (a : Int64) (b : Int32) (t : List Value), W p l e R s m args below meth c H locs cn qn Q (F0 m pc2 ls (.long (f a b) :: t)) → W p l e R s m args below meth c H locs cn qn Q (F0 m pc ls (.int b :: .long a :: t))) (h : xbS (fun t => K pc2 lv t cn qn S) f st = some r) : xW p l e R s m args below meth c Q D dA B g A nL pc lv st cn qn S := by
  unfold xbS at h
  split at h
  · intro ls H locs hl hH hS hAd
    exact row ls H locs _ _ _ (hK _ _ _ _ _ _ h ls H locs hl hH hS hAd)
  · cases h
theorem xs_bC (hK : xG p l e R s m args below meth c Q D dA B g A nL K r) (row : ∀ (ls : Array Slot) (H : Heap) (locs : List Loc) (a b : Int64) (t : List Value), W p l e R s m args below meth c H locs cn qn Q (F0 m pc2 ls (.int (lg_cmp a b) :: t)) → W p l e R s m args below meth c H locs cn qn Q (F0 m pc ls (.long b :: .long a :: t))) (h : xbC (fun t => K pc2 lv t cn qn S) st = some r) : xW p l e R s m args below meth c Q D dA B g A nL pc lv st cn qn S := by
  unfold xbC at h
  split at h
  · intro ls H locs hl hH hS hAd
    exact row ls H locs _ _ _ (hK _ _ _ _ _ _ h ls H locs hl hH hS hAd)
  · cases h
theorem xs_uI (hK : xG p l e R s m args below meth c Q D dA B g A nL K r) {f : Int32 → Value} (hf : ∀ a, xv B g (f a) = f a) (row : ∀ (ls : Array Slot) (H : Heap) (locs : List Loc) (a : Int32) (t : List Value), W p l e R s m args below meth c H locs cn qn Q (F0 m pc2 ls (f a :: t)) → W p l e R s m args below meth c H locs cn qn Q (F0 m pc ls (.int a :: t))) (h : xuI (fun t => K pc2 lv t cn qn S) f st = some r) : xW p l e R s m args below meth c Q D dA B g A nL pc lv st cn qn S := by
  unfold xuI at h
  split at h
  · intro ls H locs hl hH hS hAd
    have := hK _ _ _ _ _ _ h ls H locs hl hH hS hAd
    rw [List.map_cons, hf] at this
    exact row ls H locs _ _ this
  · cases h
theorem xs_uL (hK : xG p l e R s m args below meth c Q D dA B g A nL K r) {f : Int64 → Value} (hf : ∀ a, xv B g (f a) = f a) (row : ∀ (ls : Array Slot) (H : Heap) (locs : List Loc) (a : Int64) (t : List Value), W p l e R s m args below meth c H locs cn qn Q (F0 m pc2 ls (f a :: t)) → W p l e R s m args below meth c H locs cn qn Q (F0 m pc ls (.long a :: t))) (h : xuL (fun t => K pc2 lv t cn qn S) f st = some r) : xW p l e R s m args below meth c Q D dA B g A nL pc lv st cn qn S := by
  unfold xuL at h
  split at h
  · intro ls H locs hl hH hS hAd
    have := hK _ _ _ _ _ _ h ls H locs hl hH hS hAd
    rw [List.map_cons, hf] at this
    exact row ls H locs _ _ this
  · cases h
/-- a value comes onto the stack -/
theorem xs_push (hK : xG p l e R s m args below meth c Q D dA B g A nL K r) {v : Value} (hv : xv B g v = v) (row : ∀ (ls : Array Slot) (H : Heap) (locs : List Loc) (t : List Value), W p l e R s m args below meth c H locs cn qn Q (F0 m pc2 ls (v :: t)) → W p l e R s m args below meth c H locs cn qn Q (F0 m pc ls t)) (h : K pc2 lv (v :: st) cn qn S = some r) : xW p l e R s m args below meth c Q D dA B g A nL pc lv st cn qn S := by
  intro ls H locs hl hH hS hAd
  have := hK _ _ _ _ _ _ h ls H locs hl hH hS hAd
  rw [List.map_cons, hv] at this
  exact row ls H locs _ this
theorem xs_ldI (hK : xG p l e R s m args below meth c Q D dA B g A nL K r) {i : Nat} (row : ∀ (ls : Array Slot) (H : Heap) (locs : List Loc) (x : Int32) (t : List Value), ls[i]? = some (.val (.int x)) → W p l e R s m args below meth c H locs cn qn Q (F0 m pc2 ls (.int x :: t)) → W p l e R s m args below meth c H locs cn qn Q (F0 m pc ls t)) (h : xldI (fun v => K pc2 lv (v :: st) cn qn S) lv i = some r) : xW p l e R s m args below meth c Q D dA B g A nL pc lv st cn qn S := by
  unfold xldI at h
  split at h
  · next hx => exact fun ls H locs hl hH hS hAd => row ls H locs _ _ (xld_at hx hl) (hK _ _ _ _ _ _ h ls H locs hl hH hS hAd)
  · cases h
theorem xs_ldL (hK : xG p l e R s m args below meth c Q D dA B g A nL K r) {i : Nat} (row : ∀ (ls : Array Slot) (H : Heap) (locs : List Loc) (x : Int64) (t : List Value), ls[i]? = some (.val (.long x)) → W p l e R s m args below meth c H locs cn qn Q (F0 m pc2 ls (.long x :: t)) → W p l e R s m args below meth c H locs cn qn Q (F0 m pc ls t)) (h : xldL (fun v => K pc2 lv (v :: st) cn qn S) lv i = some r) : xW p l e R s m args below meth c Q D dA B g A nL pc lv st cn qn S := by
  unfold xldL at h
  split at h
  · next hx => exact fun ls H locs hl hH hS hAd => row ls H locs _ _ (xld_at hx hl) (hK _ _ _ _ _ _ h ls H locs hl hH hS hAd)
  · cases h
theorem xs_ldA (hK : xG p l e R s m args below meth c Q D dA B g A nL K r) {i : Nat} (row : ∀ (ls : Array Slot) (H : Heap) (locs : List Loc) (x : Nat) (t : List Value), ls[i]? = some (.val (.ref x)) → W p l e R s m args below meth c H locs cn qn Q (F0 m pc2 ls (.ref x :: t)) → W p l e R s m args below meth c H locs cn qn Q (F0 m pc ls t)) (row0 : ∀ (ls : Array Slot) (H : Heap) (locs : List Loc) (t : List Value), ls[i]? = some (.val .null) → W p l e R s m args below meth c H locs cn qn Q (F0 m pc2 ls (.null :: t)) → W p l e R s m args below meth c H locs cn qn Q (F0 m pc ls t)) (h : xldA (fun v => K pc2 lv (v :: st) cn qn S) lv i = some r) : xW p l e R s m args below meth c Q D dA B g A nL pc lv st cn qn S := by
  unfold xldA at h
  split at h
  · next hx => exact fun ls H locs hl hH hS hAd => row ls H locs _ _ (xld_at hx hl) (hK _ _ _ _ _ _ h ls H locs hl hH hS hAd)
  · next hx => exact fun ls H locs hl hH hS hAd => row0 ls H locs _ (xld_at hx hl) (hK _ _ _ _ _ _ h ls H locs hl hH hS hAd)
  · cases h
theorem xs_stI (hK : xG p l e R s m args below meth c Q D dA B g A nL K r) {i : Nat} (row : ∀ (ls : Array Slot) (H : Heap) (locs : List Loc) (x : Int32) (t : List Value) (lv1 lv2 : xL), lv_has ls nL lv1 → i < nL → (i, Value.int x) :: lv1.filter (fun q => !(q.1 == i) && !(q.1 + 1 == i && q.2.category == 2)) = lv2 → (∀ ls2 : Array Slot, lv_has ls2 nL lv2 → W p l e R s m args below meth c H locs cn qn Q (F0 m pc2 ls2 t)) → W p l e R s m args below meth c H locs cn qn Q (F0 m pc ls (.int x :: t))) (h : xstI (fun lv t => K pc2 lv t cn qn S) lv i nL st = some r) : xW p l e R s m args below meth c Q D dA B g A nL pc lv st cn qn S := by
  unfold xstI at h
  split at h
  · next x t =>
    split at h
    · next hi => exact fun ls H locs hl hH hS hAd => row ls H locs _ _ _ _ hl hi (xst1_map B g lv i (.int x)) (fun ls2 hl2 => hK _ _ _ _ _ _ h ls2 H locs hl2 hH hS hAd)
    · cases h
  · cases h
theorem xs_stL (hK : xG p l e R s m args below meth c Q D dA B g A nL K r) {i : Nat} (row : ∀ (ls : Array Slot) (H : Heap) (locs : List Loc) (x : Int64) (t : List Value) (lv1 lv2 : xL), lv_has ls nL lv1 → i + 1 < nL → (i, Value.long x) :: lv1.filter (fun q => !(q.1 == i) && (!(q.1 == i + 1) && !(q.1 + 1 == i && q.2.category == 2))) = lv2 → (∀ ls2 : Array Slot, lv_has ls2 nL lv2 → W p l e R s m args below meth c H locs cn qn Q (F0 m pc2 ls2 t)) → W p l e R s m args below meth c H locs cn qn Q (F0 m pc ls (.long x :: t))) (h : xstL (fun lv t => K pc2 lv t cn qn S) lv i nL st = some r) : xW p l e R s m args below meth c Q D dA B g A nL pc lv st cn qn S := by
  unfold xstL at h
  split at h
  · next x t =>
    split at h
    · next hi => exact fun ls H locs hl hH hS hAd => row ls H locs _ _ _ _ hl hi (xst2_map B g lv i (.long x)) (fun ls2 hl2 => hK _ _ _ _ _ _ h ls2 H locs hl2 hH hS hAd)
    · cases h
  · cases h
theorem xs_stA (hK : xG p l e R s m args below meth c Q D dA B g A nL K r) {i : Nat} (row : ∀ (ls : Array Slot) (H : Heap) (locs : List Loc) (x : Nat) (t : List Value) (lv1 lv2 : xL), lv_has ls nL lv1 → i < nL → (i, Value.ref x) :: lv1.filter (fun q => !(q.1 == i) && !(q.1 + 1 == i && q.2.category == 2)) = lv2 → (∀ ls2 : Array Slot, lv_has ls2 nL lv2 → W p l e R s m args below meth c H locs cn qn Q (F0 m pc2 ls2 t)) → W p l e R s m args below meth c H locs cn qn Q (F0 m pc ls (.ref x :: t))) (row0 : ∀ (ls : Array Slot) (H : Heap) (locs : List Loc) (t : List Value) (lv1 lv2 : xL), lv_has ls nL lv1 → i < nL → (i, Value.null) :: lv1.filter (fun q => !(q.1 == i) && !(q.1 + 1 == i && q.2.category == 2)) = lv2 → (∀ ls2 : Array Slot, lv_has ls2 nL lv2 → W p l e R s m args below meth c H locs cn qn Q (F0 m pc2 ls2 t)) → W p l e R s m args below meth c H locs cn qn Q (F0 m pc ls (.null :: t))) (h : xstA (fun lv t => K pc2 lv t cn qn S) lv i nL st = some r) : xW p l e R s m args below meth c Q D dA B g A nL pc lv st cn qn S := by
  unfold xstA at h
  split at h
  · next x t =>
    split at h
    · next hi => exact fun ls H locs hl hH hS hAd => row ls H locs _ _ _ _ hl hi (xst1_map B g lv i (.ref x)) (fun ls2 hl2 => hK _ _ _ _ _ _ h ls2 H locs hl2 hH hS hAd)
    · cases h
  · split at h
    · next hi => exact fun ls H locs hl hH hS hAd => row0 ls H locs _ _ _ hl hi (xst1_map B g lv i .null) (fun ls2 hl2 => hK _ _ _ _ _ _ h ls2 H locs hl2 hH hS hAd)
    · cases h
  · cases h
theorem xs_inc (hK : xG p l e R s m args below meth c Q D dA B g A nL K r) {i : Nat} {n : Int} (row : ∀ (ls : Array Slot) (H : Heap) (locs : List Loc) (x : Int32) (t : List Value) (k : Nat) (lv1 lv2 : xL), lv_has ls nL lv1 → lv1[k]? = some (i, .int x) → i < nL → (i, Value.int (x + Int32.ofInt n)) :: lv1.filter (fun q => !(q.1 == i) && !(q.1 + 1 == i && q.2.category == 2)) = lv2 → (∀ ls2 : Array Slot, lv_has ls2 nL lv2 → W p l e R s m args below meth c H locs cn qn Q (F0 m pc2 ls2 t)) → W p l e R s m args below meth c H locs cn qn Q (F0 m pc ls t)) (h : xinc (fun lv => K pc2 lv st cn qn S) lv i nL n = some r) : xW p l e R s m args below meth c Q D dA B g A nL pc lv st cn qn S := by
  unfold xinc at h
  split at h
  · next x hx =>
    split at h
    · next hi =>
      intro ls H locs hl hH hS hAd
      obtain ⟨k, hk⟩ := List.getElem?_of_mem (show (i, Value.int x) ∈ lv.map (fun q => (q.1, xv B g q.2)) from List.mem_map.mpr ⟨(i, .int x), xld_mem hx, rfl⟩)
      exact row ls H locs x _ k _ _ hl hk hi (xst1_map B g lv i (.int (x + Int32.ofInt n))) (fun ls2 hl2 => hK _ _ _ _ _ _ h ls2 H locs hl2 hH hS hAd)
    · cases h
  · cases h
end XR
