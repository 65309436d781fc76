-- load: the class's reader, objects and the whole
theorem xp_pfa {y pc : Nat} {lv : xL} {st : List Value} {c q z : Nat} {T : Nat → Option xT} {R : Nat → Nat → Option Nat} {A : xQ} {P : xR → Prop} {x ci f a b : Nat} (hc : xc_code y pc = some (.putfield x)) (hf : xc_fld (xc_own y) x = some (ci, f)) (hk : f < (xc_fk ci).length) (hm : xc_may y ci f = true) (hs : (xc_fk ci).getD f 0 = 2) (ht : T a = some (.inl ci)) (h : xP y (pc + 3) lv st c q (xm z T (x2 R a f (some b)) A) P) : xP y pc lv (.ref b :: .ref a :: st) c q (xm z T R A) P := by
  obtain ⟨r, h1, h2⟩ := h
  exact ⟨r, xe_pf hc hf hk hm ht (by rw [hs]; simp only [xpv, if_true]; rfl) h1, h2⟩
theorem x2o {R : Nat → Nat → Option Nat} {a k b j : Nat} {v : Option Nat} (h : b ≠ a ∨ j ≠ k) : x2 R a k v b j = R b j := by
  unfold x2
  by_cases q : b = a
  · rw [if_pos q, if_neg (by omega)]
  · rw [if_neg q]
theorem x2e {R : Nat → Nat → Option Nat} {a k : Nat} {v : Option Nat} : x2 R a k v a k = v := by
  unfold x2
  rw [if_pos rfl, if_pos rfl]
theorem xR0_102 : xR0 102 1 = none ∧ xR0 0 5 = none ∧ xR0 11 1 = none := by decide +kernel
theorem xLay.rw {T : Nat → Option xT} {R : Nat → Nat → Option Nat} {w u : Nat} (h : xLay T R w) : xLay T (x2 R 102 1 (some u)) w := by
  obtain ⟨h1, h2, h3, h4, h5, h6⟩ := h
  refine ⟨h1, h2, h3, fun a k r q => ?_, by rw [x2o (by omega)]; exact h5, by rw [x2o (by omega)]; exact h6⟩
  by_cases e : a = 102 ∧ k = 1
  · rw [e.1, e.2, xR0_102.1] at q; cases q
  · rw [x2o (by omega)]; exact h4 a k r q
theorem xLay.sw {T : Nat → Option xT} {R : Nat → Nat → Option Nat} {w u : Nat} (h : xLay T R w) (hu : u = 115 - w) : xLay T (x2 (x2 R 0 5 (some w)) 11 1 (some u)) u := by
  obtain ⟨h1, h2, h3, h4, h5, h6⟩ := h
  refine ⟨by omega, h2, h3, fun a k r q => ?_, ?_, x2e⟩
  · by_cases e : a = 0 ∧ k = 5
    · rw [e.1, e.2, xR0_102.2.1] at q; cases q
    · by_cases e2 : a = 11 ∧ k = 1
      · rw [e2.1, e2.2, xR0_102.2.2] at q; cases q
      · rw [x2o (by omega), x2o (by omega)]; exact h4 a k r q
  · rw [x2o (by omega), x2e]
    congr 1
    omega
/-- what the reading of an object keeps -/
def KO (u o : Nat) (A A2 : xQ) : Prop := (∀ a j, a ≠ 102 → (a ≠ u + 2 ∨ j ≠ 4) → a ≠ u + 3 → ((a ≠ u + 4 ∧ a ≠ u + 5) ∨ j ≠ o) → (a ≠ u + 7 ∨ j < o * 3 ∨ o * 3 + 3 ≤ j) → A2.1 a j = A.1 a j) ∧ (∀ a j, (a ≠ u + 8 ∨ j < o * 3 ∨ o * 3 + 3 ≤ j) → A2.2 a j = A.2 a j) ∧ (∀ j, j ≠ 2 → j ≠ 4 → A2.1 102 j = A.1 102 j) ∧ (∀ o, o < A.1 (u + 2) 4 → A2.1 (u + 3) o = A.1 (u + 3) o) ∧ A.1 (u + 2) 4 ≤ A2.1 (u + 2) 4 ∧ (¬ A.1 102 2 = 4294967294 → A2.1 102 2 = A.1 102 2) ∧ CI u A2
section KO
variable {u o : Nat} {A B C : xQ}
theorem KA.toO (h : KA u 0 0 A B) : KO u o A B := by
  obtain ⟨h1, h2, h3, h4, h5, h6, h7⟩ := h
  exact ⟨fun a j q1 q2 q3 _ _ => h1 a j (by omega) q1 q2 q3, fun a j _ => h2 a j (by omega), h3, h4, h5, h6, h7⟩
theorem KO.trans (h : KO u o A B) (g : KO u o B C) : KO u o A C := by
  obtain ⟨h1, h2, h3, h4, h5, h6, h7⟩ := h
  obtain ⟨g1, g2, g3, g4, g5, g6, g7⟩ := g
  exact ⟨fun a j q1 q2 q3 q4 q5 => (g1 a j q1 q2 q3 q4 q5).trans (h1 a j q1 q2 q3 q4 q5), fun a j q => (g2 a j q).trans (h2 a j q), fun j q1 q2 => (g3 j q1 q2).trans (h3 j q1 q2), fun o q => (g4 o (by omega)).trans (h4 o q), by omega, fun q => by rw [g6 (by rw [h6 q]; exact q), h6 q], g7⟩
theorem KO.l (h : KO u o A B) (hl : 1 ≤ A.1 102 5) : 1 ≤ B.1 102 5 := by rw [h.2.2.1 5 (by omega) (by omega)]; exact hl
theorem KO.ci (h : KO u o A B) : CI u B := h.2.2.2.2.2.2
theorem KO.nf (h : KO u o A B) (q : B.1 102 2 = 4294967294) : A.1 102 2 = 4294967294 := by
  by_cases e : A.1 102 2 = 4294967294
  · exact e
  · rw [h.2.2.2.2.2.1 e] at q; exact q
theorem KO.rv {i : Nat} (h : CI u A) (hu : u = 12 ∨ u = 103) (hl : 1 ≤ A.1 102 5) (h1 : o * 3 ≤ i) (h2 : i < o * 3 + 3) : KO u o A (aRv u (u + 7) (u + 8) i A) := by
  have a1 : KO u o A (aVal u A).2.2 := (KA.val (lo := 0) (hi := 0) h hu hl).toO
  refine a1.trans ⟨fun a j _ _ _ _ q => xsI_ne (by omega), fun a j q => xsJ_ne (by omega), fun j _ _ => xsI_ne (by omega), fun o _ => xsI_ne (by omega), ?_, fun q => ?_, a1.ci.oth (fun a j q => xsI_ne (by omega))⟩
  · show _ ≤ (xsI (aVal u A).2.2 (u + 7) i (aVal u A).1).1 (u + 2) 4
    rw [xsI_ne (by omega)]; exact Nat.le_refl _
  · show (xsI (aVal u A).2.2 (u + 7) i (aVal u A).1).1 102 2 = _
    exact xsI_ne (by omega)
theorem KO.rvs (hu : u = 12 ∨ u = 103) : ∀ (m i : Nat) (A : xQ), o * 3 ≤ i → i + m ≤ o * 3 + 3 → CI u A → 1 ≤ A.1 102 5 → KO u o A (xit (aRv u (u + 7) (u + 8)) m i A) := by
  intro m
  induction m with
  | zero => intro i A _ _ h _; exact (KA.refl h).toO
  | succ m ih =>
    intro i A h1 h2 h hl
    have a1 := KO.rv (o := o) (i := i) h hu hl h1 (by omega)
    exact a1.trans (ih _ _ (by omega) (by omega) a1.ci (a1.l hl))
theorem KO.shape {fn sz : Nat} (h : CI u A) (hu : u = 12 ∨ u = 103) : KO u o A (aShape u o (A.1 (u + 3) o) fn sz A) := by
  have e3 : ∀ p, (aShape u o (A.1 (u + 3) o) fn sz A).1 (u + 3) p = A.1 (u + 3) p := fun p => by
    unfold aShape
    rw [xsI_ne (by omega), xsI_ne (by omega)]
    by_cases q : p = o
    · rw [q, xsI_eq]
    · rw [xsI_ne (by omega)]
  have e : ∀ a j, a ≠ u + 3 → ((a ≠ u + 4 ∧ a ≠ u + 5) ∨ j ≠ o) → (aShape u o (A.1 (u + 3) o) fn sz A).1 a j = A.1 a j := fun a j q1 q2 => by
    unfold aShape
    rw [xsI_ne (by omega), xsI_ne (by omega), xsI_ne (by omega)]
  refine ⟨fun a j _ _ q1 q2 _ => e a j q1 q2, fun _ _ _ => rfl, fun j _ _ => e _ _ (by omega) (by omega), fun p _ => e3 p, by rw [e _ _ (by omega) (by omega)]; exact Nat.le_refl _, fun _ => e _ _ (by omega) (by omega), h.oth (fun a j q => ?_)⟩
  by_cases x : a = u + 3
  · rw [x, e3]
  · exact e a j x (by omega)
end KO
def oY (A : xQ) : Nat × xQ := aRb 0 5 (aRb 4 4 A).2
def oZ (A : xQ) : Nat × xQ := aRb 0 2 (oY A).2
/-- an object is read -/
def aRob (u o : Nat) (A : xQ) : xQ := if A.1 (u + 3) o = 4 then xit (aRv u (u + 7) (u + 8)) (oZ A).1 (o * 3) (aShape u o 4 (oY A).1 (oZ A).1 (oZ A).2) else xit (aRv u (u + 7) (u + 8)) 3 (o * 3) (aShape u o (A.1 (u + 3) o) 0 3 (aRb (A.1 (u + 3) o) (A.1 (u + 3) o) A).2)
def aRol (u : Nat) : Nat → Nat → xQ → xQ
  | 0, _, A => A
  | n + 1, i, A => if i < A.1 102 5 ∧ A.1 102 2 = 4294967294 then (if i = A.1 (u + 2) 4 then xsI A 102 2 (A.1 102 4) else aRol u n (i + 1) (aRob u i A)) else A
def aRol0 (u : Nat) (A : xQ) : xQ := xsI (aRb (A.1 (u + 2) 4) 24 A).2 102 5 (aRb (A.1 (u + 2) 4) 24 A).1
def aRos (u : Nat) (A : xQ) : xQ := aRol u 24 0 (aRol0 u A)
def aRend (A : xQ) : xQ := if (aRb (sm (A.1 100) 0 (A.1 102 4) % 256) (sm (A.1 100) 0 (A.1 102 4) % 256) A).2.1 102 2 = 4294967294 ∧ (aRb (sm (A.1 100) 0 (A.1 102 4) % 256) (sm (A.1 100) 0 (A.1 102 4) % 256) A).2.1 102 4 < A.1 99 1 then xsI (aRb (sm (A.1 100) 0 (A.1 102 4) % 256) (sm (A.1 100) 0 (A.1 102 4) % 256) A).2 102 2 ((aRb (sm (A.1 100) 0 (A.1 102 4) % 256) (sm (A.1 100) 0 (A.1 102 4) % 256) A).2.1 102 4) else (aRb (sm (A.1 100) 0 (A.1 102 4) % 256) (sm (A.1 100) 0 (A.1 102 4) % 256) A).2
def aTst (u : Nat) (A : xQ) : xQ := if A.1 102 2 = 4294967294 ∧ (A.1 u 2 ≤ A.1 u 3 ∨ (A.1 (u + 11 + 25 * A.1 u 3) 2 ≠ 0 ∧ aRuns u A (A.1 u 2) 0 = 1)) then xsI A 102 2 4 else A
section KB
variable {u o : Nat} {A : xQ}
theorem aRb_one (k : Nat) (A : xQ) : (aRb k k A).1 = k := by
  have := aRb_in (lo := k) (hi := k) (A := A) (Nat.le_refl _)
  omega
theorem oK (h : CI u A) (hu : u = 12 ∨ u = 103) (o : Nat) : KO u o A (oZ A).2 := by
  have h1 := KA.rb (lo := 0) (hi := 0) h hu 4 4
  have h2 := KA.rb (lo := 0) (hi := 0) h1.ci hu 0 5
  have h3 := KA.rb (lo := 0) (hi := 0) h2.ci hu 0 2
  exact (h1.trans (h2.trans h3)).toO
theorem oZ_3 (p : Nat) (hu : u = 12 ∨ u = 103) : (oZ A).2.1 (u + 3) p = A.1 (u + 3) p := by
  unfold oZ oY
  rw [aRb_ne _ _ _ (by omega), aRb_ne _ _ _ (by omega), aRb_ne _ _ _ (by omega)]
theorem oZ_in : (oZ A).1 ≤ 2 := (aRb_in (lo := 0) (hi := 2) (A := (oY A).2) (by omega)).2
theorem oY_in : (oY A).1 ≤ 5 := (aRb_in (lo := 0) (hi := 5) (A := (aRb 4 4 A).2) (by omega)).2
theorem KO.s4 {o : Nat} (h : CI u A) (hu : u = 12 ∨ u = 103) (h4 : A.1 (u + 3) o = 4) : KO u o A (aShape u o 4 (oY A).1 (oZ A).1 (oZ A).2) := by
  have a1 := oK h hu o
  have a2 := KO.shape (o := o) (fn := (oY A).1) (sz := (oZ A).1) a1.ci hu
  rw [oZ_3 o hu, h4] at a2
  exact a1.trans a2
theorem KO.s3 {o : Nat} (h : CI u A) (hu : u = 12 ∨ u = 103) : KO u o A (aShape u o (A.1 (u + 3) o) 0 3 (aRb (A.1 (u + 3) o) (A.1 (u + 3) o) A).2) := by
  have a1 : KO u o A (aRb (A.1 (u + 3) o) (A.1 (u + 3) o) A).2 := (KA.rb (lo := 0) (hi := 0) h hu _ _).toO
  have a2 := KO.shape (o := o) (fn := 0) (sz := 3) a1.ci hu
  rw [aRb_ne _ _ _ (by omega)] at a2
  exact a1.trans a2
theorem KO.rob (h : CI u A) (hu : u = 12 ∨ u = 103) (hl : 1 ≤ A.1 102 5) : KO u o A (aRob u o A) := by
  unfold aRob
  split
  · rename_i h4
    have a1 := KO.s4 h hu h4
    have := oZ_in (A := A)
    exact a1.trans (KO.rvs hu _ _ _ (Nat.le_refl _) (by omega) a1.ci (a1.l hl))
  · have a1 := KO.s3 (o := o) h hu
    exact a1.trans (KO.rvs hu _ _ _ (Nat.le_refl _) (by omega) a1.ci (a1.l hl))
theorem CI.ol (h : CI u A) (hu : u = 12 ∨ u = 103) : CI u (aRol0 u A) := by
  have h1 := h.rb hu (A.1 (u + 2) 4) 24
  have hin := aRb_in (lo := A.1 (u + 2) 4) (hi := 24) (A := A) (by have := h.2.2.2.2.1; have := h.2.2.2.2.2.1; omega)
  have e2 : (aRb (A.1 (u + 2) 4) 24 A).2.1 (u + 2) 4 = A.1 (u + 2) 4 := aRb_ne _ _ _ (by omega)
  unfold aRol0
  generalize aRb (A.1 (u + 2) 4) 24 A = r at *
  obtain ⟨i1, i2, i3, i4, i5, i6, i7⟩ := h1
  have e : ∀ a j, (a ≠ 102 ∨ j ≠ 5) → (xsI r.2 102 5 r.1).1 a j = r.2.1 a j := fun a j q => xsI_ne q
  refine ⟨by rw [e _ _ (by omega)]; exact i1, fun i hi => ?_, by rw [e 102 4 (by omega), e 99 1 (by omega)]; exact i3, by rw [e 102 2 (by omega)]; exact i4, by rw [xsI_eq, e (u + 2) 4 (by omega)]; omega, by rw [xsI_eq]; omega, fun o ho => ?_⟩
  · rw [e 99 1 (by omega)] at hi
    rw [e _ _ (by omega)]
    exact i2 i hi
  · rw [e _ _ (by omega), e _ _ (by omega)]
    exact i7 o ho
theorem CI.flt {v : Nat} (h : CI u A) (hu : u = 12 ∨ u = 103) (hv : v ≤ 2400) : CI u (xsI A 102 2 v) := by
  obtain ⟨i1, i2, i3, i4, i5, i6, i7⟩ := h
  have e : ∀ a j, (a ≠ 102 ∨ j ≠ 2) → (xsI A 102 2 v).1 a j = A.1 a j := fun a j q => xsI_ne q
  refine ⟨by rw [e _ _ (by omega)]; exact i1, fun i hi => ?_, by rw [e 102 4 (by omega), e 99 1 (by omega)]; exact i3, by rw [xsI_eq]; omega, by rw [e 102 5 (by omega), e (u + 2) 4 (by omega)]; exact i5, by rw [e 102 5 (by omega)]; exact i6, fun o ho => ?_⟩
  · rw [e 99 1 (by omega)] at hi
    rw [e _ _ (by omega)]
    exact i2 i hi
  · rw [e _ _ (by omega), e _ _ (by omega)]
    exact i7 o ho
theorem rol_k (hu : u = 12 ∨ u = 103) : ∀ (n i : Nat) (A : xQ), i + n = 24 → CI u A → CI u (aRol u n i A) ∧ (∀ a j, a ≠ 102 → (a < u + 2 ∨ u + 8 < a) → (aRol u n i A).1 a j = A.1 a j) ∧ (∀ a j, a ≠ u + 8 → (aRol u n i A).2 a j = A.2 a j) ∧ ((aRol u n i A).1 102 2 = 4294967294 → A.1 102 2 = 4294967294) ∧ (aRol u n i A).1 102 3 = A.1 102 3 ∧ (∀ p, p < A.1 (u + 2) 4 → (aRol u n i A).1 (u + 3) p = A.1 (u + 3) p) ∧ (aRol u n i A).1 102 5 = A.1 102 5 := by
  intro n
  induction n with
  | zero => intro i A _ h; exact ⟨h, fun _ _ _ _ => rfl, fun _ _ _ => rfl, id, rfl, fun _ _ => rfl, rfl⟩
  | succ n ih =>
    intro i A hi h
    have hp := h.pl
    show CI u (if i < A.1 102 5 ∧ A.1 102 2 = 4294967294 then (if i = A.1 (u + 2) 4 then xsI A 102 2 (A.1 102 4) else aRol u n (i + 1) (aRob u i A)) else A) ∧ (∀ a j, a ≠ 102 → (a < u + 2 ∨ u + 8 < a) → (if i < A.1 102 5 ∧ A.1 102 2 = 4294967294 then (if i = A.1 (u + 2) 4 then xsI A 102 2 (A.1 102 4) else aRol u n (i + 1) (aRob u i A)) else A).1 a j = A.1 a j) ∧ (∀ a j, a ≠ u + 8 → (if i < A.1 102 5 ∧ A.1 102 2 = 4294967294 then (if i = A.1 (u + 2) 4 then xsI A 102 2 (A.1 102 4) else aRol u n (i + 1) (aRob u i A)) else A).2 a j = A.2 a j) ∧ ((if i < A.1 102 5 ∧ A.1 102 2 = 4294967294 then (if i = A.1 (u + 2) 4 then xsI A 102 2 (A.1 102 4) else aRol u n (i + 1) (aRob u i A)) else A).1 102 2 = 4294967294 → A.1 102 2 = 4294967294) ∧ (if i < A.1 102 5 ∧ A.1 102 2 = 4294967294 then (if i = A.1 (u + 2) 4 then xsI A 102 2 (A.1 102 4) else aRol u n (i + 1) (aRob u i A)) else A).1 102 3 = A.1 102 3 ∧ (∀ p, p < A.1 (u + 2) 4 → (if i < A.1 102 5 ∧ A.1 102 2 = 4294967294 then (if i = A.1 (u + 2) 4 then xsI A 102 2 (A.1 102 4) else aRol u n (i + 1) (aRob u i A)) else A).1 (u + 3) p = A.1 (u + 3) p) ∧ (if i < A.1 102 5 ∧ A.1 102 2 = 4294967294 then (if i = A.1 (u + 2) 4 then xsI A 102 2 (A.1 102 4) else aRol u n (i + 1) (aRob u i A)) else A).1 102 5 = A.1 102 5
    split
    · rename_i q
      split
      · exact ⟨h.flt hu hp, fun a j q1 _ => xsI_ne (by omega), fun _ _ _ => rfl, fun _ => q.2, xsI_ne (by omega), fun p _ => xsI_ne (by omega), xsI_ne (by omega)⟩
      · have k := KO.rob (o := i) h hu (by omega)
        obtain ⟨a1, a2, a3, a4, a5, a6, a7⟩ := ih (i + 1) (aRob u i A) (by omega) k.ci
        obtain ⟨k1, k2, k3, k4, k5, k6, k7⟩ := id k
        exact ⟨a1, fun a j q1 q2 => (a2 a j q1 q2).trans (k1 a j q1 (by omega) (by omega) (by omega) (by omega)), fun a j q1 => (a3 a j q1).trans (k2 a j (by omega)), fun q => k.nf (a4 q), a5.trans (k3 3 (by omega) (by omega)), fun p hp => (a6 p (by omega)).trans (k4 p hp), a7.trans (k3 5 (by omega) (by omega))⟩
    · exact ⟨h, fun _ _ _ _ => rfl, fun _ _ _ => rfl, id, rfl, fun _ _ => rfl, rfl⟩
theorem ros_k (h : CI u A) (hu : u = 12 ∨ u = 103) : CI u (aRos u A) ∧ (∀ a j, a ≠ 102 → (a < u + 2 ∨ u + 8 < a) → (aRos u A).1 a j = A.1 a j) ∧ (∀ a j, a ≠ u + 8 → (aRos u A).2 a j = A.2 a j) ∧ ((aRos u A).1 102 2 = 4294967294 → A.1 102 2 = 4294967294) ∧ (aRos u A).1 102 3 = A.1 102 3 := by
  obtain ⟨a1, a2, a3, a4, a5, -, -⟩ := rol_k hu 24 0 _ (by omega) (h.ol hu)
  refine ⟨a1, fun a j q1 q2 => ?_, fun a j q => ?_, fun q => ?_, ?_⟩
  · unfold aRos
    rw [a2 a j q1 q2]
    unfold aRol0
    rw [xsI_ne (by omega), aRb_ne _ _ _ (by omega)]
  · unfold aRos
    rw [a3 a j q]
    unfold aRol0
    show (aRb _ _ A).2.2 a j = _
    rw [aRb_2]
  · have q2 := a4 q
    unfold aRol0 at q2
    rw [xsI_ne (by omega)] at q2
    exact (aRb_nf q2 h.pl).1
  · unfold aRos
    rw [a5]
    unfold aRol0
    rw [xsI_ne (by omega), aRb_ne _ _ _ (by omega)]
theorem rend_k (h : CI u A) (hu : u = 12 ∨ u = 103) : CI u (aRend A) ∧ (∀ a j, a ≠ 102 → (aRend A).1 a j = A.1 a j) ∧ (aRend A).2 = A.2 ∧ ((aRend A).1 102 2 = 4294967294 → A.1 102 2 = 4294967294) ∧ (aRend A).1 102 3 = A.1 102 3 := by
  unfold aRend
  have k := KA.rb (lo := 0) (hi := 0) h hu (sm (A.1 100) 0 (A.1 102 4) % 256) (sm (A.1 100) 0 (A.1 102 4) % 256)
  have hrr : ∀ a j, a ≠ 102 → (aRb (sm (A.1 100) 0 (A.1 102 4) % 256) (sm (A.1 100) 0 (A.1 102 4) % 256) A).2.1 a j = A.1 a j := fun a j q => aRb_ne _ _ _ (by omega)
  have hr2 := aRb_2 (sm (A.1 100) 0 (A.1 102 4) % 256) (sm (A.1 100) 0 (A.1 102 4) % 256) A
  generalize (aRb (sm (A.1 100) 0 (A.1 102 4) % 256) (sm (A.1 100) 0 (A.1 102 4) % 256) A) = r at *
  obtain ⟨k1, k2, k3, k4, k5, k6, k7⟩ := id k
  split
  · rename_i q
    exact ⟨k7.flt hu k7.pl, fun a j q1 => by rw [xsI_ne (by omega)]; exact hrr a j q1, hr2, fun _ => k.nf q.1, by rw [xsI_ne (by omega)]; exact k3 3 (by omega) (by omega)⟩
  · exact ⟨k7, fun a j q1 => hrr a j q1, hr2, fun q => k.nf q, k3 3 (by omega) (by omega)⟩
end KB
theorem c90 {z : Nat} {T : Nat → Option xT} {R : Nat → Nat → Option Nat} {A : xQ} {w u o : Nat} (hL : xLay T R w) (hW : xW0 T R u) (hrw : R 102 1 = some u) (hu : u = 12 ∨ u = 103) (hI : CI u A) (hl : 1 ≤ A.1 102 5) (ho : o < A.1 (u + 2) 4) : xF 90 [.ref 102, .int (nI o)] (xm z T R A) (.inr none, xm z T R (aRob u o A)) := by
  obtain ⟨w1, w2, w3, w4, hH, hSt⟩ := id hW
  obtain ⟨h1, h2, h3, h4, h5, h6, h7, h8, h9, h10, h11, h12, hC⟩ := id hH
  obtain ⟨i1, i2, i3, i4, i5, i6, i7⟩ := id hI
  have hk := (i7 o (by omega)).1 ho
  unfold aRob
  by_cases hk4 : A.1 (u + 3) o = 4
  · have hrb := c80i (z := z) (lo := 4) (hi := 4) hL hI (by omega) (by omega)
    rw [aRb_one] at hrb
    have k1 := KA.rb (lo := 0) (hi := 0) hI hu 4 4
    have hrb2 : xF 80 [.ref 102, .int (nI 0), .int (nI 5)] (xm z T R (aRb 4 4 A).2) (.inr (some (.int (nI (oY A).1))), xm z T R (oY A).2) := c80i hL k1.ci (by omega) (by omega)
    have k2 : KA u 0 0 (aRb 4 4 A).2 (oY A).2 := KA.rb k1.ci hu 0 5
    have hrb3 : xF 80 [.ref 102, .int (nI 0), .int (nI 2)] (xm z T R (oY A).2) (.inr (some (.int (nI (oZ A).1))), xm z T R (oZ A).2) := c80i hL k2.ci (by omega) (by omega)
    have k4 := KO.s4 hI hu hk4
    have n1 := oZ_in (A := A)
    have hv := c86 (z := z) (lo := o * 3) (m := (oZ A).1) hL hW hrw hu k4.ci (k4.l hl) hC (by omega) (by omega) (by omega)
    rw [if_pos hk4]
    refine xF_eq (xF_p (Nat.le_of_ble_eq_true rfl) ?_)
    refine xp_aload_n rfl rfl ?_
    refine xp_gfa rfl rfl (by decide) (by decide) (by first | assumption | exact hL.t rfl) (by first | assumption | exact hL.r rfl | exact hL.2.2.2.2.2) ?_
    refine xp_gfa rfl rfl (by decide) (by decide) (by first | assumption | exact hL.t rfl) (by first | assumption | exact hL.r rfl | exact hL.2.2.2.2.2) ?_
    refine xp_astore_n rfl (by decide) ?_
    refine xp_aload_n rfl rfl ?_
    refine xp_aload_n rfl rfl ?_
    refine xp_gfa rfl rfl (by decide) (by decide) (by first | assumption | exact hL.t rfl) (by first | assumption | exact hL.r rfl | exact hL.2.2.2.2.2) ?_
    refine xp_iload_n rfl rfl ?_
    refine xp_iald rfl (by first | assumption | exact hL.t rfl) (by omega) (by omega) ?_
    rw [hk4]
    refine xp_aload_n rfl rfl ?_
    refine xp_gfa rfl rfl (by decide) (by decide) (by first | assumption | exact hL.t rfl) (by first | assumption | exact hL.r rfl | exact hL.2.2.2.2.2) ?_
    refine xp_iload_n rfl rfl ?_
    refine xp_iald rfl (by first | assumption | exact hL.t rfl) (by omega) (by omega) ?_
    rw [hk4]
    refine xp_iv rfl rfl (Nat.le_of_ble_eq_true rfl) (by decide) (by decide) (by decide) (Nat.le_of_ble_eq_true rfl) rfl (xrcv1 (by decide) (by first | assumption | exact hL.t rfl)) (hrb) rfl ?_
    refine xp_istore_n rfl (by decide) ?_
    refine xp_iload_n rfl rfl ?_
    refine xp_iconst (n := 4) rfl (by decide) ?_
    refine xp_icne 39 rfl (by decide) (by omega) (by omega) (fun h27 => ?_) (fun h27 => ?_)
    · exfalso; omega
    · skip
      refine xp_aload_n rfl rfl ?_
      refine xp_iconst (n := 0) rfl (by decide) ?_
      refine xp_iconst (n := 5) rfl (by decide) ?_
      refine xp_iv rfl rfl (Nat.le_of_ble_eq_true rfl) (by decide) (by decide) (by decide) (Nat.le_of_ble_eq_true rfl) rfl (xrcv1 (by decide) (by first | assumption | exact hL.t rfl)) (hrb2) rfl ?_
      refine xp_goto 40 rfl (by decide) ?_
      refine xp_istore rfl (by decide) ?_
      refine xp_iload_n rfl rfl ?_
      refine xp_iconst (n := 4) rfl (by decide) ?_
      refine xp_icne 56 rfl (by decide) (by omega) (by omega) (fun h44 => ?_) (fun h44 => ?_)
      · exfalso; omega
      · skip
        refine xp_aload_n rfl rfl ?_
        refine xp_iconst (n := 0) rfl (by decide) ?_
        refine xp_iconst (n := 2) rfl (by decide) ?_
        refine xp_iv rfl rfl (Nat.le_of_ble_eq_true rfl) (by decide) (by decide) (by decide) (Nat.le_of_ble_eq_true rfl) rfl (xrcv1 (by decide) (by first | assumption | exact hL.t rfl)) (hrb3) rfl ?_
        refine xp_goto 57 rfl (by decide) ?_
        refine xp_istore rfl (by decide) ?_
        refine xp_aload_n rfl rfl ?_
        refine xp_iload_n rfl rfl ?_
        refine xp_iload_n rfl rfl ?_
        refine xp_iload rfl rfl ?_
        refine xp_iload rfl rfl ?_
        refine xp_iv rfl rfl (Nat.le_of_ble_eq_true rfl) (by decide) (by decide) (by decide) (Nat.le_of_ble_eq_true rfl) rfl (xrcv1 (by decide) (by first | assumption | exact hL.t rfl)) (c62 hH (by omega)) rfl ?_
        refine xp_aload_n rfl rfl ?_
        refine xp_aload_n rfl rfl ?_
        refine xp_gfa rfl rfl (by decide) (by decide) (by first | assumption | exact hL.t rfl) (by first | assumption | exact hL.r rfl | exact hL.2.2.2.2.2) ?_
        refine xp_aload_n rfl rfl ?_
        refine xp_iload_n rfl rfl ?_
        refine xp_iv rfl rfl (Nat.le_of_ble_eq_true rfl) (by decide) (by decide) (by decide) (Nat.le_of_ble_eq_true rfl) rfl (xrcv1 (by decide) (by first | assumption | exact hL.t rfl)) (c60) rfl ?_
        refine xp_aload_n rfl rfl ?_
        refine xp_iload_n rfl rfl ?_
        refine xp_iv rfl rfl (Nat.le_of_ble_eq_true rfl) (by decide) (by decide) (by decide) (Nat.le_of_ble_eq_true rfl) rfl (xrcv1 (by decide) (by first | assumption | exact hL.t rfl)) (c60) rfl ?_
        refine xp_iload rfl rfl ?_
        refine xp_iadd rfl ?_
        refine xp_iv rfl rfl (Nat.le_of_ble_eq_true rfl) (by decide) (by decide) (by decide) (Nat.le_of_ble_eq_true rfl) rfl (xrcv1 (by decide) (by first | assumption | exact hL.t rfl)) (hv) rfl ?_
        refine xp_return rfl (by decide) (by decide) (by decide) ?_
        rfl
  · have hk3 : A.1 (u + 3) o = 3 := by omega
    have k4 := KO.s3 (o := o) hI hu
    rw [hk3] at k4
    have hrb := c80i (z := z) (lo := 3) (hi := 3) hL hI (by omega) (by omega)
    rw [aRb_one] at hrb
    have hv := c86 (z := z) (lo := o * 3) (m := 3) hL hW hrw hu k4.ci (k4.l hl) hC (by omega) (by omega) (by omega)
    rw [if_neg hk4, hk3]
    refine xF_eq (xF_p (Nat.le_of_ble_eq_true rfl) ?_)
    refine xp_aload_n rfl rfl ?_
    refine xp_gfa rfl rfl (by decide) (by decide) (by first | assumption | exact hL.t rfl) (by first | assumption | exact hL.r rfl | exact hL.2.2.2.2.2) ?_
    refine xp_gfa rfl rfl (by decide) (by decide) (by first | assumption | exact hL.t rfl) (by first | assumption | exact hL.r rfl | exact hL.2.2.2.2.2) ?_
    refine xp_astore_n rfl (by decide) ?_
    refine xp_aload_n rfl rfl ?_
    refine xp_aload_n rfl rfl ?_
    refine xp_gfa rfl rfl (by decide) (by decide) (by first | assumption | exact hL.t rfl) (by first | assumption | exact hL.r rfl | exact hL.2.2.2.2.2) ?_
    refine xp_iload_n rfl rfl ?_
    refine xp_iald rfl (by first | assumption | exact hL.t rfl) (by omega) (by omega) ?_
    rw [hk3]
    refine xp_aload_n rfl rfl ?_
    refine xp_gfa rfl rfl (by decide) (by decide) (by first | assumption | exact hL.t rfl) (by first | assumption | exact hL.r rfl | exact hL.2.2.2.2.2) ?_
    refine xp_iload_n rfl rfl ?_
    refine xp_iald rfl (by first | assumption | exact hL.t rfl) (by omega) (by omega) ?_
    rw [hk3]
    refine xp_iv rfl rfl (Nat.le_of_ble_eq_true rfl) (by decide) (by decide) (by decide) (Nat.le_of_ble_eq_true rfl) rfl (xrcv1 (by decide) (by first | assumption | exact hL.t rfl)) (hrb) rfl ?_
    refine xp_istore_n rfl (by decide) ?_
    refine xp_iload_n rfl rfl ?_
    refine xp_iconst (n := 4) rfl (by decide) ?_
    refine xp_icne 39 rfl (by decide) (by omega) (by omega) (fun h27 => ?_) (fun h27 => ?_)
    · skip
      refine xp_iconst (n := 0) rfl (by decide) ?_
      refine xp_istore rfl (by decide) ?_
      refine xp_iload_n rfl rfl ?_
      refine xp_iconst (n := 4) rfl (by decide) ?_
      refine xp_icne 56 rfl (by decide) (by omega) (by omega) (fun h44 => ?_) (fun h44 => ?_)
      · skip
        refine xp_iconst (n := 3) rfl (by decide) ?_
        refine xp_istore rfl (by decide) ?_
        refine xp_aload_n rfl rfl ?_
        refine xp_iload_n rfl rfl ?_
        refine xp_iload_n rfl rfl ?_
        refine xp_iload rfl rfl ?_
        refine xp_iload rfl rfl ?_
        refine xp_iv rfl rfl (Nat.le_of_ble_eq_true rfl) (by decide) (by decide) (by decide) (Nat.le_of_ble_eq_true rfl) rfl (xrcv1 (by decide) (by first | assumption | exact hL.t rfl)) (c62 hH (by omega)) rfl ?_
        refine xp_aload_n rfl rfl ?_
        refine xp_aload_n rfl rfl ?_
        refine xp_gfa rfl rfl (by decide) (by decide) (by first | assumption | exact hL.t rfl) (by first | assumption | exact hL.r rfl | exact hL.2.2.2.2.2) ?_
        refine xp_aload_n rfl rfl ?_
        refine xp_iload_n rfl rfl ?_
        refine xp_iv rfl rfl (Nat.le_of_ble_eq_true rfl) (by decide) (by decide) (by decide) (Nat.le_of_ble_eq_true rfl) rfl (xrcv1 (by decide) (by first | assumption | exact hL.t rfl)) (c60) rfl ?_
        refine xp_aload_n rfl rfl ?_
        refine xp_iload_n rfl rfl ?_
        refine xp_iv rfl rfl (Nat.le_of_ble_eq_true rfl) (by decide) (by decide) (by decide) (Nat.le_of_ble_eq_true rfl) rfl (xrcv1 (by decide) (by first | assumption | exact hL.t rfl)) (c60) rfl ?_
        refine xp_iload rfl rfl ?_
        refine xp_iadd rfl ?_
        refine xp_iv rfl rfl (Nat.le_of_ble_eq_true rfl) (by decide) (by decide) (by decide) (Nat.le_of_ble_eq_true rfl) rfl (xrcv1 (by decide) (by first | assumption | exact hL.t rfl)) (hv) rfl ?_
        refine xp_return rfl (by decide) (by decide) (by decide) ?_
        rfl
      · exfalso; omega
    · exfalso; omega
theorem l89x {z : Nat} {T : Nat → Option xT} {R : Nat → Nat → Option Nat} {A : xQ} {w u i : Nat} (hL : xLay T R w) (hW : xW0 T R u) (hrw : R 102 1 = some u) (hI : CI u A) (hi : i ≤ 24) (hf : ¬ A.1 102 2 = 4294967294) : xP 89 24 [(0, .ref 102), (1, .ref (u + 2)), (2, .int (nI i))] [] 0 0 (xm z T R A) (fun r => r = (.inr none, xm z T R A)) := by
  obtain ⟨i1, i2, i3, i4, i5, i6, i7⟩ := hI
  refine xp_iload_n rfl rfl ?_
  refine xp_aload_n rfl rfl ?_
  refine xp_gfi rfl rfl (by decide) (by decide) (by first | assumption | exact hL.t rfl) ?_
  refine xp_icge 71 rfl (by decide) (by omega) (by omega) (fun h29 => ?_) (fun h29 => ?_)
  · skip
    refine xp_return rfl (by decide) (by decide) (by decide) ?_
    rfl
  · skip
    refine xp_aload_n rfl rfl ?_
    refine xp_gfi rfl rfl (by decide) (by decide) (by first | assumption | exact hL.t rfl) ?_
    refine xp_bipush (n := 4294967294) rfl (by decide) ?_
    refine xp_icne 71 rfl (by decide) (by omega) (by omega) (fun h38 => ?_) (fun h38 => ?_)
    · skip
      refine xp_return rfl (by decide) (by decide) (by decide) ?_
      rfl
    · exfalso; omega
theorem l89 {z : Nat} {T : Nat → Option xT} {R : Nat → Nat → Option Nat} {w u : Nat} (hL : xLay T R w) (hW : xW0 T R u) (hrw : R 102 1 = some u) (hu : u = 12 ∨ u = 103) : ∀ (n i : Nat) (A : xQ), i + n = 24 → i ≤ A.1 (u + 2) 4 → CI u A → xP 89 24 [(0, .ref 102), (1, .ref (u + 2)), (2, .int (nI i))] [] 0 0 (xm z T R A) (fun r => r = (.inr none, xm z T R (aRol u n i A))) := by
  have hH1 := hW.2.2.2.2.1.1
  intro n
  induction n with
  | zero =>
    intro i A hi hic hI
    obtain ⟨i1, i2, i3, i4, i5, i6, i7⟩ := hI
    refine xp_iload_n rfl rfl ?_
    refine xp_aload_n rfl rfl ?_
    refine xp_gfi rfl rfl (by decide) (by decide) (by first | assumption | exact hL.t rfl) ?_
    refine xp_icge 71 rfl (by decide) (by omega) (by omega) (fun h29 => ?_) (fun h29 => ?_)
    · skip
      refine xp_return rfl (by decide) (by decide) (by decide) ?_
      rfl
    · exfalso; omega
  | succ n ih =>
    intro i A hi hic hI
    obtain ⟨i1, i2, i3, i4, i5, i6, i7⟩ := id hI
    show xP 89 24 _ _ _ _ _ (fun r => r = (.inr none, xm z T R (if i < A.1 102 5 ∧ A.1 102 2 = 4294967294 then (if i = A.1 (u + 2) 4 then xsI A 102 2 (A.1 102 4) else aRol u n (i + 1) (aRob u i A)) else A)))
    by_cases hc : i < A.1 102 5 ∧ A.1 102 2 = 4294967294
    · rw [if_pos hc]
      obtain ⟨hc1, hc2⟩ := hc
      by_cases he : i = A.1 (u + 2) 4
      · rw [if_pos he]
        have hx := l89x (z := z) (A := xsI A 102 2 (A.1 102 4)) (i := i + 1) hL hW hrw (hI.flt hu hI.pl) (by omega) (by rw [xsI_eq]; omega)
        refine xp_iload_n rfl rfl ?_
        refine xp_aload_n rfl rfl ?_
        refine xp_gfi rfl rfl (by decide) (by decide) (by first | assumption | exact hL.t rfl) ?_
        refine xp_icge 71 rfl (by decide) (by omega) (by omega) (fun h29 => ?_) (fun h29 => ?_)
        · exfalso; omega
        · skip
          refine xp_aload_n rfl rfl ?_
          refine xp_gfi rfl rfl (by decide) (by decide) (by first | assumption | exact hL.t rfl) ?_
          refine xp_bipush (n := 4294967294) rfl (by decide) ?_
          refine xp_icne 71 rfl (by decide) (by omega) (by omega) (fun h38 => ?_) (fun h38 => ?_)
          · exfalso; omega
          · skip
            refine xp_iload_n rfl rfl ?_
            refine xp_aload_n rfl rfl ?_
            refine xp_gfi rfl rfl (by decide) (by decide) (by first | assumption | exact hL.t rfl) ?_
            refine xp_icne 60 rfl (by decide) (by omega) (by omega) (fun h46 => ?_) (fun h46 => ?_)
            · exfalso; omega
            · skip
              refine xp_aload_n rfl rfl ?_
              refine xp_aload_n rfl rfl ?_
              refine xp_gfi rfl rfl (by decide) (by decide) (by first | assumption | exact hL.t rfl) ?_
              refine xp_pfi rfl rfl (by decide) (by decide) (by decide) (by first | assumption | exact hL.t rfl) ?_
              refine xp_goto 65 rfl (by decide) ?_
              refine xp_iinc rfl rfl (by decide) (nI_inc _) ?_
              refine xp_goto 24 rfl (by decide) ?_
              refine xp_weak [(0, .ref 102), (1, .ref (u + 2)), (2, .int (nI (i + 1)))] (xle_cons rfl (xle_cons rfl (xle_cons rfl (xle_nil _)))) (by simp [xnd]) ?_
              exact hx
      · rw [if_neg he]
        have hob := c90 (z := z) (o := i) hL hW hrw hu hI (by omega) (by omega)
        have k1 := KO.rob (o := i) hI hu (by omega)
        have hk5 := k1.2.2.2.2.1
        have hih := ih (i + 1) _ (by omega) (by omega) k1.ci
        refine xp_iload_n rfl rfl ?_
        refine xp_aload_n rfl rfl ?_
        refine xp_gfi rfl rfl (by decide) (by decide) (by first | assumption | exact hL.t rfl) ?_
        refine xp_icge 71 rfl (by decide) (by omega) (by omega) (fun h29 => ?_) (fun h29 => ?_)
        · exfalso; omega
        · skip
          refine xp_aload_n rfl rfl ?_
          refine xp_gfi rfl rfl (by decide) (by decide) (by first | assumption | exact hL.t rfl) ?_
          refine xp_bipush (n := 4294967294) rfl (by decide) ?_
          refine xp_icne 71 rfl (by decide) (by omega) (by omega) (fun h38 => ?_) (fun h38 => ?_)
          · exfalso; omega
          · skip
            refine xp_iload_n rfl rfl ?_
            refine xp_aload_n rfl rfl ?_
            refine xp_gfi rfl rfl (by decide) (by decide) (by first | assumption | exact hL.t rfl) ?_
            refine xp_icne 60 rfl (by decide) (by omega) (by omega) (fun h46 => ?_) (fun h46 => ?_)
            · skip
              refine xp_aload_n rfl rfl ?_
              refine xp_iload_n rfl rfl ?_
              refine xp_iv rfl rfl (Nat.le_of_ble_eq_true rfl) (by decide) (by decide) (by decide) (Nat.le_of_ble_eq_true rfl) rfl (xrcv1 (by decide) (by first | assumption | exact hL.t rfl)) (hob) rfl ?_
              refine xp_iinc rfl rfl (by decide) (nI_inc _) ?_
              refine xp_goto 24 rfl (by decide) ?_
              refine xp_weak [(0, .ref 102), (1, .ref (u + 2)), (2, .int (nI (i + 1)))] (xle_cons rfl (xle_cons rfl (xle_cons rfl (xle_nil _)))) (by simp [xnd]) ?_
              exact hih
            · exfalso; omega
    · rw [if_neg hc]
      refine xp_iload_n rfl rfl ?_
      refine xp_aload_n rfl rfl ?_
      refine xp_gfi rfl rfl (by decide) (by decide) (by first | assumption | exact hL.t rfl) ?_
      refine xp_icge 71 rfl (by decide) (by omega) (by omega) (fun h29 => ?_) (fun h29 => ?_)
      · skip
        refine xp_return rfl (by decide) (by decide) (by decide) ?_
        rfl
      · skip
        refine xp_aload_n rfl rfl ?_
        refine xp_gfi rfl rfl (by decide) (by decide) (by first | assumption | exact hL.t rfl) ?_
        refine xp_bipush (n := 4294967294) rfl (by decide) ?_
        refine xp_icne 71 rfl (by decide) (by omega) (by omega) (fun h38 => ?_) (fun h38 => ?_)
        · skip
          refine xp_return rfl (by decide) (by decide) (by decide) ?_
          rfl
        · exfalso; omega
theorem c89 {z : Nat} {T : Nat → Option xT} {R : Nat → Nat → Option Nat} {A : xQ} {w u : Nat} (hL : xLay T R w) (hW : xW0 T R u) (hrw : R 102 1 = some u) (hu : u = 12 ∨ u = 103) (hI : CI u A) : xF 89 [.ref 102] (xm z T R A) (.inr none, xm z T R (aRos u A)) := by
  obtain ⟨w1, w2, w3, w4, hH, hSt⟩ := id hW
  have hH1 := hH.1
  have i5 := hI.2.2.2.2.1
  have i6 := hI.2.2.2.2.2.1
  have hrb := c80i (z := z) (lo := A.1 (u + 2) 4) (hi := 24) hL hI (by omega) (by omega)
  refine xF_eq (xF_p (Nat.le_of_ble_eq_true rfl) ?_)
  refine xp_aload_n rfl rfl ?_
  refine xp_gfa rfl rfl (by decide) (by decide) (by first | assumption | exact hL.t rfl) (by first | assumption | exact hL.r rfl | exact hL.2.2.2.2.2) ?_
  refine xp_gfa rfl rfl (by decide) (by decide) (by first | assumption | exact hL.t rfl) (by first | assumption | exact hL.r rfl | exact hL.2.2.2.2.2) ?_
  refine xp_astore_n rfl (by decide) ?_
  refine xp_aload_n rfl rfl ?_
  refine xp_aload_n rfl rfl ?_
  refine xp_aload_n rfl rfl ?_
  refine xp_gfi rfl rfl (by decide) (by decide) (by first | assumption | exact hL.t rfl) ?_
  refine xp_bipush (n := 24) rfl (by decide) ?_
  refine xp_iv rfl rfl (Nat.le_of_ble_eq_true rfl) (by decide) (by decide) (by decide) (Nat.le_of_ble_eq_true rfl) rfl (xrcv1 (by decide) (by first | assumption | exact hL.t rfl)) (hrb) rfl ?_
  refine xp_pfi rfl rfl (by decide) (by decide) (by decide) (by first | assumption | exact hL.t rfl) ?_
  refine xp_iconst (n := 0) rfl (by decide) ?_
  refine xp_istore_n rfl (by decide) ?_
  refine xp_weak [(0, .ref 102), (1, .ref (u + 2)), (2, .int (nI 0))] (xle_cons rfl (xle_cons rfl (xle_cons rfl (xle_nil _)))) (by simp [xnd]) ?_
  exact l89 hL hW hrw hu 24 0 (aRol0 u A) (by omega) (Nat.zero_le _) (hI.ol hu)
theorem c91 {z : Nat} {T : Nat → Option xT} {R : Nat → Nat → Option Nat} {A : xQ} {w u : Nat} (hL : xLay T R w) (hu : u = 12 ∨ u = 103) (hI : CI u A) : xF 91 [.ref 102] (xm z T R A) (.inr none, xm z T R (aRend A)) := by
  have hp := hI.pl
  have hrb := c80i (z := z) (lo := sm (A.1 100) 0 (A.1 102 4) % 256) (hi := sm (A.1 100) 0 (A.1 102 4) % 256) hL hI (by omega) (by omega)
  have hI2 := hI.rb hu (sm (A.1 100) 0 (A.1 102 4) % 256) (sm (A.1 100) 0 (A.1 102 4) % 256)
  have e1 := aRb_ne (sm (A.1 100) 0 (A.1 102 4) % 256) (sm (A.1 100) 0 (A.1 102 4) % 256) A (a := 99) (j := 1) (by omega)
  have hsu := c69 (z := z) (A := A) (n := A.1 102 4) hL hp
  unfold aRend
  generalize sm (A.1 100) 0 (A.1 102 4) % 256 = s at *
  generalize aRb s s A = r at *
  have f4 := hI2.2.2.2.1
  have f3 := hI2.pl
  have f1 := hI2.1
  refine xF_eq (xF_p (Nat.le_of_ble_eq_true rfl) ?_)
  refine xp_aload_n rfl rfl ?_
  refine xp_gfa rfl rfl (by decide) (by decide) (by first | assumption | exact hL.t rfl) (by first | assumption | exact hL.r rfl | exact hL.2.2.2.2.2) ?_
  refine xp_aload_n rfl rfl ?_
  refine xp_gfi rfl rfl (by decide) (by decide) (by first | assumption | exact hL.t rfl) ?_
  refine xp_iv rfl rfl (Nat.le_of_ble_eq_true rfl) (by decide) (by decide) (by decide) (Nat.le_of_ble_eq_true rfl) rfl (xrcv1 (by decide) (by first | assumption | exact hL.t rfl)) (hsu) rfl ?_
  refine xp_istore_n rfl (by decide) ?_
  refine xp_aload_n rfl rfl ?_
  refine xp_iload_n rfl rfl ?_
  refine xp_iload_n rfl rfl ?_
  refine xp_iv rfl rfl (Nat.le_of_ble_eq_true rfl) (by decide) (by decide) (by decide) (Nat.le_of_ble_eq_true rfl) rfl (xrcv1 (by decide) (by first | assumption | exact hL.t rfl)) (hrb) rfl ?_
  refine xp_pop rfl rfl ?_
  refine xp_aload_n rfl rfl ?_
  refine xp_gfi rfl rfl (by decide) (by decide) (by first | assumption | exact hL.t rfl) ?_
  refine xp_bipush (n := 4294967294) rfl (by decide) ?_
  refine xp_icne 50 rfl (by decide) (by omega) (by omega) (fun h25 => ?_) (fun h25 => ?_)
  · skip
    refine xp_return rfl (by decide) (by decide) (by decide) ?_
    repeat (first | rw [if_pos (by omega)] | rw [if_neg (by omega)])
  · skip
    refine xp_aload_n rfl rfl ?_
    refine xp_gfi rfl rfl (by decide) (by decide) (by first | assumption | exact hL.t rfl) ?_
    refine xp_aload_n rfl rfl ?_
    refine xp_gfa rfl rfl (by decide) (by decide) (by first | assumption | exact hL.t rfl) (by first | assumption | exact hL.r rfl | exact hL.2.2.2.2.2) ?_
    refine xp_gfi rfl rfl (by decide) (by decide) (by first | assumption | exact hL.t rfl) ?_
    rw [e1]
    refine xp_icge 50 rfl (by decide) (by omega) (by omega) (fun h39 => ?_) (fun h39 => ?_)
    · skip
      refine xp_return rfl (by decide) (by decide) (by decide) ?_
      repeat (first | rw [if_pos (by omega)] | rw [if_neg (by omega)])
    · skip
      refine xp_aload_n rfl rfl ?_
      refine xp_aload_n rfl rfl ?_
      refine xp_gfi rfl rfl (by decide) (by decide) (by first | assumption | exact hL.t rfl) ?_
      refine xp_pfi rfl rfl (by decide) (by decide) (by decide) (by first | assumption | exact hL.t rfl) ?_
      refine xp_return rfl (by decide) (by decide) (by decide) ?_
      repeat (first | rw [if_pos (by omega)] | rw [if_neg (by omega)])
theorem c92 {z : Nat} {T : Nat → Option xT} {R : Nat → Nat → Option Nat} {A : xQ} {w u : Nat} (hL : xLay T R w) (hW : xW0 T R u) (hrw : R 102 1 = some u) (hI : CI u A) (h3 : A.1 u 2 ≤ 3) (h2 : A.1 u 3 ≤ 2) (hb : ∀ t, t < A.1 u 2 → A.1 (u + 11 + 25 * t) 2 ≤ 2) : xF 92 [.ref 102] (xm z T R A) (.inr none, xm z T R (aTst u A)) := by
  obtain ⟨w1, w2, w3, w4, hH, hSt⟩ := id hW
  have hru := c99 (z := z) hW h3 (fun t ht => by have := hb t ht; omega)
  have hru2 := aRuns_le u A (A.1 u 2) 0
  obtain ⟨y1, y2⟩ := hSt (A.1 u 3) (by omega)
  have y3 := y2.1
  have f4 := hI.2.2.2.1
  have hb1 := hb (A.1 u 3)
  unfold aTst
  generalize aRuns u A (A.1 u 2) 0 = q at *
  refine xF_eq (xF_p (Nat.le_of_ble_eq_true rfl) ?_)
  refine xp_aload_n rfl rfl ?_
  refine xp_gfa rfl rfl (by decide) (by decide) (by first | assumption | exact hL.t rfl) (by first | assumption | exact hL.r rfl | exact hL.2.2.2.2.2) ?_
  refine xp_gfi rfl rfl (by decide) (by decide) (by first | assumption | exact hL.t rfl) ?_
  refine xp_aload_n rfl rfl ?_
  refine xp_gfa rfl rfl (by decide) (by decide) (by first | assumption | exact hL.t rfl) (by first | assumption | exact hL.r rfl | exact hL.2.2.2.2.2) ?_
  refine xp_gfi rfl rfl (by decide) (by decide) (by first | assumption | exact hL.t rfl) ?_
  refine xp_icge 21 rfl (by decide) (by omega) (by omega) (fun h14 => ?_) (fun h14 => ?_)
  · skip
    refine xp_iconst (n := 0) rfl (by decide) ?_
    refine xp_istore_n rfl (by decide) ?_
    refine xp_iload_n rfl rfl ?_
    refine xp_ifeq 52 rfl (by decide) (by omega) (fun h24 => ?_) (fun h24 => ?_)
    · skip
      refine xp_iconst (n := 0) rfl (by decide) ?_
      refine xp_istore_n rfl (by decide) ?_
      refine xp_aload_n rfl rfl ?_
      refine xp_gfi rfl rfl (by decide) (by decide) (by first | assumption | exact hL.t rfl) ?_
      refine xp_bipush (n := 4294967294) rfl (by decide) ?_
      refine xp_icne 86 rfl (by decide) (by omega) (by omega) (fun h60 => ?_) (fun h60 => ?_)
      · skip
        refine xp_return rfl (by decide) (by decide) (by decide) ?_
        first | (exfalso; omega) | (repeat (first | rw [if_pos (by omega)] | rw [if_neg (by omega)]))
      · skip
        refine xp_iload_n rfl rfl ?_
        refine xp_ifeq 81 rfl (by decide) (by omega) (fun h64 => ?_) (fun h64 => ?_)
        · skip
          refine xp_aload_n rfl rfl ?_
          refine xp_iconst (n := 4) rfl (by decide) ?_
          refine xp_pfi rfl rfl (by decide) (by decide) (by decide) (by first | assumption | exact hL.t rfl) ?_
          refine xp_return rfl (by decide) (by decide) (by decide) ?_
          first | (exfalso; omega) | (repeat (first | rw [if_pos (by omega)] | rw [if_neg (by omega)]))
        · skip
          refine xp_iload_n rfl rfl ?_
          refine xp_ifne 86 rfl (by decide) (by omega) (fun h68 => ?_) (fun h68 => ?_)
          · skip
            refine xp_return rfl (by decide) (by decide) (by decide) ?_
            first | (exfalso; omega) | (repeat (first | rw [if_pos (by omega)] | rw [if_neg (by omega)]))
          · skip
            refine xp_aload_n rfl rfl ?_
            refine xp_gfa rfl rfl (by decide) (by decide) (by first | assumption | exact hL.t rfl) (by first | assumption | exact hL.r rfl | exact hL.2.2.2.2.2) ?_
            refine xp_iv rfl rfl (Nat.le_of_ble_eq_true rfl) (by decide) (by decide) (by decide) (Nat.le_of_ble_eq_true rfl) rfl (xrcv1 (by decide) (by first | assumption | exact hL.t rfl)) (hru) rfl ?_
            refine xp_ifeq 86 rfl (by decide) (by omega) (fun h78 => ?_) (fun h78 => ?_)
            · skip
              refine xp_return rfl (by decide) (by decide) (by decide) ?_
              first | (exfalso; omega) | (repeat (first | rw [if_pos (by omega)] | rw [if_neg (by omega)]))
            · skip
              refine xp_aload_n rfl rfl ?_
              refine xp_iconst (n := 4) rfl (by decide) ?_
              refine xp_pfi rfl rfl (by decide) (by decide) (by decide) (by first | assumption | exact hL.t rfl) ?_
              refine xp_return rfl (by decide) (by decide) (by decide) ?_
              first | (exfalso; omega) | (repeat (first | rw [if_pos (by omega)] | rw [if_neg (by omega)]))
    · skip
      have hb2 : A.1 u 3 < A.1 u 2 → _ := hb1
      refine xp_aload_n rfl rfl ?_
      refine xp_gfa rfl rfl (by decide) (by decide) (by first | assumption | exact hL.t rfl) (by first | assumption | exact hL.r rfl | exact hL.2.2.2.2.2) ?_
      refine xp_gfa rfl rfl (by decide) (by decide) (by first | assumption | exact hL.t rfl) (by first | assumption | exact hL.r rfl | exact hL.2.2.2.2.2) ?_
      refine xp_aload_n rfl rfl ?_
      refine xp_gfa rfl rfl (by decide) (by decide) (by first | assumption | exact hL.t rfl) (by first | assumption | exact hL.r rfl | exact hL.2.2.2.2.2) ?_
      refine xp_gfi rfl rfl (by decide) (by decide) (by first | assumption | exact hL.t rfl) ?_
      refine xp_aald rfl (by first | assumption | exact hL.t rfl) (by decide) (by decide) (by omega) (by omega) (by first | assumption | exact hL.r rfl | exact hL.2.2.2.2.2) ?_
      refine xp_gfi rfl rfl (by decide) (by decide) (by first | assumption | exact hL.t rfl) ?_
      refine xp_ifne 52 rfl (by decide) (by by_cases qq : A.1 u 3 < A.1 u 2 <;> omega) (fun h45 => ?_) (fun h45 => ?_)
      · skip
        refine xp_iconst (n := 0) rfl (by decide) ?_
        refine xp_istore_n rfl (by decide) ?_
        refine xp_aload_n rfl rfl ?_
        refine xp_gfi rfl rfl (by decide) (by decide) (by first | assumption | exact hL.t rfl) ?_
        refine xp_bipush (n := 4294967294) rfl (by decide) ?_
        refine xp_icne 86 rfl (by decide) (by omega) (by omega) (fun h60 => ?_) (fun h60 => ?_)
        · skip
          refine xp_return rfl (by decide) (by decide) (by decide) ?_
          first | (exfalso; omega) | (repeat (first | rw [if_pos (by omega)] | rw [if_neg (by omega)]))
        · skip
          refine xp_iload_n rfl rfl ?_
          refine xp_ifeq 81 rfl (by decide) (by omega) (fun h64 => ?_) (fun h64 => ?_)
          · skip
            refine xp_aload_n rfl rfl ?_
            refine xp_iconst (n := 4) rfl (by decide) ?_
            refine xp_pfi rfl rfl (by decide) (by decide) (by decide) (by first | assumption | exact hL.t rfl) ?_
            refine xp_return rfl (by decide) (by decide) (by decide) ?_
            first | (exfalso; omega) | (repeat (first | rw [if_pos (by omega)] | rw [if_neg (by omega)]))
          · skip
            refine xp_iload_n rfl rfl ?_
            refine xp_ifne 86 rfl (by decide) (by omega) (fun h68 => ?_) (fun h68 => ?_)
            · skip
              refine xp_return rfl (by decide) (by decide) (by decide) ?_
              first | (exfalso; omega) | (repeat (first | rw [if_pos (by omega)] | rw [if_neg (by omega)]))
            · skip
              refine xp_aload_n rfl rfl ?_
              refine xp_gfa rfl rfl (by decide) (by decide) (by first | assumption | exact hL.t rfl) (by first | assumption | exact hL.r rfl | exact hL.2.2.2.2.2) ?_
              refine xp_iv rfl rfl (Nat.le_of_ble_eq_true rfl) (by decide) (by decide) (by decide) (Nat.le_of_ble_eq_true rfl) rfl (xrcv1 (by decide) (by first | assumption | exact hL.t rfl)) (hru) rfl ?_
              refine xp_ifeq 86 rfl (by decide) (by omega) (fun h78 => ?_) (fun h78 => ?_)
              · skip
                refine xp_return rfl (by decide) (by decide) (by decide) ?_
                first | (exfalso; omega) | (repeat (first | rw [if_pos (by omega)] | rw [if_neg (by omega)]))
              · skip
                refine xp_aload_n rfl rfl ?_
                refine xp_iconst (n := 4) rfl (by decide) ?_
                refine xp_pfi rfl rfl (by decide) (by decide) (by decide) (by first | assumption | exact hL.t rfl) ?_
                refine xp_return rfl (by decide) (by decide) (by decide) ?_
                first | (exfalso; omega) | (repeat (first | rw [if_pos (by omega)] | rw [if_neg (by omega)]))
      · skip
        refine xp_iconst (n := 1) rfl (by decide) ?_
        refine xp_goto 53 rfl (by decide) ?_
        refine xp_istore_n rfl (by decide) ?_
        refine xp_aload_n rfl rfl ?_
        refine xp_gfi rfl rfl (by decide) (by decide) (by first | assumption | exact hL.t rfl) ?_
        refine xp_bipush (n := 4294967294) rfl (by decide) ?_
        refine xp_icne 86 rfl (by decide) (by omega) (by omega) (fun h60 => ?_) (fun h60 => ?_)
        · skip
          refine xp_return rfl (by decide) (by decide) (by decide) ?_
          first | (exfalso; omega) | (repeat (first | rw [if_pos (by omega)] | rw [if_neg (by omega)]))
        · skip
          refine xp_iload_n rfl rfl ?_
          refine xp_ifeq 81 rfl (by decide) (by omega) (fun h64 => ?_) (fun h64 => ?_)
          · skip
            refine xp_aload_n rfl rfl ?_
            refine xp_iconst (n := 4) rfl (by decide) ?_
            refine xp_pfi rfl rfl (by decide) (by decide) (by decide) (by first | assumption | exact hL.t rfl) ?_
            refine xp_return rfl (by decide) (by decide) (by decide) ?_
            first | (exfalso; omega) | (repeat (first | rw [if_pos (by omega)] | rw [if_neg (by omega)]))
          · skip
            refine xp_iload_n rfl rfl ?_
            refine xp_ifne 86 rfl (by decide) (by omega) (fun h68 => ?_) (fun h68 => ?_)
            · skip
              refine xp_return rfl (by decide) (by decide) (by decide) ?_
              first | (exfalso; omega) | (repeat (first | rw [if_pos (by omega)] | rw [if_neg (by omega)]))
            · skip
              refine xp_aload_n rfl rfl ?_
              refine xp_gfa rfl rfl (by decide) (by decide) (by first | assumption | exact hL.t rfl) (by first | assumption | exact hL.r rfl | exact hL.2.2.2.2.2) ?_
              refine xp_iv rfl rfl (Nat.le_of_ble_eq_true rfl) (by decide) (by decide) (by decide) (Nat.le_of_ble_eq_true rfl) rfl (xrcv1 (by decide) (by first | assumption | exact hL.t rfl)) (hru) rfl ?_
              refine xp_ifeq 86 rfl (by decide) (by omega) (fun h78 => ?_) (fun h78 => ?_)
              · skip
                refine xp_return rfl (by decide) (by decide) (by decide) ?_
                first | (exfalso; omega) | (repeat (first | rw [if_pos (by omega)] | rw [if_neg (by omega)]))
              · skip
                refine xp_aload_n rfl rfl ?_
                refine xp_iconst (n := 4) rfl (by decide) ?_
                refine xp_pfi rfl rfl (by decide) (by decide) (by decide) (by first | assumption | exact hL.t rfl) ?_
                refine xp_return rfl (by decide) (by decide) (by decide) ?_
                first | (exfalso; omega) | (repeat (first | rw [if_pos (by omega)] | rw [if_neg (by omega)]))
  · skip
    refine xp_iconst (n := 1) rfl (by decide) ?_
    refine xp_goto 22 rfl (by decide) ?_
    refine xp_istore_n rfl (by decide) ?_
    refine xp_iload_n rfl rfl ?_
    refine xp_ifeq 52 rfl (by decide) (by omega) (fun h24 => ?_) (fun h24 => ?_)
    · skip
      refine xp_iconst (n := 0) rfl (by decide) ?_
      refine xp_istore_n rfl (by decide) ?_
      refine xp_aload_n rfl rfl ?_
      refine xp_gfi rfl rfl (by decide) (by decide) (by first | assumption | exact hL.t rfl) ?_
      refine xp_bipush (n := 4294967294) rfl (by decide) ?_
      refine xp_icne 86 rfl (by decide) (by omega) (by omega) (fun h60 => ?_) (fun h60 => ?_)
      · skip
        refine xp_return rfl (by decide) (by decide) (by decide) ?_
        first | (exfalso; omega) | (repeat (first | rw [if_pos (by omega)] | rw [if_neg (by omega)]))
      · skip
        refine xp_iload_n rfl rfl ?_
        refine xp_ifeq 81 rfl (by decide) (by omega) (fun h64 => ?_) (fun h64 => ?_)
        · skip
          refine xp_aload_n rfl rfl ?_
          refine xp_iconst (n := 4) rfl (by decide) ?_
          refine xp_pfi rfl rfl (by decide) (by decide) (by decide) (by first | assumption | exact hL.t rfl) ?_
          refine xp_return rfl (by decide) (by decide) (by decide) ?_
          first | (exfalso; omega) | (repeat (first | rw [if_pos (by omega)] | rw [if_neg (by omega)]))
        · skip
          refine xp_iload_n rfl rfl ?_
          refine xp_ifne 86 rfl (by decide) (by omega) (fun h68 => ?_) (fun h68 => ?_)
          · skip
            refine xp_return rfl (by decide) (by decide) (by decide) ?_
            first | (exfalso; omega) | (repeat (first | rw [if_pos (by omega)] | rw [if_neg (by omega)]))
          · skip
            refine xp_aload_n rfl rfl ?_
            refine xp_gfa rfl rfl (by decide) (by decide) (by first | assumption | exact hL.t rfl) (by first | assumption | exact hL.r rfl | exact hL.2.2.2.2.2) ?_
            refine xp_iv rfl rfl (Nat.le_of_ble_eq_true rfl) (by decide) (by decide) (by decide) (Nat.le_of_ble_eq_true rfl) rfl (xrcv1 (by decide) (by first | assumption | exact hL.t rfl)) (hru) rfl ?_
            refine xp_ifeq 86 rfl (by decide) (by omega) (fun h78 => ?_) (fun h78 => ?_)
            · skip
              refine xp_return rfl (by decide) (by decide) (by decide) ?_
              first | (exfalso; omega) | (repeat (first | rw [if_pos (by omega)] | rw [if_neg (by omega)]))
            · skip
              refine xp_aload_n rfl rfl ?_
              refine xp_iconst (n := 4) rfl (by decide) ?_
              refine xp_pfi rfl rfl (by decide) (by decide) (by decide) (by first | assumption | exact hL.t rfl) ?_
              refine xp_return rfl (by decide) (by decide) (by decide) ?_
              first | (exfalso; omega) | (repeat (first | rw [if_pos (by omega)] | rw [if_neg (by omega)]))
    · skip
      have hb2 : A.1 u 3 < A.1 u 2 → _ := hb1
      refine xp_aload_n rfl rfl ?_
      refine xp_gfa rfl rfl (by decide) (by decide) (by first | assumption | exact hL.t rfl) (by first | assumption | exact hL.r rfl | exact hL.2.2.2.2.2) ?_
      refine xp_gfa rfl rfl (by decide) (by decide) (by first | assumption | exact hL.t rfl) (by first | assumption | exact hL.r rfl | exact hL.2.2.2.2.2) ?_
      refine xp_aload_n rfl rfl ?_
      refine xp_gfa rfl rfl (by decide) (by decide) (by first | assumption | exact hL.t rfl) (by first | assumption | exact hL.r rfl | exact hL.2.2.2.2.2) ?_
      refine xp_gfi rfl rfl (by decide) (by decide) (by first | assumption | exact hL.t rfl) ?_
      refine xp_aald rfl (by first | assumption | exact hL.t rfl) (by decide) (by decide) (by omega) (by omega) (by first | assumption | exact hL.r rfl | exact hL.2.2.2.2.2) ?_
      refine xp_gfi rfl rfl (by decide) (by decide) (by first | assumption | exact hL.t rfl) ?_
      refine xp_ifne 52 rfl (by decide) (by by_cases qq : A.1 u 3 < A.1 u 2 <;> omega) (fun h45 => ?_) (fun h45 => ?_)
      · skip
        refine xp_iconst (n := 0) rfl (by decide) ?_
        refine xp_istore_n rfl (by decide) ?_
        refine xp_aload_n rfl rfl ?_
        refine xp_gfi rfl rfl (by decide) (by decide) (by first | assumption | exact hL.t rfl) ?_
        refine xp_bipush (n := 4294967294) rfl (by decide) ?_
        refine xp_icne 86 rfl (by decide) (by omega) (by omega) (fun h60 => ?_) (fun h60 => ?_)
        · skip
          refine xp_return rfl (by decide) (by decide) (by decide) ?_
          first | (exfalso; omega) | (repeat (first | rw [if_pos (by omega)] | rw [if_neg (by omega)]))
        · skip
          refine xp_iload_n rfl rfl ?_
          refine xp_ifeq 81 rfl (by decide) (by omega) (fun h64 => ?_) (fun h64 => ?_)
          · skip
            refine xp_aload_n rfl rfl ?_
            refine xp_iconst (n := 4) rfl (by decide) ?_
            refine xp_pfi rfl rfl (by decide) (by decide) (by decide) (by first | assumption | exact hL.t rfl) ?_
            refine xp_return rfl (by decide) (by decide) (by decide) ?_
            first | (exfalso; omega) | (repeat (first | rw [if_pos (by omega)] | rw [if_neg (by omega)]))
          · skip
            refine xp_iload_n rfl rfl ?_
            refine xp_ifne 86 rfl (by decide) (by omega) (fun h68 => ?_) (fun h68 => ?_)
            · skip
              refine xp_return rfl (by decide) (by decide) (by decide) ?_
              first | (exfalso; omega) | (repeat (first | rw [if_pos (by omega)] | rw [if_neg (by omega)]))
            · skip
              refine xp_aload_n rfl rfl ?_
              refine xp_gfa rfl rfl (by decide) (by decide) (by first | assumption | exact hL.t rfl) (by first | assumption | exact hL.r rfl | exact hL.2.2.2.2.2) ?_
              refine xp_iv rfl rfl (Nat.le_of_ble_eq_true rfl) (by decide) (by decide) (by decide) (Nat.le_of_ble_eq_true rfl) rfl (xrcv1 (by decide) (by first | assumption | exact hL.t rfl)) (hru) rfl ?_
              refine xp_ifeq 86 rfl (by decide) (by omega) (fun h78 => ?_) (fun h78 => ?_)
              · skip
                refine xp_return rfl (by decide) (by decide) (by decide) ?_
                first | (exfalso; omega) | (repeat (first | rw [if_pos (by omega)] | rw [if_neg (by omega)]))
              · skip
                refine xp_aload_n rfl rfl ?_
                refine xp_iconst (n := 4) rfl (by decide) ?_
                refine xp_pfi rfl rfl (by decide) (by decide) (by decide) (by first | assumption | exact hL.t rfl) ?_
                refine xp_return rfl (by decide) (by decide) (by decide) ?_
                first | (exfalso; omega) | (repeat (first | rw [if_pos (by omega)] | rw [if_neg (by omega)]))
      · skip
        refine xp_iconst (n := 1) rfl (by decide) ?_
        refine xp_goto 53 rfl (by decide) ?_
        refine xp_istore_n rfl (by decide) ?_
        refine xp_aload_n rfl rfl ?_
        refine xp_gfi rfl rfl (by decide) (by decide) (by first | assumption | exact hL.t rfl) ?_
        refine xp_bipush (n := 4294967294) rfl (by decide) ?_
        refine xp_icne 86 rfl (by decide) (by omega) (by omega) (fun h60 => ?_) (fun h60 => ?_)
        · skip
          refine xp_return rfl (by decide) (by decide) (by decide) ?_
          first | (exfalso; omega) | (repeat (first | rw [if_pos (by omega)] | rw [if_neg (by omega)]))
        · skip
          refine xp_iload_n rfl rfl ?_
          refine xp_ifeq 81 rfl (by decide) (by omega) (fun h64 => ?_) (fun h64 => ?_)
          · skip
            refine xp_aload_n rfl rfl ?_
            refine xp_iconst (n := 4) rfl (by decide) ?_
            refine xp_pfi rfl rfl (by decide) (by decide) (by decide) (by first | assumption | exact hL.t rfl) ?_
            refine xp_return rfl (by decide) (by decide) (by decide) ?_
            first | (exfalso; omega) | (repeat (first | rw [if_pos (by omega)] | rw [if_neg (by omega)]))
          · skip
            refine xp_iload_n rfl rfl ?_
            refine xp_ifne 86 rfl (by decide) (by omega) (fun h68 => ?_) (fun h68 => ?_)
            · skip
              refine xp_return rfl (by decide) (by decide) (by decide) ?_
              first | (exfalso; omega) | (repeat (first | rw [if_pos (by omega)] | rw [if_neg (by omega)]))
            · skip
              refine xp_aload_n rfl rfl ?_
              refine xp_gfa rfl rfl (by decide) (by decide) (by first | assumption | exact hL.t rfl) (by first | assumption | exact hL.r rfl | exact hL.2.2.2.2.2) ?_
              refine xp_iv rfl rfl (Nat.le_of_ble_eq_true rfl) (by decide) (by decide) (by decide) (Nat.le_of_ble_eq_true rfl) rfl (xrcv1 (by decide) (by first | assumption | exact hL.t rfl)) (hru) rfl ?_
              refine xp_ifeq 86 rfl (by decide) (by omega) (fun h78 => ?_) (fun h78 => ?_)
              · skip
                refine xp_return rfl (by decide) (by decide) (by decide) ?_
                first | (exfalso; omega) | (repeat (first | rw [if_pos (by omega)] | rw [if_neg (by omega)]))
              · skip
                refine xp_aload_n rfl rfl ?_
                refine xp_iconst (n := 4) rfl (by decide) ?_
                refine xp_pfi rfl rfl (by decide) (by decide) (by decide) (by first | assumption | exact hL.t rfl) ?_
                refine xp_return rfl (by decide) (by decide) (by decide) ?_
                first | (exfalso; omega) | (repeat (first | rw [if_pos (by omega)] | rw [if_neg (by omega)]))
def aH1 (u : Nat) (A : xQ) : xQ := (aRb 1 1 (aRb 78 78 (aRb 83 83 (aClear u (xsI (xsI (xsI A 102 2 4294967294) 102 4 0) 102 5 24))).2).2).2
def hasC (A : xQ) : Nat := if A.1 102 2 = 4294967294 then (if 3 < A.1 99 1 then 1 else 0) else 0
def aH2 (cs : Nat) (A : xQ) : xQ := xsI (aRb cs cs A).2 102 3 (if hasC A = 0 then 0 else if (aRb cs cs A).2.1 102 2 = 4294967294 then 0 else 1)
def aH3a (u : Nat) (A : xQ) : xQ := xsI (aRb 0 2 A).2 u 3 (aRb 0 2 A).1
def aH3b (u : Nat) (A : xQ) : xQ := xsI (aRb 0 3 (aH3a u A)).2 u 4 (aRb 0 3 (aH3a u A)).1
def aH3 (u : Nat) (A : xQ) : xQ := xsI (aRb 1 3 (aH3b u A)).2 u 2 (aRb 1 3 (aH3b u A)).1
def aThs (u m t : Nat) (A : xQ) : xQ := xit (fun t B => aRst u (u + 11 + 25 * t) B) m t A
/-- all is read -/
def aRead (u cs : Nat) (A : xQ) : xQ := aTst u (aRend (aRos u (aThs u ((aH3 u (aH2 cs (aH1 u A))).1 u 2) 0 (aH3 u (aH2 cs (aH1 u A))))))
section KH
variable {u : Nat} {A : xQ}
theorem CI.clr (hu : u = 12 ∨ u = 103) (h1 : A.1 99 1 ≤ 2400) (h2 : ∀ i, i < A.1 99 1 → A.1 100 i < 256) : CI u (aClear u (xsI (xsI (xsI A 102 2 4294967294) 102 4 0) 102 5 24)) := by
  obtain ⟨z1, z2⟩ := xit_fill (u + 3) 0 24 0 (xsI (xsI (xsI A 102 2 4294967294) 102 4 0) 102 5 24)
  have e : ∀ a j, a ≠ u + 3 → (a ≠ u + 2 ∨ j ≠ 4) → (aClear u (xsI (xsI (xsI A 102 2 4294967294) 102 4 0) 102 5 24)).1 a j = (xsI (xsI (xsI A 102 2 4294967294) 102 4 0) 102 5 24).1 a j := fun a j q1 q2 => by
    unfold aClear
    rw [xsI_ne q2, z2, if_neg (by omega)]
  have e2 : (aClear u (xsI (xsI (xsI A 102 2 4294967294) 102 4 0) 102 5 24)).1 (u + 2) 4 = 0 := xsI_eq
  have e3 : ∀ o, o < 24 → (aClear u (xsI (xsI (xsI A 102 2 4294967294) 102 4 0) 102 5 24)).1 (u + 3) o = 0 := fun o ho => by
    unfold aClear
    rw [xsI_ne (by omega), z2, if_pos ⟨rfl, by omega, by omega⟩]
  unfold CI
  rw [e 99 1 (by omega) (by omega), e 102 4 (by omega) (by omega), e 102 2 (by omega) (by omega), e 102 5 (by omega) (by omega), e2, xsI_eq, xsI_ne (by omega), xsI_ne (by omega), xsI_ne (by omega), xsI_ne (by omega), xsI_eq, xsI_ne (by omega), xsI_ne (by omega), xsI_eq]
  refine ⟨h1, fun i hi => ?_, by omega, Or.inl rfl, by omega, by omega, fun o ho => ⟨fun q => by omega, fun _ => e3 o ho⟩⟩
  rw [e _ _ (by omega) (by omega), xsI_ne (by omega), xsI_ne (by omega), xsI_ne (by omega)]
  exact h2 i hi
theorem CI.h1 (hu : u = 12 ∨ u = 103) (h1 : A.1 99 1 ≤ 2400) (h2 : ∀ i, i < A.1 99 1 → A.1 100 i < 256) : CI u (aH1 u A) := (((CI.clr hu h1 h2).rb hu 83 83).rb hu 78 78).rb hu 1 1
theorem CI.w3 {v : Nat} (h : CI u A) (hu : u = 12 ∨ u = 103) : CI u (xsI A 102 3 v) := by
  obtain ⟨i1, i2, i3, i4, i5, i6, i7⟩ := h
  have e : ∀ a j, (a ≠ 102 ∨ j ≠ 3) → (xsI A 102 3 v).1 a j = A.1 a j := fun a j q => xsI_ne q
  refine ⟨by rw [e _ _ (by omega)]; exact i1, fun i hi => ?_, by rw [e 102 4 (by omega), e 99 1 (by omega)]; exact i3, by rw [e 102 2 (by omega)]; exact i4, by rw [e 102 5 (by omega), e (u + 2) 4 (by omega)]; exact i5, by rw [e 102 5 (by omega)]; exact i6, fun o ho => ?_⟩
  · rw [e 99 1 (by omega)] at hi
    rw [e _ _ (by omega)]
    exact i2 i hi
  · rw [e _ _ (by omega), e _ _ (by omega)]
    exact i7 o ho
theorem CI.h2 {cs : Nat} (h : CI u A) (hu : u = 12 ∨ u = 103) : CI u (aH2 cs A) := (h.rb hu cs cs).w3 hu
theorem KA.h3a (h : CI u A) (hu : u = 12 ∨ u = 103) : KA u u (u + 1) A (aH3a u A) := by
  have h1 := KA.rb (lo := u) (hi := u + 1) h hu 0 2
  exact h1.trans (KA.wI h1.ci (by omega) (by omega) (by omega))
theorem KA.h3b (h : CI u A) (hu : u = 12 ∨ u = 103) : KA u u (u + 1) A (aH3b u A) := by
  have h0 := KA.h3a h hu
  have h1 := KA.rb (lo := u) (hi := u + 1) h0.ci hu 0 3
  exact h0.trans (h1.trans (KA.wI h1.ci (by omega) (by omega) (by omega)))
theorem KA.h3 (h : CI u A) (hu : u = 12 ∨ u = 103) : KA u u (u + 1) A (aH3 u A) := by
  have h0 := KA.h3b h hu
  have h1 := KA.rb (lo := u) (hi := u + 1) h0.ci hu 1 3
  exact h0.trans (h1.trans (KA.wI h1.ci (by omega) (by omega) (by omega)))
theorem aH3_r (hu : u = 12 ∨ u = 103) : (aH3 u A).1 u 2 = (aRb 1 3 (aH3b u A)).1 ∧ (aH3 u A).1 u 3 = (aRb 0 2 A).1 ∧ (aH3 u A).1 u 4 = (aRb 0 3 (aH3a u A)).1 := by
  refine ⟨xsI_eq, ?_, ?_⟩
  · unfold aH3
    rw [xsI_ne (by omega), aRb_ne _ _ _ (by omega)]
    unfold aH3b
    rw [xsI_ne (by omega), aRb_ne _ _ _ (by omega)]
    exact xsI_eq
  · unfold aH3
    rw [xsI_ne (by omega), aRb_ne _ _ _ (by omega)]
    exact xsI_eq
theorem aH3_b (hu : u = 12 ∨ u = 103) : (1 ≤ (aH3 u A).1 u 2 ∧ (aH3 u A).1 u 2 ≤ 3) ∧ (aH3 u A).1 u 3 ≤ 2 ∧ (aH3 u A).1 u 4 ≤ 3 := by
  obtain ⟨e1, e2, e3⟩ := aH3_r (u := u) (A := A) hu
  rw [e1, e2, e3]
  exact ⟨aRb_in (by omega), (aRb_in (by omega)).2, (aRb_in (by omega)).2⟩
theorem KA.ths (hu : u = 12 ∨ u = 103) : ∀ (m t : Nat) (A : xQ), t + m ≤ 3 → CI u A → 1 ≤ A.1 102 5 → KA u (u + 11 + 25 * t) (u + 86) A (aThs u m t A) ∧ ∀ v, t ≤ v → v < t + m → (aThs u m t A).1 (u + 11 + 25 * v) 2 ≤ 2 := by
  intro m
  induction m with
  | zero => intro t A _ h _; exact ⟨KA.refl h, fun v h1 h2 => by omega⟩
  | succ m ih =>
    intro t A ht h hl
    obtain ⟨a1, a2⟩ := KA.rs h hl (As.of (w := 0) (t := t) hu (by omega))
    obtain ⟨b1, b2⟩ := ih (t + 1) _ (by omega) a1.ci (a1.l hl)
    refine ⟨(a1.mono (Nat.le_refl _) (by omega)).trans (b1.mono (by omega) (Nat.le_refl _)), fun v h1 h2 => ?_⟩
    by_cases q : v = t
    · have e := b1.1 (u + 11 + 25 * t) 2 (by omega) (by omega) (by omega) (by omega)
      rw [q]
      have := (aRb_in (lo := 0) (hi := 2) (A := A) (by omega)).2
      show (aThs u m (t + 1) _).1 _ 2 ≤ 2
      rw [e, a2]
      exact this
    · exact b2 v (by omega) (by omega)
end KH
theorem l79 {z : Nat} {T : Nat → Option xT} {R : Nat → Nat → Option Nat} {w u : Nat} {Q : xR → Prop} (hL : xLay T R w) (hW : xW0 T R u) (hrw : R 102 1 = some u) (hu : u = 12 ∨ u = 103) : ∀ (m t : Nat) (A : xQ), t + m = A.1 u 2 → A.1 u 2 ≤ 3 → CI u A → 1 ≤ A.1 102 5 → xP 79 186 [(0, .ref 102)] [] 0 0 (xm z T R (aThs u m t A)) Q → xP 79 154 [(0, .ref 102), (4, .int (nI t))] [] 0 0 (xm z T R A) Q := by
  obtain ⟨w1, w2, w3, w4, hH, hSt⟩ := id hW
  intro m
  induction m with
  | zero =>
    intro t A ht h3 hI hl hQ
    refine xp_iload rfl rfl ?_
    refine xp_aload_n rfl rfl ?_
    refine xp_gfa rfl rfl (by decide) (by decide) (by first | assumption | exact hL.t rfl) (by first | assumption | exact hL.r rfl | exact hL.2.2.2.2.2) ?_
    refine xp_gfi rfl rfl (by decide) (by decide) (by first | assumption | exact hL.t rfl) ?_
    refine xp_icge 186 rfl (by decide) (by omega) (by omega) (fun h163 => ?_) (fun h163 => ?_)
    · skip
      refine xp_weak [(0, .ref 102)] (xle_cons rfl (xle_nil _)) (by simp [xnd]) ?_
      exact hQ
    · exfalso; omega
  | succ m ih =>
    intro t A ht h3 hI hl hQ
    obtain ⟨y1, y2⟩ := hSt t (by omega)
    have hst := c82 (z := z) hL hW hrw hI hl y2 (As.of (w := 0) hu (by omega))
    obtain ⟨a1, a2⟩ := KA.rs hI hl (As.of (w := 0) (t := t) hu (by omega))
    have e2 : (aRst u (u + 11 + 25 * t) A).1 u 2 = A.1 u 2 := a1.1 u 2 (by omega) (by omega) (by omega) (by omega)
    have hih := ih (t + 1) (aRst u (u + 11 + 25 * t) A) (by omega) (by omega) a1.ci (a1.l hl) hQ
    refine xp_iload rfl rfl ?_
    refine xp_aload_n rfl rfl ?_
    refine xp_gfa rfl rfl (by decide) (by decide) (by first | assumption | exact hL.t rfl) (by first | assumption | exact hL.r rfl | exact hL.2.2.2.2.2) ?_
    refine xp_gfi rfl rfl (by decide) (by decide) (by first | assumption | exact hL.t rfl) ?_
    refine xp_icge 186 rfl (by decide) (by omega) (by omega) (fun h163 => ?_) (fun h163 => ?_)
    · exfalso; omega
    · skip
      refine xp_aload_n rfl rfl ?_
      refine xp_aload_n rfl rfl ?_
      refine xp_gfa rfl rfl (by decide) (by decide) (by first | assumption | exact hL.t rfl) (by first | assumption | exact hL.r rfl | exact hL.2.2.2.2.2) ?_
      refine xp_gfa rfl rfl (by decide) (by decide) (by first | assumption | exact hL.t rfl) (by first | assumption | exact hL.r rfl | exact hL.2.2.2.2.2) ?_
      refine xp_iload rfl rfl ?_
      refine xp_aald rfl (by first | assumption | exact hL.t rfl) (by decide) (by decide) (by omega) (by omega) (by first | assumption | exact hL.r rfl | exact hL.2.2.2.2.2) ?_
      refine xp_iv rfl rfl (Nat.le_of_ble_eq_true rfl) (by decide) (by decide) (by decide) (Nat.le_of_ble_eq_true rfl) rfl (xrcv1 (by decide) (by first | assumption | exact hL.t rfl)) (hst) rfl ?_
      refine xp_iinc rfl rfl (by decide) (nI_inc _) ?_
      refine xp_goto 154 rfl (by decide) ?_
      refine xp_weak [(0, .ref 102), (4, .int (nI (t + 1)))] (xle_cons rfl (xle_cons rfl (xle_nil _))) (by simp [xnd]) ?_
      exact hih
theorem c79 {z : Nat} {T : Nat → Option xT} {R : Nat → Nat → Option Nat} {A : xQ} {w u cs : Nat} (hL : xLay T R w) (hW : xW0 T R u) (hu : u = 12 ∨ u = 103) (h1 : A.1 99 1 ≤ 2400) (h2 : ∀ i, i < A.1 99 1 → A.1 100 i < 256) (hcs : cs < 256) : xF 79 [.ref 102, .ref u, .int (nI cs)] (xm z T R A) (.inr none, xm z T (x2 R 102 1 (some u)) (aRead u cs A)) := by
  have hrw : x2 R 102 1 (some u) 102 1 = some u := x2e
  have hL2 : xLay T (x2 R 102 1 (some u)) w := hL.rw
  have hW2 : xW0 T (x2 R 102 1 (some u)) u := hL2.w hu
  obtain ⟨R1, hR1⟩ : ∃ R1, R1 = x2 R 102 1 (some u) := ⟨_, rfl⟩
  rw [← hR1] at hrw hL2 hW2 ⊢
  obtain ⟨w1, w2, w3, w4, hH, hSt⟩ := id hW2
  have I0 := CI.clr hu h1 h2
  have b0 := c59 (z := z) (A := xsI (xsI (xsI A 102 2 4294967294) 102 4 0) 102 5 24) hH
  have b1 := c80i (z := z) (lo := 83) (hi := 83) hL2 I0 (by omega) (by omega)
  have I1 := I0.rb hu 83 83
  have b2 := c80i (z := z) (lo := 78) (hi := 78) hL2 I1 (by omega) (by omega)
  have I2 := I1.rb hu 78 78
  have b3 : xF 80 _ _ (_, xm z T R1 (aH1 u A)) := c80i (z := z) (lo := 1) (hi := 1) hL2 I2 (by omega) (by omega)
  have I3 := CI.h1 hu h1 h2
  have e5 : (aH1 u A).1 102 5 = 24 := by
    unfold aH1
    rw [aRb_ne _ _ _ (by omega), aRb_ne _ _ _ (by omega), aRb_ne _ _ _ (by omega)]
    unfold aClear
    rw [xsI_ne (by omega), (xit_fill (u + 3) 0 24 0 _).2, if_neg (by omega), xsI_eq]
  have b4 := c80i (z := z) (lo := cs) (hi := cs) hL2 I3 (by omega) (by omega)
  have I4a := I3.rb hu cs cs
  have I4 : CI u (aH2 cs (aH1 u A)) := I3.h2 hu
  have e52 : (aH2 cs (aH1 u A)).1 102 5 = 24 := by
    unfold aH2
    rw [xsI_ne (by omega), aRb_ne _ _ _ (by omega)]
    exact e5
  have f3 := I3.2.2.2.1
  have f31 := I3.1
  have f4 := I4a.2.2.2.1
  have hgo : xP 79 112 [(0, .ref 102)] [] 0 0 (xm z T R1 (aH2 cs (aH1 u A))) (fun r => r = (.inr none, xm z T R1 (aRead u cs A))) := by
    show xP 79 112 _ _ _ _ _ (fun r => r = (.inr none, xm z T R1 (aTst u (aRend (aRos u (aThs u ((aH3 u (aH2 cs (aH1 u A))).1 u 2) 0 (aH3 u (aH2 cs (aH1 u A)))))))))
    generalize aH2 cs (aH1 u A) = D at *
    have b5 := c80i (z := z) (lo := 0) (hi := 2) hL2 I4 (by omega) (by omega)
    have k5 := KA.h3a I4 hu
    have b6 := c80i (z := z) (lo := 0) (hi := 3) hL2 k5.ci (by omega) (by omega)
    have k6 := KA.h3b I4 hu
    have b7 := c80i (z := z) (lo := 1) (hi := 3) hL2 k6.ci (by omega) (by omega)
    have k7 := KA.h3 I4 hu
    obtain ⟨d1, d2, d3⟩ := aH3_b (u := u) (A := D) hu
    have hl7 : 1 ≤ (aH3 u D).1 102 5 := k7.l (by omega)
    obtain ⟨t1, t2⟩ := KA.ths hu ((aH3 u D).1 u 2) 0 (aH3 u D) (by omega) k7.ci hl7
    have g2 : (aThs u ((aH3 u D).1 u 2) 0 (aH3 u D)).1 u 2 = (aH3 u D).1 u 2 := t1.1 u 2 (by omega) (by omega) (by omega) (by omega)
    have g3 : (aThs u ((aH3 u D).1 u 2) 0 (aH3 u D)).1 u 3 = (aH3 u D).1 u 3 := t1.1 u 3 (by omega) (by omega) (by omega) (by omega)
    have b8 := c89 (z := z) hL2 hW2 hrw hu t1.ci
    obtain ⟨o1, o2, -⟩ := ros_k (u := u) t1.ci hu
    have b9 := c91 (z := z) hL2 hu o1
    obtain ⟨p1, p2, -⟩ := rend_k (u := u) o1 hu
    have e2 : (aRend (aRos u (aThs u ((aH3 u D).1 u 2) 0 (aH3 u D)))).1 u 2 = (aH3 u D).1 u 2 := by rw [p2 u 2 (by omega), o2 u 2 (by omega) (by omega), g2]
    have e3 : (aRend (aRos u (aThs u ((aH3 u D).1 u 2) 0 (aH3 u D)))).1 u 3 = (aH3 u D).1 u 3 := by rw [p2 u 3 (by omega), o2 u 3 (by omega) (by omega), g3]
    have b10 := c92 (z := z) hL2 hW2 hrw p1 (by omega) (by omega) (fun t ht => by rw [p2 _ 2 (by omega), o2 _ 2 (by omega) (by omega)]; exact t2 t (by omega) (by omega))
    refine xp_aload_n rfl rfl ?_
    refine xp_gfa rfl rfl (by decide) (by decide) (by first | assumption | exact hL.t rfl) (by first | assumption | exact hL.r rfl | exact hL.2.2.2.2.2) ?_
    refine xp_aload_n rfl rfl ?_
    refine xp_iconst (n := 0) rfl (by decide) ?_
    refine xp_iconst (n := 2) rfl (by decide) ?_
    refine xp_iv rfl rfl (Nat.le_of_ble_eq_true rfl) (by decide) (by decide) (by decide) (Nat.le_of_ble_eq_true rfl) rfl (xrcv1 (by decide) (by first | assumption | exact hL.t rfl)) (b5) rfl ?_
    refine xp_pfi rfl rfl (by decide) (by decide) (by decide) (by first | assumption | exact hL.t rfl) ?_
    refine xp_aload_n rfl rfl ?_
    refine xp_gfa rfl rfl (by decide) (by decide) (by first | assumption | exact hL.t rfl) (by first | assumption | exact hL.r rfl | exact hL.2.2.2.2.2) ?_
    refine xp_aload_n rfl rfl ?_
    refine xp_iconst (n := 0) rfl (by decide) ?_
    refine xp_iconst (n := 3) rfl (by decide) ?_
    refine xp_iv rfl rfl (Nat.le_of_ble_eq_true rfl) (by decide) (by decide) (by decide) (Nat.le_of_ble_eq_true rfl) rfl (xrcv1 (by decide) (by first | assumption | exact hL.t rfl)) (b6) rfl ?_
    refine xp_pfi rfl rfl (by decide) (by decide) (by decide) (by first | assumption | exact hL.t rfl) ?_
    refine xp_aload_n rfl rfl ?_
    refine xp_gfa rfl rfl (by decide) (by decide) (by first | assumption | exact hL.t rfl) (by first | assumption | exact hL.r rfl | exact hL.2.2.2.2.2) ?_
    refine xp_aload_n rfl rfl ?_
    refine xp_iconst (n := 1) rfl (by decide) ?_
    refine xp_iconst (n := 3) rfl (by decide) ?_
    refine xp_iv rfl rfl (Nat.le_of_ble_eq_true rfl) (by decide) (by decide) (by decide) (Nat.le_of_ble_eq_true rfl) rfl (xrcv1 (by decide) (by first | assumption | exact hL.t rfl)) (b7) rfl ?_
    refine xp_pfi rfl rfl (by decide) (by decide) (by decide) (by first | assumption | exact hL.t rfl) ?_
    refine xp_iconst (n := 0) rfl (by decide) ?_
    refine xp_istore rfl (by decide) ?_
    refine xp_weak [(0, .ref 102), (4, .int (nI 0))] (xle_cons rfl (xle_cons rfl (xle_nil _))) (by simp [xnd]) ?_
    refine l79 hL2 hW2 hrw hu ((aH3 u D).1 u 2) 0 (aH3 u D) (by omega) (by omega) k7.ci hl7 ?_
    refine xp_aload_n rfl rfl ?_
    refine xp_iv rfl rfl (Nat.le_of_ble_eq_true rfl) (by decide) (by decide) (by decide) (Nat.le_of_ble_eq_true rfl) rfl (xrcv1 (by decide) (by first | assumption | exact hL.t rfl)) (b8) rfl ?_
    refine xp_aload_n rfl rfl ?_
    refine xp_iv rfl rfl (Nat.le_of_ble_eq_true rfl) (by decide) (by decide) (by decide) (Nat.le_of_ble_eq_true rfl) rfl (xrcv1 (by decide) (by first | assumption | exact hL.t rfl)) (b9) rfl ?_
    refine xp_aload_n rfl rfl ?_
    refine xp_iv rfl rfl (Nat.le_of_ble_eq_true rfl) (by decide) (by decide) (by decide) (Nat.le_of_ble_eq_true rfl) rfl (xrcv1 (by decide) (by first | assumption | exact hL.t rfl)) (b10) rfl ?_
    refine xp_return rfl (by decide) (by decide) (by decide) ?_
    rfl
  unfold aH2 at hgo
  have hA : ¬ (aH1 u A).1 102 2 = 4294967294 → hasC (aH1 u A) = 0 := fun q => by unfold hasC; rw [if_neg q]
  have hB : (aH1 u A).1 102 2 = 4294967294 → ¬ 3 < (aH1 u A).1 99 1 → hasC (aH1 u A) = 0 := fun q q2 => by unfold hasC; rw [if_pos q, if_neg q2]
  have hC : (aH1 u A).1 102 2 = 4294967294 → 3 < (aH1 u A).1 99 1 → hasC (aH1 u A) = 1 := fun q q2 => by unfold hasC; rw [if_pos q, if_pos q2]
  have hH1 := hH.1
  refine xF_eq (xF_p (Nat.le_of_ble_eq_true rfl) ?_)
  refine xp_aload_n rfl rfl ?_
  refine xp_aload_n rfl rfl ?_
  refine xp_pfa rfl rfl (by decide) (by decide) (by decide) (by first | assumption | exact hL2.t rfl) ?_
  rw [← hR1]
  clear hR1 hL hW
  have hL := hL2
  refine xp_aload_n rfl rfl ?_
  refine xp_bipush (n := 4294967294) rfl (by decide) ?_
  refine xp_pfi rfl rfl (by decide) (by decide) (by decide) (by first | assumption | exact hL.t rfl) ?_
  refine xp_aload_n rfl rfl ?_
  refine xp_iconst (n := 0) rfl (by decide) ?_
  refine xp_pfi rfl rfl (by decide) (by decide) (by decide) (by first | assumption | exact hL.t rfl) ?_
  refine xp_aload_n rfl rfl ?_
  refine xp_bipush (n := 24) rfl (by decide) ?_
  refine xp_pfi rfl rfl (by decide) (by decide) (by decide) (by first | assumption | exact hL.t rfl) ?_
  refine xp_aload_n rfl rfl ?_
  refine xp_gfa rfl rfl (by decide) (by decide) (by first | assumption | exact hL.t rfl) (by first | assumption | exact hL.r rfl | exact hL.2.2.2.2.2) ?_
  refine xp_gfa rfl rfl (by decide) (by decide) (by first | assumption | exact hL.t rfl) (by first | assumption | exact hL.r rfl | exact hL.2.2.2.2.2) ?_
  refine xp_iv rfl rfl (Nat.le_of_ble_eq_true rfl) (by decide) (by decide) (by decide) (Nat.le_of_ble_eq_true rfl) rfl (xrcv1 (by decide) (by first | assumption | exact hL.t rfl)) (b0) rfl ?_
  refine xp_aload_n rfl rfl ?_
  refine xp_bipush (n := 83) rfl (by decide) ?_
  refine xp_bipush (n := 83) rfl (by decide) ?_
  refine xp_iv rfl rfl (Nat.le_of_ble_eq_true rfl) (by decide) (by decide) (by decide) (Nat.le_of_ble_eq_true rfl) rfl (xrcv1 (by decide) (by first | assumption | exact hL.t rfl)) (b1) rfl ?_
  refine xp_pop rfl rfl ?_
  refine xp_aload_n rfl rfl ?_
  refine xp_bipush (n := 78) rfl (by decide) ?_
  refine xp_bipush (n := 78) rfl (by decide) ?_
  refine xp_iv rfl rfl (Nat.le_of_ble_eq_true rfl) (by decide) (by decide) (by decide) (Nat.le_of_ble_eq_true rfl) rfl (xrcv1 (by decide) (by first | assumption | exact hL.t rfl)) (b2) rfl ?_
  refine xp_pop rfl rfl ?_
  refine xp_aload_n rfl rfl ?_
  refine xp_iconst (n := 1) rfl (by decide) ?_
  refine xp_iconst (n := 1) rfl (by decide) ?_
  refine xp_iv rfl rfl (Nat.le_of_ble_eq_true rfl) (by decide) (by decide) (by decide) (Nat.le_of_ble_eq_true rfl) rfl (xrcv1 (by decide) (by first | assumption | exact hL.t rfl)) (b3) rfl ?_
  refine xp_pop rfl rfl ?_
  refine xp_aload_n rfl rfl ?_
  refine xp_gfi rfl rfl (by decide) (by decide) (by first | assumption | exact hL.t rfl) ?_
  refine xp_bipush (n := 4294967294) rfl (by decide) ?_
  refine xp_icne 81 rfl (by decide) (by omega) (by omega) (fun h63 => ?_) (fun h63 => ?_)
  · skip
    refine xp_iconst (n := 0) rfl (by decide) ?_
    refine xp_istore_n rfl (by decide) ?_
    refine xp_aload_n rfl rfl ?_
    refine xp_iload_n rfl rfl ?_
    refine xp_iload_n rfl rfl ?_
    refine xp_iv rfl rfl (Nat.le_of_ble_eq_true rfl) (by decide) (by decide) (by decide) (Nat.le_of_ble_eq_true rfl) rfl (xrcv1 (by decide) (by first | assumption | exact hL.t rfl)) (b4) rfl ?_
    refine xp_pop rfl rfl ?_
    refine xp_aload_n rfl rfl ?_
    refine xp_iload_n rfl rfl ?_
    refine xp_ifeq 108 rfl (by decide) (by omega) (fun h92 => ?_) (fun h92 => ?_)
    · skip
      refine xp_iconst (n := 0) rfl (by decide) ?_
      refine xp_pfz rfl rfl (by decide) (by decide) (by decide) (by first | assumption | exact hL.t rfl) (by omega) ?_
      first | (exfalso; omega) | (refine xp_weak [(0, .ref 102)] (xle_cons rfl (xle_nil _)) (by simp [xnd]) ?_; (first | rw [hA (by omega)] at hgo | rw [hB (by omega) (by omega)] at hgo | rw [hC (by omega) (by omega)] at hgo); (repeat (first | rw [if_pos (by omega)] at hgo | rw [if_neg (by omega)] at hgo)); exact hgo)
    · skip
      refine xp_aload_n rfl rfl ?_
      refine xp_gfi rfl rfl (by decide) (by decide) (by first | assumption | exact hL.t rfl) ?_
      refine xp_bipush (n := 4294967294) rfl (by decide) ?_
      refine xp_iceq 108 rfl (by decide) (by omega) (by omega) (fun h101 => ?_) (fun h101 => ?_)
      · skip
        refine xp_iconst (n := 0) rfl (by decide) ?_
        refine xp_pfz rfl rfl (by decide) (by decide) (by decide) (by first | assumption | exact hL.t rfl) (by omega) ?_
        first | (exfalso; omega) | (refine xp_weak [(0, .ref 102)] (xle_cons rfl (xle_nil _)) (by simp [xnd]) ?_; (first | rw [hA (by omega)] at hgo | rw [hB (by omega) (by omega)] at hgo | rw [hC (by omega) (by omega)] at hgo); (repeat (first | rw [if_pos (by omega)] at hgo | rw [if_neg (by omega)] at hgo)); exact hgo)
      · skip
        refine xp_iconst (n := 1) rfl (by decide) ?_
        refine xp_goto 109 rfl (by decide) ?_
        refine xp_pfz rfl rfl (by decide) (by decide) (by decide) (by first | assumption | exact hL.t rfl) (by omega) ?_
        first | (exfalso; omega) | (refine xp_weak [(0, .ref 102)] (xle_cons rfl (xle_nil _)) (by simp [xnd]) ?_; (first | rw [hA (by omega)] at hgo | rw [hB (by omega) (by omega)] at hgo | rw [hC (by omega) (by omega)] at hgo); (repeat (first | rw [if_pos (by omega)] at hgo | rw [if_neg (by omega)] at hgo)); exact hgo)
  · skip
    refine xp_aload_n rfl rfl ?_
    refine xp_gfa rfl rfl (by decide) (by decide) (by first | assumption | exact hL.t rfl) (by first | assumption | exact hL.r rfl | exact hL.2.2.2.2.2) ?_
    refine xp_gfi rfl rfl (by decide) (by decide) (by first | assumption | exact hL.t rfl) ?_
    refine xp_iconst (n := 3) rfl (by decide) ?_
    refine xp_icle 81 rfl (by decide) (by omega) (by omega) (fun h74 => ?_) (fun h74 => ?_)
    · skip
      refine xp_iconst (n := 0) rfl (by decide) ?_
      refine xp_istore_n rfl (by decide) ?_
      refine xp_aload_n rfl rfl ?_
      refine xp_iload_n rfl rfl ?_
      refine xp_iload_n rfl rfl ?_
      refine xp_iv rfl rfl (Nat.le_of_ble_eq_true rfl) (by decide) (by decide) (by decide) (Nat.le_of_ble_eq_true rfl) rfl (xrcv1 (by decide) (by first | assumption | exact hL.t rfl)) (b4) rfl ?_
      refine xp_pop rfl rfl ?_
      refine xp_aload_n rfl rfl ?_
      refine xp_iload_n rfl rfl ?_
      refine xp_ifeq 108 rfl (by decide) (by omega) (fun h92 => ?_) (fun h92 => ?_)
      · skip
        refine xp_iconst (n := 0) rfl (by decide) ?_
        refine xp_pfz rfl rfl (by decide) (by decide) (by decide) (by first | assumption | exact hL.t rfl) (by omega) ?_
        first | (exfalso; omega) | (refine xp_weak [(0, .ref 102)] (xle_cons rfl (xle_nil _)) (by simp [xnd]) ?_; (first | rw [hA (by omega)] at hgo | rw [hB (by omega) (by omega)] at hgo | rw [hC (by omega) (by omega)] at hgo); (repeat (first | rw [if_pos (by omega)] at hgo | rw [if_neg (by omega)] at hgo)); exact hgo)
      · skip
        refine xp_aload_n rfl rfl ?_
        refine xp_gfi rfl rfl (by decide) (by decide) (by first | assumption | exact hL.t rfl) ?_
        refine xp_bipush (n := 4294967294) rfl (by decide) ?_
        refine xp_iceq 108 rfl (by decide) (by omega) (by omega) (fun h101 => ?_) (fun h101 => ?_)
        · skip
          refine xp_iconst (n := 0) rfl (by decide) ?_
          refine xp_pfz rfl rfl (by decide) (by decide) (by decide) (by first | assumption | exact hL.t rfl) (by omega) ?_
          first | (exfalso; omega) | (refine xp_weak [(0, .ref 102)] (xle_cons rfl (xle_nil _)) (by simp [xnd]) ?_; (first | rw [hA (by omega)] at hgo | rw [hB (by omega) (by omega)] at hgo | rw [hC (by omega) (by omega)] at hgo); (repeat (first | rw [if_pos (by omega)] at hgo | rw [if_neg (by omega)] at hgo)); exact hgo)
        · skip
          refine xp_iconst (n := 1) rfl (by decide) ?_
          refine xp_goto 109 rfl (by decide) ?_
          refine xp_pfz rfl rfl (by decide) (by decide) (by decide) (by first | assumption | exact hL.t rfl) (by omega) ?_
          first | (exfalso; omega) | (refine xp_weak [(0, .ref 102)] (xle_cons rfl (xle_nil _)) (by simp [xnd]) ?_; (first | rw [hA (by omega)] at hgo | rw [hB (by omega) (by omega)] at hgo | rw [hC (by omega) (by omega)] at hgo); (repeat (first | rw [if_pos (by omega)] at hgo | rw [if_neg (by omega)] at hgo)); exact hgo)
    · skip
      refine xp_iconst (n := 1) rfl (by decide) ?_
      refine xp_goto 82 rfl (by decide) ?_
      refine xp_istore_n rfl (by decide) ?_
      refine xp_aload_n rfl rfl ?_
      refine xp_iload_n rfl rfl ?_
      refine xp_iload_n rfl rfl ?_
      refine xp_iv rfl rfl (Nat.le_of_ble_eq_true rfl) (by decide) (by decide) (by decide) (Nat.le_of_ble_eq_true rfl) rfl (xrcv1 (by decide) (by first | assumption | exact hL.t rfl)) (b4) rfl ?_
      refine xp_pop rfl rfl ?_
      refine xp_aload_n rfl rfl ?_
      refine xp_iload_n rfl rfl ?_
      refine xp_ifeq 108 rfl (by decide) (by omega) (fun h92 => ?_) (fun h92 => ?_)
      · skip
        refine xp_iconst (n := 0) rfl (by decide) ?_
        refine xp_pfz rfl rfl (by decide) (by decide) (by decide) (by first | assumption | exact hL.t rfl) (by omega) ?_
        first | (exfalso; omega) | (refine xp_weak [(0, .ref 102)] (xle_cons rfl (xle_nil _)) (by simp [xnd]) ?_; (first | rw [hA (by omega)] at hgo | rw [hB (by omega) (by omega)] at hgo | rw [hC (by omega) (by omega)] at hgo); (repeat (first | rw [if_pos (by omega)] at hgo | rw [if_neg (by omega)] at hgo)); exact hgo)
      · skip
        refine xp_aload_n rfl rfl ?_
        refine xp_gfi rfl rfl (by decide) (by decide) (by first | assumption | exact hL.t rfl) ?_
        refine xp_bipush (n := 4294967294) rfl (by decide) ?_
        refine xp_iceq 108 rfl (by decide) (by omega) (by omega) (fun h101 => ?_) (fun h101 => ?_)
        · skip
          refine xp_iconst (n := 0) rfl (by decide) ?_
          refine xp_pfz rfl rfl (by decide) (by decide) (by decide) (by first | assumption | exact hL.t rfl) (by omega) ?_
          first | (exfalso; omega) | (refine xp_weak [(0, .ref 102)] (xle_cons rfl (xle_nil _)) (by simp [xnd]) ?_; (first | rw [hA (by omega)] at hgo | rw [hB (by omega) (by omega)] at hgo | rw [hC (by omega) (by omega)] at hgo); (repeat (first | rw [if_pos (by omega)] at hgo | rw [if_neg (by omega)] at hgo)); exact hgo)
        · skip
          refine xp_iconst (n := 1) rfl (by decide) ?_
          refine xp_goto 109 rfl (by decide) ?_
          refine xp_pfz rfl rfl (by decide) (by decide) (by decide) (by first | assumption | exact hL.t rfl) (by omega) ?_
          first | (exfalso; omega) | (refine xp_weak [(0, .ref 102)] (xle_cons rfl (xle_nil _)) (by simp [xnd]) ?_; (first | rw [hA (by omega)] at hgo | rw [hB (by omega) (by omega)] at hgo | rw [hC (by omega) (by omega)] at hgo); (repeat (first | rw [if_pos (by omega)] at hgo | rw [if_neg (by omega)] at hgo)); exact hgo)
theorem c10 {z : Nat} {T : Nat → Option xT} {R : Nat → Nat → Option Nat} {A : xQ} {w u cs : Nat} (hL : xLay T R w) (hu : u = 115 - w) (h1 : A.1 99 1 ≤ 2400) (h2 : ∀ i, i < A.1 99 1 → A.1 100 i < 256) (hn : ∀ f, f < 6 → A.1 3 f ≤ 30) (hcs : cF (A.1 3) (A.1 4) (A.1 5) (A.1 6) 6 0 0 % 256 = cs) (hf : (aRead u cs A).1 102 2 < 2 ^ 32) : ((aRead u cs A).1 102 3 = 1 → xF 10 [.ref 0] (xm z T R A) (.inl 3, xm (z + 1) T (x2 R 102 1 (some u)) (aRead u cs A))) ∧ ((aRead u cs A).1 102 3 = 0 → ¬ (aRead u cs A).1 102 2 = 4294967294 → xF 10 [.ref 0] (xm z T R A) (.inl 0, xm (z + 1) T (x2 R 102 1 (some u)) (aRead u cs A))) ∧ ((aRead u cs A).1 102 3 = 0 → (aRead u cs A).1 102 2 = 4294967294 → xF 10 [.ref 0] (xm z T R A) (.inr (some (.int (nI ((aRead u cs A).1 u 2)))), xm z T (x2 (x2 (x2 R 102 1 (some u)) 0 5 (some w)) 11 1 (some u)) (aRead u cs A))) := by
  have hw := hL.1
  have hW := hL.w (w := u) (by omega)
  have hcc := c77 (z := z) (A := A) hL hn
  rw [hcs] at hcc
  have hrd := c79 (z := z) (cs := cs) hL hW (by omega) h1 h2 (by omega)
  have r05 : R 0 5 = some u := by rw [hu]; exact hL.2.2.2.2.1
  have r05b : x2 R 102 1 (some u) 0 5 = some u := by rw [x2o (by omega)]; exact r05
  have r11 : x2 R 102 1 (some u) 11 1 = some w := by rw [x2o (by omega)]; exact hL.2.2.2.2.2
  have hL2 : xLay T (x2 R 102 1 (some u)) w := hL.rw
  have hw1 := hW.1
  generalize aRead u cs A = D at *
  generalize x2 R 102 1 (some u) = R1 at *
  have r11b : ∀ v, x2 R1 0 5 v 0 2 = R1 0 2 := fun v => x2o (by omega)
  refine ⟨fun e3 => ?_, fun e3 ef => ?_, fun e3 ef => ?_⟩
  · refine xF_eq (xF_p (Nat.le_of_ble_eq_true rfl) ?_)
    refine xp_aload_n rfl rfl ?_
    refine xp_gfa rfl rfl (by decide) (by decide) (by first | assumption | exact hL.t rfl) (by first | assumption | exact hL.r rfl | exact hL2.r rfl | exact hL.2.2.2.2.2 | (rw [x2o (by omega)]; exact hL2.r rfl) | (rw [x2o (by omega)]; assumption)) ?_
    refine xp_aload_n rfl rfl ?_
    refine xp_gfa rfl rfl (by decide) (by decide) (by first | assumption | exact hL.t rfl) (by first | assumption | exact hL.r rfl | exact hL2.r rfl | exact hL.2.2.2.2.2 | (rw [x2o (by omega)]; exact hL2.r rfl) | (rw [x2o (by omega)]; assumption)) ?_
    refine xp_aload_n rfl rfl ?_
    refine xp_gfa rfl rfl (by decide) (by decide) (by first | assumption | exact hL.t rfl) (by first | assumption | exact hL.r rfl | exact hL2.r rfl | exact hL.2.2.2.2.2 | (rw [x2o (by omega)]; exact hL2.r rfl) | (rw [x2o (by omega)]; assumption)) ?_
    refine xp_iv rfl rfl (Nat.le_of_ble_eq_true rfl) (by decide) (by decide) (by decide) (Nat.le_of_ble_eq_true rfl) rfl (xrcv1 (by decide) (by first | assumption | exact hL.t rfl)) (hcc) rfl ?_
    refine xp_iv rfl rfl (Nat.le_of_ble_eq_true rfl) (by decide) (by decide) (by decide) (Nat.le_of_ble_eq_true rfl) rfl (xrcv1 (by decide) (by first | assumption | exact hL.t rfl)) (hrd) rfl ?_
    refine xp_aload_n rfl rfl ?_
    refine xp_gfa rfl rfl (by decide) (by decide) (by first | assumption | exact hL.t rfl) (by first | assumption | exact hL.r rfl | exact hL2.r rfl | exact hL.2.2.2.2.2 | (rw [x2o (by omega)]; exact hL2.r rfl) | (rw [x2o (by omega)]; assumption)) ?_
    refine xp_gfi rfl rfl (by decide) (by decide) (by first | assumption | exact hL.t rfl) ?_
    rw [e3]
    refine xp_ifeq 36 rfl (by decide) (by omega) (fun h25 => ?_) (fun h25 => ?_)
    · exfalso; omega
    · skip
      refine xp_throw rfl rfl (Nat.le_of_ble_eq_true rfl) (by decide) (by decide) (by decide) ?_
      rfl
  · refine xF_eq (xF_p (Nat.le_of_ble_eq_true rfl) ?_)
    refine xp_aload_n rfl rfl ?_
    refine xp_gfa rfl rfl (by decide) (by decide) (by first | assumption | exact hL.t rfl) (by first | assumption | exact hL.r rfl | exact hL2.r rfl | exact hL.2.2.2.2.2 | (rw [x2o (by omega)]; exact hL2.r rfl) | (rw [x2o (by omega)]; assumption)) ?_
    refine xp_aload_n rfl rfl ?_
    refine xp_gfa rfl rfl (by decide) (by decide) (by first | assumption | exact hL.t rfl) (by first | assumption | exact hL.r rfl | exact hL2.r rfl | exact hL.2.2.2.2.2 | (rw [x2o (by omega)]; exact hL2.r rfl) | (rw [x2o (by omega)]; assumption)) ?_
    refine xp_aload_n rfl rfl ?_
    refine xp_gfa rfl rfl (by decide) (by decide) (by first | assumption | exact hL.t rfl) (by first | assumption | exact hL.r rfl | exact hL2.r rfl | exact hL.2.2.2.2.2 | (rw [x2o (by omega)]; exact hL2.r rfl) | (rw [x2o (by omega)]; assumption)) ?_
    refine xp_iv rfl rfl (Nat.le_of_ble_eq_true rfl) (by decide) (by decide) (by decide) (Nat.le_of_ble_eq_true rfl) rfl (xrcv1 (by decide) (by first | assumption | exact hL.t rfl)) (hcc) rfl ?_
    refine xp_iv rfl rfl (Nat.le_of_ble_eq_true rfl) (by decide) (by decide) (by decide) (Nat.le_of_ble_eq_true rfl) rfl (xrcv1 (by decide) (by first | assumption | exact hL.t rfl)) (hrd) rfl ?_
    refine xp_aload_n rfl rfl ?_
    refine xp_gfa rfl rfl (by decide) (by decide) (by first | assumption | exact hL.t rfl) (by first | assumption | exact hL.r rfl | exact hL2.r rfl | exact hL.2.2.2.2.2 | (rw [x2o (by omega)]; exact hL2.r rfl) | (rw [x2o (by omega)]; assumption)) ?_
    refine xp_gfi rfl rfl (by decide) (by decide) (by first | assumption | exact hL.t rfl) ?_
    rw [e3]
    refine xp_ifeq 36 rfl (by decide) (by omega) (fun h25 => ?_) (fun h25 => ?_)
    · skip
      refine xp_aload_n rfl rfl ?_
      refine xp_gfa rfl rfl (by decide) (by decide) (by first | assumption | exact hL.t rfl) (by first | assumption | exact hL.r rfl | exact hL2.r rfl | exact hL.2.2.2.2.2 | (rw [x2o (by omega)]; exact hL2.r rfl) | (rw [x2o (by omega)]; assumption)) ?_
      refine xp_gfi rfl rfl (by decide) (by decide) (by first | assumption | exact hL.t rfl) ?_
      refine xp_bipush (n := 4294967294) rfl (by decide) ?_
      refine xp_iceq 56 rfl (by decide) (by omega) (by omega) (fun h45 => ?_) (fun h45 => ?_)
      · exfalso; omega
      · skip
        refine xp_throw rfl rfl (Nat.le_of_ble_eq_true rfl) (by decide) (by decide) (by decide) ?_
        rfl
    · exfalso; omega
  · refine xF_eq (xF_p (Nat.le_of_ble_eq_true rfl) ?_)
    refine xp_aload_n rfl rfl ?_
    refine xp_gfa rfl rfl (by decide) (by decide) (by first | assumption | exact hL.t rfl) (by first | assumption | exact hL.r rfl | exact hL2.r rfl | exact hL.2.2.2.2.2 | (rw [x2o (by omega)]; exact hL2.r rfl) | (rw [x2o (by omega)]; assumption)) ?_
    refine xp_aload_n rfl rfl ?_
    refine xp_gfa rfl rfl (by decide) (by decide) (by first | assumption | exact hL.t rfl) (by first | assumption | exact hL.r rfl | exact hL2.r rfl | exact hL.2.2.2.2.2 | (rw [x2o (by omega)]; exact hL2.r rfl) | (rw [x2o (by omega)]; assumption)) ?_
    refine xp_aload_n rfl rfl ?_
    refine xp_gfa rfl rfl (by decide) (by decide) (by first | assumption | exact hL.t rfl) (by first | assumption | exact hL.r rfl | exact hL2.r rfl | exact hL.2.2.2.2.2 | (rw [x2o (by omega)]; exact hL2.r rfl) | (rw [x2o (by omega)]; assumption)) ?_
    refine xp_iv rfl rfl (Nat.le_of_ble_eq_true rfl) (by decide) (by decide) (by decide) (Nat.le_of_ble_eq_true rfl) rfl (xrcv1 (by decide) (by first | assumption | exact hL.t rfl)) (hcc) rfl ?_
    refine xp_iv rfl rfl (Nat.le_of_ble_eq_true rfl) (by decide) (by decide) (by decide) (Nat.le_of_ble_eq_true rfl) rfl (xrcv1 (by decide) (by first | assumption | exact hL.t rfl)) (hrd) rfl ?_
    refine xp_aload_n rfl rfl ?_
    refine xp_gfa rfl rfl (by decide) (by decide) (by first | assumption | exact hL.t rfl) (by first | assumption | exact hL.r rfl | exact hL2.r rfl | exact hL.2.2.2.2.2 | (rw [x2o (by omega)]; exact hL2.r rfl) | (rw [x2o (by omega)]; assumption)) ?_
    refine xp_gfi rfl rfl (by decide) (by decide) (by first | assumption | exact hL.t rfl) ?_
    rw [e3]
    refine xp_ifeq 36 rfl (by decide) (by omega) (fun h25 => ?_) (fun h25 => ?_)
    · skip
      refine xp_aload_n rfl rfl ?_
      refine xp_gfa rfl rfl (by decide) (by decide) (by first | assumption | exact hL.t rfl) (by first | assumption | exact hL.r rfl | exact hL2.r rfl | exact hL.2.2.2.2.2 | (rw [x2o (by omega)]; exact hL2.r rfl) | (rw [x2o (by omega)]; assumption)) ?_
      refine xp_gfi rfl rfl (by decide) (by decide) (by first | assumption | exact hL.t rfl) ?_
      refine xp_bipush (n := 4294967294) rfl (by decide) ?_
      refine xp_iceq 56 rfl (by decide) (by omega) (by omega) (fun h45 => ?_) (fun h45 => ?_)
      · skip
        refine xp_aload_n rfl rfl ?_
        refine xp_gfa rfl rfl (by decide) (by decide) (by first | assumption | exact hL.t rfl) (by first | assumption | exact hL.r rfl | exact hL2.r rfl | exact hL.2.2.2.2.2 | (rw [x2o (by omega)]; exact hL2.r rfl) | (rw [x2o (by omega)]; assumption)) ?_
        refine xp_astore_n rfl (by decide) ?_
        refine xp_aload_n rfl rfl ?_
        refine xp_aload_n rfl rfl ?_
        refine xp_gfa rfl rfl (by decide) (by decide) (by first | assumption | exact hL.t rfl) (by first | assumption | exact hL.r rfl | exact hL2.r rfl | exact hL.2.2.2.2.2 | (rw [x2o (by omega)]; exact hL2.r rfl) | (rw [x2o (by omega)]; assumption)) ?_
        refine xp_gfa rfl rfl (by decide) (by decide) (by first | assumption | exact hL.t rfl) (by first | assumption | exact hL.r rfl | exact hL2.r rfl | exact hL.2.2.2.2.2 | (rw [x2o (by omega)]; exact hL2.r rfl) | (rw [x2o (by omega)]; assumption)) ?_
        refine xp_pfa rfl rfl (by decide) (by decide) (by decide) (by exact hL.t rfl) ?_
        refine xp_aload_n rfl rfl ?_
        refine xp_gfa rfl rfl (by decide) (by decide) (by first | assumption | exact hL.t rfl) (by first | assumption | exact hL.r rfl | exact hL2.r rfl | exact hL.2.2.2.2.2 | (rw [x2o (by omega)]; exact hL2.r rfl) | (rw [x2o (by omega)]; assumption)) ?_
        refine xp_aload_n rfl rfl ?_
        refine xp_pfa rfl rfl (by decide) (by decide) (by decide) (by exact hL.t rfl) ?_
        refine xp_aload_n rfl rfl ?_
        refine xp_gfi rfl rfl (by decide) (by decide) (by first | assumption | exact hL.t rfl) ?_
        refine xp_ireturn rfl (by decide) (by decide) (by decide) ?_
        rfl
      · exfalso; omega
    · exfalso; omega
