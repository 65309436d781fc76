-- WHAT STAYS SOUND: the frame's own changes
/-- nothing has changed but in the frame f -/
def AgF (f : Nat) (A A' : xQ) : Prop := (∀ a j, a ≠ f → a ≠ f + 2 → A'.1 a j = A.1 a j) ∧ ∀ a j, a ≠ f + 3 → A'.2 a j = A.2 a j
theorem AgF.refl (f : Nat) (A : xQ) : AgF f A A := ⟨fun _ _ _ _ => rfl, fun _ _ _ => rfl⟩
theorem AgF.trans {f : Nat} {A B C : xQ} (h1 : AgF f A B) (h2 : AgF f B C) : AgF f A C := ⟨fun a j x y => (h2.1 a j x y).trans (h1.1 a j x y), fun a j x => (h2.2 a j x).trans (h1.2 a j x)⟩
theorem AgF.i {f : Nat} {A B : xQ} {j v : Nat} (h : AgF f A B) : AgF f A (xsI B f j v) := h.trans ⟨fun a k x _ => xsI_ne (Or.inl x), fun _ _ _ => rfl⟩
theorem AgF.k {f : Nat} {A B : xQ} {j v : Nat} (h : AgF f A B) : AgF f A (xsI B (f + 2) j v) := h.trans ⟨fun a k _ x => xsI_ne (Or.inl x), fun _ _ _ => rfl⟩
theorem AgF.n {f : Nat} {A B : xQ} {j : Nat} {v : Int64} (h : AgF f A B) : AgF f A (xsJ B (f + 3) j v) := h.trans ⟨fun _ _ _ _ => rfl, fun a k x => xsJ_ne (Or.inl x)⟩
/-- a value that is sound -/
def VV (w : Nat) (A : xQ) (k : Nat) (v : Int64) : Prop := k ≤ 4 ∧ (3 ≤ k → ∃ o, o < 24 ∧ v = lN o ∧ A.1 (w + 3) o = k)
theorem VV.num {w : Nat} {A : xQ} {k : Nat} {v : Int64} (h : k ≤ 2) : VV w A k v := ⟨by omega, fun q => absurd q (by omega)⟩
theorem VV.hp {w : Nat} {A B : xQ} {k : Nat} {v : Int64} (h : VV w A k v) (hp : ∀ o, A.1 (w + 3) o ≠ 0 → B.1 (w + 3) o = A.1 (w + 3) o) : VV w B k v := by
  refine ⟨h.1, fun q => ?_⟩
  obtain ⟨o, h1, h2, h3⟩ := h.2 q
  exact ⟨o, h1, h2, by rw [hp o (by omega)]; exact h3⟩
theorem FOk.v {w : Nat} {A : xQ} {f c : Nat} (h : FOk w A f) (hc : c < 5 + A.1 f 3) : VV w A (A.1 (f + 2) c) (A.2 (f + 3) c) := h.2.2.2.2 c hc
theorem FOk.mk' {w : Nat} {A B : xQ} {f : Nat} (h1 : B.1 f 1 < 6) (h2 : B.1 f 2 ≤ 31) (h3 : B.1 f 3 ≤ 6) (h4 : B.1 (f + 2) 0 = 0 ∨ B.1 (f + 2) 0 = 4) (h5 : ∀ c, c < 5 + B.1 f 3 → VV w A (B.1 (f + 2) c) (B.2 (f + 3) c)) (hp : ∀ o, A.1 (w + 3) o ≠ 0 → B.1 (w + 3) o = A.1 (w + 3) o) : FOk w B f :=
  ⟨h1, h2, h3, h4, fun c hc => (h5 c hc).hp hp⟩
/-- a frame elsewhere -/
theorem FOk.away {w : Nat} {A B : xQ} {f : Nat} (h : FOk w A f) (h1 : ∀ j, B.1 f j = A.1 f j) (h2 : ∀ j, B.1 (f + 2) j = A.1 (f + 2) j) (h3 : ∀ j, B.2 (f + 3) j = A.2 (f + 3) j) (hp : ∀ o, A.1 (w + 3) o ≠ 0 → B.1 (w + 3) o = A.1 (w + 3) o) : FOk w B f := by
  refine FOk.mk' (A := A) (by rw [h1]; exact h.1) (by rw [h1]; exact h.2.1) (by rw [h1]; exact h.2.2.1) (by rw [h2]; exact h.2.2.2.1) (fun c hc => ?_) hp
  rw [h1] at hc
  rw [h2, h3]
  exact h.v hc
theorem xpu_r (A : xQ) (f k : Nat) (v : Int64) : (xpu A f k v).1 f 1 = A.1 f 1 ∧ (xpu A f k v).1 f 2 = A.1 f 2 ∧ (xpu A f k v).1 f 3 = A.1 f 3 + 1 ∧ (∀ c, (xpu A f k v).1 (f + 2) c = if c = 5 + A.1 f 3 then k else A.1 (f + 2) c) ∧ (∀ c, (xpu A f k v).2 (f + 3) c = if c = 5 + A.1 f 3 then v else A.2 (f + 3) c) ∧ AgF f A (xpu A f k v) := by
  unfold xpu
  refine ⟨?_, ?_, xsI_eq, fun c => ?_, fun c => ?_, ?_⟩
  · rw [xsI_ne (Or.inr (by omega))]
    exact xsI_ne (Or.inl (by omega))
  · rw [xsI_ne (Or.inr (by omega))]
    exact xsI_ne (Or.inl (by omega))
  · rw [xsI_ne (Or.inl (by omega))]
    show (xsI A (f + 2) (5 + A.1 f 3) k).1 (f + 2) c = _
    by_cases hc : c = 5 + A.1 f 3
    · rw [if_pos hc, hc, xsI_eq]
    · rw [if_neg hc, xsI_ne (Or.inr hc)]
  · show (xsJ _ _ _ _).2 _ _ = _
    by_cases hc : c = 5 + A.1 f 3
    · rw [if_pos hc, hc, xsJ_eq]
    · rw [if_neg hc, xsJ_ne (Or.inr hc)]; rfl
  · exact (AgF.refl f A).k.n.i
theorem AgF.h {w f : Nat} {A B : xQ} (h : AgF f A B) (hw : w + 3 < f) (o : Nat) : B.1 (w + 3) o = A.1 (w + 3) o := h.1 _ _ (by omega) (by omega)
theorem FOk.push {w : Nat} {A : xQ} {f k : Nat} {v : Int64} (h : FOk w A f) (hw : w + 3 < f) (hs : A.1 f 3 < 6) (hv : VV w A k v) : FOk w (xpu A f k v) f := by
  obtain ⟨e1, e2, e3, e4, e5, e6⟩ := xpu_r A f k v
  refine FOk.mk' (A := A) (by rw [e1]; exact h.1) (by rw [e2]; exact h.2.1) (by rw [e3]; omega) (by rw [e4, if_neg (by omega)]; exact h.2.2.2.1) (fun c hc => ?_) (fun o _ => e6.h hw o)
  rw [e3] at hc
  rw [e4, e5]
  by_cases q : c = 5 + A.1 f 3
  · rw [if_pos q, if_pos q]; exact hv
  · rw [if_neg q, if_neg q]; exact h.v (by omega)
theorem FOk.size {w : Nat} {A : xQ} {f n : Nat} (h : FOk w A f) (hw : w + 3 < f) (hn : n ≤ A.1 f 3) : FOk w (xsI A f 3 n) f := by
  refine FOk.mk' (A := A) (by rw [xsI_ne (Or.inr (by omega))]; exact h.1) (by rw [xsI_ne (Or.inr (by omega))]; exact h.2.1) (by rw [xsI_eq]; have := h.2.2.1; omega) (by rw [xsI_ne (Or.inl (by omega))]; exact h.2.2.2.1) (fun c hc => ?_) (fun o _ => (AgF.refl f A).i.h hw o)
  rw [xsI_eq] at hc
  rw [xsI_ne (Or.inl (by omega))]
  exact h.v (by omega)
theorem FOk.place {w : Nat} {A : xQ} {f p : Nat} (h : FOk w A f) (hw : w + 3 < f) (hp : p ≤ 31) : FOk w (xsI A f 2 p) f := by
  refine FOk.mk' (A := A) (by rw [xsI_ne (Or.inr (by omega))]; exact h.1) (by rw [xsI_eq]; exact hp) (by rw [xsI_ne (Or.inr (by omega))]; exact h.2.2.1) (by rw [xsI_ne (Or.inl (by omega))]; exact h.2.2.2.1) (fun c hc => ?_) (fun o _ => (AgF.refl f A).i.h hw o)
  rw [xsI_ne (Or.inr (by omega))] at hc
  rw [xsI_ne (Or.inl (by omega))]
  exact h.v hc
theorem cell_r (A : xQ) (f c k : Nat) (v : Int64) : (∀ j, (xsJ (xsI A (f + 2) c k) (f + 3) c v).1 f j = A.1 f j) ∧ (∀ i, (xsJ (xsI A (f + 2) c k) (f + 3) c v).1 (f + 2) i = if i = c then k else A.1 (f + 2) i) ∧ (∀ i, (xsJ (xsI A (f + 2) c k) (f + 3) c v).2 (f + 3) i = if i = c then v else A.2 (f + 3) i) ∧ AgF f A (xsJ (xsI A (f + 2) c k) (f + 3) c v) := by
  refine ⟨fun j => xsI_ne (Or.inl (by omega)), fun i => ?_, fun i => ?_, (AgF.refl f A).k.n⟩
  · show (xsI A (f + 2) c k).1 (f + 2) i = _
    by_cases hc : i = c
    · rw [if_pos hc, hc, xsI_eq]
    · rw [if_neg hc, xsI_ne (Or.inr hc)]
  · by_cases hc : i = c
    · rw [if_pos hc, hc, xsJ_eq]
    · rw [if_neg hc, xsJ_ne (Or.inr hc)]; rfl
theorem FOk.cell {w : Nat} {A : xQ} {f c k : Nat} {v : Int64} (h : FOk w A f) (hw : w + 3 < f) (hc : c ≠ 0 ∨ k = 4) (hv : VV w A k v) : FOk w (xsJ (xsI A (f + 2) c k) (f + 3) c v) f := by
  obtain ⟨e1, e2, e3, e4⟩ := cell_r A f c k v
  refine FOk.mk' (A := A) (by rw [e1]; exact h.1) (by rw [e1]; exact h.2.1) (by rw [e1]; exact h.2.2.1) ?_ (fun i hi => ?_) (fun o _ => e4.h hw o)
  · rw [e2]
    split
    · right; omega
    · exact h.2.2.2.1
  · rw [e1] at hi
    rw [e2, e3]
    by_cases q : i = c
    · rw [if_pos q, if_pos q]; exact hv
    · rw [if_neg q, if_neg q]; exact h.v hi
/-- only the frame has changed, and it is sound -/
def OpF (w f : Nat) (A : xQ) (r : Nat × xQ) : Prop := AgF f A r.2 ∧ FOk w r.2 f
section OF
variable {w f : Nat} {A : xQ}
theorem OpF.err (h : FOk w A f) (e : Nat) : OpF w f A (e, A) := ⟨AgF.refl f A, h⟩
theorem OpF.push {B : xQ} {k : Nat} {v : Int64} (ha : AgF f A B) (h : FOk w B f) (hw : w + 3 < f) (hv : VV w A k v) : OpF w f A (aPush B f k v) := by
  unfold aPush
  split
  · rename_i q
    exact ⟨ha.trans (xpu_r B f k v).2.2.2.2.2, h.push hw q (hv.hp (fun o _ => ha.h hw o))⟩
  · exact ⟨ha, h⟩
theorem AgF.pop {B : xQ} {n : Nat} (h : AgF f A B) : AgF f A (aPop B f n) := h.i
theorem FOk.pop {n : Nat} (h : FOk w A f) (hw : w + 3 < f) : FOk w (aPop A f n) f := h.size hw (by omega)
theorem OpF.answer {b : Nat} (h : FOk w A f) (hw : w + 3 < f) : OpF w f A (aAnswer A f b) := OpF.push (AgF.refl f A).pop (h.pop hw) hw (VV.num (by omega))
theorem OpF.compute {op : Nat} (h : FOk w A f) (hw : w + 3 < f) : OpF w f A (aCompute A f op) := by
  unfold aCompute
  split
  · exact OpF.err h _
  · split
    · exact OpF.err h _
    · split
      · exact OpF.push (AgF.refl f A).pop (h.pop hw) hw (VV.num (by omega))
      · exact OpF.push (AgF.refl f A).pop (h.pop hw) hw (VV.num (by omega))
theorem OpF.compare (h : FOk w A f) (hw : w + 3 < f) : OpF w f A (aCompare A f) := by
  unfold aCompare
  split
  · exact OpF.err h _
  · exact OpF.answer h hw
theorem OpF.branch {p : Nat} (h : FOk w A f) (hw : w + 3 < f) (hp : p ≤ 29) (h2 : A.1 f 2 ≤ 30) : OpF w f A (aBranch A f p) := by
  unfold aBranch
  split
  · exact ⟨(AgF.refl f A).i.pop, (h.place hw (by split <;> omega)).pop hw⟩
  · exact OpF.err h _
theorem OpF.throw (h : FOk w A f) : OpF w f A (aThrow A f) := by
  unfold aThrow
  split
  · exact OpF.err h _
  · exact OpF.err h _
theorem OOk.v {o j : Nat} (h : OOk w A o) (h0 : A.1 (w + 3) o ≠ 0) (hj : j < A.1 (w + 5) o) : VV w A (A.1 (w + 7) (o * 3 + j)) (A.2 (w + 8) (o * 3 + j)) := h.2.2.2 h0 j hj
theorem OpF.get {i : Nat} (h : FOk w A f) (hw : w + 3 < f) (hO : ∀ o, o < 24 → OOk w A o) (hs : 1 ≤ A.1 f 3) (hi : i < 3) : OpF w f A (aGet w A f i) := by
  unfold aGet
  split
  · rename_i q
    obtain ⟨o1, o2⟩ := h.o (c := 4 + A.1 f 3) (by omega) (by omega)
    rw [q] at o2
    refine ⟨(cell_r A f _ _ _).2.2.2, h.cell hw (Or.inl (by omega)) ((hO _ o1).v (by omega) ?_)⟩
    rw [(hO _ o1).2.1 o2]
    exact hi
  · exact OpF.err h _
theorem OpF.held {k : Nat} (h : FOk w A f) (hw : w + 3 < f) (hO : ∀ o, o < 24 → OOk w A o) : OpF w f A (aHeld w A f k) := by
  unfold aHeld
  split
  · rename_i q
    split
    · rename_i q2
      obtain ⟨o1, o2⟩ := h.o (c := 0) (by omega) (by omega)
      exact OpF.push (AgF.refl f A) h hw ((hO _ o1).v (by omega) q2)
    · exact OpF.err h _
  · exact OpF.err h _
theorem OpF.goOn {r : Nat × xQ} (h : OpF w f A r) (hw : w + 3 < f) (h2 : A.1 f 2 ≤ 30) (hk : r.2.1 f 2 = A.1 f 2) : OpF w f A (aGoOn f r) := by
  unfold aGoOn
  split
  · exact ⟨h.1.i, h.2.place hw (by omega)⟩
  · exact h
end OF
def HOk (w : Nat) (A : xQ) : Prop := A.1 (w + 2) 4 = xcnt (fun o => !decide (A.1 (w + 3) o = 0)) 24
def SPk (w : Nat) (A : xQ) : Prop := ∀ t, t < A.1 w 2 → ∀ k, k + 1 < A.1 (w + 11 + 25 * t) 3 → A.1 (w + 11 + 25 * t + 5 + 4 * k) 2 ≤ 30
/-- all is sound -/
def COk (w : Nat) (A : xQ) : Prop := (w = 12 ∨ w = 103) ∧ WOk w A ∧ POk A ∧ HOk w A ∧ SPk w A ∧ A.1 w 3 < 3
/-- what no instruction touches -/
def Ch (w n : Nat) (A B : xQ) : Prop := B.1 w 3 = A.1 w 3 ∧ B.1 w 4 = A.1 w 4 ∧ B.1 11 4 = A.1 11 4 ∧ B.1 11 3 ≤ A.1 11 3 + n ∧ A.1 w 2 ≤ B.1 w 2 ∧ ∀ a j, 1 ≤ a → a ≤ 10 → B.1 a j = A.1 a j
theorem Ch.refl (w : Nat) (A : xQ) : Ch w 0 A A := ⟨rfl, rfl, rfl, Nat.le_refl _, Nat.le_refl _, fun _ _ _ _ => rfl⟩
theorem Ch.trans {w m n : Nat} {A B C : xQ} (h : Ch w m A B) (g : Ch w n B C) : Ch w (m + n) A C := by
  obtain ⟨h1, h2, h3, h4, h5, h6⟩ := h
  obtain ⟨g1, g2, g3, g4, g5, g6⟩ := g
  exact ⟨g1.trans h1, g2.trans h2, g3.trans h3, by omega, by omega, fun a j x y => (g6 a j x y).trans (h6 a j x y)⟩
theorem POk.same {A B : xQ} (h : POk A) (hb : ∀ a j, 1 ≤ a → a ≤ 10 → B.1 a j = A.1 a j) : POk B := by
  intro f hf
  rw [hb 2 f (by omega) (by omega), hb 3 f (by omega) (by omega), hb 7 f (by omega) (by omega)]
  obtain ⟨q1, q2, q3, q4, q5⟩ := h f hf
  refine ⟨q1, q2, q3, fun j hj => ?_, fun j hj => ?_⟩
  · rw [hb 4 _ (by omega) (by omega), hb 5 _ (by omega) (by omega), hb 6 _ (by omega) (by omega)]
    exact q4 j hj
  · rw [hb 8 _ (by omega) (by omega), hb 9 _ (by omega) (by omega), hb 10 _ (by omega) (by omega)]
    exact q5 j hj
theorem HOk.same {w : Nat} {A B : xQ} (h : HOk w A) (h4 : B.1 (w + 2) 4 = A.1 (w + 2) 4) (hp : ∀ o, B.1 (w + 3) o = A.1 (w + 3) o) : HOk w B := by
  unfold HOk
  rw [h4, h]
  exact xcnt_congr _ (fun i _ => by rw [hp])
theorem OOk.same {w : Nat} {A B : xQ} {o : Nat} (h : OOk w A o) (h3 : ∀ o, B.1 (w + 3) o = A.1 (w + 3) o) (h4 : B.1 (w + 4) o = A.1 (w + 4) o) (h5 : B.1 (w + 5) o = A.1 (w + 5) o) (h7 : ∀ j, B.1 (w + 7) j = A.1 (w + 7) j) (h8 : ∀ j, B.2 (w + 8) j = A.2 (w + 8) j) : OOk w B o := by
  unfold OOk
  rw [h3, h4, h5]
  refine ⟨h.1, h.2.1, h.2.2.1, fun h0 j hj => ?_⟩
  have := h.v h0 hj
  rw [← h7, ← h8] at this
  exact this.hp (fun o _ => h3 o)
theorem AgF.ch {w f : Nat} {A B : xQ} (h : AgF f A B) (hw : w = 12 ∨ w = 103) (hf : w + 11 < f) : Ch w 0 A B := by
  have e : ∀ a j, a < f → B.1 a j = A.1 a j := fun a j q => h.1 a j (by omega) (by omega)
  exact ⟨e _ _ (by omega), e _ _ (by omega), e _ _ (by omega), by rw [e 11 3 (by omega)]; omega, by rw [e w 2 (by omega)]; omega, fun a j _ _ => e _ _ (by omega)⟩
/-- a frame that stays sound leaves all sound -/
theorem COk.frame {w t k f : Nat} {A B : xQ} (h : COk w A) (ht : t < A.1 w 2) (hk : k < A.1 (w + 11 + 25 * t) 3) (hf : f = w + 11 + 25 * t + 5 + 4 * k) (ha : AgF f A B) (hF : FOk w B f) (hp : k + 1 < A.1 (w + 11 + 25 * t) 3 → B.1 f 2 ≤ 30) : COk w B := by
  obtain ⟨h0, ⟨w1, w2, w3⟩, h2, h3, h4, h5⟩ := h
  have k5 := (w2 t ht).2.1
  have e : ∀ a j, a < w + 11 → B.1 a j = A.1 a j := fun a j q => ha.1 a j (by omega) (by omega)
  have es : ∀ u, u < 3 → ∀ j, B.1 (w + 11 + 25 * u) j = A.1 (w + 11 + 25 * u) j := fun u hu j => ha.1 _ j (by omega) (by omega)
  have ehp : ∀ o, B.1 (w + 3) o = A.1 (w + 3) o := fun o => e _ _ (by omega)
  refine ⟨h0, ⟨by rw [e w 2 (by omega)]; exact w1, fun u hu => ?_, fun o ho => ?_⟩, h2.same (fun a j _ _ => e _ _ (by omega)), h3.same (e _ _ (by omega)) ehp, fun u hu i hi => ?_, by rw [e w 3 (by omega)]; exact h5⟩
  · rw [e w 2 (by omega)] at hu
    obtain ⟨q1, q2, q3, q4, q5, q6, q7⟩ := w2 u hu
    unfold SOk
    rw [es u (by omega) 2, es u (by omega) 3, es u (by omega) 4]
    refine ⟨q1, q2, q3, q4, q5, fun q => ?_, fun i hi => ?_⟩
    · have := q6 q
      unfold VC at this ⊢
      rw [ha.1 (w + 11 + 25 * u + 3) 0 (by omega) (by omega), ha.2 (w + 11 + 25 * u + 4) 0 (by omega)]
      exact VV.hp this (fun o _ => ehp o)
    · by_cases hq : w + 11 + 25 * u + 5 + 4 * i = f
      · rw [hq]; exact hF
      · exact (q7 i hi).away (fun j => ha.1 _ j hq (by omega)) (fun j => ha.1 _ j (by omega) (by omega)) (fun j => ha.2 _ j (by omega)) (fun o _ => ehp o)
  · exact (w3 o ho).same ehp (e _ _ (by omega)) (e _ _ (by omega)) (fun j => e _ _ (by omega)) (fun j => ha.2 _ j (by omega))
  · rw [e w 2 (by omega)] at hu
    rw [es u (by omega) 3] at hi
    have hu3 := (w2 u hu).2.1
    by_cases hq : w + 11 + 25 * u + 5 + 4 * i = f
    · rw [hq]
      have e1 : u = t := by omega
      subst e1
      have e2 : i = k := by omega
      subst e2
      exact hp hi
    · rw [ha.1 _ 2 hq (by omega)]
      exact h4 u hu i hi
