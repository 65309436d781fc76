-- WHAT STAYS SOUND: strands and objects
theorem xit_copy {ka na kb nb d e : Nat} (h1 : kb ≠ ka) (h2 : nb ≠ na) : ∀ (m i : Nat) (B : xQ), (∀ b j, (xit (fun i B => aCopy ka na (d + i) kb nb (e + i) B) m i B).1 b j = if b = ka ∧ d + i ≤ j ∧ j < d + i + m then B.1 kb (e + (j - d)) else B.1 b j) ∧ ∀ b j, (xit (fun i B => aCopy ka na (d + i) kb nb (e + i) B) m i B).2 b j = if b = na ∧ d + i ≤ j ∧ j < d + i + m then B.2 nb (e + (j - d)) else B.2 b j := by
  intro m
  induction m with
  | zero => intro i B; exact ⟨fun b j => by rw [if_neg (by omega)]; rfl, fun b j => by rw [if_neg (by omega)]; rfl⟩
  | succ m ih =>
    intro i B
    obtain ⟨q1, q2⟩ := ih (i + 1) (aCopy ka na (d + i) kb nb (e + i) B)
    have c1 : ∀ b j, (aCopy ka na (d + i) kb nb (e + i) B).1 b j = if b = ka ∧ j = d + i then B.1 kb (e + i) else B.1 b j := by
      intro b j
      show (xsI B ka (d + i) (B.1 kb (e + i))).1 b j = _
      by_cases hc : b = ka ∧ j = d + i
      · rw [if_pos hc, hc.1, hc.2, xsI_eq]
      · rw [if_neg hc, xsI_ne (by omega)]
    have c2 : ∀ b j, (aCopy ka na (d + i) kb nb (e + i) B).2 b j = if b = na ∧ j = d + i then B.2 nb (e + i) else B.2 b j := by
      intro b j
      show (xsJ (xsI B ka (d + i) (B.1 kb (e + i))) na (d + i) (B.2 nb (e + i))).2 b j = _
      by_cases hc : b = na ∧ j = d + i
      · rw [if_pos hc, hc.1, hc.2, xsJ_eq]
      · rw [if_neg hc, xsJ_ne (by omega)]; rfl
    refine ⟨fun b j => ?_, fun b j => ?_⟩
    · show (xit _ m (i + 1) _).1 b j = _
      have k1 : ∀ j, (aCopy ka na (d + i) kb nb (e + i) B).1 kb j = B.1 kb j := fun j => by rw [c1, if_neg (fun z => h1 z.1)]
      rw [q1, k1, c1]
      by_cases hu : b = ka ∧ d + i ≤ j ∧ j < d + i + (m + 1)
      · rw [if_pos hu]
        by_cases hj : j = d + i
        · rw [if_neg (by omega), if_pos ⟨hu.1, hj⟩]
          rw [show e + i = e + (j - d) by omega]
        · rw [if_pos ⟨hu.1, by omega, by omega⟩]
      · rw [if_neg hu, if_neg (fun z => hu ⟨z.1, by omega, by omega⟩), if_neg (fun z => hu ⟨z.1, by omega, by omega⟩)]
    · show (xit _ m (i + 1) _).2 b j = _
      have k2 : ∀ j, (aCopy ka na (d + i) kb nb (e + i) B).2 nb j = B.2 nb j := fun j => by rw [c2, if_neg (fun z => h2 z.1)]
      rw [q2, k2, c2]
      by_cases hu : b = na ∧ d + i ≤ j ∧ j < d + i + (m + 1)
      · rw [if_pos hu]
        by_cases hj : j = d + i
        · rw [if_neg (by omega), if_pos ⟨hu.1, hj⟩]
          rw [show e + i = e + (j - d) by omega]
        · rw [if_pos ⟨hu.1, by omega, by omega⟩]
      · rw [if_neg hu, if_neg (fun z => hu ⟨z.1, by omega, by omega⟩), if_neg (fun z => hu ⟨z.1, by omega, by omega⟩)]
theorem xit_nul {ka na : Nat} : ∀ (m i : Nat) (B : xQ), (∀ b j, (xit (xnul1 ka na) m i B).1 b j = if b = ka ∧ i ≤ j ∧ j < i + m then 0 else B.1 b j) ∧ ∀ b j, (xit (xnul1 ka na) m i B).2 b j = if b = na ∧ i ≤ j ∧ j < i + m then 0 else B.2 b j := by
  intro m
  induction m with
  | zero => intro i B; exact ⟨fun b j => by rw [if_neg (by omega)]; rfl, fun b j => by rw [if_neg (by omega)]; rfl⟩
  | succ m ih =>
    intro i B
    obtain ⟨q1, q2⟩ := ih (i + 1) (xnul1 ka na i B)
    refine ⟨fun b j => ?_, fun b j => ?_⟩
    · show (xit _ m (i + 1) _).1 b j = _
      rw [q1]
      by_cases hu : b = ka ∧ i ≤ j ∧ j < i + (m + 1)
      · rw [if_pos hu]
        by_cases hj : j = i
        · rw [if_neg (by omega), hu.1, hj]
          exact xsI_eq
        · rw [if_pos ⟨hu.1, by omega, by omega⟩]
      · rw [if_neg hu, if_neg (fun z => hu ⟨z.1, by omega, by omega⟩)]
        exact xsI_ne (by omega)
    · show (xit _ m (i + 1) _).2 b j = _
      rw [q2]
      by_cases hu : b = na ∧ i ≤ j ∧ j < i + (m + 1)
      · rw [if_pos hu]
        by_cases hj : j = i
        · rw [if_neg (by omega), hu.1, hj]
          exact xsJ_eq
        · rw [if_pos ⟨hu.1, by omega, by omega⟩]
      · rw [if_neg hu, if_neg (fun z => hu ⟨z.1, by omega, by omega⟩)]
        exact xsJ_ne (by omega)
/-- nothing has changed but in the strand s -/
def AgS (s : Nat) (A B : xQ) : Prop := (∀ a j, a < s ∨ s + 25 ≤ a → B.1 a j = A.1 a j) ∧ ∀ a j, a < s ∨ s + 25 ≤ a → B.2 a j = A.2 a j
theorem AgS.refl (s : Nat) (A : xQ) : AgS s A A := ⟨fun _ _ _ => rfl, fun _ _ _ => rfl⟩
theorem AgS.trans {s : Nat} {A B C : xQ} (h1 : AgS s A B) (h2 : AgS s B C) : AgS s A C := ⟨fun a j x => (h2.1 a j x).trans (h1.1 a j x), fun a j x => (h2.2 a j x).trans (h1.2 a j x)⟩
theorem AgF.s {s f : Nat} {A B : xQ} (h : AgF f A B) (h1 : s ≤ f) (h2 : f + 3 < s + 25) : AgS s A B := ⟨fun a j q => h.1 a j (by omega) (by omega), fun a j q => h.2 a j (by omega)⟩
theorem AgS.ch {w s : Nat} {A B : xQ} (h : AgS s A B) (hw : w = 12 ∨ w = 103) (hf : w + 11 ≤ s) : Ch w 0 A B := by
  have e : ∀ a j, a < s → B.1 a j = A.1 a j := fun a j q => h.1 a j (by omega)
  exact ⟨e _ _ (by omega), e _ _ (by omega), e _ _ (by omega), by rw [e 11 3 (by omega)]; omega, by rw [e w 2 (by omega)]; omega, fun a j _ _ => e _ _ (by omega)⟩
theorem SOk.away {w : Nat} {A B : xQ} {s : Nat} (h : SOk w A s) (h1 : ∀ a j, s ≤ a → a < s + 25 → B.1 a j = A.1 a j) (h2 : ∀ a j, s ≤ a → a < s + 25 → B.2 a j = A.2 a j) (hp : ∀ o, A.1 (w + 3) o ≠ 0 → B.1 (w + 3) o = A.1 (w + 3) o) : SOk w B s := by
  obtain ⟨q1, q2, q3, q4, q5, q6, q7⟩ := h
  unfold SOk
  rw [h1 s 2 (by omega) (by omega), h1 s 3 (by omega) (by omega), h1 s 4 (by omega) (by omega)]
  refine ⟨q1, q2, q3, q4, q5, fun q => ?_, fun i hi => ?_⟩
  · have := q6 q
    unfold VC at this ⊢
    rw [h1 (s + 3) 0 (by omega) (by omega), h2 (s + 4) 0 (by omega) (by omega)]
    exact VV.hp this hp
  · exact (q7 i hi).away (fun j => h1 _ j (by omega) (by omega)) (fun j => h1 _ j (by omega) (by omega)) (fun j => h2 _ j (by omega) (by omega)) hp
/-- a strand that stays sound leaves all sound -/
theorem COk.strand {w t s : Nat} {A B : xQ} (h : COk w A) (ht : t < A.1 w 2) (hs : s = w + 11 + 25 * t) (ha : AgS s A B) (hF : SOk w B s) (hp : ∀ k, k + 1 < B.1 s 3 → B.1 (s + 5 + 4 * k) 2 ≤ 30) : COk w B := by
  obtain ⟨h0, ⟨w1, w2, w3⟩, h2, h3, h4, h5⟩ := h
  have e : ∀ a j, a < w + 11 → B.1 a j = A.1 a j := fun a j q => ha.1 a j (by omega)
  have ehp : ∀ o, B.1 (w + 3) o = A.1 (w + 3) o := fun o => e _ _ (by omega)
  refine ⟨h0, ⟨by rw [e w 2 (by omega)]; exact w1, fun u hu => ?_, fun o ho => ?_⟩, h2.same (fun a j _ _ => e _ _ (by omega)), h3.same (e _ _ (by omega)) ehp, fun u hu i hi => ?_, by rw [e w 3 (by omega)]; exact h5⟩
  · rw [e w 2 (by omega)] at hu
    by_cases hq : u = t
    · rw [hq, ← hs]; exact hF
    · exact (w2 u hu).away (fun a j _ _ => ha.1 a j (by omega)) (fun a j _ _ => ha.2 a j (by omega)) (fun o _ => ehp o)
  · exact (w3 o ho).same ehp (e _ _ (by omega)) (e _ _ (by omega)) (fun j => e _ _ (by omega)) (fun j => ha.2 _ j (by omega))
  · rw [e w 2 (by omega)] at hu
    by_cases hq : u = t
    · rw [hq, ← hs] at hi ⊢
      exact hp i hi
    · have hu3 := (w2 u hu).2.1
      rw [ha.1 (w + 11 + 25 * u) 3 (by omega)] at hi
      rw [ha.1 _ 2 (by omega)]
      exact h4 u hu i hi
/-- what the engine itself counts does not matter -/
theorem COk.eng {w : Nat} {A B : xQ} (h : COk w A) (h1 : ∀ a j, a ≠ 11 → B.1 a j = A.1 a j) (h2 : ∀ a j, a ≠ 98 → B.2 a j = A.2 a j) : COk w B := by
  obtain ⟨h0, ⟨w1, w2, w3⟩, g2, g3, g4, g5⟩ := h
  have ehp : ∀ o, B.1 (w + 3) o = A.1 (w + 3) o := fun o => h1 _ _ (by omega)
  refine ⟨h0, ⟨by rw [h1 w 2 (by omega)]; exact w1, fun u hu => ?_, fun o ho => ?_⟩, g2.same (fun a j _ _ => h1 _ _ (by omega)), g3.same (h1 _ _ (by omega)) ehp, fun u hu i hi => ?_, by rw [h1 w 3 (by omega)]; exact g5⟩
  · rw [h1 w 2 (by omega)] at hu
    refine (w2 u hu).away (fun a j _ _ => h1 a j (by omega)) (fun a j q1 q2 => h2 a j (by omega)) (fun o _ => ehp o)
  · exact (w3 o ho).same ehp (h1 _ _ (by omega)) (h1 _ _ (by omega)) (fun j => h1 _ _ (by omega)) (fun j => h2 _ j (by omega))
  · rw [h1 w 2 (by omega)] at hu
    rw [h1 _ 3 (by omega)] at hi
    rw [h1 _ 2 (by omega)]
    exact g4 u hu i hi
/-- objects: what B has in their place -/
theorem COk.hp {w : Nat} {A B : xQ} (h : COk w A) (h1 : ∀ a j, (a < w + 2 ∨ w + 11 ≤ a) → B.1 a j = A.1 a j) (h2 : ∀ a j, a ≠ w + 8 → B.2 a j = A.2 a j) (hk : ∀ o, A.1 (w + 3) o ≠ 0 → B.1 (w + 3) o = A.1 (w + 3) o) (hO : ∀ o, o < 24 → OOk w B o) (hH : HOk w B) : COk w B := by
  obtain ⟨h0, ⟨w1, w2, w3⟩, g2, g3, g4, g5⟩ := h
  refine ⟨h0, ⟨by rw [h1 w 2 (by omega)]; exact w1, fun u hu => ?_, hO⟩, g2.same (fun a j _ _ => h1 _ _ (by omega)), hH, fun u hu i hi => ?_, by rw [h1 w 3 (by omega)]; exact g5⟩
  · rw [h1 w 2 (by omega)] at hu
    exact (w2 u hu).away (fun a j _ _ => h1 a j (by omega)) (fun a j q1 q2 => h2 a j (by omega)) hk
  · rw [h1 w 2 (by omega)] at hu
    rw [h1 _ 3 (by omega)] at hi
    rw [h1 _ 2 (by omega)]
    exact g4 u hu i hi
theorem VV.same {w : Nat} {A B : xQ} {k : Nat} {v : Int64} (h : VV w A k v) (hp : ∀ o, B.1 (w + 3) o = A.1 (w + 3) o) : VV w B k v := h.hp (fun o _ => hp o)
theorem ocell_r (w : Nat) (A : xQ) (c k : Nat) (v : Int64) : (∀ a j, a ≠ w + 7 → (xsJ (xsI A (w + 7) c k) (w + 8) c v).1 a j = A.1 a j) ∧ (∀ a j, a ≠ w + 8 → (xsJ (xsI A (w + 7) c k) (w + 8) c v).2 a j = A.2 a j) ∧ (∀ i, (xsJ (xsI A (w + 7) c k) (w + 8) c v).1 (w + 7) i = if i = c then k else A.1 (w + 7) i) ∧ ∀ i, (xsJ (xsI A (w + 7) c k) (w + 8) c v).2 (w + 8) i = if i = c then v else A.2 (w + 8) i := by
  refine ⟨fun a j ha => xsI_ne (Or.inl ha), fun a j ha => xsJ_ne (Or.inl ha), fun i => ?_, fun i => ?_⟩
  · show (xsI A (w + 7) c k).1 (w + 7) i = _
    by_cases hc : i = c
    · rw [if_pos hc, hc, xsI_eq]
    · rw [if_neg hc, xsI_ne (Or.inr hc)]
  · by_cases hc : i = c
    · rw [if_pos hc, hc, xsJ_eq]
    · rw [if_neg hc, xsJ_ne (Or.inr hc)]; rfl
/-- a value of an object is changed -/
theorem COk.ocell {w : Nat} {A : xQ} {c k : Nat} {v : Int64} (h : COk w A) (hv : VV w A k v) : COk w (xsJ (xsI A (w + 7) c k) (w + 8) c v) := by
  obtain ⟨e1, e2, e3, e4⟩ := ocell_r w A c k v
  have ehp : ∀ o, (xsJ (xsI A (w + 7) c k) (w + 8) c v).1 (w + 3) o = A.1 (w + 3) o := fun o => e1 _ _ (by omega)
  refine h.hp (fun a j q => e1 a j (by omega)) (fun a j q => e2 a j q) (fun o _ => ehp o) (fun o ho => ?_) (h.2.2.2.1.same (e1 _ _ (by omega)) ehp)
  have q := h.2.1.2.2 o ho
  unfold OOk
  rw [ehp, e1 (w + 4) o (by omega), e1 (w + 5) o (by omega)]
  refine ⟨q.1, q.2.1, q.2.2.1, fun h0 j hj => ?_⟩
  show VV w _ _ _
  rw [e3, e4]
  by_cases hc : o * 3 + j = c
  · rw [if_pos hc, if_pos hc]; exact hv.same ehp
  · rw [if_neg hc, if_neg hc]; exact (q.v h0 hj).same ehp
/-- the first free slot -/
theorem aFree_free (w : Nat) (A : xQ) : ∀ n o, (∃ q, o ≤ q ∧ q ≤ o + n ∧ A.1 (w + 3) q = 0) → A.1 (w + 3) (aFree w A n o) = 0 ∧ ∀ q, o ≤ q → q < aFree w A n o → A.1 (w + 3) q ≠ 0 := by
  intro n
  induction n with
  | zero =>
    intro o ⟨q, h1, h2, h3⟩
    have e : aFree w A 0 o = o := rfl
    rw [e]
    have : q = o := by omega
    subst this
    exact ⟨h3, fun _ _ _ => by omega⟩
  | succ n ih =>
    intro o ⟨q, h1, h2, h3⟩
    unfold aFree
    by_cases hz : A.1 (w + 3) o = 0
    · rw [if_pos hz]
      exact ⟨hz, fun _ _ _ => by omega⟩
    · rw [if_neg hz]
      have hne : q ≠ o := fun e => hz (e ▸ h3)
      obtain ⟨g1, g2⟩ := ih (o + 1) ⟨q, by omega, by omega, h3⟩
      refine ⟨g1, fun p hp1 hp2 => ?_⟩
      by_cases e : p = o
      · rw [e]; exact hz
      · exact g2 p (by omega) hp2
theorem HOk.free {w : Nat} {A : xQ} (h : HOk w A) (hc : A.1 (w + 2) 4 < 24) : aFree w A 23 0 < 24 ∧ A.1 (w + 3) (aFree w A 23 0) = 0 ∧ ∀ q, q < aFree w A 23 0 → A.1 (w + 3) q ≠ 0 := by
  rw [h] at hc
  obtain ⟨o, h1, h2⟩ := xcnt_free hc
  have h3 : A.1 (w + 3) o = 0 := by simpa using h2
  obtain ⟨g1, g2⟩ := aFree_free w A 23 0 ⟨o, by omega, by omega, h3⟩
  have := aFree_le w A 23 0
  exact ⟨by omega, g1, fun q hq => g2 q (by omega) hq⟩
/-- what an object that is made leaves -/
theorem aMakeAt_r (w k fn sz o : Nat) (A : xQ) : (∀ a j, a ≠ w + 3 → a ≠ w + 4 → a ≠ w + 5 → a ≠ w + 7 → (a ≠ w + 2 ∨ j ≠ 4) → (aMakeAt w k fn sz o A).1 a j = A.1 a j) ∧ (∀ a j, a ≠ w + 8 → (aMakeAt w k fn sz o A).2 a j = A.2 a j) ∧ (∀ q, (aMakeAt w k fn sz o A).1 (w + 3) q = if q = o then k else A.1 (w + 3) q) ∧ (∀ q, (aMakeAt w k fn sz o A).1 (w + 4) q = if q = o then fn else A.1 (w + 4) q) ∧ (∀ q, (aMakeAt w k fn sz o A).1 (w + 5) q = if q = o then sz else A.1 (w + 5) q) ∧ (∀ j, (aMakeAt w k fn sz o A).1 (w + 7) j = if o * 3 ≤ j ∧ j < o * 3 + 3 then 0 else A.1 (w + 7) j) ∧ (∀ j, (aMakeAt w k fn sz o A).2 (w + 8) j = if o * 3 ≤ j ∧ j < o * 3 + 3 then 0 else A.2 (w + 8) j) ∧ (aMakeAt w k fn sz o A).1 (w + 2) 4 = A.1 (w + 2) 4 + 1 := by
  obtain ⟨q1, q2⟩ := xit_nul (ka := w + 7) (na := w + 8) 3 (o * 3) (aShape w o k fn sz A)
  have s3 : ∀ q, (aShape w o k fn sz A).1 (w + 3) q = if q = o then k else A.1 (w + 3) q := by
    intro q
    unfold aShape
    rw [xsI_ne (Or.inl (by omega)), xsI_ne (Or.inl (by omega))]
    by_cases hc : q = o
    · rw [if_pos hc, hc, xsI_eq]
    · rw [if_neg hc, xsI_ne (Or.inr hc)]
  have s4 : ∀ q, (aShape w o k fn sz A).1 (w + 4) q = if q = o then fn else A.1 (w + 4) q := by
    intro q
    unfold aShape
    rw [xsI_ne (Or.inl (by omega))]
    by_cases hc : q = o
    · rw [if_pos hc, hc, xsI_eq]
    · rw [if_neg hc, xsI_ne (Or.inr hc), xsI_ne (Or.inl (by omega))]
  have s5 : ∀ q, (aShape w o k fn sz A).1 (w + 5) q = if q = o then sz else A.1 (w + 5) q := by
    intro q
    unfold aShape
    by_cases hc : q = o
    · rw [if_pos hc, hc, xsI_eq]
    · rw [if_neg hc, xsI_ne (Or.inr hc), xsI_ne (Or.inl (by omega)), xsI_ne (Or.inl (by omega))]
  have sx : ∀ a j, a ≠ w + 3 → a ≠ w + 4 → a ≠ w + 5 → (aShape w o k fn sz A).1 a j = A.1 a j := by
    intro a j x1 x2 x3
    unfold aShape
    rw [xsI_ne (Or.inl x3), xsI_ne (Or.inl x2), xsI_ne (Or.inl x1)]
  unfold aMakeAt
  generalize xit (xnul1 (w + 7) (w + 8)) 3 (o * 3) (aShape w o k fn sz A) = X at q1 q2
  refine ⟨fun a j x3 x4 x5 x7 x2 => ?_, fun a j x8 => ?_, fun q => ?_, fun q => ?_, fun q => ?_, fun j => ?_, fun j => ?_, ?_⟩
  · rw [xsI_ne x2, q1, if_neg (fun z => x7 z.1), sx a j x3 x4 x5]
  · show X.2 a j = _
    rw [q2, if_neg (fun z => x8 z.1)]
    rfl
  · rw [xsI_ne (Or.inl (by omega)), q1, if_neg (by omega), s3]
  · rw [xsI_ne (Or.inl (by omega)), q1, if_neg (by omega), s4]
  · rw [xsI_ne (Or.inl (by omega)), q1, if_neg (by omega), s5]
  · rw [xsI_ne (Or.inl (by omega)), q1]
    by_cases hc : o * 3 ≤ j ∧ j < o * 3 + 3
    · rw [if_pos ⟨rfl, hc⟩, if_pos hc]
    · rw [if_neg (fun z => hc z.2), if_neg hc, sx _ _ (by omega) (by omega) (by omega)]
  · show X.2 _ j = _
    rw [q2]
    by_cases hc : o * 3 ≤ j ∧ j < o * 3 + 3
    · rw [if_pos ⟨rfl, hc⟩, if_pos hc]
    · rw [if_neg (fun z => hc z.2), if_neg hc]
      rfl
  · rw [xsI_eq, q1, if_neg (by omega), sx _ _ (by omega) (by omega) (by omega)]
theorem COk.make {w k fn sz : Nat} {A : xQ} (h : COk w A) (hc : A.1 (w + 2) 4 < 24) (hk : (k = 3 ∧ sz = 3) ∨ (k = 4 ∧ fn < 6 ∧ sz ≤ 2)) : COk w (aMake w k fn sz A) := by
  obtain ⟨o1, o2, o3⟩ := h.2.2.2.1.free hc
  obtain ⟨r1, r2, r3, r4, r5, r7, r8, r9⟩ := aMakeAt_r w k fn sz (aFree w A 23 0) A
  unfold aMake
  generalize aFree w A 23 0 = o at o1 o2 o3 r1 r2 r3 r4 r5 r7 r8 r9
  have hkk : ∀ q, A.1 (w + 3) q ≠ 0 → (aMakeAt w k fn sz o A).1 (w + 3) q = A.1 (w + 3) q := by
    intro q hq
    rw [r3, if_neg (fun (e : q = o) => hq (by rw [e]; exact o2))]
  refine h.hp (fun a j q => r1 a j (by omega) (by omega) (by omega) (by omega) (by omega)) (fun a j q => r2 a j q) hkk (fun p hp => ?_) ?_
  · have q := h.2.1.2.2 p hp
    unfold OOk
    rw [r3, r4, r5]
    by_cases hq : p = o
    · rw [if_pos hq, if_pos hq, if_pos hq]
      refine ⟨by omega, by omega, by omega, fun _ j hj => ?_⟩
      show VV w _ _ _
      rw [r7, if_pos (by omega)]
      exact VV.num (by omega)
    · rw [if_neg hq, if_neg hq, if_neg hq]
      refine ⟨q.1, q.2.1, q.2.2.1, fun h0 j hj => ?_⟩
      have hs3 := q.sz h0
      show VV w _ _ _
      rw [r7, r8, if_neg (by omega), if_neg (by omega)]
      exact (q.v h0 hj).hp hkk
  · unfold HOk
    rw [r9, h.2.2.2.1]
    symm
    refine xcnt_set o1 (by simp [o2]) ?_ (fun i hi => ?_)
    · simp only [r3, if_true]
      rcases hk with ⟨q, _⟩ | ⟨q, _⟩ <;> simp [q]
    · simp only [r3, if_neg hi]
