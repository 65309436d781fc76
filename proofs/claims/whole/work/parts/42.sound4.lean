-- WHAT STAYS SOUND: forks, errors, objects
theorem COk.fr {w t k : Nat} {A : xQ} (h : COk w A) (ht : t < A.1 w 2) (hk : k < A.1 (w + 11 + 25 * t) 3) : FOk w A (w + 11 + 25 * t + 5 + 4 * k) := (h.st ht).2.2.2.2.2.2 k hk
/-- where an error goes on -/
def aRaise (A : xQ) (s e : Nat) : Nat → xQ
  | 0 => aEnd A s 2 e
  | d + 1 => if aHnd A (A.1 (s + 5 + 4 * d) 2) (A.1 7 (A.1 (s + 5 + 4 * d) 1)) (A.1 (s + 5 + 4 * d) 1 * 3) = 4294967295 then aRaise A s e d else xpu (xsI (xsI (xsI A s 3 (d + 1)) (s + 5 + 4 * d) 2 (aHnd A (A.1 (s + 5 + 4 * d) 2) (A.1 7 (A.1 (s + 5 + 4 * d) 1)) (A.1 (s + 5 + 4 * d) 1 * 3))) (s + 5 + 4 * d) 3 0) (s + 5 + 4 * d) 1 (lN e)
theorem aHnd_le (A : xQ) (p : Nat) : ∀ m i, (∀ j, i ≤ j → j < i + m → A.1 10 j ≤ 29) → aHnd A p m i = 4294967295 ∨ aHnd A p m i ≤ 29 := by
  intro m
  induction m with
  | zero => intro i _; exact Or.inl rfl
  | succ m ih =>
    intro i h
    unfold aHnd
    split
    · exact Or.inr (h i (by omega) (by omega))
    · exact ih (i + 1) (fun j q1 q2 => h j (by omega) (by omega))
theorem POk.hnd {A : xQ} (h : POk A) {fn : Nat} (hf : fn < 6) (p : Nat) : aHnd A p (A.1 7 fn) (fn * 3) = 4294967295 ∨ aHnd A p (A.1 7 fn) (fn * 3) ≤ 29 := by
  refine aHnd_le A p _ _ (fun j h1 h2 => ?_)
  have := ((h fn hf).2.2.2.2 (j - fn * 3) (by omega)).2.2
  rw [show fn * 3 + (j - fn * 3) = j by omega] at this
  exact this
theorem COk.raise {w t s e : Nat} {A : xQ} (h : COk w A) (ht : t < A.1 w 2) (hs : s = w + 11 + 25 * t) (he : e < 32) (hst : A.1 s 2 = 0 ∨ A.1 s 3 = 0) : ∀ d, d ≤ A.1 s 3 → COk w (aRaise A s e d) ∧ AgS s A (aRaise A s e d) := by
  intro d
  induction d with
  | zero =>
    intro _
    exact h.end ht hs (Or.inr rfl) he (fun z => absurd z (by omega))
  | succ d ih =>
    intro hd
    unfold aRaise
    have hF := h.fr (k := d) ht (by rw [← hs]; omega)
    rw [← hs] at hF
    by_cases c1 : aHnd A (A.1 (s + 5 + 4 * d) 2) (A.1 7 (A.1 (s + 5 + 4 * d) 1)) (A.1 (s + 5 + 4 * d) 1 * 3) = 4294967295
    · rw [if_pos c1]; exact ih (by omega)
    · rw [if_neg c1]
      have h29 := (h.2.2.1.hnd hF.1 (A.1 (s + 5 + 4 * d) 2)).resolve_left c1
      obtain ⟨g1, g2⟩ := h.depth (d := d + 1) ht hs (by omega) (by omega) hd
      have ek : ∀ a j, a ≠ s → (xsI A s 3 (d + 1)).1 a j = A.1 a j := fun a j q => xsI_ne (Or.inl q)
      have e3 : (xsI A s 3 (d + 1)).1 s 3 = d + 1 := xsI_eq
      generalize aHnd A (A.1 (s + 5 + 4 * d) 2) (A.1 7 (A.1 (s + 5 + 4 * d) 1)) (A.1 (s + 5 + 4 * d) 1 * 3) = p at c1 h29
      generalize xsI A s 3 (d + 1) = B at g1 g2 ek e3
      have htB : t < B.1 w 2 := by rw [ek w 2 (by omega)]; exact ht
      have hFB := g1.fr (k := d) htB (by rw [← hs, e3]; omega)
      rw [← hs] at hFB
      have f1 := ((hFB.place (p := p) (by omega) (by omega)).size (n := 0) (by omega) (by omega)).push (k := 1) (v := lN e) (by omega) (by rw [xsI_eq]; omega) (VV.num (by omega))
      have ag := ((AgF.refl (s + 5 + 4 * d) B).i (j := 2) (v := p)).i (j := 3) (v := 0) |>.trans (xpu_r _ (s + 5 + 4 * d) 1 (lN e)).2.2.2.2.2
      refine ⟨g1.frame (k := d) htB (by rw [← hs, e3]; omega) (by rw [hs]) ag f1 (fun z => ?_), g2.trans (ag.s (by omega) (by have := (h.st ht).2.1; rw [← hs] at this; omega))⟩
      rw [← hs, e3] at z
      omega
theorem COk.fork1 {w t k f fn : Nat} {A : xQ} (h : COk w A) (ht : t < A.1 w 2) (hk : k + 1 = A.1 (w + 11 + 25 * t) 3) (hf : f = w + 11 + 25 * t + 5 + 4 * k) (hfn : fn < 6) (hns : A.1 2 fn ≤ A.1 f 3) (c1 : A.1 w 2 ≠ 3) : COk w (xsI (aFork1 w A f fn) w 2 (A.1 w 2 + 1)) ∧ Ch w 0 A (xsI (aFork1 w A f fn) w 2 (A.1 w 2 + 1)) ∧ (xsI (aFork1 w A f fn) w 2 (A.1 w 2 + 1)).1 f 2 = A.1 f 2 ∧ (xsI (aFork1 w A f fn) w 2 (A.1 w 2 + 1)).1 (w + 11 + 25 * t) 3 = A.1 (w + 11 + 25 * t) 3 ∧ (xsI (aFork1 w A f fn) w 2 (A.1 w 2 + 1)).1 w 2 = A.1 w 2 + 1 ∧ (xsI (aFork1 w A f fn) w 2 (A.1 w 2 + 1)).1 f 3 = A.1 f 3 - (A.1 2 fn + 0) := by
  have hc3 := h.cnt
  have hS := h.st ht
  have hk5 := hS.2.1
  have hFf := h.fr (k := k) ht (by omega)
  rw [← hf] at hFf
  have hn := (h.2.2.1 fn hfn).1
  have h0 := h.1
  unfold aFork1
  obtain ⟨s, hs⟩ : ∃ s, s = w + 11 + 25 * A.1 w 2 := ⟨_, rfl⟩
  rw [← hs]
  obtain ⟨e1, e2, e3, e4, e5⟩ := aEnd_r A s 0 0
  generalize aEnd A s 0 0 = E at e1 e2 e3 e4 e5
  obtain ⟨o1, o2, o3, o4, o5, o6, o7, o8, o9, o10⟩ := aOpen_r E s fn
  rw [e5] at o1 o2 o3 o6 o7 o8 o9 o10
  generalize aOpen E s fn = X at o1 o2 o3 o4 o5 o6 o7 o8 o9 o10
  obtain ⟨t1, t2, t3, t4, t5⟩ := aTake_r X (g := s + 5) (f := f) (n := A.1 2 fn) (a := 0) (by omega) (by omega)
  have x1 : ∀ a j, a < s → X.1 a j = A.1 a j := fun a j q => by rw [o1 a j (by omega) (by omega) (by omega), e1 a j (by omega)]
  have x2 : ∀ a j, a < s → X.2 a j = A.2 a j := fun a j q => by rw [o2 a j (by omega), e2]
  rw [x1 f 3 (by omega)] at t3 t4 t5
  generalize aTake X (s + 5) f (A.1 2 fn) 0 = Y at t1 t2 t3 t4 t5
  -- the frame that forks, smaller
  have hA1 : COk w (xsI A f 3 (A.1 f 3 - (A.1 2 fn + 0))) := h.frame ht (by omega) hf ((AgF.refl f A).i) (hFf.size (by omega) (by omega)) (fun z => by omega)
  have b1 : ∀ a j, a < s → a ≠ w → (xsI Y w 2 (A.1 w 2 + 1)).1 a j = (xsI A f 3 (A.1 f 3 - (A.1 2 fn + 0))).1 a j := by
    intro a j q qw
    rw [xsI_ne (Or.inl qw)]
    by_cases hq : a = f ∧ j = 3
    · rw [hq.1, hq.2, t3, xsI_eq]
    · rw [t1 a j (by omega) (by omega), x1 a j q, xsI_ne (by omega)]
  have b2 : ∀ a j, a < s → (xsI Y w 2 (A.1 w 2 + 1)).2 a j = (xsI A f 3 (A.1 f 3 - (A.1 2 fn + 0))).2 a j := by
    intro a j q
    show Y.2 a j = A.2 a j
    rw [t2 a j (by omega), x2 a j q]
  have bw : (xsI Y w 2 (A.1 w 2 + 1)).1 w 2 = A.1 w 2 + 1 := xsI_eq
  have bw2 : ∀ j, j ≠ 2 → (xsI Y w 2 (A.1 w 2 + 1)).1 w j = A.1 w j := by
    intro j hj
    rw [xsI_ne (Or.inr hj), t1 w j (by omega) (by omega), x1 w j (by omega)]
  have y1 : ∀ a j, s ≤ a → a ≠ s + 7 → (xsI Y w 2 (A.1 w 2 + 1)).1 a j = X.1 a j := by
    intro a j q q2
    rw [xsI_ne (Or.inl (by omega)), t1 a j (by omega) (by omega)]
  have y7 : ∀ c, (xsI Y w 2 (A.1 w 2 + 1)).1 (s + 7) c = if 1 ≤ c ∧ c < 1 + A.1 2 fn then X.1 (f + 2) (5 + A.1 f 3 - 0 - A.1 2 fn + (c - 1)) else X.1 (s + 7) c := by
    intro c
    rw [xsI_ne (Or.inl (by omega))]
    exact t4 c
  have y8 : ∀ c, (xsI Y w 2 (A.1 w 2 + 1)).2 (s + 8) c = if 1 ≤ c ∧ c < 1 + A.1 2 fn then X.2 (f + 3) (5 + A.1 f 3 - 0 - A.1 2 fn + (c - 1)) else X.2 (s + 8) c := t5
  have wA1 : (xsI A f 3 (A.1 f 3 - (A.1 2 fn + 0))).1 w 2 = A.1 w 2 := xsI_ne (Or.inl (by omega))
  have aA1 : ∀ a j, a ≠ f → (xsI A f 3 (A.1 f 3 - (A.1 2 fn + 0))).1 a j = A.1 a j := fun a j q => xsI_ne (Or.inl q)
  generalize xsI Y w 2 (A.1 w 2 + 1) = B at b1 b2 bw bw2 y1 y7 y8
  have hf2 : (xsI A f 3 (A.1 f 3 - (A.1 2 fn + 0))).1 f 2 = A.1 f 2 := xsI_ne (Or.inr (by omega))
  have hf3 : (xsI A f 3 (A.1 f 3 - (A.1 2 fn + 0))).1 f 3 = A.1 f 3 - (A.1 2 fn + 0) := xsI_eq
  generalize xsI A f 3 (A.1 f 3 - (A.1 2 fn + 0)) = A1 at hA1 b1 b2 wA1 aA1 hf2 hf3
  have ehp : ∀ o, B.1 (w + 3) o = A1.1 (w + 3) o := fun o => b1 _ _ (by omega) (by omega)
  have hB : COk w B := by
    obtain ⟨g0, ⟨g1, g2, g3⟩, g4, g5, g6, g7⟩ := hA1
    refine ⟨g0, ⟨by rw [bw]; omega, fun u hu => ?_, fun o ho => ?_⟩, g4.same (fun a j _ _ => b1 _ _ (by omega) (by omega)), g5.same (b1 _ _ (by omega) (by omega)) ehp, fun u hu i hi => ?_, ?_⟩
    · rw [bw] at hu
      by_cases hq : u = A.1 w 2
      · rw [hq, ← hs]
        unfold SOk
        rw [y1 s 2 (by omega) (by omega), y1 s 3 (by omega) (by omega), y1 s 4 (by omega) (by omega), o4, o3, o5, e3, e4]
        refine ⟨by omega, by omega, by omega, by omega, by omega, by omega, fun k hk0 => ?_⟩
        have hk00 : k = 0 := by omega
        subst hk00
        rw [show s + 5 + 4 * 0 = s + 5 by omega] at *
        refine FOk.mk' (A := A) ?_ ?_ ?_ ?_ (fun c hc => ?_) (fun o _ => ?_)
        · rw [y1 _ 1 (by omega) (by omega), o6]; exact hfn
        · rw [y1 _ 2 (by omega) (by omega), o7]; omega
        · rw [y1 _ 3 (by omega) (by omega), o8]; omega
        · rw [y7, if_neg (by omega)]
          exact Or.inl (o9 0 (by omega))
        · rw [y1 _ 3 (by omega) (by omega), o8] at hc
          rw [y7, y8]
          by_cases hc2 : 1 ≤ c ∧ c < 1 + A.1 2 fn
          · rw [if_pos hc2, if_pos hc2, x1 _ _ (by omega), x2 _ _ (by omega)]
            exact hFf.v (by omega)
          · rw [if_neg hc2, if_neg hc2, show X.1 (s + 7) c = 0 from o9 c (by omega)]
            exact VV.num (by omega)
        · rw [ehp, aA1 _ _ (by omega)]
      · refine (g2 u (by rw [wA1]; omega)).away (fun a j _ _ => b1 a j (by omega) (by omega)) (fun a j _ _ => b2 a j (by omega)) (fun o _ => ehp o)
    · exact (g3 o ho).same ehp (b1 _ _ (by omega) (by omega)) (b1 _ _ (by omega) (by omega)) (fun j => b1 _ _ (by omega) (by omega)) (fun j => b2 _ _ (by omega))
    · rw [bw] at hu
      by_cases hq : u = A.1 w 2
      · rw [hq, ← hs, y1 s 3 (by omega) (by omega), o3] at hi
        omega
      · have hu3 := (g2 u (by rw [wA1]; omega)).2.1
        rw [b1 _ 3 (by omega) (by omega)] at hi
        rw [b1 _ 2 (by omega) (by omega)]
        exact g6 u (by rw [wA1]; omega) i hi
    · rw [bw2 3 (by omega)]
      exact h.2.2.2.2.2
  have bf2 : B.1 f 2 = A.1 f 2 := by rw [b1 f 2 (by omega) (by omega), hf2]
  have chB : Ch w 0 A B := by
    refine ⟨bw2 3 (by omega), bw2 4 (by omega), ?_, ?_, by rw [bw]; omega, fun a j _ _ => ?_⟩
    · rw [b1 _ _ (by omega) (by omega), aA1 _ _ (by omega)]
    · rw [b1 11 3 (by omega) (by omega), aA1 11 3 (by omega)]; omega
    · rw [b1 _ _ (by omega) (by omega), aA1 _ _ (by omega)]
  have d3 : B.1 (w + 11 + 25 * t) 3 = A.1 (w + 11 + 25 * t) 3 := by rw [b1 _ _ (by omega) (by omega), aA1 _ _ (by omega)]
  exact ⟨hB, chB, bf2, d3, bw, by rw [b1 f 3 (by omega) (by omega), hf3]⟩
theorem COk.fork {w t k f fn : Nat} {A : xQ} (h : COk w A) (ht : t < A.1 w 2) (hk : k + 1 = A.1 (w + 11 + 25 * t) 3) (hf : f = w + 11 + 25 * t + 5 + 4 * k) (hfn : fn < 6) (hns : A.1 2 fn ≤ A.1 f 3) : COk w (aFork w A f fn).2 ∧ Ch w 0 A (aFork w A f fn).2 ∧ (aFork w A f fn).2.1 f 2 = A.1 f 2 ∧ (aFork w A f fn).2.1 (w + 11 + 25 * t) 3 = A.1 (w + 11 + 25 * t) 3 := by
  have hk5 := (h.st ht).2.1
  have hc3 := h.cnt
  have h0 := h.1
  unfold aFork
  by_cases c1 : A.1 w 2 = 3
  · rw [if_pos c1]; exact ⟨h, Ch.refl w A, rfl, rfl⟩
  by_cases c2 : A.1 f 3 - A.1 2 fn = 6
  · rw [if_neg c1, if_pos c2]; exact ⟨h, Ch.refl w A, rfl, rfl⟩
  rw [if_neg c1, if_neg c2]
  obtain ⟨hB, chB, bf2, d3, bw, bf3⟩ := h.fork1 ht hk hf hfn hns c1
  generalize xsI (aFork1 w A f fn) w 2 (A.1 w 2 + 1) = B at hB chB bf2 d3 bw bf3
  have htB : t < B.1 w 2 := by rw [bw]; omega
  have hFB := hB.fr (k := k) htB (by omega)
  rw [← hf] at hFB
  have hop := OpF.push (k := 1) (v := lN (A.1 w 2)) (AgF.refl f B) hFB (by omega) (VV.num (by omega))
  refine ⟨hB.frame htB (by omega) hf hop.1 hop.2 (fun z => by omega), chB.trans (hop.1.ch h0 (by omega)), ?_, by rw [hop.1.1 _ _ (by omega) (by omega)]; exact d3⟩
  rw [← bf2]
  unfold aPush
  split
  · exact (xpu_r B _ _ _).2.1
  · rfl
theorem aPush_2 (A : xQ) (f k : Nat) (v : Int64) : (aPush A f k v).2.1 f 2 = A.1 f 2 := by
  unfold aPush
  split
  · exact (xpu_r A _ _ _).2.1
  · rfl
theorem aMake_ch {w k fn sz : Nat} {A : xQ} (hw : w = 12 ∨ w = 103) : Ch w 0 A (aMake w k fn sz A) := by
  obtain ⟨r1, r2, r3, r4, r5, r7, r8, r9⟩ := aMakeAt_r w k fn sz (aFree w A 23 0) A
  unfold aMake
  have e : ∀ a j, a < w + 2 → (aMakeAt w k fn sz (aFree w A 23 0) A).1 a j = A.1 a j := fun a j q => r1 a j (by omega) (by omega) (by omega) (by omega) (by omega)
  exact ⟨e _ _ (by omega), e _ _ (by omega), e _ _ (by omega), by rw [e 11 3 (by omega)]; omega, by rw [e w 2 (by omega)]; omega, fun a j _ _ => e _ _ (by omega)⟩
theorem COk.record {w t k f : Nat} {A : xQ} (h : COk w A) (hc : A.1 (w + 2) 4 < 24) (ht : t < A.1 w 2) (hk : k + 1 = A.1 (w + 11 + 25 * t) 3) (hf : f = w + 11 + 25 * t + 5 + 4 * k) : COk w (aRecord w A f).2 ∧ Ch w 0 A (aRecord w A f).2 ∧ (aRecord w A f).2.1 f 2 = A.1 f 2 ∧ (aRecord w A f).2.1 (w + 11 + 25 * t) 3 = A.1 (w + 11 + 25 * t) 3 := by
  unfold aRecord
  by_cases c1 : A.1 f 3 = 6
  · rw [if_pos c1]; exact ⟨h, Ch.refl w A, rfl, rfl⟩
  rw [if_neg c1]
  have hB := h.make (k := 3) (fn := 0) (sz := 3) hc (Or.inl ⟨rfl, rfl⟩)
  have chB := aMake_ch (k := 3) (fn := 0) (sz := 3) (A := A) h.1
  obtain ⟨o1, o2, o3⟩ := h.2.2.2.1.free hc
  obtain ⟨r1, r2, r3, r4, r5, r7, r8, r9⟩ := aMakeAt_r w 3 0 3 (aFree w A 23 0) A
  have eb : ∀ a j, w + 11 ≤ a → (aMake w 3 0 3 A).1 a j = A.1 a j := fun a j q => r1 a j (by omega) (by omega) (by omega) (by omega) (by omega)
  have ek : (aMake w 3 0 3 A).1 (w + 3) (aFree w A 23 0) = 3 := by
    show (aMakeAt w 3 0 3 (aFree w A 23 0) A).1 _ _ = _
    rw [r3, if_pos rfl]
  have hw2 : (aMake w 3 0 3 A).1 w 2 = A.1 w 2 := r1 w 2 (by omega) (by omega) (by omega) (by omega) (by omega)
  generalize aMake w 3 0 3 A = B at hB chB eb ek hw2
  have hFB := hB.fr (t := t) (k := k) (by omega) (by rw [eb _ _ (by omega)]; omega)
  rw [← hf] at hFB
  have hop := OpF.push (k := 3) (v := lN (aFree w A 23 0)) (AgF.refl f B) hFB (by omega) ⟨by omega, fun _ => ⟨_, o1, rfl, ek⟩⟩
  refine ⟨hB.frame (t := t) (k := k) (by omega) (by rw [eb _ _ (by omega)]; omega) hf hop.1 hop.2 (fun z => by rw [eb _ _ (by omega)] at z; omega), chB.trans (hop.1.ch h.1 (by omega)), ?_, by rw [hop.1.1 _ _ (by omega) (by omega), eb _ _ (by omega)]⟩
  rw [aPush_2, eb _ _ (by omega)]
/-- the values of an object, copied out of a frame -/
theorem COk.ocells {w f e d : Nat} {A : xQ} (hw : w + 11 < f) : ∀ (m i : Nat) (B : xQ), COk w B → (∀ c, c < m → VV w B (B.1 (f + 2) (e + i + c)) (B.2 (f + 3) (e + i + c))) → COk w (xit (fun i B => aCopy (w + 7) (w + 8) (d + i) (f + 2) (f + 3) (e + i) B) m i B) := by
  intro m
  induction m with
  | zero => intro i B h _; exact h
  | succ m ih =>
    intro i B h hv
    have h1 : COk w (aCopy (w + 7) (w + 8) (d + i) (f + 2) (f + 3) (e + i) B) := h.ocell (hv 0 (by omega))
    refine ih (i + 1) _ h1 (fun c hc => ?_)
    have := hv (c + 1) (by omega)
    obtain ⟨e1, e2, _, _⟩ := ocell_r w B (d + i) (B.1 (f + 2) (e + i)) (B.2 (f + 3) (e + i))
    rw [show e + (i + 1) + c = e + i + (c + 1) by omega]
    show VV w (xsJ (xsI B (w + 7) (d + i) (B.1 (f + 2) (e + i))) (w + 8) (d + i) (B.2 (f + 3) (e + i))) ((xsJ (xsI B (w + 7) (d + i) (B.1 (f + 2) (e + i))) (w + 8) (d + i) (B.2 (f + 3) (e + i))).1 (f + 2) (e + i + (c + 1))) ((xsJ (xsI B (w + 7) (d + i) (B.1 (f + 2) (e + i))) (w + 8) (d + i) (B.2 (f + 3) (e + i))).2 (f + 3) (e + i + (c + 1)))
    rw [e1 (f + 2) _ (by omega), e2 (f + 3) _ (by omega)]
    exact this.same (fun o => e1 _ _ (by omega))
theorem COk.closure {w t k f fn n : Nat} {A : xQ} (h : COk w A) (hc : A.1 (w + 2) 4 < 24) (ht : t < A.1 w 2) (hk : k + 1 = A.1 (w + 11 + 25 * t) 3) (hf : f = w + 11 + 25 * t + 5 + 4 * k) (hfn : fn < 6) (hn : n ≤ 2) (hns : n ≤ A.1 f 3) : COk w (aClosure w A f fn n).2 ∧ Ch w 0 A (aClosure w A f fn n).2 ∧ (aClosure w A f fn n).2.1 f 2 = A.1 f 2 ∧ (aClosure w A f fn n).2.1 (w + 11 + 25 * t) 3 = A.1 (w + 11 + 25 * t) 3 := by
  unfold aClosure
  by_cases c1 : A.1 f 3 - n = 6
  · rw [if_pos c1]; exact ⟨h, Ch.refl w A, rfl, rfl⟩
  rw [if_neg c1]
  have hFA := h.fr (k := k) ht (by omega)
  rw [← hf] at hFA
  have hB := h.make (k := 4) (fn := fn) (sz := n) hc (Or.inr ⟨rfl, hfn, hn⟩)
  have chB := aMake_ch (k := 4) (fn := fn) (sz := n) (A := A) h.1
  obtain ⟨o1, o2, o3⟩ := h.2.2.2.1.free hc
  obtain ⟨r1, r2, r3, r4, r5, r7, r8, r9⟩ := aMakeAt_r w 4 fn n (aFree w A 23 0) A
  have eb : ∀ a j, w + 11 ≤ a → (aMake w 4 fn n A).1 a j = A.1 a j := fun a j q => r1 a j (by omega) (by omega) (by omega) (by omega) (by omega)
  have ebj : ∀ a j, w + 11 ≤ a → (aMake w 4 fn n A).2 a j = A.2 a j := fun a j q => r2 a j (by omega)
  have hkk : ∀ q, A.1 (w + 3) q ≠ 0 → (aMake w 4 fn n A).1 (w + 3) q = A.1 (w + 3) q := by
    intro q hq
    show (aMakeAt w 4 fn n (aFree w A 23 0) A).1 _ _ = _
    rw [r3, if_neg (fun (e : q = aFree w A 23 0) => hq (by rw [e]; exact o2))]
  have ek : (aMake w 4 fn n A).1 (w + 3) (aFree w A 23 0) = 4 := by
    show (aMakeAt w 4 fn n (aFree w A 23 0) A).1 _ _ = _
    rw [r3, if_pos rfl]
  have hw2 : (aMake w 4 fn n A).1 w 2 = A.1 w 2 := r1 w 2 (by omega) (by omega) (by omega) (by omega) (by omega)
  generalize aMake w 4 fn n A = B at hB chB eb ebj ek hw2 hkk
  have hFB := hB.fr (t := t) (k := k) (by omega) (by rw [eb _ _ (by omega)]; omega)
  rw [← hf] at hFB
  have hC : COk w (aPop B f n) := hB.frame (t := t) (k := k) (by omega) (by rw [eb _ _ (by omega)]; omega) hf ((AgF.refl f B).pop) (hFB.pop (by omega)) (fun z => by rw [eb _ _ (by omega)] at z; omega)
  have ec : ∀ a j, a ≠ f → (aPop B f n).1 a j = B.1 a j := fun a j q => xsI_ne (Or.inl q)
  have ec2 : (aPop B f n).1 f 2 = B.1 f 2 := xsI_ne (Or.inr (by omega))
  have hD := COk.ocells (d := aFree w A 23 0 * 3) (e := 5 + (A.1 f 3 - n)) (f := f) (A := A) (by omega) n 0 (aPop B f n) hC (fun c hcn => by
    rw [ec _ _ (by omega), show (aPop B f n).2 = B.2 from rfl, eb _ _ (by omega), ebj _ _ (by omega)]
    exact ((hFA.v (c := 5 + (A.1 f 3 - n) + 0 + c) (by omega)).hp hkk).same (fun o => ec _ _ (by omega)))
  obtain ⟨p1, p2⟩ := xit_copy (ka := w + 7) (na := w + 8) (kb := f + 2) (nb := f + 3) (d := aFree w A 23 0 * 3) (e := 5 + (A.1 f 3 - n)) (by omega) (by omega) n 0 (aPop B f n)
  generalize xit (fun i B => aCopy (w + 7) (w + 8) (aFree w A 23 0 * 3 + i) (f + 2) (f + 3) (5 + (A.1 f 3 - n) + i) B) n 0 (aPop B f n) = D at hD p1 p2
  have ed : ∀ a j, a ≠ w + 7 → D.1 a j = (aPop B f n).1 a j := fun a j q => by rw [p1, if_neg (fun z => q z.1)]
  have d3 : D.1 (w + 11 + 25 * t) 3 = A.1 (w + 11 + 25 * t) 3 := by rw [ed _ _ (by omega), ec _ _ (by omega), eb _ _ (by omega)]
  have dw : D.1 w 2 = A.1 w 2 := by rw [ed _ _ (by omega), ec _ _ (by omega), hw2]
  have hFD := hD.fr (t := t) (k := k) (by omega) (by omega)
  rw [← hf] at hFD
  have hop := OpF.push (k := 4) (v := lN (aFree w A 23 0)) (AgF.refl f D) hFD (by omega) ⟨by omega, fun _ => ⟨_, o1, rfl, by rw [ed _ _ (by omega), ec _ _ (by omega)]; exact ek⟩⟩
  have chD : Ch w 0 B D := by
    have e : ∀ a j, a < w + 2 → D.1 a j = B.1 a j := fun a j q => by rw [ed _ _ (by omega), ec _ _ (by omega)]
    have h0 := h.1
    exact ⟨e _ _ (by omega), e _ _ (by omega), e _ _ (by omega), by rw [e 11 3 (by omega)]; omega, by rw [e w 2 (by omega)]; omega, fun a j _ _ => e _ _ (by omega)⟩
  refine ⟨hD.frame (t := t) (k := k) (by omega) (by omega) hf hop.1 hop.2 (fun z => by omega), (chB.trans chD).trans (hop.1.ch h.1 (by omega)), ?_, by rw [hop.1.1 _ _ (by omega) (by omega)]; exact d3⟩
  rw [aPush_2, ed _ _ (by omega), ec2, eb _ _ (by omega)]
theorem COk.put {w t k f i : Nat} {A : xQ} (h : COk w A) (ht : t < A.1 w 2) (hk : k + 1 = A.1 (w + 11 + 25 * t) 3) (hf : f = w + 11 + 25 * t + 5 + 4 * k) (hs : 2 ≤ A.1 f 3) : COk w (aPut w A f i).2 ∧ Ch w 0 A (aPut w A f i).2 ∧ (aPut w A f i).2.1 f 2 = A.1 f 2 ∧ (aPut w A f i).2.1 (w + 11 + 25 * t) 3 = A.1 (w + 11 + 25 * t) 3 := by
  unfold aPut
  split
  · have hFA := h.fr (k := k) ht (by omega)
    rw [← hf] at hFA
    have hB : COk w (aCopy (w + 7) (w + 8) (oN (A.2 (f + 3) (3 + A.1 f 3)) * 3 + i) (f + 2) (f + 3) (4 + A.1 f 3) A) := h.ocell (hFA.v (by omega))
    obtain ⟨e1, e2, _, _⟩ := ocell_r w A (oN (A.2 (f + 3) (3 + A.1 f 3)) * 3 + i) (A.1 (f + 2) (4 + A.1 f 3)) (A.2 (f + 3) (4 + A.1 f 3))
    have eb : ∀ a j, a ≠ w + 7 → (aCopy (w + 7) (w + 8) (oN (A.2 (f + 3) (3 + A.1 f 3)) * 3 + i) (f + 2) (f + 3) (4 + A.1 f 3) A).1 a j = A.1 a j := e1
    generalize aCopy (w + 7) (w + 8) (oN (A.2 (f + 3) (3 + A.1 f 3)) * 3 + i) (f + 2) (f + 3) (4 + A.1 f 3) A = B at hB eb
    have hFB := hB.fr (t := t) (k := k) (by rw [eb _ _ (by omega)]; omega) (by rw [eb _ _ (by omega)]; omega)
    rw [← hf] at hFB
    have chB : Ch w 0 A B := by
      have e : ∀ a j, a < w + 2 → B.1 a j = A.1 a j := fun a j q => eb _ _ (by omega)
      have h0 := h.1
      exact ⟨e _ _ (by omega), e _ _ (by omega), e _ _ (by omega), by rw [e 11 3 (by omega)]; omega, by rw [e w 2 (by omega)]; omega, fun a j _ _ => e _ _ (by omega)⟩
    refine ⟨hB.frame (t := t) (k := k) (by rw [eb _ _ (by omega)]; omega) (by rw [eb _ _ (by omega)]; omega) hf ((AgF.refl f B).pop) (hFB.pop (by omega)) (fun z => by rw [eb _ _ (by omega)] at z; omega), chB.trans ((AgF.refl f B).pop.ch h.1 (by omega)), ?_, by rw [(AgF.refl f B).pop.1 _ _ (by omega) (by omega), eb _ _ (by omega)]⟩
    show (xsI B f 3 _).1 f 2 = _
    rw [xsI_ne (Or.inr (by omega)), eb _ _ (by omega)]
  · exact ⟨h, Ch.refl w A, rfl, rfl⟩
theorem COk.say {w t k f : Nat} {A : xQ} (h : COk w A) (ht : t < A.1 w 2) (hk : k + 1 = A.1 (w + 11 + 25 * t) 3) (hf : f = w + 11 + 25 * t + 5 + 4 * k) : COk w (aSay A f).2 ∧ Ch w 1 A (aSay A f).2 ∧ (aSay A f).2.1 f 2 = A.1 f 2 ∧ (aSay A f).2.1 (w + 11 + 25 * t) 3 = A.1 (w + 11 + 25 * t) 3 := by
  have h0 := h.1
  unfold aSay
  split
  · have c1 : ∀ a j, a ≠ 11 → (xsI (if A.1 11 3 < 40 then xsJ A 98 (A.1 11 3) (A.2 (f + 3) (4 + A.1 f 3)) else A) 11 3 (A.1 11 3 + 1)).1 a j = A.1 a j := by
      intro a j q
      rw [xsI_ne (Or.inl q)]
      split <;> rfl
    have c2 : ∀ a j, a ≠ 98 → (xsI (if A.1 11 3 < 40 then xsJ A 98 (A.1 11 3) (A.2 (f + 3) (4 + A.1 f 3)) else A) 11 3 (A.1 11 3 + 1)).2 a j = A.2 a j := by
      intro a j q
      show (if A.1 11 3 < 40 then xsJ A 98 (A.1 11 3) (A.2 (f + 3) (4 + A.1 f 3)) else A).2 a j = _
      split
      · exact xsJ_ne (Or.inl q)
      · rfl
    have c3 : (xsI (if A.1 11 3 < 40 then xsJ A 98 (A.1 11 3) (A.2 (f + 3) (4 + A.1 f 3)) else A) 11 3 (A.1 11 3 + 1)).1 11 3 = A.1 11 3 + 1 := xsI_eq
    have c4 : (xsI (if A.1 11 3 < 40 then xsJ A 98 (A.1 11 3) (A.2 (f + 3) (4 + A.1 f 3)) else A) 11 3 (A.1 11 3 + 1)).1 11 4 = A.1 11 4 := by
      rw [xsI_ne (Or.inr (by omega))]
      split <;> rfl
    generalize xsI (if A.1 11 3 < 40 then xsJ A 98 (A.1 11 3) (A.2 (f + 3) (4 + A.1 f 3)) else A) 11 3 (A.1 11 3 + 1) = B at c1 c2 c3 c4
    have hB := h.eng c1 c2
    have hFB := hB.fr (t := t) (k := k) (by rw [c1 _ _ (by omega)]; omega) (by rw [c1 _ _ (by omega)]; omega)
    rw [← hf] at hFB
    have chB : Ch w 1 A B := ⟨c1 _ _ (by omega), c1 _ _ (by omega), c4, by omega, by rw [c1 w 2 (by omega)]; omega, fun a j _ _ => c1 _ _ (by omega)⟩
    refine ⟨hB.frame (t := t) (k := k) (by rw [c1 _ _ (by omega)]; omega) (by rw [c1 _ _ (by omega)]; omega) hf ((AgF.refl f B).pop) (hFB.pop (by omega)) (fun z => by rw [c1 _ _ (by omega)] at z; omega), chB.trans ((AgF.refl f B).pop.ch h.1 (by omega)), ?_, by rw [(AgF.refl f B).pop.1 _ _ (by omega) (by omega), c1 _ _ (by omega)]⟩
    show (xsI B f 3 _).1 f 2 = _
    rw [xsI_ne (Or.inr (by omega)), c1 _ _ (by omega)]
  · exact ⟨h, ⟨(Ch.refl w A).1, (Ch.refl w A).2.1, rfl, Nat.le_succ _, Nat.le_refl _, fun _ _ _ _ => rfl⟩, rfl, rfl⟩
