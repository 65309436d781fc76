-- WHAT STAYS SOUND: calls, returns, forks, errors, objects
theorem aOpen_r (A : xQ) (s fn : Nat) : (∀ a j, a ≠ s → a ≠ s + 5 + 4 * A.1 s 3 → a ≠ s + 5 + 4 * A.1 s 3 + 2 → (aOpen A s fn).1 a j = A.1 a j) ∧ (∀ a j, a ≠ s + 5 + 4 * A.1 s 3 + 3 → (aOpen A s fn).2 a j = A.2 a j) ∧ (aOpen A s fn).1 s 3 = A.1 s 3 + 1 ∧ (aOpen A s fn).1 s 2 = A.1 s 2 ∧ (aOpen A s fn).1 s 4 = A.1 s 4 ∧ (aOpen A s fn).1 (s + 5 + 4 * A.1 s 3) 1 = fn ∧ (aOpen A s fn).1 (s + 5 + 4 * A.1 s 3) 2 = 0 ∧ (aOpen A s fn).1 (s + 5 + 4 * A.1 s 3) 3 = 0 ∧ (∀ c, c < 5 → (aOpen A s fn).1 (s + 5 + 4 * A.1 s 3 + 2) c = 0) ∧ ∀ c, c < 5 → (aOpen A s fn).2 (s + 5 + 4 * A.1 s 3 + 3) c = 0 := by
  refine ⟨fun a j h1 h2 h3 => aOpen_k h1 h2 h3, ?_, aOpen_d, ?_⟩
  · intro a j h
    unfold aOpen
    rw [(xit_nul _ _ _).2, if_neg (fun z => h z.1)]
    rfl
  · unfold aOpen
    obtain ⟨q1, q2⟩ := xit_nul (ka := s + 5 + 4 * A.1 s 3 + 2) (na := s + 5 + 4 * A.1 s 3 + 3) 5 0 (xsI (xsI (xsI (xsI A s 3 (A.1 s 3 + 1)) (s + 5 + 4 * A.1 s 3) 1 fn) (s + 5 + 4 * A.1 s 3) 2 0) (s + 5 + 4 * A.1 s 3) 3 0)
    generalize xit (xnul1 (s + 5 + 4 * A.1 s 3 + 2) (s + 5 + 4 * A.1 s 3 + 3)) 5 0 (xsI (xsI (xsI (xsI A s 3 (A.1 s 3 + 1)) (s + 5 + 4 * A.1 s 3) 1 fn) (s + 5 + 4 * A.1 s 3) 2 0) (s + 5 + 4 * A.1 s 3) 3 0) = X at q1 q2
    refine ⟨?_, ?_, ?_, ?_, ?_, fun c hc => ?_, fun c hc => ?_⟩
    · rw [q1, if_neg (by omega), xsI_ne (Or.inl (by omega)), xsI_ne (Or.inl (by omega)), xsI_ne (Or.inl (by omega)), xsI_ne (Or.inr (by omega))]
    · rw [q1, if_neg (by omega), xsI_ne (Or.inl (by omega)), xsI_ne (Or.inl (by omega)), xsI_ne (Or.inl (by omega)), xsI_ne (Or.inr (by omega))]
    · rw [q1, if_neg (by omega), xsI_ne (Or.inr (by omega)), xsI_ne (Or.inr (by omega)), xsI_eq]
    · rw [q1, if_neg (by omega), xsI_ne (Or.inr (by omega)), xsI_eq]
    · rw [q1, if_neg (by omega), xsI_eq]
    · rw [q1, if_pos ⟨rfl, by omega, by omega⟩]
    · rw [q2, if_pos ⟨rfl, by omega, by omega⟩]
theorem aTake_r (A : xQ) {g f n a : Nat} (h : g + 2 ≠ f) (h2 : g ≠ f) : (∀ b j, b ≠ g + 2 → (b ≠ f ∨ j ≠ 3) → (aTake A g f n a).1 b j = A.1 b j) ∧ (∀ b j, b ≠ g + 3 → (aTake A g f n a).2 b j = A.2 b j) ∧ (aTake A g f n a).1 f 3 = A.1 f 3 - (n + a) ∧ (∀ c, (aTake A g f n a).1 (g + 2) c = if 1 ≤ c ∧ c < 1 + n then A.1 (f + 2) (5 + A.1 f 3 - a - n + (c - 1)) else A.1 (g + 2) c) ∧ ∀ c, (aTake A g f n a).2 (g + 3) c = if 1 ≤ c ∧ c < 1 + n then A.2 (f + 3) (5 + A.1 f 3 - a - n + (c - 1)) else A.2 (g + 3) c := by
  obtain ⟨q1, q2⟩ := xit_copy (ka := g + 2) (na := g + 3) (kb := f + 2) (nb := f + 3) (d := 1) (e := 5 + A.1 f 3 - a - n) (by omega) (by omega) n 0 A
  unfold aTake
  generalize xit (fun i B => aCopy (g + 2) (g + 3) (1 + i) (f + 2) (f + 3) (5 + A.1 f 3 - a - n + i) B) n 0 A = X at q1 q2
  refine ⟨fun b j x y => ?_, fun b j x => ?_, xsI_eq, fun c => ?_, fun c => ?_⟩
  · rw [xsI_ne y, q1, if_neg (fun z => x z.1)]
  · show X.2 b j = _
    rw [q2, if_neg (fun z => x z.1)]
  · rw [xsI_ne (Or.inl (by omega)), q1]
    by_cases hc : 1 ≤ c ∧ c < 1 + n
    · rw [if_pos ⟨rfl, by omega, by omega⟩, if_pos hc]
    · rw [if_neg (fun z => hc ⟨by omega, by omega⟩), if_neg hc]
  · show X.2 _ c = _
    rw [q2]
    by_cases hc : 1 ≤ c ∧ c < 1 + n
    · rw [if_pos ⟨rfl, by omega, by omega⟩, if_pos hc]
    · rw [if_neg (fun z => hc ⟨by omega, by omega⟩), if_neg hc]
/-- a frame whose size alone goes down -/
theorem FOk.less {w : Nat} {A B : xQ} {f : Nat} (h : FOk w A f) (h1 : B.1 f 1 = A.1 f 1) (h2 : B.1 f 2 ≤ 31) (h3 : B.1 f 3 ≤ A.1 f 3) (h4 : ∀ j, B.1 (f + 2) j = A.1 (f + 2) j) (h5 : ∀ j, B.2 (f + 3) j = A.2 (f + 3) j) (hp : ∀ o, A.1 (w + 3) o ≠ 0 → B.1 (w + 3) o = A.1 (w + 3) o) : FOk w B f := by
  refine FOk.mk' (A := A) (by rw [h1]; exact h.1) h2 (by have := h.2.2.1; omega) (by rw [h4]; exact h.2.2.2.1) (fun c hc => ?_) hp
  rw [h4, h5]
  exact h.v (by omega)
theorem COk.cnt {w : Nat} {A : xQ} (h : COk w A) : A.1 w 2 ≤ 3 := h.2.1.1
theorem COk.st {w t : Nat} {A : xQ} (h : COk w A) (ht : t < A.1 w 2) : SOk w A (w + 11 + 25 * t) := h.2.1.2.1 t ht
theorem COk.enter {w t s f fn ab : Nat} {A : xQ} (h : COk w A) (ht : t < A.1 w 2) (hs : s = w + 11 + 25 * t) (hst : A.1 s 2 = 0) (hfs : f + 4 = s + 5 + 4 * A.1 s 3) (hp : A.1 f 2 ≤ 30) (hfn : fn < 6) : COk w (aEnter A s f fn ab).2 ∧ AgS s A (aEnter A s f fn ab).2 := by
  have hS := h.st ht
  rw [← hs] at hS
  obtain ⟨q1, q2, q3, q4, q5, q6, q7⟩ := hS
  have hd1 := q3 hst
  have hn := (h.2.2.1 fn hfn).1
  unfold aEnter
  by_cases c1 : A.1 f 3 - ab < A.1 2 fn
  · rw [if_pos c1]; exact ⟨h, AgS.refl s A⟩
  by_cases c2 : A.1 s 3 = 5
  · rw [if_neg c1, if_pos c2]; exact ⟨h, AgS.refl s A⟩
  rw [if_neg c1, if_neg c2]
  obtain ⟨o1, o2, o3, o4, o5, o6, o7, o8, o9, o10⟩ := aOpen_r A s fn
  obtain ⟨t1, t2, t3, t4, t5⟩ := aTake_r (aOpen A s fn) (g := s + 5 + 4 * A.1 s 3) (f := f) (n := A.1 2 fn) (a := ab) (by omega) (by omega)
  have e3 : (aOpen A s fn).1 f 3 = A.1 f 3 := o1 f 3 (by omega) (by omega) (by omega)
  rw [e3] at t3 t4 t5
  simp only []
  generalize aTake (aOpen A s fn) (s + 5 + 4 * A.1 s 3) f (A.1 2 fn) ab = B at t1 t2 t3 t4 t5
  generalize aOpen A s fn = X at *
  have ag : AgS s A B := by
    refine ⟨fun a j q => ?_, fun a j q => ?_⟩
    · rw [t1 a j (by omega) (Or.inl (by omega)), o1 a j (by omega) (by omega) (by omega)]
    · rw [t2 a j (by omega), o2 a j (by omega)]
  have ehp : ∀ o, B.1 (w + 3) o = A.1 (w + 3) o := fun o => ag.1 _ _ (by omega)
  have b3 : B.1 s 3 = A.1 s 3 + 1 := by rw [t1 s 3 (by omega) (Or.inl (by omega)), o3]
  have b2 : B.1 s 2 = A.1 s 2 := by rw [t1 s 2 (by omega) (Or.inl (by omega)), o4]
  have b4 : B.1 s 4 = A.1 s 4 := by rw [t1 s 4 (by omega) (Or.inl (by omega)), o5]
  have fo : ∀ k, k < A.1 s 3 → FOk w B (s + 5 + 4 * k) := by
    intro k hk
    have hF := q7 k hk
    by_cases hq : s + 5 + 4 * k = f
    · rw [hq] at hF ⊢
      refine hF.less ?_ ?_ ?_ (fun j => ?_) (fun j => ?_) (fun o _ => ehp o)
      · rw [t1 f 1 (by omega) (Or.inr (by omega)), o1 f 1 (by omega) (by omega) (by omega)]
      · rw [t1 f 2 (by omega) (Or.inr (by omega)), o1 f 2 (by omega) (by omega) (by omega)]; omega
      · rw [t3]; omega
      · rw [t1 _ j (by omega) (Or.inl (by omega)), o1 _ j (by omega) (by omega) (by omega)]
      · rw [t2 _ j (by omega), o2 _ j (by omega)]
    · refine hF.away (fun j => ?_) (fun j => ?_) (fun j => ?_) (fun o _ => ehp o)
      · rw [t1 _ j (by omega) (Or.inl (by omega)), o1 _ j (by omega) (by omega) (by omega)]
      · rw [t1 _ j (by omega) (Or.inl (by omega)), o1 _ j (by omega) (by omega) (by omega)]
      · rw [t2 _ j (by omega), o2 _ j (by omega)]
  have hFf : FOk w A f := by
    have := q7 (A.1 s 3 - 1) (by omega)
    rw [show s + 5 + 4 * (A.1 s 3 - 1) = f by omega] at this
    exact this
  refine ⟨h.strand ht hs ag ?_ (fun k hk => ?_), ag⟩
  · unfold SOk
    rw [b2, b3, b4]
    refine ⟨q1, by omega, fun _ => by omega, fun z => absurd hst z, q5, fun z => by omega, fun k hk => ?_⟩
    by_cases hq : k = A.1 s 3
    · rw [hq]
      have g3 : B.1 (s + 5 + 4 * A.1 s 3) 3 = 0 := by rw [t1 _ 3 (by omega) (Or.inl (by omega)), o8]
      refine FOk.mk' (A := A) ?_ ?_ (by omega) ?_ (fun c hc => ?_) (fun o _ => ehp o)
      · rw [t1 _ 1 (by omega) (Or.inl (by omega)), o6]; exact hfn
      · rw [t1 _ 2 (by omega) (Or.inl (by omega)), o7]; omega
      · rw [t4, if_neg (by omega), o9 0 (by omega)]; exact Or.inl rfl
      · rw [g3] at hc
        rw [t4, t5]
        by_cases hc2 : 1 ≤ c ∧ c < 1 + A.1 2 fn
        · rw [if_pos hc2, if_pos hc2, o1 _ _ (by omega) (by omega) (by omega), o2 _ _ (by omega)]
          exact hFf.v (by omega)
        · rw [if_neg hc2, if_neg hc2, o9 c (by omega)]
          exact VV.num (by omega)
    · exact fo k (by omega)
  · rw [b3] at hk
    by_cases hq : s + 5 + 4 * k = f
    · rw [hq, t1 f 2 (by omega) (Or.inr (by omega)), o1 f 2 (by omega) (by omega) (by omega)]; exact hp
    · rw [t1 _ 2 (by omega) (Or.inl (by omega)), o1 _ 2 (by omega) (by omega) (by omega)]
      have := h.2.2.2.2.1 t ht k
      rw [← hs] at this
      exact this (by omega)
theorem COk.apply {w t s f : Nat} {A : xQ} (h : COk w A) (ht : t < A.1 w 2) (hs : s = w + 11 + 25 * t) (hst : A.1 s 2 = 0) (hfs : f + 4 = s + 5 + 4 * A.1 s 3) (hp : A.1 f 2 ≤ 30) (hs1 : 1 ≤ A.1 f 3) : COk w (aApply w A s f).2 ∧ AgS s A (aApply w A s f).2 := by
  have hS := h.st ht
  rw [← hs] at hS
  obtain ⟨q1, q2, q3, q4, q5, q6, q7⟩ := hS
  have hd1 := q3 hst
  have hFf : FOk w A f := by
    have := q7 (A.1 s 3 - 1) (by omega)
    rw [show s + 5 + 4 * (A.1 s 3 - 1) = f by omega] at this
    exact this
  unfold aApply
  by_cases hq : A.1 (f + 2) (4 + A.1 f 3) = 4
  · rw [if_pos hq]
    obtain ⟨o1, o2⟩ := hFf.o (c := 4 + A.1 f 3) (by omega) (by omega)
    rw [hq] at o2
    have hfn := ((h.2.1.2.2 _ o1).2.2.1 o2).1
    obtain ⟨g1, g2⟩ := h.enter (ab := 1) ht hs hst hfs hp hfn
    by_cases he : (aEnter A s f (A.1 (w + 4) (oN (A.2 (f + 3) (4 + A.1 f 3)))) 1).1 = 0
    · rw [if_pos he]
      obtain ⟨d1, d2⟩ := aEnter_d he hfs
      generalize aEnter A s f (A.1 (w + 4) (oN (A.2 (f + 3) (4 + A.1 f 3)))) 1 = r at he d1 d2 g1 g2
      have hg : FOk w r.2 (s + 5 + 4 * A.1 s 3) := by
        have := (g1.st (t := t) (by rw [g2.1 w 2 (by omega)]; exact ht)).2.2.2.2.2.2 (A.1 s 3)
        rw [← hs, d2] at this
        exact this (by omega)
      have hvv : VV w r.2 4 (lN (oN (A.2 (f + 3) (4 + A.1 f 3)))) := ⟨by omega, fun _ => ⟨_, o1, rfl, by rw [g2.1 _ _ (by omega)]; exact o2⟩⟩
      have hag := (cell_r r.2 (s + 5 + 4 * A.1 s 3) 0 4 (lN (oN (A.2 (f + 3) (4 + A.1 f 3))))).2.2.2
      refine ⟨g1.frame (t := t) (k := A.1 s 3) (by rw [g2.1 w 2 (by omega)]; exact ht) (by rw [← hs, d2]; omega) (by rw [hs]) hag (hg.cell (by omega) (Or.inr rfl) hvv) (fun z => ?_), g2.trans (hag.s (by omega) (by omega))⟩
      rw [← hs, d2] at z
      omega
    · rw [if_neg he]; exact ⟨g1, g2⟩
  · rw [if_neg hq]; exact ⟨h, AgS.refl s A⟩
theorem aEnd_r (A : xQ) (s st er : Nat) : (∀ a j, a ≠ s → (aEnd A s st er).1 a j = A.1 a j) ∧ (aEnd A s st er).2 = A.2 ∧ (aEnd A s st er).1 s 2 = st ∧ (aEnd A s st er).1 s 4 = er ∧ (aEnd A s st er).1 s 3 = 0 := by
  unfold aEnd
  refine ⟨fun a j ha => by rw [xsI_ne (Or.inl ha), xsI_ne (Or.inl ha), xsI_ne (Or.inl ha)], rfl, ?_, ?_, xsI_eq⟩
  · rw [xsI_ne (Or.inr (by omega)), xsI_ne (Or.inr (by omega)), xsI_eq]
  · rw [xsI_ne (Or.inr (by omega)), xsI_eq]
/-- a strand that ends -/
theorem COk.end {w t s st er : Nat} {A : xQ} (h : COk w A) (ht : t < A.1 w 2) (hs : s = w + 11 + 25 * t) (h1 : st = 1 ∨ st = 2) (h2 : er < 32) (hv : st = 1 → VV w A (A.1 (s + 3) 0) (A.2 (s + 4) 0)) : COk w (aEnd A s st er) ∧ AgS s A (aEnd A s st er) := by
  obtain ⟨e1, e2, e3, e4, e5⟩ := aEnd_r A s st er
  have ag : AgS s A (aEnd A s st er) := ⟨fun a j q => e1 a j (by omega), fun a j _ => by rw [e2]⟩
  refine ⟨h.strand ht hs ag ?_ (fun k hk => by rw [e5] at hk; omega), ag⟩
  unfold SOk
  rw [e3, e4, e5]
  refine ⟨by omega, by omega, by omega, fun _ => rfl, h2, fun q => ?_, fun k hk => absurd hk (by omega)⟩
  show VV w _ _ _
  rw [e1 _ _ (by omega), e2]
  exact (hv q).same (fun o => e1 _ _ (by omega))
/-- a strand that loses its upper frames -/
theorem COk.depth {w t s d : Nat} {A : xQ} (h : COk w A) (ht : t < A.1 w 2) (hs : s = w + 11 + 25 * t) (hst : A.1 s 2 = 0) (h1 : 1 ≤ d) (h2 : d ≤ A.1 s 3) : COk w (xsI A s 3 d) ∧ AgS s A (xsI A s 3 d) := by
  have ag : AgS s A (xsI A s 3 d) := ⟨fun a j q => xsI_ne (Or.inl (by omega)), fun a j _ => rfl⟩
  have hS := h.st ht
  rw [← hs] at hS
  obtain ⟨q1, q2, q3, q4, q5, q6, q7⟩ := hS
  refine ⟨h.strand ht hs ag ?_ (fun k hk => ?_), ag⟩
  · unfold SOk
    rw [xsI_ne (Or.inr (by omega)), xsI_eq, xsI_ne (Or.inr (by omega))]
    refine ⟨q1, by omega, fun _ => h1, fun z => absurd hst z, q5, fun z => by omega, fun k hk => ?_⟩
    exact (q7 k (by omega)).away (fun j => xsI_ne (Or.inl (by omega))) (fun j => xsI_ne (Or.inl (by omega))) (fun j => rfl) (fun o _ => xsI_ne (Or.inl (by omega)))
  · rw [xsI_eq] at hk
    rw [xsI_ne (Or.inl (by omega))]
    have := h.2.2.2.2.1 t ht k
    rw [← hs] at this
    exact this (by omega)
theorem COk.leave {w t s f : Nat} {A : xQ} (h : COk w A) (ht : t < A.1 w 2) (hs : s = w + 11 + 25 * t) (hst : A.1 s 2 = 0) (hfs : f + 4 = s + 5 + 4 * A.1 s 3) (hs1 : 1 ≤ A.1 f 3) : COk w (aLeave A s f).2 ∧ AgS s A (aLeave A s f).2 := by
  have hS := h.st ht
  rw [← hs] at hS
  obtain ⟨q1, q2, q3, q4, q5, q6, q7⟩ := hS
  have hd1 := q3 hst
  have hFf : FOk w A f := by
    have := q7 (A.1 s 3 - 1) (by omega)
    rw [show s + 5 + 4 * (A.1 s 3 - 1) = f by omega] at this
    exact this
  unfold aLeave
  by_cases c1 : A.1 s 3 = 1
  · rw [if_pos c1]
    have ag : AgS s A (aCopy (s + 3) (s + 4) 0 (f + 2) (f + 3) (4 + A.1 f 3) A) := ⟨fun a j q => xsI_ne (Or.inl (by omega)), fun a j q => xsJ_ne (Or.inl (by omega))⟩
    have ek : ∀ a j, a ≠ s + 3 → (aCopy (s + 3) (s + 4) 0 (f + 2) (f + 3) (4 + A.1 f 3) A).1 a j = A.1 a j := fun a j q => xsI_ne (Or.inl q)
    have en : ∀ a j, a ≠ s + 4 → (aCopy (s + 3) (s + 4) 0 (f + 2) (f + 3) (4 + A.1 f 3) A).2 a j = A.2 a j := fun a j q => xsJ_ne (Or.inl q)
    have vk : (aCopy (s + 3) (s + 4) 0 (f + 2) (f + 3) (4 + A.1 f 3) A).1 (s + 3) 0 = A.1 (f + 2) (4 + A.1 f 3) := xsI_eq
    have vn : (aCopy (s + 3) (s + 4) 0 (f + 2) (f + 3) (4 + A.1 f 3) A).2 (s + 4) 0 = A.2 (f + 3) (4 + A.1 f 3) := xsJ_eq
    generalize aCopy (s + 3) (s + 4) 0 (f + 2) (f + 3) (4 + A.1 f 3) A = B at ag ek en vk vn
    have hB : COk w B := by
      refine h.strand ht hs ag ?_ (fun k hk => ?_)
      · unfold SOk
        rw [ek s 2 (by omega), ek s 3 (by omega), ek s 4 (by omega)]
        refine ⟨q1, q2, q3, q4, q5, fun z => by omega, fun k hk => ?_⟩
        exact (q7 k hk).away (fun j => ek _ j (by omega)) (fun j => ek _ j (by omega)) (fun j => en _ j (by omega)) (fun o _ => ek _ o (by omega))
      · rw [ek s 3 (by omega)] at hk
        omega
    obtain ⟨g1, g2⟩ := hB.end (st := 1) (er := 0) (by rw [ek w 2 (by omega)]; exact ht) hs (Or.inl rfl) (by omega) (fun _ => by
      rw [vk, vn]
      exact (hFf.v (c := 4 + A.1 f 3) (by omega)).same (fun o => ek _ o (by omega)))
    exact ⟨g1, ag.trans g2⟩
  · rw [if_neg c1]
    unfold aBack
    obtain ⟨g1, g2⟩ := h.depth (d := A.1 s 3 - 1) ht hs hst (by omega) (by omega)
    have b3 : (xsI A s 3 (A.1 s 3 - 1)).1 s 3 = A.1 s 3 - 1 := xsI_eq
    have ek : ∀ a j, a ≠ s → (xsI A s 3 (A.1 s 3 - 1)).1 a j = A.1 a j := fun a j q => xsI_ne (Or.inl q)
    generalize xsI A s 3 (A.1 s 3 - 1) = B at g1 g2 b3 ek
    have htB : t < B.1 w 2 := by rw [ek w 2 (by omega)]; exact ht
    have hg : FOk w B (s + 5 + 4 * (A.1 s 3 - 2)) := by
      have := (g1.st htB).2.2.2.2.2.2 (A.1 s 3 - 2)
      rw [← hs, b3] at this
      exact this (by omega)
    have hp30 : A.1 (s + 5 + 4 * (A.1 s 3 - 2)) 2 ≤ 30 := by
      have := h.2.2.2.2.1 t ht (A.1 s 3 - 2)
      rw [← hs] at this
      exact this (by omega)
    have hvv : VV w B (A.1 (f + 2) (4 + A.1 f 3)) (A.2 (f + 3) (4 + A.1 f 3)) := (hFf.v (c := 4 + A.1 f 3) (by omega)).same (fun o => ek _ o (by omega))
    have hop := OpF.push (AgF.refl (s + 5 + 4 * (A.1 s 3 - 2)) B) hg (by omega) hvv
    have hpk : (aPush B (s + 5 + 4 * (A.1 s 3 - 2)) (A.1 (f + 2) (4 + A.1 f 3)) (A.2 (f + 3) (4 + A.1 f 3))).2.1 (s + 5 + 4 * (A.1 s 3 - 2)) 2 = B.1 (s + 5 + 4 * (A.1 s 3 - 2)) 2 := by
      unfold aPush
      split
      · exact (xpu_r B _ _ _).2.1
      · rfl
    have hgo := OpF.goOn hop (by omega) (by rw [ek _ _ (by omega)]; exact hp30) hpk
    refine ⟨g1.frame (k := A.1 s 3 - 2) htB (by rw [← hs, b3]; omega) (by rw [hs]) hgo.1 hgo.2 (fun z => ?_), g2.trans (hgo.1.s (by omega) (by omega))⟩
    rw [← hs, b3] at z
    omega
