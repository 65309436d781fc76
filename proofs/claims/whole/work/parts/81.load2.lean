-- load: the class's reader, frames and threads
/-- what a reading keeps, but in the addresses from lo to hi -/
def KA (u lo hi : Nat) (A A2 : xQ) : Prop := (∀ a j, (a < lo ∨ hi ≤ a) → a ≠ 102 → (a ≠ u + 2 ∨ j ≠ 4) → a ≠ u + 3 → A2.1 a j = A.1 a j) ∧ (∀ a j, (a < lo ∨ hi ≤ a) → A2.2 a j = A.2 a j) ∧ (∀ j, j ≠ 2 → j ≠ 4 → A2.1 102 j = A.1 102 j) ∧ (∀ o, o < A.1 (u + 2) 4 → A2.1 (u + 3) o = A.1 (u + 3) o) ∧ A.1 (u + 2) 4 ≤ A2.1 (u + 2) 4 ∧ (¬ A.1 102 2 = 4294967294 → A2.1 102 2 = A.1 102 2) ∧ CI u A2
theorem aRb_fl {lo hi : Nat} {A : xQ} (h : ¬ A.1 102 2 = 4294967294) : aRb lo hi A = (lo, A) := if_neg h
theorem aRef_fl {A : xQ} (h : ¬ A.1 102 2 = 4294967294) : aRef A = A := if_neg h
theorem aRo_fl {u k : Nat} {A : xQ} (h : ¬ A.1 102 2 = 4294967294) : aRo u k A = (0, A) := by
  unfold aRo
  rw [aRb_fl h, if_neg h]
section KA
variable {u lo hi : Nat} {A B C : xQ}
theorem KA.refl (h : CI u A) : KA u lo hi A A := ⟨fun _ _ _ _ _ _ => rfl, fun _ _ _ => rfl, fun _ _ _ => rfl, fun _ _ => rfl, Nat.le_refl _, fun _ => rfl, h⟩
theorem KA.trans (h : KA u lo hi A B) (g : KA u lo hi B C) : KA u lo hi A C := by
  obtain ⟨h1, h2, h3, h4, h5, h6, h7⟩ := h
  obtain ⟨g1, g2, g3, g4, g5, g6, g7⟩ := g
  exact ⟨fun a j q1 q2 q3 q4 => (g1 a j q1 q2 q3 q4).trans (h1 a j q1 q2 q3 q4), fun a j q => (g2 a j q).trans (h2 a j q), fun j q1 q2 => (g3 j q1 q2).trans (h3 j q1 q2), fun o q => (g4 o (by omega)).trans (h4 o q), by omega, fun q => by rw [g6 (by rw [h6 q]; exact q), h6 q], g7⟩
theorem KA.mono {lo2 hi2 : Nat} (h : KA u lo hi A B) (h1 : lo2 ≤ lo) (h2 : hi ≤ hi2) : KA u lo2 hi2 A B := by
  obtain ⟨g1, g2, g3, g4, g5, g6, g7⟩ := h
  exact ⟨fun a j q1 q2 q3 q4 => g1 a j (by omega) q2 q3 q4, fun a j q => g2 a j (by omega), g3, g4, g5, g6, g7⟩
theorem KA.l (h : KA u lo hi A B) (hl : 1 ≤ A.1 102 5) : 1 ≤ B.1 102 5 := by rw [h.2.2.1 5 (by omega) (by omega)]; exact hl
theorem KA.ci (h : KA u lo hi A B) : CI u B := h.2.2.2.2.2.2
theorem KA.nf (h : KA u lo hi A B) (q : B.1 102 2 = 4294967294) : A.1 102 2 = 4294967294 := by
  by_cases e : A.1 102 2 = 4294967294
  · exact e
  · rw [h.2.2.2.2.2.1 e] at q; exact q
theorem CI.pl (h : CI u A) : A.1 102 4 ≤ 2400 := by have h1 := h.1; have h3 := h.2.2.1; omega
theorem KA.rb (h : CI u A) (hu : u = 12 ∨ u = 103) (a b : Nat) : KA u lo hi A (aRb a b A).2 := ⟨fun x j _ q _ _ => aRb_ne _ _ _ (by omega), fun x j _ => by rw [aRb_2], fun j q1 q2 => aRb_ne _ _ _ (by omega), fun o _ => aRb_ne _ _ _ (by omega), by rw [aRb_ne _ _ _ (by omega)]; exact Nat.le_refl _, fun q => by rw [aRb_fl q], h.rb hu a b⟩
theorem KA.ref (h : CI u A) (hu : u = 12 ∨ u = 103) : KA u lo hi A (aRef A) := ⟨fun x j _ q _ _ => aRef_ne (by omega), fun x j _ => by rw [aRef_2], fun j q1 q2 => aRef_ne (by omega), fun o _ => aRef_ne (by omega), by rw [aRef_ne (by omega)]; exact Nat.le_refl _, fun q => by rw [aRef_fl q], h.ref hu⟩
theorem KA.wI {a j v : Nat} (h : CI u A) (h1 : lo ≤ a) (h2 : a < hi) (h3 : a ≠ 99 ∧ a ≠ 100 ∧ a ≠ 102 ∧ a ≠ u + 2 ∧ a ≠ u + 3) : KA u lo hi A (xsI A a j v) := ⟨fun x k q _ _ _ => xsI_ne (by omega), fun _ _ _ => rfl, fun k _ _ => xsI_ne (by omega), fun o _ => xsI_ne (by omega), by rw [xsI_ne (by omega)]; exact Nat.le_refl _, fun _ => xsI_ne (by omega), h.oth (fun x k q => xsI_ne (by omega))⟩
theorem KA.wJ {a j : Nat} {v : Int64} (h : CI u A) (h1 : lo ≤ a) (h2 : a < hi) : KA u lo hi A (xsJ A a j v) := ⟨fun _ _ _ _ _ _ => rfl, fun x k q => xsJ_ne (by omega), fun _ _ _ => rfl, fun _ _ => rfl, Nat.le_refl _, fun _ => rfl, h.oth (fun _ _ _ => rfl)⟩
theorem KA.ro {k : Nat} (h : CI u A) (hu : u = 12 ∨ u = 103) (hl : 1 ≤ A.1 102 5) (hk : k = 3 ∨ k = 4) : KA u lo hi A (aRo u k A).2 := by
  refine ⟨fun x j _ q1 q2 q3 => aRo_ne _ _ (by omega) q2 (by omega), fun x j _ => by rw [aRo_2], fun j q1 q2 => aRo_ne _ _ (by omega) (by omega) (by omega), fun o q => aRo_ne _ _ (by omega) (by omega) (by omega), ?_, ?_, h.ro hk hu hl⟩
  · unfold aRo
    split
    · split
      · show _ ≤ (xsI _ (u + 2) 4 _).1 (u + 2) 4
        rw [xsI_eq]; omega
      · split
        · rw [aRb_ne _ _ _ (by omega)]; exact Nat.le_refl _
        · show _ ≤ (aRef _).1 (u + 2) 4
          rw [aRef_ne (by omega), aRb_ne _ _ _ (by omega)]; exact Nat.le_refl _
    · rw [aRb_ne _ _ _ (by omega)]; exact Nat.le_refl _
  · intro q
    rw [aRo_fl q]
theorem KA.rn (hu : u = 12 ∨ u = 103) : ∀ (m i : Nat) (v : Int64) (A : xQ), CI u A → KA u lo hi A (aRn m i v A).2 := by
  intro m
  induction m with
  | zero => intro i v A h; exact KA.refl h
  | succ m ih => intro i v A h; exact (KA.rb h hu 0 255).trans (ih _ _ _ (h.rb hu 0 255))
theorem KA.val (h : CI u A) (hu : u = 12 ∨ u = 103) (hl : 1 ≤ A.1 102 5) : KA u lo hi A (aVal u A).2.2 := by
  have h1 := KA.rb (lo := lo) (hi := hi) h hu 0 4
  have hk := (aRb_in (lo := 0) (hi := 4) (A := A) (by omega)).2
  have hl2 := h1.l hl
  unfold aVal
  generalize aRb 0 4 A = r at *
  split
  · exact h1.trans (KA.rn hu 4 0 0 _ h1.ci)
  · split
    · exact h1.trans (KA.rn hu 8 0 0 _ h1.ci)
    · split
      · exact h1
      · exact h1.trans (KA.ro h1.ci hu hl2 (by omega))
theorem KA.rv {ka na i : Nat} (h : CI u A) (hu : u = 12 ∨ u = 103) (hl : 1 ≤ A.1 102 5) (h1 : lo ≤ ka) (h2 : ka < hi) (h3 : lo ≤ na) (h4 : na < hi) (h5 : ka ≠ 99 ∧ ka ≠ 100 ∧ ka ≠ 102 ∧ ka ≠ u + 2 ∧ ka ≠ u + 3) : KA u lo hi A (aRv u ka na i A) := by
  have a1 := KA.val (lo := lo) (hi := hi) h hu hl
  have a2 := KA.wI (j := i) (v := (aVal u A).1) a1.ci h1 h2 h5
  exact a1.trans (a2.trans (KA.wJ a2.ci h3 h4))
theorem KA.rvs {ka na : Nat} (hu : u = 12 ∨ u = 103) (h1 : lo ≤ ka) (h2 : ka < hi) (h3 : lo ≤ na) (h4 : na < hi) (h5 : ka ≠ 99 ∧ ka ≠ 100 ∧ ka ≠ 102 ∧ ka ≠ u + 2 ∧ ka ≠ u + 3) : ∀ (m i : Nat) (A : xQ), CI u A → 1 ≤ A.1 102 5 → KA u lo hi A (xit (aRv u ka na) m i A) := by
  intro m
  induction m with
  | zero => intro i A h _; exact KA.refl h
  | succ m ih =>
    intro i A h hl
    have a1 := KA.rv (i := i) h hu hl h1 h2 h3 h4 h5
    exact a1.trans (ih _ _ a1.ci (a1.l hl))
end KA
def aRe (A : xQ) : Nat × xQ := if 7 < (aRb 1 31 A).1 ∧ (aRb 1 31 A).1 < 16 then ((aRb 1 31 A).1, aRef (aRb 1 31 A).2) else aRb 1 31 A
/-- a frame's closure is read -/
def aRc (u f : Nat) (A : xQ) : xQ := if (aRb 0 4 A).1 = 4 then xsJ (xsI (aRo u 4 (aRb 0 4 A).2).2 (f + 2) 0 4) (f + 3) 0 (lN (aRo u 4 (aRb 0 4 A).2).1) else if (aRb 0 4 A).1 = 0 then xsJ (xsI (aRb 0 4 A).2 (f + 2) 0 0) (f + 3) 0 0 else xsJ (xsI (aRef (aRb 0 4 A).2) (f + 2) 0 (aRb 0 4 A).1) (f + 3) 0 0
/-- a frame is read, in steps -/
def aRf1 (u f : Nat) (A : xQ) : xQ := xit (aRv u (f + 2) (f + 3)) 4 1 (aRc u f (xsI (aRb 0 30 A).2 f 2 (aRb 0 30 A).1))
def aRf (u f : Nat) (A : xQ) : xQ := xit (aRv u (f + 2) (f + 3)) (aRb 0 6 (aRf1 u f A)).1 5 (xsI (aRb 0 6 (aRf1 u f A)).2 f 3 (aRb 0 6 (aRf1 u f A)).1)
def aOf (u s : Nat) (A : xQ) : xQ := aRf u (s + 5 + 4 * A.1 s 3) (aOpen (aRb 0 5 A).2 s (aRb 0 5 A).1)
def aBc (s : Nat) (A : xQ) : xQ := xsI (xsI (xsI (aRb 0 2 A).2 s 2 (aRb 0 2 A).1) s 4 0) s 3 0
/-- a thread is read -/
def aRst (u s : Nat) (A : xQ) : xQ := if (aRb 0 2 A).1 = 1 then aRv u (s + 3) (s + 4) 0 (aBc s A) else if (aRb 0 2 A).1 = 2 then xsI (aRe (aBc s A)).2 s 4 (aRe (aBc s A)).1 else xit (fun _ B => aOf u s B) (aRb 1 5 (aBc s A)).1 0 (aRb 1 5 (aBc s A)).2
section KF
variable {u f s : Nat} {A : xQ}
/-- the frame f lies apart from what the reader uses -/
def Ap (u f : Nat) : Prop := (u + 11 < f ∧ f + 4 ≤ u + 86) ∧ (u = 12 ∨ u = 103)
theorem KA.re {lo hi : Nat} (h : CI u A) (hu : u = 12 ∨ u = 103) : KA u lo hi A (aRe A).2 := by
  have h1 := KA.rb (lo := lo) (hi := hi) h hu 1 31
  unfold aRe
  split
  · exact h1.trans (KA.ref h1.ci hu)
  · exact h1
theorem aRe_in : 1 ≤ (aRe A).1 ∧ (aRe A).1 ≤ 31 := by
  have := aRb_in (lo := 1) (hi := 31) (A := A) (by omega)
  unfold aRe
  split
  · exact this
  · exact this
theorem KA.rc (h : CI u A) (hl : 1 ≤ A.1 102 5) (hf : Ap u f) : KA u f (f + 4) A (aRc u f A) := by
  obtain ⟨⟨f1, f2⟩, hu⟩ := hf
  have h1 := KA.rb (lo := f) (hi := f + 4) h hu 0 4
  have hl2 := h1.l hl
  unfold aRc
  generalize aRb 0 4 A = r at *
  split
  · have h2 := KA.ro (lo := f) (hi := f + 4) (k := 4) h1.ci hu hl2 (by omega)
    have h3 := KA.wI (lo := f) (hi := f + 4) (a := f + 2) (j := 0) (v := 4) h2.ci (by omega) (by omega) (by omega)
    exact h1.trans (h2.trans (h3.trans (KA.wJ h3.ci (by omega) (by omega))))
  · split
    · have h3 := KA.wI (lo := f) (hi := f + 4) (a := f + 2) (j := 0) (v := 0) h1.ci (by omega) (by omega) (by omega)
      exact h1.trans (h3.trans (KA.wJ h3.ci (by omega) (by omega)))
    · have h2 := KA.ref (lo := f) (hi := f + 4) h1.ci hu
      have h3 := KA.wI (lo := f) (hi := f + 4) (a := f + 2) (j := 0) (v := r.1) h2.ci (by omega) (by omega) (by omega)
      exact h1.trans (h2.trans (h3.trans (KA.wJ h3.ci (by omega) (by omega))))
theorem KA.rf1a (h : CI u A) (hf : Ap u f) : KA u f (f + 4) A (xsI (aRb 0 30 A).2 f 2 (aRb 0 30 A).1) := by
  obtain ⟨⟨f1, f2⟩, hu⟩ := hf
  have h1 := KA.rb (lo := f) (hi := f + 4) h hu 0 30
  exact h1.trans (KA.wI h1.ci (by omega) (by omega) (by omega))
theorem KA.rf1 (h : CI u A) (hl : 1 ≤ A.1 102 5) (hf : Ap u f) : KA u f (f + 4) A (aRf1 u f A) := by
  have h1 := KA.rf1a h hf
  have h2 := KA.rc h1.ci (h1.l hl) hf
  obtain ⟨⟨f1, f2⟩, hu⟩ := hf
  have h12 := h1.trans h2
  exact h12.trans (KA.rvs hu (by omega) (by omega) (by omega) (by omega) (by omega) 4 1 _ h12.ci (h12.l hl))
theorem KA.rf2 (h : CI u A) (hl : 1 ≤ A.1 102 5) (hf : Ap u f) : KA u f (f + 4) A (xsI (aRb 0 6 (aRf1 u f A)).2 f 3 (aRb 0 6 (aRf1 u f A)).1) := by
  have h1 := KA.rf1 h hl hf
  obtain ⟨⟨f1, f2⟩, hu⟩ := hf
  have h2 := KA.rb (lo := f) (hi := f + 4) h1.ci hu 0 6
  exact h1.trans (h2.trans (KA.wI h2.ci (by omega) (by omega) (by omega)))
theorem KA.rf (h : CI u A) (hl : 1 ≤ A.1 102 5) (hf : Ap u f) : KA u f (f + 4) A (aRf u f A) := by
  have h1 := KA.rf2 h hl hf
  obtain ⟨⟨f1, f2⟩, hu⟩ := hf
  exact h1.trans (KA.rvs hu (by omega) (by omega) (by omega) (by omega) (by omega) _ 5 _ h1.ci (h1.l hl))
/-- a thread lies apart -/
def As (u s : Nat) : Prop := (u + 11 ≤ s ∧ s + 25 ≤ u + 86) ∧ (u = 12 ∨ u = 103)
theorem As.fr {k : Nat} (h : As u s) (hk : k < 5) : Ap u (s + 5 + 4 * k) := by
  obtain ⟨⟨h1, h2⟩, hu⟩ := h
  exact ⟨⟨by omega, by omega⟩, hu⟩
theorem As.of {w t : Nat} (hu : u = 12 ∨ u = 103) (ht : t < 3) : As u (u + 11 + 25 * t) := ⟨⟨by omega, by omega⟩, hu⟩
theorem KA.opn {fn : Nat} (h : CI u A) (hs : As u s) (hd : A.1 s 3 < 5) : KA u s (s + 25) A (aOpen A s fn) := by
  obtain ⟨⟨s1, s2⟩, hu⟩ := hs
  obtain ⟨o1, o2, -⟩ := aOpen_r A s fn
  have e : ∀ a j, (a < s ∨ s + 25 ≤ a) → (aOpen A s fn).1 a j = A.1 a j := fun a j q => o1 a j (by omega) (by omega) (by omega)
  exact ⟨fun a j q _ _ _ => e a j q, fun a j q => o2 a j (by omega), fun j _ _ => e _ _ (by omega), fun o _ => e _ _ (by omega), by rw [e _ _ (by omega)]; exact Nat.le_refl _, fun _ => e _ _ (by omega), h.oth (fun a j q => e _ _ (by omega))⟩
theorem KA.of1 (h : CI u A) (hs : As u s) (hd : A.1 s 3 < 5) : KA u s (s + 25) A (aOpen (aRb 0 5 A).2 s (aRb 0 5 A).1) := by
  have h1 := KA.rb (lo := s) (hi := s + 25) h hs.2 0 5
  exact h1.trans (KA.opn h1.ci hs (by rw [aRb_ne _ _ _ (by have := hs.1; have := hs.2; omega)]; exact hd))
theorem KA.of (h : CI u A) (hl : 1 ≤ A.1 102 5) (hs : As u s) (hd : A.1 s 3 < 5) : KA u s (s + 25) A (aOf u s A) ∧ (aOf u s A).1 s 3 = A.1 s 3 + 1 ∧ (aOf u s A).1 s 2 = A.1 s 2 ∧ (aOf u s A).1 s 4 = A.1 s 4 := by
  have h1 := KA.of1 h hs hd
  have hap := hs.fr hd
  have h2 := KA.rf h1.ci (h1.l hl) hap
  have s1 := hs.1
  have s2 := hs.2
  have e3 : (aRb 0 5 A).2.1 s 3 = A.1 s 3 := aRb_ne _ _ _ (by omega)
  have o3 := aOpen_r (aRb 0 5 A).2 s (aRb 0 5 A).1
  refine ⟨h1.trans (h2.mono (by omega) (by omega)), ?_, ?_, ?_⟩
  · unfold aOf
    rw [h2.1 s 3 (by omega) (by omega) (by omega) (by omega), o3.2.2.1, e3]
  · unfold aOf
    rw [h2.1 s 2 (by omega) (by omega) (by omega) (by omega), o3.2.2.2.1, aRb_ne _ _ _ (by omega)]
  · unfold aOf
    rw [h2.1 s 4 (by omega) (by omega) (by omega) (by omega), o3.2.2.2.2.1, aRb_ne _ _ _ (by omega)]
theorem KA.ofs (hs : As u s) : ∀ (m i : Nat) (A : xQ), CI u A → 1 ≤ A.1 102 5 → A.1 s 3 + m ≤ 5 → KA u s (s + 25) A (xit (fun _ B => aOf u s B) m i A) ∧ (xit (fun _ B => aOf u s B) m i A).1 s 3 = A.1 s 3 + m ∧ (xit (fun _ B => aOf u s B) m i A).1 s 2 = A.1 s 2 ∧ (xit (fun _ B => aOf u s B) m i A).1 s 4 = A.1 s 4 := by
  intro m
  induction m with
  | zero => intro i A h hl hd; exact ⟨KA.refl h, rfl, rfl, rfl⟩
  | succ m ih =>
    intro i A h hl hd
    obtain ⟨a1, a2, a3, a4⟩ := KA.of h hl hs (by omega)
    obtain ⟨b1, b2, b3, b4⟩ := ih (i + 1) (aOf u s A) a1.ci (a1.l hl) (by omega)
    exact ⟨a1.trans b1, b2.trans (by omega), b3.trans a3, b4.trans a4⟩
theorem KA.bc (h : CI u A) (hs : As u s) : KA u s (s + 25) A (aBc s A) ∧ (aBc s A).1 s 2 = (aRb 0 2 A).1 ∧ (aBc s A).1 s 4 = 0 ∧ (aBc s A).1 s 3 = 0 := by
  obtain ⟨⟨s1, s2⟩, hu⟩ := hs
  have h1 := KA.rb (lo := s) (hi := s + 25) h hu 0 2
  have h2 := KA.wI (lo := s) (hi := s + 25) (a := s) (j := 2) (v := (aRb 0 2 A).1) h1.ci (by omega) (by omega) (by omega)
  have h3 := KA.wI (lo := s) (hi := s + 25) (a := s) (j := 4) (v := 0) h2.ci (by omega) (by omega) (by omega)
  have h4 := KA.wI (lo := s) (hi := s + 25) (a := s) (j := 3) (v := 0) h3.ci (by omega) (by omega) (by omega)
  refine ⟨h1.trans (h2.trans (h3.trans h4)), ?_, ?_, xsI_eq⟩
  · unfold aBc
    rw [xsI_ne (by omega), xsI_ne (by omega), xsI_eq]
  · unfold aBc
    rw [xsI_ne (by omega), xsI_eq]
theorem KA.rs (h : CI u A) (hl : 1 ≤ A.1 102 5) (hs : As u s) : KA u s (s + 25) A (aRst u s A) ∧ (aRst u s A).1 s 2 = (aRb 0 2 A).1 := by
  obtain ⟨b1, b2, b3, b4⟩ := KA.bc h hs
  have s1 := hs.1
  have hu := hs.2
  unfold aRst
  split
  · have h2 := KA.rv (lo := s + 3) (hi := s + 25) (ka := s + 3) (na := s + 4) (i := 0) b1.ci hu (b1.l hl) (by omega) (by omega) (by omega) (by omega) (by omega)
    refine ⟨b1.trans (h2.mono (by omega) (by omega)), ?_⟩
    rw [h2.1 s 2 (by omega) (by omega) (by omega) (by omega)]
    exact b2
  · split
    · have h2 := KA.re (lo := s) (hi := s + 25) b1.ci hu
      refine ⟨b1.trans (h2.trans (KA.wI h2.ci (by omega) (by omega) (by omega))), ?_⟩
      rw [xsI_ne (by omega), (KA.re (lo := 0) (hi := 0) b1.ci hu).1 s 2 (by omega) (by omega) (by omega) (by omega)]
      exact b2
    · have h2 := KA.rb (lo := s) (hi := s + 25) b1.ci hu 1 5
      have hin := (aRb_in (lo := 1) (hi := 5) (A := aBc s A) (by omega)).2
      obtain ⟨c1, c2, c3, c4⟩ := KA.ofs hs (aRb 1 5 (aBc s A)).1 0 (aRb 1 5 (aBc s A)).2 h2.ci (h2.l (b1.l hl)) (by rw [aRb_ne _ _ _ (by omega), b4]; omega)
      refine ⟨b1.trans (h2.trans c1), ?_⟩
      rw [c3, aRb_ne _ _ _ (by omega)]
      exact b2
end KF
theorem c83 {z : Nat} {T : Nat → Option xT} {R : Nat → Nat → Option Nat} {A : xQ} {w u : Nat} (hL : xLay T R w) (hu : u = 12 ∨ u = 103) (hI : CI u A) : xF 83 [.ref 102] (xm z T R A) (.inr (some (.int (nI (aRe A).1))), xm z T R (aRe A).2) := by
  have hrb := c80i (z := z) (lo := 1) (hi := 31) hL hI (by omega) (by omega)
  have hI2 := hI.rb hu 1 31
  have ei := (aRb_in (lo := 1) (hi := 31) (A := A) (by omega)).2
  have f4 := hI2.2.2.2.1
  have f3 := hI2.pl
  have hnf : (aRb 1 31 A).2.1 102 2 = 4294967294 → 1 ≤ (aRb 1 31 A).2.1 102 4 := fun q => by
    obtain ⟨-, -, -, -, -, q6⟩ := aRb_nf q hI.pl
    rw [q6, xsI_eq]; omega
  unfold aRe
  generalize aRb 1 31 A = r at *
  refine xF_eq (xF_p (Nat.le_of_ble_eq_true rfl) ?_)
  refine xp_aload_n rfl rfl ?_
  refine xp_iconst (n := 1) rfl (by decide) ?_
  refine xp_bipush (n := 31) rfl (by decide) ?_
  refine xp_iv rfl rfl (Nat.le_of_ble_eq_true rfl) (by decide) (by decide) (by decide) (Nat.le_of_ble_eq_true rfl) rfl (xrcv1 (by decide) (by first | assumption | exact hL.t rfl)) (hrb) rfl ?_
  refine xp_istore_n rfl (by decide) ?_
  refine xp_iload_n rfl rfl ?_
  refine xp_bipush (n := 7) rfl (by decide) ?_
  refine xp_icle 24 rfl (by decide) (by omega) (by omega) (fun h11 => ?_) (fun h11 => ?_)
  · skip
    refine xp_iload_n rfl rfl ?_
    refine xp_ireturn rfl (by decide) (by decide) (by decide) ?_
    repeat (first | rw [if_pos (by omega)] | rw [if_neg (by omega)])
  · skip
    refine xp_iload_n rfl rfl ?_
    refine xp_bipush (n := 16) rfl (by decide) ?_
    refine xp_icge 24 rfl (by decide) (by omega) (by omega) (fun h17 => ?_) (fun h17 => ?_)
    · skip
      refine xp_iload_n rfl rfl ?_
      refine xp_ireturn rfl (by decide) (by decide) (by decide) ?_
      repeat (first | rw [if_pos (by omega)] | rw [if_neg (by omega)])
    · skip
      refine xp_aload_n rfl rfl ?_
      refine xp_iv rfl rfl (Nat.le_of_ble_eq_true rfl) (by decide) (by decide) (by decide) (Nat.le_of_ble_eq_true rfl) rfl (xrcv1 (by decide) (by first | assumption | exact hL.t rfl)) (c81 hL f3 (by omega) hnf) rfl ?_
      refine xp_iload_n rfl rfl ?_
      refine xp_ireturn rfl (by decide) (by decide) (by decide) ?_
      repeat (first | rw [if_pos (by omega)] | rw [if_neg (by omega)])
theorem c85 {z : Nat} {T : Nat → Option xT} {R : Nat → Nat → Option Nat} {A : xQ} {w u f : Nat} (hL : xLay T R w) (hW : xW0 T R u) (hrw : R 102 1 = some u) (hu : u = 12 ∨ u = 103) (hI : CI u A) (hl : 1 ≤ A.1 102 5) (hF : xF0 T R f) (hf : Ap u f) : xF 85 [.ref 102, .ref (f + 1)] (xm z T R A) (.inr none, xm z T R (aRc u f A)) := by
  obtain ⟨f1, f2, hC⟩ := hF
  have hC1 := hC.1
  have hrb := c80i (z := z) (lo := 0) (hi := 4) hL hI (by omega) (by omega)
  have hI2 := hI.rb hu 0 4
  have hl2 : 1 ≤ (aRb 0 4 A).2.1 102 5 := by rw [aRb_ne _ _ _ (by omega)]; exact hl
  have ei := (aRb_in (lo := 0) (hi := 4) (A := A) (by omega)).2
  have e5 := aRo_le (k := 4) hI2 hl2
  have f4 := hI2.2.2.2.1
  have f3 := hI2.pl
  have hnf : (aRb 0 4 A).2.1 102 2 = 4294967294 → 1 ≤ (aRb 0 4 A).2.1 102 4 := fun q => by
    obtain ⟨-, -, -, -, -, q6⟩ := aRb_nf q hI.pl
    rw [q6, xsI_eq]; omega
  unfold aRc
  generalize aRb 0 4 A = r at *
  have ca := c88 (z := z) (k := 4) hL hW hrw hu hI2 hl2 (by omega)
  by_cases h4 : r.1 = 4
  · rw [if_pos h4]
    refine xF_eq (xF_p (Nat.le_of_ble_eq_true rfl) ?_)
    refine xp_aload_n rfl rfl ?_
    refine xp_iconst (n := 0) rfl (by decide) ?_
    refine xp_iconst (n := 4) rfl (by decide) ?_
    refine xp_iv rfl rfl (Nat.le_of_ble_eq_true rfl) (by decide) (by decide) (by decide) (Nat.le_of_ble_eq_true rfl) rfl (xrcv1 (by decide) (by first | assumption | exact hL.t rfl)) (hrb) rfl ?_
    refine xp_istore_n rfl (by decide) ?_
    refine xp_iload_n rfl rfl ?_
    refine xp_ifeq 20 rfl (by decide) (by omega) (fun h8 => ?_) (fun h8 => ?_)
    · exfalso; omega
    · skip
      refine xp_iload_n rfl rfl ?_
      refine xp_iconst (n := 4) rfl (by decide) ?_
      refine xp_iceq 20 rfl (by decide) (by omega) (by omega) (fun h13 => ?_) (fun h13 => ?_)
      · skip
        refine xp_aload_n rfl rfl ?_
        refine xp_iconst (n := 0) rfl (by decide) ?_
        refine xp_iload_n rfl rfl ?_
        rw [h4]
        refine xp_iload_n rfl rfl ?_
        refine xp_iconst (n := 4) rfl (by decide) ?_
        refine xp_icne 37 rfl (by decide) (by omega) (by omega) (fun h25 => ?_) (fun h25 => ?_)
        · exfalso; omega
        · skip
          refine xp_aload_n rfl rfl ?_
          refine xp_iconst (n := 4) rfl (by decide) ?_
          refine xp_iv rfl rfl (Nat.le_of_ble_eq_true rfl) (by decide) (by decide) (by decide) (Nat.le_of_ble_eq_true rfl) rfl (xrcv1 (by decide) (by first | assumption | exact hL.t rfl)) (ca) rfl ?_
          refine xp_i2l rfl ?_
          refine xp_goto 38 rfl (by decide) ?_
          rw [nI_l (by omega)]
          refine xp_iv rfl rfl (Nat.le_of_ble_eq_true rfl) (by decide) (by decide) (by decide) (Nat.le_of_ble_eq_true rfl) rfl (xrcv1 (by decide) (by first | assumption | exact hL.t rfl)) (c23 hC (by omega) (by omega)) rfl ?_
          refine xp_return rfl (by decide) (by decide) (by decide) ?_
          rfl
      · exfalso; omega
  · rw [if_neg h4]
    by_cases h0 : r.1 = 0
    · rw [if_pos h0]
      refine xF_eq (xF_p (Nat.le_of_ble_eq_true rfl) ?_)
      refine xp_aload_n rfl rfl ?_
      refine xp_iconst (n := 0) rfl (by decide) ?_
      refine xp_iconst (n := 4) rfl (by decide) ?_
      refine xp_iv rfl rfl (Nat.le_of_ble_eq_true rfl) (by decide) (by decide) (by decide) (Nat.le_of_ble_eq_true rfl) rfl (xrcv1 (by decide) (by first | assumption | exact hL.t rfl)) (hrb) rfl ?_
      refine xp_istore_n rfl (by decide) ?_
      refine xp_iload_n rfl rfl ?_
      refine xp_ifeq 20 rfl (by decide) (by omega) (fun h8 => ?_) (fun h8 => ?_)
      · skip
        refine xp_aload_n rfl rfl ?_
        refine xp_iconst (n := 0) rfl (by decide) ?_
        refine xp_iload_n rfl rfl ?_
        rw [h0]
        refine xp_iload_n rfl rfl ?_
        refine xp_iconst (n := 4) rfl (by decide) ?_
        refine xp_icne 37 rfl (by decide) (by omega) (by omega) (fun h25 => ?_) (fun h25 => ?_)
        · skip
          refine xp_lconst (v := 0) rfl rfl ?_
          refine xp_iv rfl rfl (Nat.le_of_ble_eq_true rfl) (by decide) (by decide) (by decide) (Nat.le_of_ble_eq_true rfl) rfl (xrcv1 (by decide) (by first | assumption | exact hL.t rfl)) (c23 hC (by omega) (by omega)) rfl ?_
          refine xp_return rfl (by decide) (by decide) (by decide) ?_
          rfl
        · exfalso; omega
      · exfalso; omega
    · rw [if_neg h0]
      refine xF_eq (xF_p (Nat.le_of_ble_eq_true rfl) ?_)
      refine xp_aload_n rfl rfl ?_
      refine xp_iconst (n := 0) rfl (by decide) ?_
      refine xp_iconst (n := 4) rfl (by decide) ?_
      refine xp_iv rfl rfl (Nat.le_of_ble_eq_true rfl) (by decide) (by decide) (by decide) (Nat.le_of_ble_eq_true rfl) rfl (xrcv1 (by decide) (by first | assumption | exact hL.t rfl)) (hrb) rfl ?_
      refine xp_istore_n rfl (by decide) ?_
      refine xp_iload_n rfl rfl ?_
      refine xp_ifeq 20 rfl (by decide) (by omega) (fun h8 => ?_) (fun h8 => ?_)
      · exfalso; omega
      · skip
        refine xp_iload_n rfl rfl ?_
        refine xp_iconst (n := 4) rfl (by decide) ?_
        refine xp_iceq 20 rfl (by decide) (by omega) (by omega) (fun h13 => ?_) (fun h13 => ?_)
        · exfalso; omega
        · skip
          refine xp_aload_n rfl rfl ?_
          refine xp_iv rfl rfl (Nat.le_of_ble_eq_true rfl) (by decide) (by decide) (by decide) (Nat.le_of_ble_eq_true rfl) rfl (xrcv1 (by decide) (by first | assumption | exact hL.t rfl)) (c81 hL f3 (by omega) hnf) rfl ?_
          refine xp_aload_n rfl rfl ?_
          refine xp_iconst (n := 0) rfl (by decide) ?_
          refine xp_iload_n rfl rfl ?_
          refine xp_iload_n rfl rfl ?_
          refine xp_iconst (n := 4) rfl (by decide) ?_
          refine xp_icne 37 rfl (by decide) (by omega) (by omega) (fun h25 => ?_) (fun h25 => ?_)
          · skip
            refine xp_lconst (v := 0) rfl rfl ?_
            refine xp_iv rfl rfl (Nat.le_of_ble_eq_true rfl) (by decide) (by decide) (by decide) (Nat.le_of_ble_eq_true rfl) rfl (xrcv1 (by decide) (by first | assumption | exact hL.t rfl)) (c23 hC (by omega) (by omega)) rfl ?_
            refine xp_return rfl (by decide) (by decide) (by decide) ?_
            rfl
          · exfalso; omega
theorem c84 {z : Nat} {T : Nat → Option xT} {R : Nat → Nat → Option Nat} {A : xQ} {w u f : Nat} (hL : xLay T R w) (hW : xW0 T R u) (hrw : R 102 1 = some u) (hu : u = 12 ∨ u = 103) (hI : CI u A) (hl : 1 ≤ A.1 102 5) (hF : xF0 T R f) (hf : Ap u f) : xF 84 [.ref 102, .ref f] (xm z T R A) (.inr none, xm z T R (aRf u f A)) := by
  have hF0 := hF
  obtain ⟨f1, f2, hC⟩ := hF
  have k1 := KA.rf1a hI hf
  have k2 := KA.rc k1.ci (k1.l hl) hf
  have k3 := KA.rf1 hI hl hf
  have k4 := KA.rf2 hI hl hf
  have a1 := hf.1
  have hrb := c80i (z := z) (lo := 0) (hi := 30) hL hI (by omega) (by omega)
  have hrb2 := c80i (z := z) (lo := 0) (hi := 6) hL k3.ci (by omega) (by omega)
  have ei := (aRb_in (lo := 0) (hi := 6) (A := aRf1 u f A) (by omega)).2
  have e3 : (xsI (aRb 0 6 (aRf1 u f A)).2 f 3 (aRb 0 6 (aRf1 u f A)).1).1 f 3 = (aRb 0 6 (aRf1 u f A)).1 := xsI_eq
  have hv1 := c86 (z := z) (lo := 1) (m := 4) hL hW hrw hu k2.ci (k2.l (k1.l hl)) hC (by omega) (by omega) (by omega)
  have hv2 := c86 (z := z) (lo := 5) (m := (aRb 0 6 (aRf1 u f A)).1) hL hW hrw hu k4.ci (k4.l hl) hC (by omega) (by omega) (by omega)
  have hc5 := c85 (z := z) hL hW hrw hu k1.ci (k1.l hl) hF0 hf
  refine xF_eq (xF_p (Nat.le_of_ble_eq_true rfl) ?_)
  refine xp_aload_n rfl rfl ?_
  refine xp_aload_n rfl rfl ?_
  refine xp_iconst (n := 0) rfl (by decide) ?_
  refine xp_bipush (n := 30) rfl (by decide) ?_
  refine xp_iv rfl rfl (Nat.le_of_ble_eq_true rfl) (by decide) (by decide) (by decide) (Nat.le_of_ble_eq_true rfl) rfl (xrcv1 (by decide) (by first | assumption | exact hL.t rfl)) (hrb) rfl ?_
  refine xp_pfi rfl rfl (by decide) (by decide) (by decide) (by first | assumption | exact hL.t rfl) ?_
  refine xp_aload_n rfl rfl ?_
  refine xp_aload_n rfl rfl ?_
  refine xp_gfa rfl rfl (by decide) (by decide) (by first | assumption | exact hL.t rfl) (by first | assumption | exact hL.r rfl | exact hL.2.2.2.2.2) ?_
  refine xp_iv rfl rfl (Nat.le_of_ble_eq_true rfl) (by decide) (by decide) (by decide) (Nat.le_of_ble_eq_true rfl) rfl (xrcv1 (by decide) (by first | assumption | exact hL.t rfl)) (hc5) rfl ?_
  refine xp_aload_n rfl rfl ?_
  refine xp_aload_n rfl rfl ?_
  refine xp_gfa rfl rfl (by decide) (by decide) (by first | assumption | exact hL.t rfl) (by first | assumption | exact hL.r rfl | exact hL.2.2.2.2.2) ?_
  refine xp_iconst (n := 1) rfl (by decide) ?_
  refine xp_iconst (n := 5) rfl (by decide) ?_
  refine xp_iv rfl rfl (Nat.le_of_ble_eq_true rfl) (by decide) (by decide) (by decide) (Nat.le_of_ble_eq_true rfl) rfl (xrcv1 (by decide) (by first | assumption | exact hL.t rfl)) (hv1) rfl ?_
  refine xp_aload_n rfl rfl ?_
  refine xp_aload_n rfl rfl ?_
  refine xp_iconst (n := 0) rfl (by decide) ?_
  refine xp_bipush (n := 6) rfl (by decide) ?_
  refine xp_iv rfl rfl (Nat.le_of_ble_eq_true rfl) (by decide) (by decide) (by decide) (Nat.le_of_ble_eq_true rfl) rfl (xrcv1 (by decide) (by first | assumption | exact hL.t rfl)) (hrb2) rfl ?_
  refine xp_pfi rfl rfl (by decide) (by decide) (by decide) (by first | assumption | exact hL.t rfl) ?_
  refine xp_aload_n rfl rfl ?_
  refine xp_aload_n rfl rfl ?_
  refine xp_gfa rfl rfl (by decide) (by decide) (by first | assumption | exact hL.t rfl) (by first | assumption | exact hL.r rfl | exact hL.2.2.2.2.2) ?_
  refine xp_iconst (n := 5) rfl (by decide) ?_
  refine xp_iconst (n := 5) rfl (by decide) ?_
  refine xp_aload_n rfl rfl ?_
  refine xp_gfi rfl rfl (by decide) (by decide) (by first | assumption | exact hL.t rfl) ?_
  rw [e3]
  refine xp_iadd rfl ?_
  refine xp_iv rfl rfl (Nat.le_of_ble_eq_true rfl) (by decide) (by decide) (by decide) (Nat.le_of_ble_eq_true rfl) rfl (xrcv1 (by decide) (by first | assumption | exact hL.t rfl)) (hv2) rfl ?_
  refine xp_return rfl (by decide) (by decide) (by decide) ?_
  rfl
theorem l82 {z : Nat} {T : Nat → Option xT} {R : Nat → Nat → Option Nat} {w u s n : Nat} (hL : xLay T R w) (hW : xW0 T R u) (hrw : R 102 1 = some u) (hS : xSt0 T R s) (hs : As u s) (hn : n ≤ 5) : ∀ (m i : Nat) (A : xQ), i + m = n → CI u A → 1 ≤ A.1 102 5 → A.1 s 3 = i → xP 82 56 [(0, .ref 102), (1, .ref s), (2, .int (nI n)), (3, .int (nI i))] [] 0 0 (xm z T R A) (fun r => r = (.inr none, xm z T R (xit (fun _ B => aOf u s B) m i A))) := by
  have hu := hs.2
  have hs1 := hs.1
  intro m
  induction m with
  | zero =>
    intro i A hi hI hl hd
    refine xp_iload_n rfl rfl ?_
    refine xp_iload_n rfl rfl ?_
    refine xp_icge 81 rfl (by decide) (by omega) (by omega) (fun h58 => ?_) (fun h58 => ?_)
    · skip
      refine xp_return rfl (by decide) (by decide) (by decide) ?_
      rfl
    · exfalso; omega
  | succ m ih =>
    intro i A hi hI hl hd
    have hrb := c80i (z := z) (lo := 0) (hi := 5) hL hI (by omega) (by omega)
    have ed : (aRb 0 5 A).2.1 s 3 = i := by rw [aRb_ne _ _ _ (by omega)]; exact hd
    have hop := c95 (z := z) (A := (aRb 0 5 A).2) (fn := (aRb 0 5 A).1) hS (by omega)
    rw [ed] at hop
    have k1 := KA.of1 hI hs (by omega)
    obtain ⟨k2, k3, -, -⟩ := KA.of hI hl hs (by omega)
    have hF := (hS.2.2.2.2.2 i (by omega)).2
    have hap := hs.fr (k := i) (by omega)
    have hrf := c84 (z := z) hL hW hrw hu k1.ci (k1.l hl) hF hap
    have hF1 := hF.1
    have hih := ih (i + 1) (aOf u s A) (by omega) k2.ci (k2.l hl) (by omega)
    have eo : aOf u s A = aRf u (s + 5 + 4 * i) (aOpen (aRb 0 5 A).2 s (aRb 0 5 A).1) := by unfold aOf; rw [hd]
    have hs0 := hS.1
    refine xp_iload_n rfl rfl ?_
    refine xp_iload_n rfl rfl ?_
    refine xp_icge 81 rfl (by decide) (by omega) (by omega) (fun h58 => ?_) (fun h58 => ?_)
    · exfalso; omega
    · skip
      refine xp_aload_n rfl rfl ?_
      refine xp_aload_n rfl rfl ?_
      refine xp_aload_n rfl rfl ?_
      refine xp_iconst (n := 0) rfl (by decide) ?_
      refine xp_iconst (n := 5) rfl (by decide) ?_
      refine xp_iv rfl rfl (Nat.le_of_ble_eq_true rfl) (by decide) (by decide) (by decide) (Nat.le_of_ble_eq_true rfl) rfl (xrcv1 (by decide) (by first | assumption | exact hL.t rfl)) (hrb) rfl ?_
      refine xp_iv rfl rfl (Nat.le_of_ble_eq_true rfl) (by decide) (by decide) (by decide) (Nat.le_of_ble_eq_true rfl) rfl (xrcv1 (by decide) (by first | assumption | exact hL.t rfl)) (hop) rfl ?_
      refine xp_iv rfl rfl (Nat.le_of_ble_eq_true rfl) (by decide) (by decide) (by decide) (Nat.le_of_ble_eq_true rfl) rfl (xrcv1 (by decide) (by first | assumption | exact hL.t rfl)) (hrf) rfl ?_
      refine xp_iinc rfl rfl (by decide) (nI_inc _) ?_
      refine xp_goto 56 rfl (by decide) ?_
      refine xp_weak [(0, .ref 102), (1, .ref s), (2, .int (nI n)), (3, .int (nI (i + 1)))] (xle_cons rfl (xle_cons rfl (xle_cons rfl (xle_cons rfl (xle_nil _))))) (by simp [xnd]) ?_
      rw [← eo]
      exact hih
theorem c82 {z : Nat} {T : Nat → Option xT} {R : Nat → Nat → Option Nat} {A : xQ} {w u s : Nat} (hL : xLay T R w) (hW : xW0 T R u) (hrw : R 102 1 = some u) (hI : CI u A) (hl : 1 ≤ A.1 102 5) (hS : xSt0 T R s) (hs : As u s) : xF 82 [.ref 102, .ref s] (xm z T R A) (.inr none, xm z T R (aRst u s A)) := by
  have hS0 := hS
  obtain ⟨s1, s2, s3, s4, s5, s6⟩ := hS
  have hu := hs.2
  have hs1 := hs.1
  obtain ⟨b1, b2, b3, b4⟩ := KA.bc hI hs
  have hrb := c80i (z := z) (lo := 0) (hi := 2) hL hI (by omega) (by omega)
  have ei := (aRb_in (lo := 0) (hi := 2) (A := A) (by omega)).2
  have hbc : xF 94 [.ref s, .int (nI (aRb 0 2 A).1), .int (nI 0)] (xm z T R (aRb 0 2 A).2) (.inr none, xm z T R (aBc s A)) := c94 hS0
  have hl2 := b1.l hl
  have hv := c86 (z := z) (lo := 0) (m := 1) hL hW hrw hu b1.ci hl2 s5 (by omega) (by omega) (by omega)
  have he := c83 (z := z) hL hu b1.ci
  have hrb2 := c80i (z := z) (lo := 1) (hi := 5) hL b1.ci (by omega) (by omega)
  have hI2 := b1.ci.rb hu 1 5
  have hin := (aRb_in (lo := 1) (hi := 5) (A := aBc s A) (by omega)).2
  have fin := l82 (z := z) hL hW hrw hS0 hs hin (aRb 1 5 (aBc s A)).1 0 (aRb 1 5 (aBc s A)).2 (by omega) hI2 (by rw [aRb_ne _ _ _ (by omega)]; exact hl2) (by rw [aRb_ne _ _ _ (by omega)]; exact b4)
  unfold aRst
  generalize aRb 0 2 A = r at *
  generalize aBc s A = C at *
  refine xF_eq (xF_p (Nat.le_of_ble_eq_true rfl) ?_)
  refine xp_aload_n rfl rfl ?_
  refine xp_aload_n rfl rfl ?_
  refine xp_iconst (n := 0) rfl (by decide) ?_
  refine xp_iconst (n := 2) rfl (by decide) ?_
  refine xp_iv rfl rfl (Nat.le_of_ble_eq_true rfl) (by decide) (by decide) (by decide) (Nat.le_of_ble_eq_true rfl) rfl (xrcv1 (by decide) (by first | assumption | exact hL.t rfl)) (hrb) rfl ?_
  refine xp_iconst (n := 0) rfl (by decide) ?_
  refine xp_iv rfl rfl (Nat.le_of_ble_eq_true rfl) (by decide) (by decide) (by decide) (Nat.le_of_ble_eq_true rfl) rfl (xrcv1 (by decide) (by first | assumption | exact hL.t rfl)) (hbc) rfl ?_
  refine xp_aload_n rfl rfl ?_
  refine xp_gfi rfl rfl (by decide) (by decide) (by first | assumption | exact hL.t rfl) ?_
  refine xp_iconst (n := 1) rfl (by decide) ?_
  rw [b2]
  refine xp_icne 30 rfl (by decide) (by omega) (by omega) (fun h16 => ?_) (fun h16 => ?_)
  · skip
    refine xp_aload_n rfl rfl ?_
    refine xp_gfi rfl rfl (by decide) (by decide) (by first | assumption | exact hL.t rfl) ?_
    refine xp_iconst (n := 2) rfl (by decide) ?_
    rw [b2]
    refine xp_icne 47 rfl (by decide) (by omega) (by omega) (fun h35 => ?_) (fun h35 => ?_)
    · skip
      rw [if_neg (by omega), if_neg (by omega)]
      refine xp_aload_n rfl rfl ?_
      refine xp_iconst (n := 1) rfl (by decide) ?_
      refine xp_iconst (n := 5) rfl (by decide) ?_
      refine xp_iv rfl rfl (Nat.le_of_ble_eq_true rfl) (by decide) (by decide) (by decide) (Nat.le_of_ble_eq_true rfl) rfl (xrcv1 (by decide) (by first | assumption | exact hL.t rfl)) (hrb2) rfl ?_
      refine xp_istore_n rfl (by decide) ?_
      refine xp_iconst (n := 0) rfl (by decide) ?_
      refine xp_istore_n rfl (by decide) ?_
      refine xp_weak [(0, .ref 102), (1, .ref s), (2, .int (nI (aRb 1 5 C).1)), (3, .int (nI 0))] (xle_cons rfl (xle_cons rfl (xle_cons rfl (xle_cons rfl (xle_nil _))))) (by simp [xnd]) ?_
      exact fin
    · skip
      rw [if_neg (by omega), if_pos h35]
      refine xp_aload_n rfl rfl ?_
      refine xp_aload_n rfl rfl ?_
      refine xp_iv rfl rfl (Nat.le_of_ble_eq_true rfl) (by decide) (by decide) (by decide) (Nat.le_of_ble_eq_true rfl) rfl (xrcv1 (by decide) (by first | assumption | exact hL.t rfl)) (he) rfl ?_
      refine xp_pfi rfl rfl (by decide) (by decide) (by decide) (by first | assumption | exact hL.t rfl) ?_
      refine xp_return rfl (by decide) (by decide) (by decide) ?_
      rfl
  · skip
    rw [if_pos h16]
    refine xp_aload_n rfl rfl ?_
    refine xp_aload_n rfl rfl ?_
    refine xp_gfa rfl rfl (by decide) (by decide) (by first | assumption | exact hL.t rfl) (by first | assumption | exact hL.r rfl | exact hL.2.2.2.2.2) ?_
    refine xp_iconst (n := 0) rfl (by decide) ?_
    refine xp_iconst (n := 1) rfl (by decide) ?_
    refine xp_iv rfl rfl (Nat.le_of_ble_eq_true rfl) (by decide) (by decide) (by decide) (Nat.le_of_ble_eq_true rfl) rfl (xrcv1 (by decide) (by first | assumption | exact hL.t rfl)) (hv) rfl ?_
    refine xp_return rfl (by decide) (by decide) (by decide) ?_
    rfl
