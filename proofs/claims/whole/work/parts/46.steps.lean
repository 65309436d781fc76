-- FROM STEP TO STEP
def Some0 (w : Nat) (A : xQ) : Prop := ∃ t, t < A.1 w 2 ∧ A.1 (w + 11 + 25 * t) 2 = 0
/-- whose turn it is -/
def TOk (w : Nat) (A : xQ) : Prop := A.1 w 2 ≠ 0 → A.1 w 3 < A.1 w 2 ∧ A.1 w 4 ≤ 3 ∧ (Some0 w A → A.1 (aSt w A) 2 = 0)
theorem aRuns_some (w : Nat) (A : xQ) : ∀ m t, aRuns w A m t = 1 ↔ ∃ u, t ≤ u ∧ u < t + m ∧ A.1 (w + 11 + 25 * u) 2 = 0 := by
  intro m
  induction m with
  | zero => intro t; exact ⟨fun z => by simp [aRuns] at z, fun ⟨u, h1, h2, _⟩ => by omega⟩
  | succ m ih =>
    intro t
    unfold aRuns
    by_cases hq : A.1 (w + 11 + 25 * t) 2 = 0
    · rw [if_pos hq]
      exact ⟨fun _ => ⟨t, by omega, by omega, hq⟩, fun _ => rfl⟩
    · rw [if_neg hq, ih]
      constructor
      · rintro ⟨u, h1, h2, h3⟩
        exact ⟨u, by omega, by omega, h3⟩
      · rintro ⟨u, h1, h2, h3⟩
        have : u ≠ t := fun e => hq (e ▸ h3)
        exact ⟨u, by omega, by omega, h3⟩
theorem aRuns_0 (w : Nat) (A : xQ) : aRuns w A (A.1 w 2) 0 = 1 ↔ Some0 w A := by
  rw [aRuns_some]
  exact ⟨fun ⟨u, h1, h2, h3⟩ => ⟨u, by omega, h3⟩, fun ⟨u, h1, h3⟩ => ⟨u, by omega, by omega, h3⟩⟩
theorem aPassL_r (w : Nat) (A : xQ) (hc : 1 ≤ A.1 w 2) (ht : A.1 w 3 < A.1 w 2) : ∀ m i, (∀ a j, (a ≠ w ∨ j ≠ 3) → (aPassL w A m i).1 a j = A.1 a j) ∧ (aPassL w A m i).2 = A.2 ∧ (aPassL w A m i).1 w 3 < A.1 w 2 ∧ ((∃ q, i ≤ q ∧ q < i + m ∧ A.1 (w + 11 + 25 * ((A.1 w 3 + q) % A.1 w 2)) 2 = 0) → A.1 (w + 11 + 25 * (aPassL w A m i).1 w 3) 2 = 0) := by
  intro m
  induction m with
  | zero => intro i; exact ⟨fun _ _ _ => rfl, rfl, ht, fun ⟨q, h1, h2, _⟩ => by omega⟩
  | succ m ih =>
    intro i
    unfold aPassL
    by_cases hq : A.1 (w + 11 + 25 * ((A.1 w 3 + i) % A.1 w 2)) 2 = 0
    · rw [if_pos hq]
      refine ⟨fun a j h => xsI_ne h, rfl, ?_, fun _ => ?_⟩
      · rw [xsI_eq]; exact Nat.mod_lt _ hc
      · rw [xsI_eq]; exact hq
    · rw [if_neg hq]
      obtain ⟨g1, g2, g3, g4⟩ := ih (i + 1)
      refine ⟨g1, g2, g3, fun ⟨q, h1, h2, h3⟩ => ?_⟩
      have : q ≠ i := fun e => hq (e ▸ h3)
      exact g4 ⟨q, by omega, by omega, h3⟩
theorem aPass_r (w : Nat) (A : xQ) (hc : 1 ≤ A.1 w 2) (hc3 : A.1 w 2 ≤ 3) (ht : A.1 w 3 < A.1 w 2) : (∀ a j, (a ≠ w ∨ (j ≠ 3 ∧ j ≠ 4)) → (aPass w A).1 a j = A.1 a j) ∧ (aPass w A).2 = A.2 ∧ (aPass w A).1 w 4 = 0 ∧ (aPass w A).1 w 3 < A.1 w 2 ∧ (Some0 w A → A.1 (w + 11 + 25 * (aPass w A).1 w 3) 2 = 0) := by
  unfold aPass
  have e : ∀ a j, (a ≠ w ∨ j ≠ 4) → (xsI A w 4 0).1 a j = A.1 a j := fun a j h => xsI_ne h
  have e2 : (xsI A w 4 0).1 w 4 = 0 := xsI_eq
  have e3 : (xsI A w 4 0).2 = A.2 := rfl
  generalize xsI A w 4 0 = B at e e2 e3
  have w2 := e w 2 (Or.inr (by omega))
  have w3 := e w 3 (Or.inr (by omega))
  obtain ⟨g1, g2, g3, g4⟩ := aPassL_r w B (by omega) (by omega) (A.1 w 2) 1
  refine ⟨fun a j h => by rw [g1 a j (by omega), e a j (by omega)], by rw [g2, e3], by rw [g1 w 4 (by omega), e2], by omega, fun ⟨t, h1, h2⟩ => ?_⟩
  rw [← e (w + 11 + 25 * (aPassL w B (A.1 w 2) 1).1 w 3) 2 (by omega)]
  refine g4 ?_
  rw [w2, w3]
  by_cases hlt : A.1 w 3 < t
  · refine ⟨t - A.1 w 3, by omega, by omega, ?_⟩
    rw [show A.1 w 3 + (t - A.1 w 3) = t by omega, Nat.mod_eq_of_lt h1, e _ _ (by omega)]
    exact h2
  · refine ⟨t + A.1 w 2 - A.1 w 3, by omega, by omega, ?_⟩
    rw [show A.1 w 3 + (t + A.1 w 2 - A.1 w 3) = t + A.1 w 2 by omega, Nat.add_mod_right, Nat.mod_eq_of_lt h1, e _ _ (by omega)]
    exact h2
theorem COk.scal {w : Nat} {A B : xQ} (h : COk w A) (h1 : ∀ a j, a ≠ 11 → (a ≠ w ∨ j = 2) → B.1 a j = A.1 a j) (h2 : ∀ a j, a ≠ 98 → B.2 a j = A.2 a j) (h3 : B.1 w 3 < 3) : COk w B := by
  obtain ⟨h0, ⟨w1, w2, w3⟩, g2, g3, g4, g5⟩ := h
  have ehp : ∀ o, B.1 (w + 3) o = A.1 (w + 3) o := fun o => h1 _ _ (by omega) (by omega)
  refine ⟨h0, ⟨by rw [h1 w 2 (by omega) (by omega)]; exact w1, fun u hu => ?_, fun o ho => ?_⟩, g2.same (fun a j _ _ => h1 _ _ (by omega) (by omega)), g3.same (h1 _ _ (by omega) (by omega)) ehp, fun u hu i hi => ?_, h3⟩
  · rw [h1 w 2 (by omega) (by omega)] at hu
    exact (w2 u hu).away (fun a j _ _ => h1 a j (by omega) (by omega)) (fun a j q1 q2 => h2 a j (by omega)) (fun o _ => ehp o)
  · exact (w3 o ho).same ehp (h1 _ _ (by omega) (by omega)) (h1 _ _ (by omega) (by omega)) (fun j => h1 _ _ (by omega) (by omega)) (fun j => h2 _ j (by omega))
  · rw [h1 w 2 (by omega) (by omega)] at hu
    rw [h1 _ 3 (by omega) (by omega)] at hi
    rw [h1 _ 2 (by omega) (by omega)]
    exact g4 u hu i hi
theorem COk.fin {w t s i : Nat} {A : xQ} (h : COk w A) (ht : t < A.1 w 2) (hs : s = w + 11 + 25 * t) (h3 : A.1 w 3 = t) (hd : A.1 w 4 ≤ 3) : COk w (aFin w s i A) ∧ TOk w (aFin w s i A) ∧ (aFin w s i A).1 11 4 = A.1 11 4 + 1 ∧ (aFin w s i A).1 11 3 = A.1 11 3 ∧ (∀ a j, a ≠ 11 → a ≠ w → (aFin w s i A).1 a j = A.1 a j) ∧ (aFin w s i A).1 w 2 = A.1 w 2 ∧ (aFin w s i A).2 = A.2 := by
  have h0 := h.1
  have hc3 := h.cnt
  obtain ⟨k1, k2, k3, k4⟩ := aTick_r w A h0
  unfold aFin
  split
  · rename_i hq
    obtain ⟨p1, p2, p3, p4, p5⟩ := aPass_r w (aTick w A) (by rw [k1 w 2 (by omega) (by omega)]; omega) (by rw [k1 w 2 (by omega) (by omega)]; omega) (by rw [k1 w 2 (by omega) (by omega), k1 w 3 (by omega) (by omega)]; omega)
    rw [k1 w 2 (by omega) (by omega)] at p4
    have c1 : COk w (aPass w (aTick w A)) := h.scal (fun a j q1 q2 => by rw [p1 a j (by omega), k1 a j (by omega) (by omega)]) (fun a j _ => by rw [p2, k2]) (by omega)
    have w2 : (aPass w (aTick w A)).1 w 2 = A.1 w 2 := by rw [p1 w 2 (by omega), k1 w 2 (by omega) (by omega)]
    refine ⟨c1, fun _ => ⟨by omega, by omega, fun ⟨u, q1, q2⟩ => ?_⟩, by rw [p1 _ _ (by omega), k3], by rw [p1 _ _ (by omega), k1 _ _ (by omega) (by omega)], fun a j q1 q2 => by rw [p1 a j (by omega), k1 a j (by omega) (by omega)], w2, by rw [p2, k2]⟩
    unfold aSt
    rw [p1 _ 2 (by omega)] at q2 ⊢
    exact p5 ⟨u, by rw [k1 w 2 (by omega) (by omega)]; omega, q2⟩
  · rename_i hq
    have c1 : COk w (aTick w A) := h.scal (fun a j q1 q2 => k1 a j (by omega) (by omega)) (fun a j _ => by rw [k2]) (by rw [k1 w 3 (by omega) (by omega)]; omega)
    refine ⟨c1, fun _ => ⟨by rw [k1 w 2 (by omega) (by omega), k1 w 3 (by omega) (by omega)]; omega, by rw [k4]; omega, fun _ => ?_⟩, k3, k1 _ _ (by omega) (by omega), fun a j q1 q2 => k1 a j (by omega) (by omega), k1 _ _ (by omega) (by omega), k2⟩
    unfold aSt
    rw [k1 w 3 (by omega) (by omega), h3, ← hs, k1 s 2 (by omega) (by omega)]
    omega
/-- a step leaves all sound -/
theorem COk.step {T : Nat → Option xT} {R : Nat → Nat → Option Nat} {w : Nat} {A : xQ} (hW : xW0 T R w) (h : COk w A) (ht : A.1 w 3 < A.1 w 2) (hst : A.1 (aSt w A) 2 = 0) (hd : A.1 w 4 ≤ 3) : COk w (aStep w A) ∧ TOk w (aStep w A) ∧ (aStep w A).1 11 4 = A.1 11 4 + 1 ∧ (aStep w A).1 11 3 ≤ A.1 11 3 + 1 ∧ (∀ a j, 1 ≤ a → a ≤ 10 → (aStep w A).1 a j = A.1 a j) ∧ A.1 w 2 ≤ (aStep w A).1 w 2 := by
  have h0 := h.1
  have hc3 := h.cnt
  have hs : aSt w A = w + 11 + 25 * A.1 w 3 := rfl
  have hSk := h.st ht
  rw [← hs] at hSk
  obtain ⟨q1, q2, q3, q4, q5, q6, q7⟩ := hSk
  have hd1 := q3 hst
  have hff : aFr w A = aSt w A + 5 + 4 * (A.1 (aSt w A) 3 - 1) := rfl
  have hfs : aFr w A + 4 = aSt w A + 5 + 4 * A.1 (aSt w A) 3 := by omega
  have hk := q7 (A.1 (aSt w A) 3 - 1) (by omega)
  rw [← hff] at hk
  obtain ⟨p1, p2, p3, p4, p5⟩ := h.2.2.1 _ hk.1
  have hix : aIx w A = aAt A (A.1 (aFr w A) 1) (A.1 (aFr w A) 2) := rfl
  have hr : COk w (aRs w A).2 ∧ Ch w 1 A (aRs w A).2 ∧ (aRs w A).1 < 32 := by
    unfold aRs
    split
    · exact ⟨h, (Ch.refl w A).le (by omega), by dsimp only; omega⟩
    · rename_i hi
      have hpl : A.1 (aFr w A) 2 < A.1 3 (A.1 (aFr w A) 1) := by
        by_cases q : A.1 (aFr w A) 2 < A.1 3 (A.1 (aFr w A) 1)
        · exact q
        · exact absurd (by rw [hix]; unfold aAt; rw [if_neg q]) hi
      have hix2 : aIx w A = A.1 (aFr w A) 1 * 30 + A.1 (aFr w A) 2 := by rw [hix]; unfold aAt; rw [if_pos hpl]
      have hI := p4 _ hpl
      rw [← hix2] at hI
      unfold aPerf
      split
      · exact ⟨h, (Ch.refl w A).le (by omega), by dsimp only; omega⟩
      · obtain ⟨z1, z2⟩ := h.do hW ht hs hst hfs (by omega) hI (by omega)
        exact ⟨z1, z2, aDo_lt _ _ _ _ _ _ _⟩
  obtain ⟨r1, r2, r3⟩ := hr
  have he : COk w (aErr (aSt w A) (aRs w A)) ∧ Ch w 1 A (aErr (aSt w A) (aRs w A)) := by
    unfold aErr
    split
    · exact ⟨r1, r2⟩
    · have ht2 : A.1 w 3 < (aRs w A).2.1 w 2 := Nat.lt_of_lt_of_le ht r2.2.2.2.2.1
      have hSr := r1.st ht2
      rw [← hs] at hSr
      obtain ⟨v1, v2⟩ := r1.raise ht2 hs r3 (by have := hSr.2.2.2.1; omega) _ (Nat.le_refl _)
      exact ⟨v1, (r2.trans (v2.ch h0 (by omega))).le (by omega)⟩
  obtain ⟨e1, e2⟩ := he
  obtain ⟨f1, f2, f3, f4, f5, f6, f7⟩ := e1.fin (i := aIx w A) (t := A.1 w 3) (Nat.lt_of_lt_of_le ht e2.2.2.2.2.1) hs e2.1 (by rw [e2.2.1]; exact hd)
  unfold aStep
  refine ⟨f1, f2, by rw [f3, e2.2.2.1], by rw [f4]; exact e2.2.2.2.1, fun a j x1 x2 => by rw [f5 a j (by omega) (by omega), e2.2.2.2.2.2 a j x1 x2], by rw [f6]; exact e2.2.2.2.2.1⟩
/-- so many steps, or as long as one runs -/
def aRunN (w : Nat) : Nat → xQ → xQ
  | 0, A => A
  | n + 1, A => if aRuns w A (A.1 w 2) 0 = 1 then aRunN w n (aStep w A) else A
