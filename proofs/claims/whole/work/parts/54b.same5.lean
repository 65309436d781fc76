-- CLASS AND REFERENCE GO ON HOLDING THE SAME: results, closures
section RZ
variable {w t k f m : Nat} {A B : xQ}
theorem res_r (A : xQ) (s q : Nat) (v : Int64) : (∀ a j, a ≠ s + 3 → (xsJ (xsI A (s + 3) 0 q) (s + 4) 0 v).1 a j = A.1 a j) ∧ (∀ a j, a ≠ s + 4 → (xsJ (xsI A (s + 3) 0 q) (s + 4) 0 v).2 a j = A.2 a j) ∧ (xsJ (xsI A (s + 3) 0 q) (s + 4) 0 v).1 (s + 3) 0 = q ∧ (xsJ (xsI A (s + 3) 0 q) (s + 4) 0 v).2 (s + 4) 0 = v := by
  refine ⟨fun a j h => xsI_ne (Or.inl h), fun a j h => xsJ_ne (Or.inl h), ?_, xsJ_eq⟩
  show (xsI A (s + 3) 0 q).1 (s + 3) 0 = q
  exact xsI_eq
theorem COk.res {s q : Nat} {v : Int64} (h : COk w A) (ht : t < A.1 w 2) (hs : s = w + 11 + 25 * t) (hst : A.1 s 2 = 0) : COk w (xsJ (xsI A (s + 3) 0 q) (s + 4) 0 v) := by
  obtain ⟨e1, e2, e3, e4⟩ := res_r A s q v
  have hS := h.st ht
  rw [← hs] at hS
  obtain ⟨q1, q2, q3, q4, q5, q6, q7⟩ := hS
  refine h.strand ht hs ⟨fun a j x => e1 a j (by omega), fun a j x => e2 a j (by omega)⟩ ?_ (fun i hi => ?_)
  · unfold SOk
    rw [e1 s 2 (by omega), e1 s 3 (by omega), e1 s 4 (by omega)]
    refine ⟨q1, q2, q3, q4, q5, fun z => by omega, fun i hi => ?_⟩
    exact (q7 i hi).away (fun j => e1 _ j (by omega)) (fun j => e1 _ j (by omega)) (fun j => e2 _ j (by omega)) (fun o _ => e1 _ o (by omega))
  · rw [e1 s 3 (by omega)] at hi
    rw [e1 _ 2 (by omega)]
    have := h.2.2.2.2.1 t ht i
    rw [← hs] at this
    exact this hi
theorem Rel.res {s q : Nat} {v : Int64} (hR : Rel w A B) (hc : COk w A) (ht : t < A.1 w 2) (hs : s = w + 11 + 25 * t) (hst : A.1 s 2 = 0) : Rel w (xsJ (xsI A (s + 3) 0 q) (s + 4) 0 v) B := by
  obtain ⟨e1, e2, e3, e4⟩ := res_r A s q v
  have hS := hc.st ht
  have hRS := hR.2.2.2.1 t ht
  rw [← hs] at hS hRS
  obtain ⟨r1, r2, r3, r4, r5⟩ := hRS
  refine hR.strand hc ht hs ⟨fun a j x => e1 a j (by omega), fun a j x => e2 a j (by omega)⟩ (MAgS.refl t B) ?_
  unfold RelS
  rw [e1 s 2 (by omega), e1 s 3 (by omega), e1 s 4 (by omega)]
  refine ⟨r1, r2, r3, fun z => by omega, fun i hi => ?_⟩
  exact (r5 i hi).away (hS.2.2.2.2.2.2 i hi).2.2.1 (fun j => e1 _ j (by omega)) (fun j => e1 _ j (by omega)) (fun j => e2 _ j (by omega)) (fun _ _ _ => rfl) (fun _ _ _ => rfl) (fun _ _ _ => rfl)
/-- values of the stack, from the uppermost down, to the places from v on -/
def mPas2 (f v : Nat) : Nat → xQ → xQ
  | 0, B => B
  | n + 1, B => mPas2 f v n (xsI (mSet B (v + n) (B.1 206 (10 * f + 3 + B.1 205 f)) (B.2 207 (10 * f + 3 + B.1 205 f))) 205 f (B.1 205 f - 1))
theorem mPas2_r {f v : Nat} (hf : f < 15) (hv : 160 ≤ v) : ∀ (n : Nat) (B : xQ), n ≤ B.1 205 f → B.1 205 f ≤ 6 → (∀ a j, (a ≠ 205 ∨ j ≠ f) → (a ≠ 206 ∨ j < v ∨ v + n ≤ j) → (mPas2 f v n B).1 a j = B.1 a j) ∧ (∀ a j, (a ≠ 207 ∨ j < v ∨ v + n ≤ j) → (mPas2 f v n B).2 a j = B.2 a j) ∧ (mPas2 f v n B).1 205 f = B.1 205 f - n ∧ ∀ i, i < n → (mPas2 f v n B).1 206 (v + i) = B.1 206 (10 * f + 4 + B.1 205 f - n + i) ∧ (mPas2 f v n B).2 207 (v + i) = B.2 207 (10 * f + 4 + B.1 205 f - n + i) := by
  intro n
  induction n with
  | zero => intro B _ _; exact ⟨fun _ _ _ _ => rfl, fun _ _ _ => rfl, rfl, fun i hi => by omega⟩
  | succ n ih =>
    intro B hn h6
    have e1 : ∀ a j, (a ≠ 205 ∨ j ≠ f) → (a ≠ 206 ∨ j ≠ v + n) → (xsI (mSet B (v + n) (B.1 206 (10 * f + 3 + B.1 205 f)) (B.2 207 (10 * f + 3 + B.1 205 f))) 205 f (B.1 205 f - 1)).1 a j = B.1 a j := fun a j x1 x2 => by rw [xsI_ne x1, mSet_1 x2]
    have e2 : ∀ a j, (a ≠ 207 ∨ j ≠ v + n) → (xsI (mSet B (v + n) (B.1 206 (10 * f + 3 + B.1 205 f)) (B.2 207 (10 * f + 3 + B.1 205 f))) 205 f (B.1 205 f - 1)).2 a j = B.2 a j := fun a j x => mSet_2 x
    have e3 : (xsI (mSet B (v + n) (B.1 206 (10 * f + 3 + B.1 205 f)) (B.2 207 (10 * f + 3 + B.1 205 f))) 205 f (B.1 205 f - 1)).1 205 f = B.1 205 f - 1 := xsI_eq
    have e4 : (xsI (mSet B (v + n) (B.1 206 (10 * f + 3 + B.1 205 f)) (B.2 207 (10 * f + 3 + B.1 205 f))) 205 f (B.1 205 f - 1)).1 206 (v + n) = B.1 206 (10 * f + 3 + B.1 205 f) := by rw [xsI_ne (by omega), mSet_1e]
    have e5 : (xsI (mSet B (v + n) (B.1 206 (10 * f + 3 + B.1 205 f)) (B.2 207 (10 * f + 3 + B.1 205 f))) 205 f (B.1 205 f - 1)).2 207 (v + n) = B.2 207 (10 * f + 3 + B.1 205 f) := mSet_2e
    unfold mPas2
    generalize xsI (mSet B (v + n) (B.1 206 (10 * f + 3 + B.1 205 f)) (B.2 207 (10 * f + 3 + B.1 205 f))) 205 f (B.1 205 f - 1) = C at e1 e2 e3 e4 e5
    obtain ⟨g1, g2, g3, g4⟩ := ih C (by omega) (by omega)
    refine ⟨fun a j x1 x2 => by rw [g1 a j x1 (by omega), e1 a j x1 (by omega)], fun a j x => by rw [g2 a j (by omega), e2 a j (by omega)], by rw [g3, e3]; omega, fun i hi => ?_⟩
    by_cases hq : i = n
    · subst hq
      rw [g1 _ _ (by omega) (by omega), g2 _ _ (by omega), e4, e5, show 10 * f + 4 + B.1 205 f - (i + 1) + i = 10 * f + 3 + B.1 205 f by omega]
      exact ⟨rfl, rfl⟩
    · obtain ⟨p1, p2⟩ := g4 i (by omega)
      rw [p1, p2, e3, e1 _ _ (by omega) (by omega), e2 _ _ (by omega), show 10 * f + 4 + (B.1 205 f - 1) - n + i = 10 * f + 4 + B.1 205 f - (n + 1) + i by omega]
      exact ⟨rfl, rfl⟩
theorem Rel.closure {fn n o : Nat} (hR : Rel w A B) (hc : COk w A) (h : Top w A t k f m) (hlt : A.1 (w + 2) 4 < 24) (ho : aFree w A 23 0 = o) (hfn : fn < 6) (hn : n ≤ 2) (hns : n ≤ A.1 f 3) (h5 : A.1 f 3 - n ≤ 5) : (aClosure w A f fn n).1 = 0 ∧ Rel w (aClosure w A f fn n).2 (mPush (mPas2 m (160 + 3 * o) n (xsI (xsI (mMakeAt B o 4) 211 o fn) 212 o n)) m 4 (lN o)) := by
  obtain ⟨b1, b2, b3, b4, b5, b6, b7⟩ := h.b hc
  have h0 := hc.1
  have hd := (h.g hR).2.2.1
  obtain ⟨o1, o2, o3, o4⟩ := hR.free hc hlt
  rw [ho] at o1 o2 o3 o4
  have hT := h
  obtain ⟨ht, hk, hf, hm⟩ := h
  have hFA := hT.ok hc
  -- made
  have hC1 := hc.make (k := 4) (fn := fn) (sz := n) hlt (Or.inr ⟨rfl, hfn, hn⟩)
  have hR1 := hR.make (q := 4) (fn := fn) (sz := n) (o := o) (B2 := xsI (xsI (mMakeAt B o 4) 211 o fn) 212 o n) hc (by omega) o1 o2 (Or.inr ⟨rfl, hn⟩) (Or.inr ⟨rfl, rfl⟩)
  unfold aMake at hC1
  rw [ho] at hC1
  have em : (aMake w 4 fn n A) = aMakeAt w 4 fn n o A := by unfold aMake; rw [ho]
  obtain ⟨r1, r2, r3, r4, r5, r7, r8, r9⟩ := aMakeAt_r w 4 fn n o A
  obtain ⟨y1, y2, y3, y4, y5, y6, y7, y8⟩ := mMakeAt_r B o 4
  have eb : ∀ a j, w + 11 ≤ a → (aMakeAt w 4 fn n o A).1 a j = A.1 a j := fun a j q => r1 a j (by omega) (by omega) (by omega) (by omega) (by omega)
  have ebj : ∀ a j, w + 11 ≤ a → (aMakeAt w 4 fn n o A).2 a j = A.2 a j := fun a j q => r2 a j (by omega)
  have ew : (aMakeAt w 4 fn n o A).1 w 2 = A.1 w 2 := r1 _ _ (by omega) (by omega) (by omega) (by omega) (by omega)
  have hkk : ∀ q, A.1 (w + 3) q ≠ 0 → (aMakeAt w 4 fn n o A).1 (w + 3) q = A.1 (w + 3) q := by
    intro q hq
    rw [r3, if_neg (fun (e : q = o) => hq (by rw [e]; exact o2))]
  have ek : (aMakeAt w 4 fn n o A).1 (w + 3) o = 4 := by rw [r3, if_pos rfl]
  have z1 : ∀ a j, a ≤ 207 → (a ≠ 189 ∨ j ≠ 15) → (a ≠ 206 ∨ j < 160) → (xsI (xsI (mMakeAt B o 4) 211 o fn) 212 o n).1 a j = B.1 a j := fun a j q1 q2 q3 => by rw [xsI_ne (by omega), xsI_ne (by omega), y1 a j (by omega) (by omega) (by omega) (by omega) (by omega)]
  have z2 : ∀ a j, (a ≠ 207 ∨ j < 160) → (xsI (xsI (mMakeAt B o 4) 211 o fn) 212 o n).2 a j = B.2 a j := fun a j q => y2 a j (by omega)
  unfold aClosure
  rw [if_neg (by omega), em, ho]
  generalize aMakeAt w 4 fn n o A = A1 at hC1 hR1 r1 r2 r3 r4 r5 r7 r8 r9 eb ebj ew hkk ek
  generalize xsI (xsI (mMakeAt B o 4) 211 o fn) 212 o n = B1 at hR1 z1 z2
  have hT1 : Top w A1 t k f m := ⟨by omega, by rw [eb _ _ (by omega)]; exact hk, hf, hm⟩
  have hR2 := hR1.pop (n := n) hC1 hT1
  have hC2 : COk w (aPop A1 f n) := hC1.frame hT1.1 (by have := hT1.2.1; omega) hf (AgF.refl f A1).pop ((hT1.ok hC1).pop (by omega)) (fun z => by have := hT1.2.1; omega)
  have ec : ∀ a j, (a ≠ f ∨ j ≠ 3) → (aPop A1 f n).1 a j = A1.1 a j := fun a j q => xsI_ne q
  have ec3 : (aPop A1 f n).1 f 3 = A.1 f 3 - n := by rw [aPop3, eb _ _ (by omega)]
  have ecj : (aPop A1 f n).2 = A1.2 := rfl
  have b15 : B1.1 205 m = A.1 f 3 := by rw [z1 _ _ (by omega) (by omega) (by omega), hd]
  have x1 : ∀ a j, (a ≠ 205 ∨ j ≠ m) → (xsI B1 205 m (B1.1 205 m - n)).1 a j = B1.1 a j := fun a j q => xsI_ne q
  have x3 : (xsI B1 205 m (B1.1 205 m - n)).1 205 m = A.1 f 3 - n := by rw [xsI_eq, b15]
  have xj : (xsI B1 205 m (B1.1 205 m - n)).2 = B1.2 := rfl
  have hC3 := COk.ocells (d := o * 3) (e := 5 + (A.1 f 3 - n)) (f := f) (A := A) (by omega) n 0 (aPop A1 f n) hC2 (fun c hcn => by
    rw [ec _ _ (by omega), ecj, eb _ _ (by omega), ebj _ _ (by omega)]
    exact ((hFA.v (c := 5 + (A.1 f 3 - n) + 0 + c) (by omega)).hp hkk).same (fun o => ec _ _ (by omega)))
  obtain ⟨p1, p2⟩ := xit_copy (ka := w + 7) (na := w + 8) (kb := f + 2) (nb := f + 3) (d := o * 3) (e := 5 + (A.1 f 3 - n)) (by omega) (by omega) n 0 (aPop A1 f n)
  obtain ⟨s1, s2, s3, s4⟩ := mPas2_r (f := m) (v := 160 + 3 * o) b3 (by omega) n B1 (by omega) (by omega)
  rw [b15] at s3 s4
  generalize xit (fun i B => aCopy (w + 7) (w + 8) (o * 3 + i) (f + 2) (f + 3) (5 + (A.1 f 3 - n) + i) B) n 0 (aPop A1 f n) = D at hC3 p1 p2
  generalize mPas2 m (160 + 3 * o) n B1 = E at s1 s2 s3 s4
  generalize aPop A1 f n = A2 at hR2 hC2 ec ec3 ecj p1 p2
  generalize xsI B1 205 m (B1.1 205 m - n) = B2 at hR2 x1 x3 xj
  have d1 : ∀ a j, a ≠ w + 7 → D.1 a j = A2.1 a j := fun a j q => by rw [p1, if_neg (fun z => q z.1)]
  have d2 : ∀ a j, a ≠ w + 8 → D.2 a j = A2.2 a j := fun a j q => by rw [p2, if_neg (fun z => q z.1)]
  have q1 : ∀ a j, (a ≠ 206 ∨ j < 160 + 3 * o ∨ 160 + 3 * o + n ≤ j) → E.1 a j = B2.1 a j := by
    intro a j q
    by_cases hq : a = 205 ∧ j = m
    · rw [hq.1, hq.2, s3, x3]
    · rw [s1 a j (by omega) q, x1 a j (by omega)]
  have hR3 : Rel w D E := by
    refine hR2.obj hC2 (fun a j q => d1 a j (by omega)) (fun a j q => d2 a j q) (fun a j q => q1 a j (by omega)) (fun a j q => by rw [s2 a j (by omega), xj]) ?_ (Or.inl (d1 _ _ (by omega))) (fun p hp => ?_)
    · rw [q1 _ _ (by omega), d1 _ _ (by omega)]
      exact hR2.2.2.1.2.2.2.1
    · obtain ⟨u1, u2, u3⟩ := hR2.2.2.2.2 p hp
      have hO := hC2.2.1.2.2 p hp
      unfold RelO
      rw [d1 (w + 3) _ (by omega), d1 (w + 4) _ (by omega), d1 (w + 5) _ (by omega), q1 208 _ (by omega), q1 210 _ (by omega), q1 211 _ (by omega), q1 212 _ (by omega)]
      refine ⟨u1, fun x => ?_, u3⟩
      obtain ⟨v1, v2, v3⟩ := u2 x
      have hs3 := hO.sz x
      refine ⟨v1, v2, fun i hi => ?_⟩
      rw [p1, p2]
      by_cases hpo : p = o ∧ i < n
      · obtain ⟨hp1, hp2⟩ := hpo
        subst hp1
        obtain ⟨t1, t2⟩ := s4 i hp2
        obtain ⟨g1, g2⟩ := (hT.g hR).2.2.2.2 (4 + A.1 f 3 - n + i) (by omega)
        rw [if_pos ⟨rfl, by omega, by omega⟩, if_pos ⟨rfl, by omega, by omega⟩, t1, t2, z1 _ _ (by omega) (by omega) (by omega), z2 _ _ (by omega), show 10 * m + 4 + A.1 f 3 - n + i = 10 * m + (4 + A.1 f 3 - n + i) by omega, g1, g2, ec _ _ (by omega), ecj, eb _ _ (by omega), ebj _ _ (by omega), show 1 + (4 + A.1 f 3 - n + i) = 5 + (A.1 f 3 - n) + (p * 3 + i - p * 3) by omega]
        exact ⟨rfl, rfl⟩
      · rw [if_neg (by omega), if_neg (by omega), q1 _ _ (by omega), s2 _ _ (by omega), ← xj]
        exact v3 i hi
  have hT3 : Top w D t k f m := ⟨by rw [d1 _ _ (by omega), ec _ _ (by omega)]; omega, by rw [d1 _ _ (by omega), ec _ _ (by omega), eb _ _ (by omega)]; exact hk, hf, hm⟩
  have hs5 : D.1 f 3 < 6 := by rw [d1 _ _ (by omega), ec3]; omega
  have ep : aPush D f 4 (lN o) = (0, xpu D f 4 (lN o)) := by unfold aPush; rw [if_pos hs5]
  rw [ep]
  exact ⟨rfl, hR3.push hC3 hT3 hs5⟩
end RZ
