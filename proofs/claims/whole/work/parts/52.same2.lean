-- CLASS AND REFERENCE GO ON HOLDING THE SAME
/-- f is the class's frame on top of strand t, m the reference's -/
def Top (w : Nat) (A : xQ) (t k f m : Nat) : Prop := t < A.1 w 2 ∧ k + 1 = A.1 (w + 11 + 25 * t) 3 ∧ f = w + 11 + 25 * t + 5 + 4 * k ∧ m = 5 * t + k
theorem mSet_comm {B : xQ} {v s m u : Nat} {n : Int64} : xsI (mSet B v s n) 205 m u = mSet (xsI B 205 m u) v s n := by
  unfold mSet xsJ xsI x2
  dsimp only
  congr 1
  funext b j
  by_cases h1 : b = 205 <;> by_cases h2 : b = 206 <;> simp_all
section RT
variable {w t k f m : Nat} {A B : xQ}
theorem Top.g (h : Top w A t k f m) (hR : Rel w A B) : RelF f m A B := by
  have := (hR.2.2.2.1 t h.1).2.2.2.2 k (by have := h.2.1; omega)
  rw [← h.2.2.1, ← h.2.2.2] at this
  exact this
theorem Top.ok (h : Top w A t k f m) (hc : COk w A) : FOk w A f := by
  have := hc.fr (k := k) h.1 (by have := h.2.1; omega)
  rw [← h.2.2.1] at this
  exact this
theorem Top.b (h : Top w A t k f m) (hc : COk w A) : t < 3 ∧ k < 5 ∧ m < 15 ∧ w + 11 < f ∧ f < w + 86 ∧ A.1 f 3 ≤ 6 ∧ A.1 f 1 < 6 := by
  have h1 := h.1
  have h2 := h.2.1
  have h3 := h.2.2.1
  have h4 := h.2.2.2
  have h5 := (hc.st h1).2.1
  have h6 := hc.cnt
  have h7 := h.ok hc
  exact ⟨by omega, by omega, by omega, by omega, by omega, h7.2.2.1, h7.1⟩
theorem Top.rel {A2 B2 : xQ} (h : Top w A t k f m) (hc : COk w A) (hR : Rel w A B) (ha : AgF f A A2) (hb : MAg m B B2) (hF : RelF f m A2 B2) : Rel w A2 B2 := hR.frame hc h.1 (by have := h.2.1; omega) h.2.2.1 h.2.2.2 ha hb hF
theorem Rel.push {q : Nat} {v : Int64} (hR : Rel w A B) (hc : COk w A) (h : Top w A t k f m) (h6 : A.1 f 3 < 6) : Rel w (xpu A f q v) (mPush B m q v) := by
  obtain ⟨g1, g2⟩ := (h.g hR).push (k := q) (v := v) h6
  exact h.rel hc hR (xpu_r A f q v).2.2.2.2.2 g2 g1
theorem Rel.pop {n : Nat} (hR : Rel w A B) (hc : COk w A) (h : Top w A t k f m) : Rel w (aPop A f n) (xsI B 205 m (B.1 205 m - n)) := by
  rw [(h.g hR).2.2.1]
  exact h.rel hc hR (AgF.refl f A).pop (MAg.refl m B).d ((h.g hR).size (by omega))
theorem Rel.place {p : Nat} (hR : Rel w A B) (hc : COk w A) (h : Top w A t k f m) : Rel w (xsI A f 2 p) (xsI B 203 m p) := h.rel hc hR (AgF.refl f A).i (MAg.refl m B).p (h.g hR).place
theorem Rel.cell {c q : Nat} {v : Int64} (hR : Rel w A B) (hc : COk w A) (h : Top w A t k f m) (hc10 : c < 10) : Rel w (xsJ (xsI A (f + 2) (1 + c) q) (f + 3) (1 + c) v) (mSet B (10 * m + c) q v) := h.rel hc hR (cell_r A f _ _ _).2.2.2 ((MAg.refl m B).c (by omega) (by omega)) (h.g hR).cell
theorem Rel.binop {q : Nat} {v : Int64} (hR : Rel w A B) (hc : COk w A) (h : Top w A t k f m) (h2 : 2 ≤ A.1 f 3) : (aPush (aPop A f 2) f q v).1 = 0 ∧ Rel w (aPush (aPop A f 2) f q v).2 (mSet (xsI B 205 m (B.1 205 m - 1)) (10 * m + 3 + B.1 205 m - 1) q v) := by
  have h6 := (h.b hc).2.2.2.2.2.1
  have e3 := aPop3 A f 2
  have ep : aPush (aPop A f 2) f q v = (0, xpu (aPop A f 2) f q v) := by unfold aPush; rw [if_pos (by omega)]
  rw [ep]
  refine ⟨rfl, ?_⟩
  have hd := (h.g hR).2.2.1
  have g0 := (h.g hR).size (n := A.1 f 3 - 2) (by omega)
  obtain ⟨g1, g2⟩ := g0.push (k := q) (v := v) (by rw [xsI_eq]; omega)
  have eb : mPush (xsI B 205 m (A.1 f 3 - 2)) m q v = mSet (xsI B 205 m (B.1 205 m - 1)) (10 * m + 3 + B.1 205 m - 1) q v := by
    unfold mPush
    rw [xsI_eq, xsI_same, hd, show A.1 f 3 - 2 + 1 = A.1 f 3 - 1 by omega, show 10 * m + 4 + (A.1 f 3 - 2) = 10 * m + 3 + A.1 f 3 - 1 by omega]
  rw [eb] at g1 g2
  exact h.rel hc hR ((AgF.refl f A).pop.trans (xpu_r _ f q v).2.2.2.2.2) ((MAg.refl m B).d.trans g2) g1
/-- where the values on top lie -/
theorem Top.x (h : Top w A t k f m) (hR : Rel w A B) (h2 : 2 ≤ A.1 f 3) : B.1 205 m = A.1 f 3 ∧ B.1 206 (10 * m + 3 + B.1 205 m - 1) = A.1 (f + 2) (3 + A.1 f 3) ∧ B.2 207 (10 * m + 3 + B.1 205 m - 1) = A.2 (f + 3) (3 + A.1 f 3) := by
  obtain ⟨q1, q2, q3, q4, q5⟩ := h.g hR
  obtain ⟨g1, g2⟩ := q5 (2 + A.1 f 3) (by omega)
  rw [q3, show 10 * m + 3 + A.1 f 3 - 1 = 10 * m + (2 + A.1 f 3) by omega, show 3 + A.1 f 3 = 1 + (2 + A.1 f 3) by omega]
  exact ⟨rfl, g1, g2⟩
theorem Top.y (h : Top w A t k f m) (hR : Rel w A B) (h1 : 1 ≤ A.1 f 3) : B.1 205 m = A.1 f 3 ∧ B.1 206 (10 * m + 3 + B.1 205 m - 0) = A.1 (f + 2) (4 + A.1 f 3) ∧ B.2 207 (10 * m + 3 + B.1 205 m - 0) = A.2 (f + 3) (4 + A.1 f 3) := by
  obtain ⟨q1, q2, q3, q4, q5⟩ := h.g hR
  obtain ⟨g1, g2⟩ := q5 (3 + A.1 f 3) (by omega)
  rw [q3, show 10 * m + 3 + A.1 f 3 - 0 = 10 * m + (3 + A.1 f 3) by omega, show 4 + A.1 f 3 = 1 + (3 + A.1 f 3) by omega]
  exact ⟨rfl, g1, g2⟩
-- objects
theorem Rel.obj {A2 B2 : xQ} (hR : Rel w A B) (hc : COk w A) (h1 : ∀ a j, (a < w + 2 ∨ w + 11 ≤ a) → A2.1 a j = A.1 a j) (h2 : ∀ a j, a ≠ w + 8 → A2.2 a j = A.2 a j) (g1 : ∀ a j, (a ≤ 188 ∨ (a = 189 ∧ j ≠ 15) ∨ (190 ≤ a ∧ a ≤ 205) ∨ (a = 206 ∧ j < 160) ∨ 213 ≤ a) → B2.1 a j = B.1 a j) (g2 : ∀ a j, (a ≠ 207 ∨ j < 160) → B2.2 a j = B.2 a j) (g3 : B2.1 189 15 = A2.1 (w + 2) 4) (g4 : A2.1 (w + 2) 4 = A.1 (w + 2) 4 ∨ A.1 w 2 ≠ 0) (hO : ∀ o, o < 24 → RelO w o A2 B2) : Rel w A2 B2 := by
  have h0 := hc.1
  have hc3 := hc.cnt
  obtain ⟨r1, r2, r3, r4, r5⟩ := hR
  refine ⟨r1.same (fun a j _ _ => h1 a j (by omega)) (fun a j _ _ => g1 a j (by omega)), ?_, ?_, fun u hu => ?_, hO⟩
  · rcases h0 with rfl | rfl
    · exact r2.same (fun j => h1 _ _ (by omega)) (fun j => h1 _ _ (by omega)) (h1 _ _ (by omega)) (g1 _ _ (by omega)) (g1 _ _ (by omega)) (fun j => g1 _ _ (by omega))
    · exact r2.same (fun j => h1 _ _ (by omega)) (fun j => h1 _ _ (by omega)) (h1 _ _ (by omega)) (g1 _ _ (by omega)) (g1 _ _ (by omega)) (fun j => g1 _ _ (by omega))
  · obtain ⟨q1, q2, q3, q4, q5, q6, q7, q8, q9⟩ := r3
    unfold RelC
    rw [h1 w 2 (by omega), h1 w 3 (by omega), h1 w 4 (by omega), h1 11 3 (by omega), h1 11 4 (by omega), g1 189 9 (by omega), g1 189 10 (by omega), g1 189 11 (by omega), g1 189 12 (by omega), g1 189 13 (by omega), g1 189 16 (by omega)]
    refine ⟨q1, q2, q3, g3, q5, q6, q7, fun z => ?_, fun i hi hi2 => ?_⟩
    · obtain ⟨z1, z2, z3, z4, z5⟩ := q8 z
      refine ⟨z1, z2, ?_, z4, z5⟩
      omega
    · rw [g2 _ _ (by omega), h2 _ _ (by omega)]
      exact q9 i hi hi2
  · rw [h1 w 2 (by omega)] at hu
    exact (r4 u hu).away (by omega) (hc.st hu) (fun a j _ _ => h1 a j (by omega)) (fun a j _ _ => h2 a j (by omega)) (fun a _ _ => g1 a _ (by omega)) (fun a j _ _ _ _ => g1 a j (by omega)) (fun j _ => g1 _ j (by omega)) (fun j _ => g2 _ j (by omega))
theorem Rel.ocell {o i q : Nat} {v : Int64} (hR : Rel w A B) (hc : COk w A) (ho : o < 24) (hi : i < 3) : Rel w (xsJ (xsI A (w + 7) (o * 3 + i) q) (w + 8) (o * 3 + i) v) (mSet B (160 + 3 * o + i) q v) := by
  obtain ⟨e1, e2, e3, e4⟩ := ocell_r w A (o * 3 + i) q v
  refine hR.obj hc (fun a j x => e1 a j (by omega)) (fun a j x => e2 a j x) (fun a j x => mSet_1 (by omega)) (fun a j x => mSet_2 (by omega)) ?_ (Or.inl (e1 _ _ (by omega))) (fun p hp => ?_)
  · rw [mSet_1 (by omega), e1 _ _ (by omega)]
    exact hR.2.2.1.2.2.2.1
  · obtain ⟨q1, q2, q3⟩ := hR.2.2.2.2 p hp
    have hO := hc.2.1.2.2 p hp
    unfold RelO
    rw [e1 (w + 3) _ (by omega), e1 (w + 4) _ (by omega), e1 (w + 5) _ (by omega), mSet_1 (by omega), mSet_1 (by omega), mSet_1 (by omega), mSet_1 (by omega)]
    refine ⟨q1, fun x => ?_, q3⟩
    obtain ⟨p1, p2, p3⟩ := q2 x
    have hs3 := hO.sz x
    refine ⟨p1, p2, fun j hj => ?_⟩
    rw [e3, e4]
    by_cases hq : p = o ∧ j = i
    · rw [if_pos (by omega), if_pos (by omega), hq.1, hq.2]
      exact ⟨mSet_1e, mSet_2e⟩
    · rw [if_neg (by omega), if_neg (by omega), mSet_1 (by omega), mSet_2 (by omega)]
      exact p3 j hj
theorem mNul_r {v : Nat} : ∀ (n i : Nat) (B : xQ), (∀ a j, (xit (mNul v) n i B).1 a j = if a = 206 ∧ v + i ≤ j ∧ j < v + i + n then 0 else B.1 a j) ∧ ∀ a j, (xit (mNul v) n i B).2 a j = if a = 207 ∧ v + i ≤ j ∧ j < v + i + n then 0 else B.2 a j := by
  intro n
  induction n with
  | zero => intro i B; exact ⟨fun b j => by rw [if_neg (by omega)]; rfl, fun b j => by rw [if_neg (by omega)]; rfl⟩
  | succ n ih =>
    intro i B
    obtain ⟨q1, q2⟩ := ih (i + 1) (mNul v i B)
    refine ⟨fun b j => ?_, fun b j => ?_⟩
    · show (xit _ n (i + 1) _).1 b j = _
      rw [q1]
      by_cases hu : b = 206 ∧ v + i ≤ j ∧ j < v + i + (n + 1)
      · rw [if_pos hu]
        by_cases hj : j = v + i
        · rw [if_neg (by omega), hu.1, hj]
          exact mSet_1e
        · rw [if_pos ⟨hu.1, by omega, by omega⟩]
      · rw [if_neg hu, if_neg (fun z => hu ⟨z.1, by omega, by omega⟩)]
        exact mSet_1 (by omega)
    · show (xit _ n (i + 1) _).2 b j = _
      rw [q2]
      by_cases hu : b = 207 ∧ v + i ≤ j ∧ j < v + i + (n + 1)
      · rw [if_pos hu]
        by_cases hj : j = v + i
        · rw [if_neg (by omega), hu.1, hj]
          exact mSet_2e
        · rw [if_pos ⟨hu.1, by omega, by omega⟩]
      · rw [if_neg hu, if_neg (fun z => hu ⟨z.1, by omega, by omega⟩)]
        exact mSet_2 (by omega)
theorem mMakeAt_r (B : xQ) (o q : Nat) : (∀ a j, (a ≠ 189 ∨ j ≠ 15) → (a ≠ 208 ∨ j ≠ o) → (a ≠ 210 ∨ j ≠ o) → (a ≠ 212 ∨ j ≠ o) → (a ≠ 206 ∨ j < 160 + 3 * o ∨ 160 + 3 * o + 3 ≤ j) → (mMakeAt B o q).1 a j = B.1 a j) ∧ (∀ a j, (a ≠ 207 ∨ j < 160 + 3 * o ∨ 160 + 3 * o + 3 ≤ j) → (mMakeAt B o q).2 a j = B.2 a j) ∧ (mMakeAt B o q).1 189 15 = B.1 189 15 + 1 ∧ (mMakeAt B o q).1 208 o = 1 ∧ (mMakeAt B o q).1 210 o = q ∧ (mMakeAt B o q).1 212 o = 0 ∧ (∀ i, i < 3 → (mMakeAt B o q).1 206 (160 + 3 * o + i) = 0) ∧ ∀ i, i < 3 → (mMakeAt B o q).2 207 (160 + 3 * o + i) = 0 := by
  unfold mMakeAt
  obtain ⟨q1, q2⟩ := mNul_r (v := 160 + 3 * o) 3 0 (xsI (xsI (xsI (xsI B 208 o 1) 210 o q) 212 o 0) 189 15 (B.1 189 15 + 1))
  generalize xit (mNul (160 + 3 * o)) 3 0 (xsI (xsI (xsI (xsI B 208 o 1) 210 o q) 212 o 0) 189 15 (B.1 189 15 + 1)) = X at q1 q2
  refine ⟨fun a j x1 x2 x3 x4 x5 => ?_, fun a j x => ?_, ?_, ?_, ?_, ?_, fun i hi => ?_, fun i hi => ?_⟩
  · rw [q1, if_neg (by omega), xsI_ne x1, xsI_ne x4, xsI_ne x3, xsI_ne x2]
  · rw [q2, if_neg (by omega)]; rfl
  · rw [q1, if_neg (by omega), xsI_eq]
  · rw [q1, if_neg (by omega), xsI_ne (by omega), xsI_ne (by omega), xsI_ne (by omega), xsI_eq]
  · rw [q1, if_neg (by omega), xsI_ne (by omega), xsI_ne (by omega), xsI_eq]
  · rw [q1, if_neg (by omega), xsI_ne (by omega), xsI_eq]
  · rw [q1, if_pos ⟨rfl, by omega, by omega⟩]
  · rw [q2, if_pos ⟨rfl, by omega, by omega⟩]
/-- an object is made: a record, or a closure once its code and its number of values are set -/
theorem Rel.make {q fn sz o : Nat} {B2 : xQ} (hR : Rel w A B) (hc : COk w A) (hn : A.1 w 2 ≠ 0) (ho : o < 24) (hf : A.1 (w + 3) o = 0) (hq : (q = 3 ∧ sz = 3) ∨ (q = 4 ∧ sz ≤ 2)) (hb : (q = 3 ∧ B2 = mMakeAt B o q) ∨ (q = 4 ∧ B2 = xsI (xsI (mMakeAt B o q) 211 o fn) 212 o sz)) : Rel w (aMakeAt w q fn sz o A) B2 := by
  obtain ⟨r1, r2, r3, r4, r5, r7, r8, r9⟩ := aMakeAt_r w q fn sz o A
  obtain ⟨b1, b2, b3, b4, b5, b6, b7, b8⟩ := mMakeAt_r B o q
  have c1 : ∀ a j, (a ≠ 211 ∨ j ≠ o) → (a ≠ 212 ∨ j ≠ o) → B2.1 a j = (mMakeAt B o q).1 a j := by
    intro a j x1 x2
    rcases hb with ⟨_, rfl⟩ | ⟨_, rfl⟩
    · rfl
    · rw [xsI_ne x2, xsI_ne x1]
  have c2 : B2.2 = (mMakeAt B o q).2 := by
    rcases hb with ⟨_, rfl⟩ | ⟨_, rfl⟩ <;> rfl
  have c3 : q = 4 → B2.1 211 o = fn ∧ B2.1 212 o = sz := by
    intro hq4
    rcases hb with ⟨h3, _⟩ | ⟨_, rfl⟩
    · omega
    · exact ⟨by rw [xsI_ne (by omega), xsI_eq], xsI_eq⟩
  have c4 : B2.1 212 o < 4294967296 := by
    rcases hb with ⟨_, rfl⟩ | ⟨h4, rfl⟩
    · omega
    · rw [xsI_eq]; omega
  refine hR.obj hc (fun a j x => r1 a j (by omega) (by omega) (by omega) (by omega) (by omega)) (fun a j x => r2 a j x) (fun a j x => by rw [c1 a j (by omega) (by omega), b1 a j (by omega) (by omega) (by omega) (by omega) (by omega)]) (fun a j x => by rw [c2, b2 a j (by omega)]) ?_ (Or.inr hn) (fun p hp => ?_)
  · rw [c1 _ _ (by omega) (by omega), b3, r9, hR.2.2.1.2.2.2.1]
  · obtain ⟨q1, q2, q3⟩ := hR.2.2.2.2 p hp
    have hO := hc.2.1.2.2 p hp
    unfold RelO
    rw [r3, r4, r5, c2]
    by_cases hpo : p = o
    · subst hpo
      rw [if_pos rfl, if_pos rfl, if_pos rfl, c1 208 _ (by omega) (by omega), c1 210 _ (by omega) (by omega), b4, b5, if_neg (by omega)]
      refine ⟨rfl, fun _ => ⟨rfl, c3, fun i hi => ?_⟩, by omega, c4⟩
      rw [r7, r8, if_pos (by omega), if_pos (by omega), c1 206 _ (by omega) (by omega), b7 i (by omega), b8 i (by omega)]
      exact ⟨rfl, rfl⟩
    · rw [if_neg hpo, if_neg hpo, if_neg hpo, c1 208 _ (by omega) (by omega), c1 210 _ (by omega) (by omega), c1 211 _ (by omega) (by omega), c1 212 _ (by omega) (by omega), b1 208 _ (by omega) (by omega) (by omega) (by omega) (by omega), b1 210 _ (by omega) (by omega) (by omega) (by omega) (by omega), b1 211 _ (by omega) (by omega) (by omega) (by omega) (by omega), b1 212 _ (by omega) (by omega) (by omega) (by omega) (by omega)]
      refine ⟨q1, fun x => ?_, q3⟩
      obtain ⟨p1, p2, p3⟩ := q2 x
      have hs3 := hO.sz x
      refine ⟨p1, p2, fun i hi => ?_⟩
      rw [r7, r8, if_neg (by omega), if_neg (by omega), c1 206 _ (by omega) (by omega), b1 206 _ (by omega) (by omega) (by omega) (by omega) (by omega), b2 207 _ (by omega)]
      exact p3 i hi
/-- the free slot is the same -/
theorem Rel.free (hR : Rel w A B) (hc : COk w A) (hlt : A.1 (w + 2) 4 < 24) : aFree w A 23 0 < 24 ∧ A.1 (w + 3) (aFree w A 23 0) = 0 ∧ B.1 208 (aFree w A 23 0) = 0 ∧ ∀ q, q < aFree w A 23 0 → B.1 208 q = 1 := by
  obtain ⟨o1, o2, o3⟩ := hc.2.2.2.1.free hlt
  refine ⟨o1, o2, ?_, fun q hq => ?_⟩
  · rw [(hR.2.2.2.2 _ o1).1, if_pos o2]
  · rw [(hR.2.2.2.2 q (by omega)).1, if_neg (o3 q hq)]
end RT
