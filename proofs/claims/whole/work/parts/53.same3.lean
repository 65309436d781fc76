-- CLASS AND REFERENCE GO ON HOLDING THE SAME: calls, returns, forks, errors
theorem mPass_r {f k : Nat} (hfk : f ≠ k) : ∀ (n : Nat) (B : xQ), n ≤ 2 → n ≤ B.1 205 f → B.1 205 f ≤ 6 → (∀ a j, (a ≠ 205 ∨ j ≠ f) → (a ≠ 206 ∨ j < 10 * k ∨ 10 * k + n ≤ j) → (mPass f k n B).1 a j = B.1 a j) ∧ (∀ a j, (a ≠ 207 ∨ j < 10 * k ∨ 10 * k + n ≤ j) → (mPass f k n B).2 a j = B.2 a j) ∧ (mPass f k n B).1 205 f = B.1 205 f - n ∧ ∀ i, i < n → (mPass f k n B).1 206 (10 * k + i) = B.1 206 (10 * f + 4 + B.1 205 f - n + i) ∧ (mPass f k n B).2 207 (10 * k + i) = B.2 207 (10 * f + 4 + B.1 205 f - n + i) := by
  intro n
  induction n with
  | zero => intro B _ _ _; exact ⟨fun _ _ _ _ => rfl, fun _ _ _ => rfl, rfl, fun i hi => by omega⟩
  | succ n ih =>
    intro B h2 hn h6
    have e1 : ∀ a j, (a ≠ 205 ∨ j ≠ f) → (a ≠ 206 ∨ j ≠ 10 * k + n) → (xsI (mSet B (10 * k + n) (B.1 206 (10 * f + 3 + B.1 205 f)) (B.2 207 (10 * f + 3 + B.1 205 f))) 205 f (B.1 205 f - 1)).1 a j = B.1 a j := fun a j x1 x2 => by rw [xsI_ne x1, mSet_1 x2]
    have e2 : ∀ a j, (a ≠ 207 ∨ j ≠ 10 * k + n) → (xsI (mSet B (10 * k + n) (B.1 206 (10 * f + 3 + B.1 205 f)) (B.2 207 (10 * f + 3 + B.1 205 f))) 205 f (B.1 205 f - 1)).2 a j = B.2 a j := fun a j x => mSet_2 x
    have e3 : (xsI (mSet B (10 * k + n) (B.1 206 (10 * f + 3 + B.1 205 f)) (B.2 207 (10 * f + 3 + B.1 205 f))) 205 f (B.1 205 f - 1)).1 205 f = B.1 205 f - 1 := xsI_eq
    have e4 : (xsI (mSet B (10 * k + n) (B.1 206 (10 * f + 3 + B.1 205 f)) (B.2 207 (10 * f + 3 + B.1 205 f))) 205 f (B.1 205 f - 1)).1 206 (10 * k + n) = B.1 206 (10 * f + 3 + B.1 205 f) := by rw [xsI_ne (by omega), mSet_1e]
    have e5 : (xsI (mSet B (10 * k + n) (B.1 206 (10 * f + 3 + B.1 205 f)) (B.2 207 (10 * f + 3 + B.1 205 f))) 205 f (B.1 205 f - 1)).2 207 (10 * k + n) = B.2 207 (10 * f + 3 + B.1 205 f) := mSet_2e
    unfold mPass
    generalize xsI (mSet B (10 * k + n) (B.1 206 (10 * f + 3 + B.1 205 f)) (B.2 207 (10 * f + 3 + B.1 205 f))) 205 f (B.1 205 f - 1) = C at e1 e2 e3 e4 e5
    obtain ⟨g1, g2, g3, g4⟩ := ih C (by omega) (by omega) (by omega)
    refine ⟨fun a j x1 x2 => by rw [g1 a j x1 (by omega), e1 a j x1 (by omega)], fun a j x => by rw [g2 a j (by omega), e2 a j (by omega)], by rw [g3, e3]; omega, fun i hi => ?_⟩
    by_cases hq : i = n
    · subst hq
      rw [g1 _ _ (by omega) (by omega), g2 _ _ (by omega), e4, e5, show 10 * f + 4 + B.1 205 f - (i + 1) + i = 10 * f + 3 + B.1 205 f by omega]
      exact ⟨rfl, rfl⟩
    · obtain ⟨p1, p2⟩ := g4 i (by omega)
      rw [p1, p2, e3, e1 _ _ (by omega) (by omega), e2 _ _ (by omega), show 10 * f + 4 + (B.1 205 f - 1) - n + i = 10 * f + 4 + B.1 205 f - (n + 1) + i by omega]
      exact ⟨rfl, rfl⟩
theorem mBegin_r (B : xQ) (t fn c : Nat) : (∀ a j, (a ≠ 201 ∨ j ≠ t) → ((a < 202 ∨ 205 < a) ∨ j ≠ 5 * t + B.1 201 t) → (a ≠ 206 ∨ j < 10 * (5 * t + B.1 201 t) ∨ 10 * (5 * t + B.1 201 t) + 4 ≤ j) → (mBegin B t fn c).1 a j = B.1 a j) ∧ (∀ a j, (a ≠ 207 ∨ j < 10 * (5 * t + B.1 201 t) ∨ 10 * (5 * t + B.1 201 t) + 4 ≤ j) → (mBegin B t fn c).2 a j = B.2 a j) ∧ (mBegin B t fn c).1 201 t = B.1 201 t + 1 ∧ (mBegin B t fn c).1 202 (5 * t + B.1 201 t) = fn ∧ (mBegin B t fn c).1 203 (5 * t + B.1 201 t) = 0 ∧ (mBegin B t fn c).1 204 (5 * t + B.1 201 t) = c ∧ (mBegin B t fn c).1 205 (5 * t + B.1 201 t) = 0 ∧ (∀ i, i < 4 → (mBegin B t fn c).1 206 (10 * (5 * t + B.1 201 t) + i) = 0) ∧ ∀ i, i < 4 → (mBegin B t fn c).2 207 (10 * (5 * t + B.1 201 t) + i) = 0 := by
  unfold mBegin
  obtain ⟨q1, q2⟩ := mNul_r (v := 10 * (5 * t + B.1 201 t)) 4 0 (xsI (xsI (xsI (xsI (xsI B 201 t (B.1 201 t + 1)) 202 (5 * t + B.1 201 t) fn) 203 (5 * t + B.1 201 t) 0) 204 (5 * t + B.1 201 t) c) 205 (5 * t + B.1 201 t) 0)
  generalize xit (mNul (10 * (5 * t + B.1 201 t))) 4 0 (xsI (xsI (xsI (xsI (xsI B 201 t (B.1 201 t + 1)) 202 (5 * t + B.1 201 t) fn) 203 (5 * t + B.1 201 t) 0) 204 (5 * t + B.1 201 t) c) 205 (5 * t + B.1 201 t) 0) = X at q1 q2
  refine ⟨fun a j x1 x2 x3 => ?_, fun a j x => ?_, ?_, ?_, ?_, ?_, ?_, fun i hi => ?_, fun i hi => ?_⟩
  · rw [q1, if_neg (by omega), xsI_ne (by omega), xsI_ne (by omega), xsI_ne (by omega), xsI_ne (by omega), xsI_ne x1]
  · rw [q2, if_neg (by omega)]; rfl
  · rw [q1, if_neg (by omega), xsI_ne (by omega), xsI_ne (by omega), xsI_ne (by omega), xsI_ne (by omega), xsI_eq]
  · rw [q1, if_neg (by omega), xsI_ne (by omega), xsI_ne (by omega), xsI_ne (by omega), xsI_eq]
  · rw [q1, if_neg (by omega), xsI_ne (by omega), xsI_ne (by omega), xsI_eq]
  · rw [q1, if_neg (by omega), xsI_ne (by omega), xsI_eq]
  · rw [q1, if_neg (by omega), xsI_eq]
  · rw [q1, if_pos ⟨rfl, by omega, by omega⟩]
  · rw [q2, if_pos ⟨rfl, by omega, by omega⟩]
section RC
variable {w t k f m : Nat} {A B : xQ}
theorem Rel.enter {s fn ab n c : Nat} {A2 : xQ} (hR : Rel w A B) (hc : COk w A) (h : Top w A t k f m) (hs : s = w + 11 + 25 * t) (hst : A.1 s 2 = 0) (h5 : A.1 s 3 < 5) (hn : n ≤ 2) (hna : n + ab ≤ A.1 f 3) (hA : (A2 = aTake (aOpen A s fn) (s + 5 + 4 * A.1 s 3) f n ab ∧ c = 4294967295) ∨ (A2 = xsJ (xsI (aTake (aOpen A s fn) (s + 5 + 4 * A.1 s 3) f n ab) (s + 5 + 4 * A.1 s 3 + 2) 0 4) (s + 5 + 4 * A.1 s 3 + 3) 0 (lN c) ∧ c < 2 ^ 32)) : Rel w A2 (mPass m (5 * t + A.1 s 3) n (mBegin (xsI B 205 m (A.1 f 3 - ab)) t fn c)) := by
  obtain ⟨b1, b2, b3, b4, b5, b6, b7⟩ := h.b hc
  have hFm := h.g hR
  obtain ⟨ht, hk, hf, hm⟩ := h
  rw [← hs] at hk hf
  have hc3 := hc.cnt
  have hSo := hc.st ht
  rw [← hs] at hSo
  obtain ⟨s1, s2, s3, s4, s5, s6, s7⟩ := hSo
  obtain ⟨r1, r2, r3, r4, r5⟩ := hR.2.2.2.1 t ht
  rw [← hs] at r1 r2 r3 r4 r5
  -- the class
  obtain ⟨o1, o2, o3, o4, o5, o6, o7, o8, o9, o10⟩ := aOpen_r A s fn
  obtain ⟨t1, t2, t3, t4, t5⟩ := aTake_r (aOpen A s fn) (g := s + 5 + 4 * A.1 s 3) (f := f) (n := n) (a := ab) (by omega) (by omega)
  have e3 : (aOpen A s fn).1 f 3 = A.1 f 3 := o1 f 3 (by omega) (by omega) (by omega)
  rw [e3] at t3 t4 t5
  generalize aTake (aOpen A s fn) (s + 5 + 4 * A.1 s 3) f n ab = A1 at t1 t2 t3 t4 t5 hA
  generalize aOpen A s fn = X at o1 o2 o3 o4 o5 o6 o7 o8 o9 o10 t1 t2 t3 t4 t5 e3
  have x1 : ∀ a j, a ≠ s → a ≠ s + 5 + 4 * A.1 s 3 → a ≠ s + 5 + 4 * A.1 s 3 + 2 → (a ≠ f ∨ j ≠ 3) → A2.1 a j = A.1 a j := by
    intro a j y1 y2 y3 y4
    rcases hA with ⟨rfl, _⟩ | ⟨rfl, _⟩
    · rw [t1 a j y3 y4, o1 a j y1 y2 y3]
    · show (xsI A1 _ _ _).1 a j = _
      rw [xsI_ne (Or.inl y3), t1 a j y3 y4, o1 a j y1 y2 y3]
  have x2 : ∀ a j, a ≠ s + 5 + 4 * A.1 s 3 + 3 → A2.2 a j = A.2 a j := by
    intro a j y
    rcases hA with ⟨rfl, _⟩ | ⟨rfl, _⟩
    · rw [t2 a j y, o2 a j y]
    · rw [xsJ_ne (Or.inl y)]
      show A1.2 a j = _
      rw [t2 a j y, o2 a j y]
  have x0 : ∀ a j, a ≠ s + 5 + 4 * A.1 s 3 + 2 → A2.1 a j = A1.1 a j := by
    intro a j y
    rcases hA with ⟨rfl, _⟩ | ⟨rfl, _⟩
    · rfl
    · exact xsI_ne (Or.inl y)
  have x3 : A2.1 s 3 = A.1 s 3 + 1 := by rw [x0 _ _ (by omega), t1 _ _ (by omega) (by omega), o3]
  have x4 : A2.1 s 2 = A.1 s 2 := by rw [x0 _ _ (by omega), t1 _ _ (by omega) (by omega), o4]
  have x5 : A2.1 s 4 = A.1 s 4 := by rw [x0 _ _ (by omega), t1 _ _ (by omega) (by omega), o5]
  have x6 : A2.1 f 3 = A.1 f 3 - (n + ab) := by rw [x0 _ _ (by omega), t3]
  have x7 : A2.1 (s + 5 + 4 * A.1 s 3) 1 = fn ∧ A2.1 (s + 5 + 4 * A.1 s 3) 2 = 0 ∧ A2.1 (s + 5 + 4 * A.1 s 3) 3 = 0 := by
    refine ⟨?_, ?_, ?_⟩
    · rw [x0 _ _ (by omega), t1 _ _ (by omega) (by omega), o6]
    · rw [x0 _ _ (by omega), t1 _ _ (by omega) (by omega), o7]
    · rw [x0 _ _ (by omega), t1 _ _ (by omega) (by omega), o8]
  have x8 : ∀ i, i < 4 → A2.1 (s + 5 + 4 * A.1 s 3 + 2) (1 + i) = (if i < n then A.1 (f + 2) (5 + A.1 f 3 - ab - n + i) else 0) ∧ A2.2 (s + 5 + 4 * A.1 s 3 + 3) (1 + i) = (if i < n then A.2 (f + 3) (5 + A.1 f 3 - ab - n + i) else 0) := by
    intro i hi
    have y1 : A2.1 (s + 5 + 4 * A.1 s 3 + 2) (1 + i) = A1.1 (s + 5 + 4 * A.1 s 3 + 2) (1 + i) := by
      rcases hA with ⟨rfl, _⟩ | ⟨rfl, _⟩
      · rfl
      · exact xsI_ne (Or.inr (by omega))
    have y2 : A2.2 (s + 5 + 4 * A.1 s 3 + 3) (1 + i) = A1.2 (s + 5 + 4 * A.1 s 3 + 3) (1 + i) := by
      rcases hA with ⟨rfl, _⟩ | ⟨rfl, _⟩
      · rfl
      · rw [xsJ_ne (Or.inr (by omega))]; rfl
    rw [y1, y2, t4, t5]
    by_cases hq : i < n
    · have c1 : 1 ≤ 1 + i ∧ 1 + i < 1 + n := ⟨by omega, by omega⟩
      rw [if_pos c1, if_pos c1, if_pos hq, if_pos hq, o1 _ _ (by omega) (by omega) (by omega), o2 _ _ (by omega), show 1 + i - 1 = i by omega]
      exact ⟨rfl, rfl⟩
    · have c1 : ¬ (1 ≤ 1 + i ∧ 1 + i < 1 + n) := by omega
      rw [if_neg c1, if_neg c1, if_neg hq, if_neg hq]
      exact ⟨o9 _ (by omega), o10 _ (by omega)⟩
  have x9 : (A2.1 (s + 5 + 4 * A.1 s 3 + 2) 0 = 0 ∧ c = 4294967295) ∨ (A2.1 (s + 5 + 4 * A.1 s 3 + 2) 0 = 4 ∧ c = oN (A2.2 (s + 5 + 4 * A.1 s 3 + 3) 0)) := by
    rcases hA with ⟨rfl, hcc⟩ | ⟨rfl, hcc⟩
    · left
      exact ⟨by rw [t4, if_neg (by omega)]; exact o9 0 (by omega), hcc⟩
    · right
      refine ⟨xsI_eq, ?_⟩
      rw [xsJ_eq, oN_lN hcc]
  clear hA t1 t2 t3 t4 t5 o1 o2 o3 o4 o5 o6 o7 o8 o9 o10 x0 e3
  -- the reference
  have d0 : (xsI B 205 m (A.1 f 3 - ab)).1 201 t = A.1 s 3 := by rw [xsI_ne (by omega), r3]
  obtain ⟨p1, p2, p3, p4, p5, p6, p7, p8, p9⟩ := mBegin_r (xsI B 205 m (A.1 f 3 - ab)) t fn c
  rw [d0] at p1 p2 p3 p4 p5 p6 p7 p8 p9
  have z1 : ∀ a j, (a ≠ 205 ∨ j ≠ m) → (xsI B 205 m (A.1 f 3 - ab)).1 a j = B.1 a j := fun a j y => xsI_ne y
  have z2 : (xsI B 205 m (A.1 f 3 - ab)).1 205 m = A.1 f 3 - ab := xsI_eq
  have z3 : (xsI B 205 m (A.1 f 3 - ab)).2 = B.2 := rfl
  generalize xsI B 205 m (A.1 f 3 - ab) = Y at p1 p2 p3 p4 p5 p6 p7 p8 p9 z1 z2 z3 d0
  generalize mBegin Y t fn c = Z at p1 p2 p3 p4 p5 p6 p7 p8 p9
  have zm : Z.1 205 m = A.1 f 3 - ab := by rw [p1 _ _ (by omega) (by omega) (by omega), z2]
  obtain ⟨q1, q2, q3, q4⟩ := mPass_r (f := m) (k := 5 * t + A.1 s 3) (by omega) n Z hn (by omega) (by omega)
  rw [zm] at q3 q4
  generalize mPass m (5 * t + A.1 s 3) n Z = B2 at q1 q2 q3 q4
  refine hR.strand hc ht hs ⟨fun a j y => x1 a j (by omega) (by omega) (by omega) (by omega), fun a j y => x2 a j (by omega)⟩ ⟨fun a j y => ?_, fun a j y => ?_⟩ ?_
  · rw [q1 a j (by omega) (by omega), p1 a j (by omega) (by omega) (by omega), z1 a j (by omega)]
  · rw [q2 a j (by omega), p2 a j (by omega), z3]
  · unfold RelS
    rw [x3, x4, x5]
    refine ⟨?_, ⟨?_, r2.2⟩, ?_, fun y => by omega, fun i hi => ?_⟩
    · rw [q1 _ _ (by omega) (by omega), p1 _ _ (by omega) (by omega) (by omega), z1 _ _ (by omega)]; exact r1
    · rw [q1 _ _ (by omega) (by omega), p1 _ _ (by omega) (by omega) (by omega), z1 _ _ (by omega)]; exact r2.1
    · rw [q1 _ _ (by omega) (by omega), p3]
    · by_cases hi1 : i = A.1 s 3
      · subst hi1
        unfold RelF
        rw [x7.1, x7.2.1, x7.2.2]
        refine ⟨?_, ?_, ?_, ?_, fun j hj => ?_⟩
        · rw [q1 _ _ (by omega) (by omega), p4]
        · rw [q1 _ _ (by omega) (by omega), p5]
        · rw [q1 _ _ (by omega) (by omega), p7]
        · rw [q1 _ _ (by omega) (by omega), p6]; exact x9
        · obtain ⟨y1, y2⟩ := x8 j (by omega)
          rw [y1, y2]
          by_cases hq : j < n
          · obtain ⟨u1, u2⟩ := q4 j hq
            obtain ⟨v1, v2⟩ := hFm.2.2.2.2 (4 + A.1 f 3 - ab - n + j) (by omega)
            rw [u1, u2, if_pos hq, if_pos hq, p1 _ _ (by omega) (by omega) (by omega), p2 _ _ (by omega), z1 _ _ (by omega), z3, show 10 * m + 4 + (A.1 f 3 - ab) - n + j = 10 * m + (4 + A.1 f 3 - ab - n + j) by omega, v1, v2, show 1 + (4 + A.1 f 3 - ab - n + j) = 5 + A.1 f 3 - ab - n + j by omega]
            exact ⟨rfl, rfl⟩
          · rw [if_neg hq, if_neg hq, q1 _ _ (by omega) (by omega), q2 _ _ (by omega)]
            exact ⟨p8 j (by omega), p9 j (by omega)⟩
      · have hF := r5 i (by omega)
        by_cases hi2 : i = k
        · subst hi2
          rw [← hm, show s + 5 + 4 * i = f by omega] at hF ⊢
          obtain ⟨y1, y2, y3, y4, y5⟩ := hF
          unfold RelF
          rw [x6, x1 f 1 (by omega) (by omega) (by omega) (by omega), x1 f 2 (by omega) (by omega) (by omega) (by omega), x1 (f + 2) 0 (by omega) (by omega) (by omega) (by omega), x2 (f + 3) 0 (by omega)]
          refine ⟨?_, ?_, ?_, ?_, fun j hj => ?_⟩
          · rw [q1 _ _ (by omega) (by omega), p1 _ _ (by omega) (by omega) (by omega), z1 _ _ (by omega)]; exact y1
          · rw [q1 _ _ (by omega) (by omega), p1 _ _ (by omega) (by omega) (by omega), z1 _ _ (by omega)]; exact y2
          · rw [q3]; omega
          · rw [q1 _ _ (by omega) (by omega), p1 _ _ (by omega) (by omega) (by omega), z1 _ _ (by omega)]; exact y4
          · rw [q1 _ _ (by omega) (by omega), p1 _ _ (by omega) (by omega) (by omega), z1 _ _ (by omega), q2 _ _ (by omega), p2 _ _ (by omega), z3, x1 _ _ (by omega) (by omega) (by omega) (by omega), x2 _ _ (by omega)]
            exact y5 j (by omega)
        · have h6 := (s7 i (by omega)).2.2.1
          refine hF.away h6 (fun j => x1 _ j (by omega) (by omega) (by omega) (by omega)) (fun j => x1 _ j (by omega) (by omega) (by omega) (by omega)) (fun j => x2 _ j (by omega)) (fun a y1 y2 => ?_) (fun j y1 y2 => ?_) (fun j y1 y2 => ?_)
          · rw [q1 _ _ (by omega) (by omega), p1 _ _ (by omega) (by omega) (by omega), z1 _ _ (by omega)]
          · rw [q1 _ _ (by omega) (by omega), p1 _ _ (by omega) (by omega) (by omega), z1 _ _ (by omega)]
          · rw [q2 _ _ (by omega), p2 _ _ (by omega), z3]
/-- the strand loses its upper frames -/
theorem Rel.depth {s d : Nat} (hR : Rel w A B) (hc : COk w A) (ht : t < A.1 w 2) (hs : s = w + 11 + 25 * t) (hst : A.1 s 2 = 0) (hd : d ≤ A.1 s 3) : Rel w (xsI A s 3 d) (xsI B 201 t d) := by
  have hSo := hc.st ht
  rw [← hs] at hSo
  obtain ⟨r1, r2, r3, r4, r5⟩ := hR.2.2.2.1 t ht
  rw [← hs] at r1 r2 r3 r4 r5
  have hc3 := hc.cnt
  refine hR.strand hc ht hs ⟨fun a j q => xsI_ne (Or.inl (by omega)), fun a j _ => rfl⟩ ⟨fun a j q => xsI_ne (by omega), fun a j _ => rfl⟩ ?_
  have a1 : ∀ a j, (a ≠ s ∨ j ≠ 3) → (xsI A s 3 d).1 a j = A.1 a j := fun a j h => xsI_ne h
  have a3 : (xsI A s 3 d).1 s 3 = d := xsI_eq
  have b1 : ∀ a j, (a ≠ 201 ∨ j ≠ t) → (xsI B 201 t d).1 a j = B.1 a j := fun a j h => xsI_ne h
  have b3 : (xsI B 201 t d).1 201 t = d := xsI_eq
  unfold RelS
  rw [a3, b3, a1 s 2 (by omega), a1 s 4 (by omega), b1 199 _ (by omega), b1 200 _ (by omega)]
  refine ⟨r1, r2, rfl, fun q => by omega, fun i hi => ?_⟩
  exact (r5 i (by omega)).away (hSo.2.2.2.2.2.2 i (by omega)).2.2.1 (fun j => a1 _ j (by omega)) (fun j => a1 _ j (by omega)) (fun j => rfl) (fun a _ _ => b1 a _ (by omega)) (fun j _ _ => b1 _ j (by omega)) (fun j _ _ => rfl)
/-- the strand ends -/
theorem Rel.end {s st er : Nat} {B2 : xQ} (hR : Rel w A B) (hc : COk w A) (ht : t < A.1 w 2) (hs : s = w + 11 + 25 * t) (hst : st = 1 ∨ st = 2) (h1 : ∀ a j, (a < 199 ∨ 201 < a ∨ j ≠ t) → (a ≠ 206 ∨ j ≠ 150 + t) → B2.1 a j = B.1 a j) (h2 : ∀ a j, (a ≠ 207 ∨ j ≠ 150 + t) → B2.2 a j = B.2 a j) (g1 : B2.1 199 t = st) (g2 : B2.1 200 t = er) (g3 : B2.1 201 t = 0) (g4 : st = 1 → B2.1 206 (150 + t) = A.1 (s + 3) 0 ∧ B2.2 207 (150 + t) = A.2 (s + 4) 0) : Rel w (aEnd A s st er) B2 := by
  obtain ⟨e1, e2, e3, e4, e5⟩ := aEnd_r A s st er
  have hc3 := hc.cnt
  refine hR.strand hc ht hs ⟨fun a j q => e1 a j (by omega), fun a j _ => by rw [e2]⟩ ⟨fun a j q => h1 a j (by omega) (by omega), fun a j q => h2 a j (by omega)⟩ ?_
  unfold RelS
  rw [e3, e4, e5]
  refine ⟨g1, ⟨g2, fun q => by omega⟩, g3, fun q => ?_, fun i hi => by omega⟩
  rw [e1 _ _ (by omega), e2]
  exact g4 q
theorem xsI_id {A : xQ} {a k : Nat} : xsI A a k (A.1 a k) = A := by
  unfold xsI x2
  obtain ⟨A1, A2⟩ := A
  dsimp only
  congr 1
  funext b j
  split
  · split
    · rename_i h1 h2; rw [h1, h2]
    · rfl
  · rfl
theorem Top.s (h : Top w A t k f m) (hR : Rel w A B) : RelS (w + 11 + 25 * t) t A B := hR.2.2.2.1 t h.1
theorem Rel.sc {A2 B2 : xQ} (hR : Rel w A B) (hc : COk w A) (hn : A.1 w 2 ≠ 0) (h1 : ∀ a j, a ≠ 11 → (a ≠ w ∨ j = 2) → A2.1 a j = A.1 a j) (h2 : ∀ a j, a ≠ 98 → A2.2 a j = A.2 a j) (g1 : ∀ a j, (a ≠ 189 ∨ (j ≠ 10 ∧ j ≠ 11 ∧ j ≠ 12 ∧ j ≠ 13)) → B2.1 a j = B.1 a j) (g2 : ∀ a j, a ≠ 213 → B2.2 a j = B.2 a j) (k1 : B2.1 189 10 = A2.1 w 3) (k2 : B2.1 189 11 = A2.1 w 4) (k3 : B2.1 189 12 = A2.1 11 4) (k4 : B2.1 189 13 = A2.1 11 3) (k5 : ∀ i, i < 40 → i < A2.1 11 3 → B2.2 213 i = A2.2 98 i) : Rel w A2 B2 := by
  have h0 := hc.1
  have hc3 := hc.cnt
  obtain ⟨r1, r2, r3, r4, r5⟩ := hR
  refine ⟨r1.same (fun a j _ _ => h1 a j (by omega) (by omega)) (fun a j _ _ => g1 a j (by omega)), r2.same (fun j => h1 _ _ (by omega) (by omega)) (fun j => h1 _ _ (by omega) (by omega)) (h1 _ _ (by omega) (by omega)) (g1 _ _ (by omega)) (g1 _ _ (by omega)) (fun j => g1 _ _ (by omega)), ?_, fun u hu => ?_, fun o ho => ?_⟩
  · obtain ⟨q1, q2, q3, q4, q5, q6, q7, q8, q9⟩ := r3
    unfold RelC
    rw [h1 w 2 (by omega) (by omega), h1 (w + 2) 4 (by omega) (by omega), g1 189 9 (by omega), g1 189 15 (by omega), g1 189 16 (by omega)]
    exact ⟨q1, k1, k2, q4, k3, k4, q7, fun z => absurd z hn, k5⟩
  · rw [h1 w 2 (by omega) (by omega)] at hu
    exact (r4 u hu).away (by omega) (hc.st hu) (fun a j _ _ => h1 a j (by omega) (by omega)) (fun a j _ _ => h2 a j (by omega)) (fun a _ _ => g1 a _ (by omega)) (fun a j _ _ _ _ => g1 a j (by omega)) (fun j _ => g1 _ j (by omega)) (fun j _ => g2 _ j (by omega))
  · exact (r5 o ho).away (hc.2.1.2.2 o ho) (fun a _ _ => h1 a _ (by omega) (by omega)) (fun i _ => h1 _ _ (by omega) (by omega)) (fun i _ => h2 _ _ (by omega)) (fun a _ _ _ => g1 a _ (by omega)) (fun i _ => g1 _ _ (by omega)) (fun i _ => g2 _ _ (by omega))
end RC
