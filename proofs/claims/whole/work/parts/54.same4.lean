-- CLASS AND REFERENCE GO ON HOLDING THE SAME: a new thread, a search
section RN
variable {w t k f m : Nat} {A B : xQ}
theorem Rel.newt {s u : Nat} {A2 B2 : xQ} (hR : Rel w A B) (hc : COk w A) (hu : A.1 w 2 = u) (hu0 : u ≠ 0) (hu3 : u < 3) (hs : s = w + 11 + 25 * u) (h1 : ∀ a j, (a < s ∨ s + 25 ≤ a) → (a ≠ w ∨ j ≠ 2) → A2.1 a j = A.1 a j) (h2 : ∀ a j, (a < s ∨ s + 25 ≤ a) → A2.2 a j = A.2 a j) (h3 : A2.1 w 2 = u + 1) (g1 : ∀ a j, (a ≠ 189 ∨ j ≠ 9) → ((a < 199 ∨ 201 < a) ∨ j ≠ u) → ((a < 202 ∨ 205 < a) ∨ j < 5 * u ∨ 5 * u + 5 ≤ j) → (a ≠ 206 ∨ j < 50 * u ∨ 50 * u + 50 ≤ j) → B2.1 a j = B.1 a j) (g2 : ∀ a j, (a ≠ 207 ∨ j < 50 * u ∨ 50 * u + 50 ≤ j) → B2.2 a j = B.2 a j) (g3 : B2.1 189 9 = u + 1) (hS : RelS s u A2 B2) : Rel w A2 B2 := by
  have h0 := hc.1
  have hc3 := hc.cnt
  obtain ⟨r1, r2, r3, r4, r5⟩ := hR
  refine ⟨r1.same (fun a j _ _ => h1 a j (by omega) (by omega)) (fun a j _ _ => g1 a j (by omega) (by omega) (by omega) (by omega)), r2.same (fun j => h1 _ _ (by omega) (by omega)) (fun j => h1 _ _ (by omega) (by omega)) (h1 _ _ (by omega) (by omega)) (g1 _ _ (by omega) (by omega) (by omega) (by omega)) (g1 _ _ (by omega) (by omega) (by omega) (by omega)) (fun j => g1 _ _ (by omega) (by omega) (by omega) (by omega)), ?_, fun v hv => ?_, fun o ho => ?_⟩
  · obtain ⟨q1, q2, q3, q4, q5, q6, q7, q8, q9⟩ := r3
    unfold RelC
    rw [h3, h1 w 3 (by omega) (by omega), h1 w 4 (by omega) (by omega), h1 (w + 2) 4 (by omega) (by omega), h1 11 3 (by omega) (by omega), h1 11 4 (by omega) (by omega), g3, g1 189 10 (by omega) (by omega) (by omega) (by omega), g1 189 11 (by omega) (by omega) (by omega) (by omega), g1 189 12 (by omega) (by omega) (by omega) (by omega), g1 189 13 (by omega) (by omega) (by omega) (by omega), g1 189 15 (by omega) (by omega) (by omega) (by omega), g1 189 16 (by omega) (by omega) (by omega) (by omega)]
    refine ⟨rfl, q2, q3, q4, q5, q6, ?_, fun z => by omega, fun i hi hi2 => ?_⟩
    · rw [q7, if_neg (by omega), if_neg (by omega)]
    · rw [g2 _ _ (by omega), h2 _ _ (by omega)]
      exact q9 i hi hi2
  · rw [h3] at hv
    by_cases hq : v = u
    · rw [hq, ← hs]; exact hS
    · exact (r4 v (by omega)).away (by omega) (hc.st (by omega)) (fun a j _ _ => h1 a j (by omega) (by omega)) (fun a j _ _ => h2 a j (by omega)) (fun a _ _ => g1 a _ (by omega) (by omega) (by omega) (by omega)) (fun a j _ _ _ _ => g1 a j (by omega) (by omega) (by omega) (by omega)) (fun j _ => g1 _ j (by omega) (by omega) (by omega) (by omega)) (fun j _ => g2 _ j (by omega))
  · exact (r5 o ho).away (hc.2.1.2.2 o ho) (fun a _ _ => h1 a _ (by omega) (by omega)) (fun i _ => h1 _ _ (by omega) (by omega)) (fun i _ => h2 _ _ (by omega)) (fun a _ _ _ => g1 a _ (by omega) (by omega) (by omega) (by omega)) (fun i _ => g1 _ _ (by omega) (by omega) (by omega) (by omega)) (fun i _ => g2 _ _ (by omega))
def mFork0 (B : xQ) (u : Nat) : xQ := xsI (xsI (xsI (xsI B 189 9 (u + 1)) 199 u 0) 200 u 0) 201 u 0
theorem Rel.fork {u fn n : Nat} (hR : Rel w A B) (hc : COk w A) (h : Top w A t k f m) (hu : A.1 w 2 = u) (hu3 : u < 3) (hn : n ≤ 2) (hA : n = A.1 2 fn) (hns : n ≤ A.1 f 3) : Rel w (xsI (aFork1 w A f fn) w 2 (u + 1)) (mPass m (5 * u) n (mBegin (mFork0 B u) u fn 4294967295)) := by
  obtain ⟨b1, b2, b3, b4, b5, b6, b7⟩ := h.b hc
  have h0 := hc.1
  have hFm := h.g hR
  have hT := h
  obtain ⟨ht, hk, hf, hm⟩ := h
  -- the frame that forks, smaller
  have hR1 : Rel w (aPop A f n) (xsI B 205 m (B.1 205 m - n)) := hR.pop hc hT
  have hc1 : COk w (aPop A f n) := hc.frame ht (by omega) hf (AgF.refl f A).pop ((hT.ok hc).pop (by omega)) (fun z => by omega)
  have hd := hFm.2.2.1
  have a0 : ∀ a j, (a ≠ f ∨ j ≠ 3) → (aPop A f n).1 a j = A.1 a j := fun a j q => xsI_ne q
  have a1 : (aPop A f n).1 f 3 = A.1 f 3 - n := aPop3 A f n
  have a2 : (aPop A f n).2 = A.2 := rfl
  have z0 : ∀ a j, (a ≠ 205 ∨ j ≠ m) → (xsI B 205 m (B.1 205 m - n)).1 a j = B.1 a j := fun a j q => xsI_ne q
  have z1 : (xsI B 205 m (B.1 205 m - n)).1 205 m = A.1 f 3 - n := by rw [xsI_eq, hd]
  have z2 : (xsI B 205 m (B.1 205 m - n)).2 = B.2 := rfl
  generalize aPop A f n = A1 at hR1 hc1 a0 a1 a2
  generalize xsI B 205 m (B.1 205 m - n) = B1 at hR1 z0 z1 z2
  unfold aFork1
  rw [hu, ← hA]
  obtain ⟨s, hs⟩ : ∃ s, s = w + 11 + 25 * u := ⟨_, rfl⟩
  rw [← hs]
  obtain ⟨e1, e2, e3, e4, e5⟩ := aEnd_r A s 0 0
  generalize aEnd A s 0 0 = E at e1 e2 e3 e4 e5
  obtain ⟨o1, o2, o3, o4, o5, o6, o7, o8, o9, o10⟩ := aOpen_r E s fn
  rw [e5] at o1 o2 o3 o6 o7 o8 o9 o10
  generalize aOpen E s fn = X at o1 o2 o3 o4 o5 o6 o7 o8 o9 o10
  obtain ⟨t1, t2, t3, t4, t5⟩ := aTake_r X (g := s + 5) (f := f) (n := n) (a := 0) (by omega) (by omega)
  have x1 : ∀ a j, (a < s ∨ s + 25 ≤ a) → X.1 a j = A.1 a j := fun a j q => by rw [o1 a j (by omega) (by omega) (by omega), e1 a j (by omega)]
  have x2 : ∀ a j, (a < s ∨ s + 25 ≤ a) → X.2 a j = A.2 a j := fun a j q => by rw [o2 a j (by omega), e2]
  rw [x1 f 3 (by omega)] at t3 t4 t5
  generalize aTake X (s + 5) f n 0 = Y at t1 t2 t3 t4 t5
  have y1 : ∀ a j, (a < s ∨ s + 25 ≤ a) → (a ≠ w ∨ j ≠ 2) → (xsI Y w 2 (u + 1)).1 a j = A1.1 a j := by
    intro a j q qw
    rw [xsI_ne qw]
    by_cases hq : a = f ∧ j = 3
    · rw [hq.1, hq.2, t3, a1]; omega
    · rw [t1 a j (by omega) (by omega), x1 a j q, a0 a j (by omega)]
  have y2 : ∀ a j, (a < s ∨ s + 25 ≤ a) → (xsI Y w 2 (u + 1)).2 a j = A1.2 a j := by
    intro a j q
    show Y.2 a j = _
    rw [t2 a j (by omega), x2 a j q, a2]
  have y3 : (xsI Y w 2 (u + 1)).1 w 2 = u + 1 := xsI_eq
  have y4 : ∀ a j, s ≤ a → a < s + 25 → a ≠ s + 7 → (xsI Y w 2 (u + 1)).1 a j = X.1 a j := by
    intro a j q q1 q2
    rw [xsI_ne (Or.inl (by omega)), t1 a j (by omega) (by omega)]
  have y5 : ∀ c, (xsI Y w 2 (u + 1)).1 (s + 7) c = if 1 ≤ c ∧ c < 1 + n then X.1 (f + 2) (5 + A.1 f 3 - 0 - n + (c - 1)) else X.1 (s + 7) c := by
    intro c
    rw [xsI_ne (Or.inl (by omega))]
    exact t4 c
  have y6 : ∀ c, (xsI Y w 2 (u + 1)).2 (s + 8) c = if 1 ≤ c ∧ c < 1 + n then X.2 (f + 3) (5 + A.1 f 3 - 0 - n + (c - 1)) else X.2 (s + 8) c := t5
  generalize xsI Y w 2 (u + 1) = A2 at y1 y2 y3 y4 y5 y6
  -- the reference
  have k1 : ∀ a j, (a ≠ 189 ∨ j ≠ 9) → ((a < 199 ∨ 201 < a) ∨ j ≠ u) → (mFork0 B u).1 a j = B.1 a j := by
    intro a j q1 q2
    unfold mFork0
    rw [xsI_ne (by omega), xsI_ne (by omega), xsI_ne (by omega), xsI_ne q1]
  have k2 : (mFork0 B u).1 189 9 = u + 1 ∧ (mFork0 B u).1 199 u = 0 ∧ (mFork0 B u).1 200 u = 0 ∧ (mFork0 B u).1 201 u = 0 := by
    unfold mFork0
    refine ⟨?_, ?_, ?_, xsI_eq⟩
    · rw [xsI_ne (by omega), xsI_ne (by omega), xsI_ne (by omega), xsI_eq]
    · rw [xsI_ne (by omega), xsI_ne (by omega), xsI_eq]
    · rw [xsI_ne (by omega), xsI_eq]
  have k3 : (mFork0 B u).2 = B.2 := rfl
  generalize mFork0 B u = F at k1 k2 k3
  obtain ⟨k4, k5, k6, k7⟩ := k2
  obtain ⟨p1, p2, p3, p4, p5, p6, p7, p8, p9⟩ := mBegin_r F u fn 4294967295
  rw [k7] at p1 p2 p3 p4 p5 p6 p7 p8 p9
  generalize mBegin F u fn 4294967295 = Z at p1 p2 p3 p4 p5 p6 p7 p8 p9
  have zm : Z.1 205 m = A.1 f 3 := by rw [p1 _ _ (by omega) (by omega) (by omega), k1 _ _ (by omega) (by omega), hd]
  obtain ⟨q1, q2, q3, q4⟩ := mPass_r (f := m) (k := 5 * u) (by omega) n Z hn (by omega) (by omega)
  rw [zm] at q3 q4
  generalize mPass m (5 * u) n Z = B2 at q1 q2 q3 q4
  refine hR1.newt hc1 (u := u) (s := s) ?_ (by omega) hu3 hs y1 y2 y3 (fun a j v1 v2 v3 v4 => ?_) (fun a j v => ?_) ?_ ?_
  · rw [a0 _ _ (by omega), hu]
  · by_cases hq : a = 205 ∧ j = m
    · rw [hq.1, hq.2, q3, z1]
    · rw [q1 a j (by omega) (by omega), p1 a j (by omega) (by omega) (by omega), k1 a j v1 v2, z0 a j (by omega)]
  · rw [q2 a j (by omega), p2 a j (by omega), k3, z2]
  · rw [q1 _ _ (by omega) (by omega), p1 _ _ (by omega) (by omega) (by omega), k4]
  · unfold RelS
    rw [y4 s 2 (by omega) (by omega) (by omega), y4 s 3 (by omega) (by omega) (by omega), y4 s 4 (by omega) (by omega) (by omega), o4, o3, o5, e3, e4]
    refine ⟨?_, ⟨?_, fun _ => rfl⟩, ?_, fun z => by omega, fun i hi => ?_⟩
    · rw [q1 _ _ (by omega) (by omega), p1 _ _ (by omega) (by omega) (by omega), k5]
    · rw [q1 _ _ (by omega) (by omega), p1 _ _ (by omega) (by omega) (by omega), k6]
    · rw [q1 _ _ (by omega) (by omega), p3]
    · have hi0 : i = 0 := by omega
      subst hi0
      rw [show s + 5 + 4 * 0 = s + 5 by omega, show 5 * u + 0 = 5 * u by omega] at *
      unfold RelF
      rw [y4 (s + 5) 1 (by omega) (by omega) (by omega), y4 (s + 5) 2 (by omega) (by omega) (by omega), y4 (s + 5) 3 (by omega) (by omega) (by omega), o6, o7, o8]
      refine ⟨?_, ?_, ?_, Or.inl ⟨?_, ?_⟩, fun c hc => ?_⟩
      · rw [q1 _ _ (by omega) (by omega), p4]
      · rw [q1 _ _ (by omega) (by omega), p5]
      · rw [q1 _ _ (by omega) (by omega), p7]
      · rw [y5, if_neg (by omega)]; exact o9 0 (by omega)
      · rw [q1 _ _ (by omega) (by omega), p6]
      · rw [show s + 5 + 2 = s + 7 by omega, show s + 5 + 3 = s + 8 by omega, y5, y6]
        by_cases hq : c < n
        · have c1 : 1 ≤ 1 + c ∧ 1 + c < 1 + n := ⟨by omega, by omega⟩
          obtain ⟨u1, u2⟩ := q4 c hq
          obtain ⟨v1, v2⟩ := hFm.2.2.2.2 (4 + A.1 f 3 - n + c) (by omega)
          rw [if_pos c1, if_pos c1, u1, u2, p1 _ _ (by omega) (by omega) (by omega), p2 _ _ (by omega), k1 _ _ (by omega) (by omega), k3, x1 _ _ (by omega), x2 _ _ (by omega), show 10 * m + 4 + A.1 f 3 - n + c = 10 * m + (4 + A.1 f 3 - n + c) by omega, v1, v2, show 5 + A.1 f 3 - 0 - n + (1 + c - 1) = 1 + (4 + A.1 f 3 - n + c) by omega]
          exact ⟨rfl, rfl⟩
        · have c1 : ¬ (1 ≤ 1 + c ∧ 1 + c < 1 + n) := by omega
          rw [if_neg c1, if_neg c1, q1 _ _ (by omega) (by omega), q2 _ _ (by omega)]
          have g1 := o9 (1 + c) (by omega)
          have g2 := o10 (1 + c) (by omega)
          rw [show s + 5 + 2 = s + 7 by omega] at g1
          rw [show s + 5 + 3 = s + 8 by omega] at g2
          rw [g1, g2]
          exact ⟨p8 c (by omega), p9 c (by omega)⟩
/-- what is not in use is dropped -/
theorem Rel.drop {T : Nat → Option xT} {R : Nat → Nat → Option Nat} {B2 : xQ} (hW : xW0 T R w) (hR : Rel w A B) (hc : COk w A) (hn : A.1 w 2 ≠ 0) (g1 : ∀ a j, (a ≠ 189 ∨ j ≠ 15) → a ≠ 208 → a ≠ 209 → B2.1 a j = B.1 a j) (g2 : B2.2 = B.2) (g3 : ∀ o, o < 24 → (aFd w (aFind w A) o → B2.1 208 o = 1) ∧ (¬ aFd w (aFind w A) o → B2.1 208 o = 0)) (g4 : B2.1 189 15 = (aFind w A).1 (w + 2) 7) : Rel w (aDrop w (aFind w A)) B2 := by
  obtain ⟨d1, d2, d3⟩ := aDrop_all w (aFind w A)
  obtain ⟨f1, f2, f3, f4⟩ := find_fd hW hc.2.1
  have dc := aDrop_c w (aFind w A)
  generalize aFind w A = X at *
  generalize aDrop w X = D at *
  have x3 : ∀ o, X.1 (w + 3) o = A.1 (w + 3) o := fun o => f1.1.1.2 _ _ (by omega) (by omega) (Or.inl (by omega))
  have xk : ∀ a j, (a < w + 2 ∨ w + 11 ≤ a ∨ a = w + 4 ∨ a = w + 5 ∨ a = w + 7) → D.1 a j = A.1 a j := fun a j q => by rw [d2 a j (by omega) (by omega), f1.1.1.2 a j (by omega) (by omega) (by omega)]
  have xj : D.2 = A.2 := by rw [d1, f1.1.1.1]
  refine hR.obj hc (fun a j q => xk a j (by omega)) (fun a j _ => by rw [xj]) (fun a j q => g1 a j (by omega) (by omega) (by omega)) (fun a j _ => by rw [g2]) (by rw [g4, dc]) (Or.inr hn) (fun o ho => ?_)
  obtain ⟨q1, q2, q3⟩ := hR.2.2.2.2 o ho
  unfold RelO
  by_cases hf : aFd w X o
  · have hlt := (f1.1.2.1 o ho).resolve_left hf
    have hkk := (f1.1.2.2.2 _ hlt).2.2
    rw [f1.2 o ho hf, x3] at hkk
    have e3 : D.1 (w + 3) o = A.1 (w + 3) o := by rw [d3, if_neg (fun z => hf z.2), x3]
    rw [e3, xk (w + 4) o (by omega), xk (w + 5) o (by omega), (g3 o ho).1 hf, if_neg hkk, g1 210 _ (by omega) (by omega) (by omega), g1 211 _ (by omega) (by omega) (by omega), g1 212 _ (by omega) (by omega) (by omega)]
    refine ⟨rfl, fun _ => ?_, q3⟩
    obtain ⟨p1, p2, p3⟩ := q2 hkk
    refine ⟨p1, p2, fun i hi => ?_⟩
    rw [g1 206 _ (by omega) (by omega) (by omega), g2, xk _ _ (by omega), xj]
    exact p3 i hi
  · have e3 : D.1 (w + 3) o = 0 := by rw [d3, if_pos ⟨ho, Classical.not_not.mp hf⟩]
    rw [e3, (g3 o ho).2 hf, if_pos rfl, g1 210 _ (by omega) (by omega) (by omega), g1 212 _ (by omega) (by omega) (by omega)]
    exact ⟨rfl, fun z => absurd rfl z, q3⟩
end RN
