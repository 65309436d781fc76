-- start, all of it
/-- the memory of the class once a program has begun: the values of the first locals -/
theorem aBeg_r (w : Nat) (A : xQ) (f : Nat) (x y : Int64) (hw : w = 12 ∨ w = 103) (h2 : A.1 2 f ≤ 2) : (∀ a j, (a ≤ 10 ∨ (98 ≤ a ∧ a ≤ 102) ∨ 189 ≤ a) → (aBeg w A f x y).1 a j = A.1 a j) ∧ (∀ a j, a ≠ w + 19 → (aBeg w A f x y).2 a j = A.2 a j) ∧ (aBeg w A f x y).1 11 3 = 0 ∧ (aBeg w A f x y).1 11 4 = 0 ∧ ((aBeg w A f x y).1 w 2 = 1 ∧ (aBeg w A f x y).1 w 3 = 0 ∧ (aBeg w A f x y).1 w 4 = 0) ∧ (∀ o, o < 24 → (aBeg w A f x y).1 (w + 3) o = 0) ∧ (aBeg w A f x y).1 (w + 2) 4 = 0 ∧ ((aBeg w A f x y).1 (w + 11) 2 = 0 ∧ (aBeg w A f x y).1 (w + 11) 3 = 1 ∧ (aBeg w A f x y).1 (w + 11) 4 = 0) ∧ ((aBeg w A f x y).1 (w + 16) 1 = f ∧ (aBeg w A f x y).1 (w + 16) 2 = 0 ∧ (aBeg w A f x y).1 (w + 16) 3 = 0) ∧ (aBeg w A f x y).1 (w + 18) 0 = 0 ∧ (∀ c, c < 4 → (aBeg w A f x y).1 (w + 18) (1 + c) = if c < A.1 2 f then 1 else 0) ∧ ∀ c, c < 4 → (aBeg w A f x y).2 (w + 19) (1 + c) = if c < A.1 2 f then (if c = 0 then x else y) else 0 := by
  unfold aBeg
  obtain ⟨k1, k2, k3, k4, k5, k6, k7, k8, k9, k10, k11⟩ := aBe1_r w A f hw
  have cI : ∀ (B : xQ) c v a j, a ≠ w + 18 → (aCellI B (w + 16) c v).1 a j = B.1 a j := fun B c v a j q => aCellI_k (by omega)
  have cJ : ∀ (B : xQ) c v a j, a ≠ w + 19 → (aCellI B (w + 16) c v).2 a j = B.2 a j := fun B c v a j q => xsJ_ne (Or.inl (by omega))
  have c18 : ∀ (B : xQ) c v j, (aCellI B (w + 16) c v).1 (w + 18) j = if j = c then 1 else B.1 (w + 18) j := fun B c v j => by
    show (xsI B (w + 18) c 1).1 (w + 18) j = _
    by_cases q : j = c
    · rw [if_pos q, q, xsI_eq]
    · rw [if_neg q, xsI_ne (Or.inr q)]
  have c19 : ∀ (B : xQ) c v j, (aCellI B (w + 16) c v).2 (w + 19) j = if j = c then v else B.2 (w + 19) j := fun B c v j => by
    show (xsJ (xsI B (w + 18) c 1) (w + 19) c v).2 (w + 19) j = _
    by_cases q : j = c
    · rw [if_pos q, q, xsJ_eq]
    · rw [if_neg q, xsJ_ne (Or.inr q)]; rfl
  generalize aBe1 w A f = E at *
  have main : ∀ (D : xQ), (∀ a j, a ≠ w + 18 → D.1 a j = E.1 a j) → (∀ a j, a ≠ w + 19 → D.2 a j = E.2 a j) → D.1 (w + 18) 0 = 0 → (∀ c, c < 4 → D.1 (w + 18) (1 + c) = if c < A.1 2 f then 1 else 0) → (∀ c, c < 4 → D.2 (w + 19) (1 + c) = if c < A.1 2 f then (if c = 0 then x else y) else 0) → (∀ a j, (a ≤ 10 ∨ (98 ≤ a ∧ a ≤ 102) ∨ 189 ≤ a) → D.1 a j = A.1 a j) ∧ (∀ a j, a ≠ w + 19 → D.2 a j = A.2 a j) ∧ D.1 11 3 = 0 ∧ D.1 11 4 = 0 ∧ (D.1 w 2 = 1 ∧ D.1 w 3 = 0 ∧ D.1 w 4 = 0) ∧ (∀ o, o < 24 → D.1 (w + 3) o = 0) ∧ D.1 (w + 2) 4 = 0 ∧ (D.1 (w + 11) 2 = 0 ∧ D.1 (w + 11) 3 = 1 ∧ D.1 (w + 11) 4 = 0) ∧ (D.1 (w + 16) 1 = f ∧ D.1 (w + 16) 2 = 0 ∧ D.1 (w + 16) 3 = 0) ∧ D.1 (w + 18) 0 = 0 ∧ (∀ c, c < 4 → D.1 (w + 18) (1 + c) = if c < A.1 2 f then 1 else 0) ∧ ∀ c, c < 4 → D.2 (w + 19) (1 + c) = if c < A.1 2 f then (if c = 0 then x else y) else 0 := by
    intro D d1 d2 d3 d4 d5
    refine ⟨fun a j q => by rw [d1 a j (by omega), k1 a j q], fun a j q => by rw [d2 a j q, k2 a j q], by rw [d1 _ _ (by omega), k3], by rw [d1 _ _ (by omega), k4], ⟨by rw [d1 _ _ (by omega), k5.1], by rw [d1 _ _ (by omega), k5.2.1], by rw [d1 _ _ (by omega), k5.2.2]⟩, fun o ho => by rw [d1 _ _ (by omega), k6 o ho], by rw [d1 _ _ (by omega), k7], ⟨by rw [d1 _ _ (by omega), k8.1], by rw [d1 _ _ (by omega), k8.2.1], by rw [d1 _ _ (by omega), k8.2.2]⟩, ⟨by rw [d1 _ _ (by omega), k9.1], by rw [d1 _ _ (by omega), k9.2.1], by rw [d1 _ _ (by omega), k9.2.2]⟩, d3, d4, d5⟩
  by_cases q0 : A.1 2 f = 0
  · rw [if_pos q0]
    refine main E (fun _ _ _ => rfl) (fun _ _ _ => rfl) (k10 0 (by omega)) (fun c hc => ?_) (fun c hc => ?_)
    · rw [if_neg (by omega)]; exact k10 _ (by omega)
    · rw [if_neg (by omega)]; exact k11 _ (by omega)
  · by_cases q1 : A.1 2 f = 1
    · rw [if_neg q0, if_pos q1]
      refine main _ (fun a j q => cI _ _ _ a j q) (fun a j q => cJ _ _ _ a j q) (by rw [c18, if_neg (by omega)]; exact k10 0 (by omega)) (fun c hc => ?_) (fun c hc => ?_)
      · rw [c18]
        by_cases e : c = 0
        · rw [if_pos (by omega), if_pos (by omega)]
        · rw [if_neg (by omega), if_neg (by omega)]; exact k10 _ (by omega)
      · rw [c19]
        by_cases e : c = 0
        · rw [if_pos (by omega), if_pos (by omega), if_pos e]
        · rw [if_neg (by omega), if_neg (by omega)]; exact k11 _ (by omega)
    · rw [if_neg q0, if_neg q1]
      refine main _ (fun a j q => by rw [cI _ _ _ a j q, cI _ _ _ a j q]) (fun a j q => by rw [cJ _ _ _ a j q, cJ _ _ _ a j q]) (by rw [c18, if_neg (by omega), c18, if_neg (by omega)]; exact k10 0 (by omega)) (fun c hc => ?_) (fun c hc => ?_)
      · rw [c18, c18]
        by_cases e : c = 1
        · rw [if_pos (by omega), if_pos (by omega)]
        · by_cases e0 : c = 0
          · rw [if_neg (by omega), if_pos (by omega), if_pos (by omega)]
          · rw [if_neg (by omega), if_neg (by omega), if_neg (by omega)]; exact k10 _ (by omega)
      · rw [c19, c19]
        by_cases e : c = 1
        · rw [if_pos (by omega), if_pos (by omega), if_neg (by omega)]
        · by_cases e0 : c = 0
          · rw [if_neg (by omega), if_pos (by omega), if_pos (by omega), if_pos e0]
          · rw [if_neg (by omega), if_neg (by omega), if_neg (by omega)]; exact k11 _ (by omega)
theorem mBeg_r (B : xQ) (f n : Nat) (x y : Int64) (h2 : n ≤ 2) : (∀ a j, a ≠ 206 → (mBeg B f n x y).1 a j = (mBe1 B f).1 a j) ∧ (∀ a j, a ≠ 207 → (mBeg B f n x y).2 a j = (mBe1 B f).2 a j) ∧ (∀ c, c < 4 → (mBeg B f n x y).1 206 c = if c < n then 1 else 0) ∧ ∀ c, c < 4 → (mBeg B f n x y).2 207 c = if c < n then (if c = 0 then x else y) else 0 := by
  obtain ⟨_, _, _, _, _, _, k7, k8⟩ := mBe1_r B f
  unfold mBeg
  generalize mBe1 B f = E at *
  have s1 : ∀ (D : xQ) v u j, (mSet D v 1 u).1 206 j = if j = v then 1 else D.1 206 j := fun D v u j => by
    by_cases q : j = v
    · rw [if_pos q, q, mSet_1e]
    · rw [if_neg q, mSet_1 (Or.inr q)]
  have s2 : ∀ (D : xQ) v u j, (mSet D v 1 u).2 207 j = if j = v then u else D.2 207 j := fun D v u j => by
    by_cases q : j = v
    · rw [if_pos q, q, mSet_2e]
    · rw [if_neg q, mSet_2 (Or.inr q)]
  by_cases q0 : n = 0
  · rw [if_pos q0]
    refine ⟨fun _ _ _ => rfl, fun _ _ _ => rfl, fun c hc => ?_, fun c hc => ?_⟩
    · rw [if_neg (by omega)]; exact k7 c hc
    · rw [if_neg (by omega)]; exact k8 c hc
  · by_cases q1 : n = 1
    · rw [if_neg q0, if_pos q1]
      refine ⟨fun a j q => mSet_1 (Or.inl q), fun a j q => mSet_2 (Or.inl q), fun c hc => ?_, fun c hc => ?_⟩
      · rw [s1]
        by_cases e : c = 0
        · rw [if_pos e, if_pos (by omega)]
        · rw [if_neg e, if_neg (by omega)]; exact k7 c hc
      · rw [s2]
        by_cases e : c = 0
        · rw [if_pos e, if_pos (by omega), if_pos e]
        · rw [if_neg e, if_neg (by omega)]; exact k8 c hc
    · rw [if_neg q0, if_neg q1]
      refine ⟨fun a j q => by rw [mSet_1 (Or.inl q), mSet_1 (Or.inl q)], fun a j q => by rw [mSet_2 (Or.inl q), mSet_2 (Or.inl q)], fun c hc => ?_, fun c hc => ?_⟩
      · rw [s1, s1]
        by_cases e : c = 1
        · rw [if_pos e, if_pos (by omega)]
        · by_cases e0 : c = 0
          · rw [if_neg e, if_pos e0, if_pos (by omega)]
          · rw [if_neg e, if_neg e0, if_neg (by omega)]; exact k7 c hc
      · rw [s2, s2]
        by_cases e : c = 1
        · rw [if_pos e, if_pos (by omega), if_neg (by omega)]
        · by_cases e0 : c = 0
          · rw [if_neg e, if_pos e0, if_pos (by omega), if_pos e0]
          · rw [if_neg e, if_neg e0, if_neg (by omega)]; exact k8 c hc
theorem pub_start (f : Nat) (x y : Int32) (hf : f < 2 ^ 32) : Pub 4 127 (mpO [(0, 1)]) [.int (nI f), .int x, .int y] := by
  refine Pub.mk rfl rfl gC3 gM3 (fun z T R w n A hn hI => ?_)
  obtain ⟨hL, hr, hc, hT, hR, h3, h4⟩ := hI
  have h0 := hc.1
  by_cases hq : f < 6
  · have hP := (hc.2.2.1 f hq).1
    have hcl := c4 (z := z) (A := A) (x := x) (y := y) hL hq hP
    obtain ⟨r1, r2, r3, r4, ⟨r5, r6, r7⟩, r8, r9, ⟨r10, r11, r12⟩, ⟨r13, r14, r15⟩, r16, r17, r18⟩ := aBeg_r w A f x.toInt64 y.toInt64 h0 hP
    generalize aBeg w A f x.toInt64 y.toInt64 = D at *
    have hF : FOk w D (w + 16) := by
      refine FOk.mk' (A := D) (by rw [r13]; exact hq) (by rw [r14]; omega) (by rw [r15]; omega) (Or.inl r16) (fun c hc5 => ?_) (fun _ _ => rfl)
      rw [r15] at hc5
      by_cases e : c = 0
      · subst e
        rw [show w + 16 + 2 = w + 18 by omega, r16]
        exact VV.num (by omega)
      · have := r17 (c - 1) (by omega)
        rw [show 1 + (c - 1) = c by omega] at this
        rw [show w + 16 + 2 = w + 18 by omega, this]
        exact VV.num (by split <;> omega)
    have hCD : COk w D := by
      refine ⟨h0, ⟨by omega, fun u hu => ?_, fun o ho => ?_⟩, hc.2.2.1.same (fun a j _ _ => r1 a j (by omega)), ?_, fun u hu i hi => ?_, by omega⟩
      · have hu0 : u = 0 := by omega
        subst hu0
        rw [show w + 11 + 25 * 0 = w + 11 by omega]
        unfold SOk
        rw [r10, r11, r12]
        refine ⟨by omega, by omega, by omega, by omega, by omega, by omega, fun k hk => ?_⟩
        have hk0 : k = 0 := by omega
        subst hk0
        rw [show w + 11 + 5 + 4 * 0 = w + 16 by omega]
        exact hF
      · unfold OOk
        rw [r8 o ho]
        exact ⟨Or.inl rfl, by omega, by omega, fun q => absurd rfl q⟩
      · unfold HOk
        rw [r9]
        symm
        exact xcnt_zero 24 (fun i hi => by simp [r8 i hi])
      · have hu0 : u = 0 := by omega
        subst hu0
        rw [show w + 11 + 25 * 0 = w + 11 by omega, r11] at hi
        omega
    have hTD : TOk w D := fun _ => ⟨by omega, by omega, fun _ => by
      unfold aSt
      rw [r6, show w + 11 + 25 * 0 = w + 11 by omega]
      exact r10⟩
    refine Or.inr ⟨_, D, ⟨_, Or.inl rfl⟩, hcl, hCD, hTD, by omega, by omega, fun B hB => ?_⟩
    have e190 := (hB.1 f hq).1
    have m := m127 (z := z) (B := B) (x := x) (y := y) hL hq (by omega)
    obtain ⟨b1, b2, b3, b4⟩ := mBeg_r B f (B.1 190 f) x.toInt64 y.toInt64 (by omega)
    obtain ⟨k1, k2, ⟨k3, k4, k5, k6, k7, k8, k9, k10⟩, k11, ⟨k12, k13, k14⟩, ⟨k15, k16, k17, k18⟩, k19, k20⟩ := mBe1_r B f
    rw [e190] at m b3 b4
    rw [e190] at b1 b2
    generalize mBeg B f (A.1 2 f) x.toInt64 y.toInt64 = E at *
    generalize mBe1 B f = F at *
    refine ⟨E, m, by rw [b1 _ _ (by omega), k3], ?_⟩
    obtain ⟨p1, p2, p3, p4, p5⟩ := hB
    refine ⟨p1.same (fun a j _ _ => r1 a j (by omega)) (fun a j _ _ => by rw [b1 a j (by omega), k1 a j (by omega)]), p2.same (fun j => r1 _ _ (by omega)) (fun j => r1 _ _ (by omega)) (r1 _ _ (by omega)) (by rw [b1 _ _ (by omega), k1 _ _ (by omega)]) (by rw [b1 _ _ (by omega), k1 _ _ (by omega)]) (fun j => by rw [b1 _ _ (by omega), k1 _ _ (by omega)]), ?_, fun u hu => ?_, fun o ho => ?_⟩
    · unfold RelC
      rw [r3, r4, r5, r6, r7, r9, b1 _ _ (by omega), b1 _ _ (by omega), b1 _ _ (by omega), b1 _ _ (by omega), b1 _ _ (by omega), b1 _ _ (by omega), b1 _ _ (by omega), k4, k5, k6, k7, k8, k9, k10]
      exact ⟨rfl, rfl, rfl, rfl, rfl, rfl, rfl, fun q => by omega, fun i _ q => by omega⟩
    · have hu0 : u = 0 := by omega
      subst hu0
      rw [show w + 11 + 25 * 0 = w + 11 by omega]
      unfold RelS
      rw [r10, r11, r12, b1 _ _ (by omega), b1 _ _ (by omega), b1 _ _ (by omega), k12, k13, k14]
      refine ⟨rfl, ⟨rfl, fun _ => rfl⟩, rfl, fun q => by omega, fun k hk => ?_⟩
      have hk0 : k = 0 := by omega
      subst hk0
      rw [show w + 11 + 5 + 4 * 0 = w + 16 by omega, show 5 * 0 + 0 = 0 by omega]
      unfold RelF
      rw [r13, r14, r15, b1 _ _ (by omega), b1 _ _ (by omega), b1 _ _ (by omega), b1 _ _ (by omega), k15, k16, k17, k18, show w + 16 + 2 = w + 18 by omega, show w + 16 + 3 = w + 19 by omega, r16]
      refine ⟨rfl, rfl, rfl, Or.inl ⟨rfl, rfl⟩, fun c hcc => ?_⟩
      rw [show 10 * 0 + c = c by omega, b3 c (by omega), b4 c (by omega), r17 c (by omega), r18 c (by omega)]
      exact ⟨rfl, rfl⟩
    · obtain ⟨_, _, q3⟩ := p5 o ho
      unfold RelO
      rw [r8 o ho, b1 _ _ (by omega), b1 210 _ (by omega), b1 211 _ (by omega), b1 212 _ (by omega), k11 o ho, k1 210 _ (by omega), k1 212 _ (by omega)]
      exact ⟨rfl, fun q => absurd rfl q, q3⟩
  · exact Or.inl ⟨0, by decide, c4a hL hf hq, fun B hB => ⟨_, _, m127a hL hf hq, by rw [xsI_eq]; rfl, hB.thr hc⟩⟩
