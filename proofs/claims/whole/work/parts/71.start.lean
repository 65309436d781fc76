-- start
def aBe0 (w : Nat) (A : xQ) : xQ := xsI (xsI (xsI (xsI (xsI A 11 3 0) 11 4 0) w 2 1) w 3 0) w 4 0
def aBe1 (w : Nat) (A : xQ) (f : Nat) : xQ := aOpen (aEnd (aClear w (aBe0 w A)) (w + 11) 0 0) (w + 11) f
def aCellI (A : xQ) (g c : Nat) (v : Int64) : xQ := xsJ (xsI A (g + 2) c 1) (g + 3) c v
theorem aCellI_k {A : xQ} {g c a j : Nat} {v : Int64} (h : a ≠ g + 2) : (aCellI A g c v).1 a j = A.1 a j := xsI_ne (Or.inl h)
def aBeg (w : Nat) (A : xQ) (f : Nat) (x y : Int64) : xQ := if A.1 2 f = 0 then aBe1 w A f else if A.1 2 f = 1 then aCellI (aBe1 w A f) (w + 16) 1 x else aCellI (aCellI (aBe1 w A f) (w + 16) 1 x) (w + 16) 2 y
theorem aClear_r (w : Nat) (A : xQ) : (∀ a j, (a ≠ w + 3 ∨ 24 ≤ j) → (a ≠ w + 2 ∨ j ≠ 4) → (aClear w A).1 a j = A.1 a j) ∧ (aClear w A).2 = A.2 ∧ (∀ o, o < 24 → (aClear w A).1 (w + 3) o = 0) ∧ (aClear w A).1 (w + 2) 4 = 0 := by
  obtain ⟨z1, z2⟩ := xit_fill (w + 3) 0 24 0 A
  unfold aClear
  generalize xit (fun i B => xsI B (w + 3) i 0) 24 0 A = X at z1 z2
  refine ⟨fun a j h1 h2 => ?_, z1, fun o ho => ?_, xsI_eq⟩
  · rw [xsI_ne h2, z2, if_neg (by omega)]
  · rw [xsI_ne (Or.inl (by omega)), z2, if_pos ⟨rfl, by omega, by omega⟩]
theorem aBe0_r (w : Nat) (A : xQ) (hw : w = 12 ∨ w = 103) : (∀ a j, (a ≠ 11 ∨ (j ≠ 3 ∧ j ≠ 4)) → (a ≠ w ∨ (j ≠ 2 ∧ j ≠ 3 ∧ j ≠ 4)) → (aBe0 w A).1 a j = A.1 a j) ∧ (aBe0 w A).2 = A.2 ∧ (aBe0 w A).1 11 3 = 0 ∧ (aBe0 w A).1 11 4 = 0 ∧ (aBe0 w A).1 w 2 = 1 ∧ (aBe0 w A).1 w 3 = 0 ∧ (aBe0 w A).1 w 4 = 0 := by
  unfold aBe0
  refine ⟨fun a j h1 h2 => by rw [xsI_ne (by omega), xsI_ne (by omega), xsI_ne (by omega), xsI_ne (by omega), xsI_ne (by omega)], rfl, ?_, ?_, ?_, ?_, xsI_eq⟩
  · rw [xsI_ne (by omega), xsI_ne (by omega), xsI_ne (by omega), xsI_ne (by omega), xsI_eq]
  · rw [xsI_ne (by omega), xsI_ne (by omega), xsI_ne (by omega), xsI_eq]
  · rw [xsI_ne (by omega), xsI_ne (by omega), xsI_eq]
  · rw [xsI_ne (by omega), xsI_eq]
/-- what is in the memory once a program has begun -/
theorem aBe1_r (w : Nat) (A : xQ) (f : Nat) (hw : w = 12 ∨ w = 103) : (∀ a j, (a ≤ 10 ∨ (98 ≤ a ∧ a ≤ 102) ∨ 189 ≤ a) → (aBe1 w A f).1 a j = A.1 a j) ∧ (∀ a j, a ≠ w + 19 → (aBe1 w A f).2 a j = A.2 a j) ∧ (aBe1 w A f).1 11 3 = 0 ∧ (aBe1 w A f).1 11 4 = 0 ∧ ((aBe1 w A f).1 w 2 = 1 ∧ (aBe1 w A f).1 w 3 = 0 ∧ (aBe1 w A f).1 w 4 = 0) ∧ (∀ o, o < 24 → (aBe1 w A f).1 (w + 3) o = 0) ∧ (aBe1 w A f).1 (w + 2) 4 = 0 ∧ ((aBe1 w A f).1 (w + 11) 2 = 0 ∧ (aBe1 w A f).1 (w + 11) 3 = 1 ∧ (aBe1 w A f).1 (w + 11) 4 = 0) ∧ ((aBe1 w A f).1 (w + 16) 1 = f ∧ (aBe1 w A f).1 (w + 16) 2 = 0 ∧ (aBe1 w A f).1 (w + 16) 3 = 0) ∧ (∀ c, c < 5 → (aBe1 w A f).1 (w + 18) c = 0) ∧ ∀ c, c < 5 → (aBe1 w A f).2 (w + 19) c = 0 := by
  obtain ⟨b1, b2, b3, b4, b5, b6, b7⟩ := aBe0_r w A hw
  obtain ⟨c1, c2, c3, c4⟩ := aClear_r w (aBe0 w A)
  obtain ⟨e1, e2, e3, e4, e5⟩ := aEnd_r (aClear w (aBe0 w A)) (w + 11) 0 0
  obtain ⟨o1, o2, o3, o4, o5, o6, o7, o8, o9, o10⟩ := aOpen_r (aEnd (aClear w (aBe0 w A)) (w + 11) 0 0) (w + 11) f
  rw [e5] at o1 o2 o3 o6 o7 o8 o9 o10
  rw [show w + 11 + 5 + 4 * 0 = w + 16 by omega] at o1 o2 o6 o7 o8 o9 o10
  rw [show w + 16 + 2 = w + 18 by omega] at o1 o9
  rw [show w + 16 + 3 = w + 19 by omega] at o2 o10
  unfold aBe1
  have k : ∀ a j, a ≠ w + 11 → a ≠ w + 16 → a ≠ w + 18 → (a ≠ w + 3 ∨ 24 ≤ j) → (a ≠ w + 2 ∨ j ≠ 4) → (aOpen (aEnd (aClear w (aBe0 w A)) (w + 11) 0 0) (w + 11) f).1 a j = (aBe0 w A).1 a j := fun a j q1 q2 q3 q4 q5 => by rw [o1 a j q1 q2 q3, e1 a j q1, c1 a j q4 q5]
  refine ⟨fun a j q => by rw [k a j (by omega) (by omega) (by omega) (by omega) (by omega), b1 a j (by omega) (by omega)], fun a j q => by rw [o2 a j q, e2, c2, b2], ?_, ?_, ⟨?_, ?_, ?_⟩, fun o ho => ?_, ?_, ⟨?_, ?_, ?_⟩, ⟨o6, o7, o8⟩, o9, o10⟩
  · rw [k _ _ (by omega) (by omega) (by omega) (by omega) (by omega), b3]
  · rw [k _ _ (by omega) (by omega) (by omega) (by omega) (by omega), b4]
  · rw [k _ _ (by omega) (by omega) (by omega) (by omega) (by omega), b5]
  · rw [k _ _ (by omega) (by omega) (by omega) (by omega) (by omega), b6]
  · rw [k _ _ (by omega) (by omega) (by omega) (by omega) (by omega), b7]
  · rw [o1 _ _ (by omega) (by omega) (by omega), e1 _ _ (by omega), c3 o ho]
  · rw [o1 _ _ (by omega) (by omega) (by omega), e1 _ _ (by omega), c4]
  · rw [o4, e3]
  · rw [o3]
  · rw [o5, e4]
theorem c29 {z : Nat} {T : Nat → Option xT} {R : Nat → Nat → Option Nat} {A : xQ} {w f : Nat} {x y : Int32} (hL : xLay T R w) (hf : f < 6) (h2 : A.1 2 f ≤ 2) : xF 29 [.ref 11, .int (nI f), .int x, .int y] (xm z T R A) (.inr none, xm z T R (aBeg w A f x.toInt64 y.toInt64)) := by
  have h0 := hL.1
  have hW := hL.w hL.1
  have w1 := hW.1
  have w2 := hW.2.1
  have w3 := hW.2.2.1
  have w4 := hW.2.2.2.1
  have hH := hW.2.2.2.2.1
  have hh1 := hH.1
  obtain ⟨r1, hS⟩ := hW.2.2.2.2.2 0 (by omega)
  rw [show w + 11 + 25 * 0 = w + 11 by omega] at r1 hS
  have s1 := hS.1
  have ed := aEnd_d (A := aClear w (aBe0 w A)) (s := w + 11) (st := 0) (er := 0)
  have e0 : w + 11 + 5 + 4 * (aEnd (aClear w (aBe0 w A)) (w + 11) 0 0).1 (w + 11) 3 = w + 16 := by rw [ed]
  have hg := (hS.2.2.2.2.2 0 (by omega)).2
  rw [show w + 11 + 5 + 4 * 0 = w + 16 by omega] at hg
  have g1 := hg.1
  have g2 := hg.2.1
  have g3 := hg.2.2
  have g4 := g3.1
  obtain ⟨k1, k2, k3⟩ := aBe1_r w A f h0
  have kk : (aBe1 w A f).1 2 f = A.1 2 f := k1 _ _ (by omega)
  have kc : ∀ v, (aCellI (aBe1 w A f) (w + 16) 1 v).1 2 f = A.1 2 f := fun v => by
    rw [aCellI_k (by omega)]
    exact kk
  unfold aBeg
  by_cases q0 : A.1 2 f = 0
  · rw [if_pos q0]
    refine xF_eq (xF_p (Nat.le_of_ble_eq_true rfl) ?_)
    refine xp_aload_n rfl rfl ?_
    refine xp_iconst (n := 0) rfl (by decide) ?_
    refine xp_pfi rfl rfl (by decide) (by decide) (by decide) (by first | assumption | exact hL.t rfl) ?_
    refine xp_aload_n rfl rfl ?_
    refine xp_iconst (n := 0) rfl (by decide) ?_
    refine xp_pfi rfl rfl (by decide) (by decide) (by decide) (by first | assumption | exact hL.t rfl) ?_
    refine xp_aload_n rfl rfl ?_
    refine xp_gfa rfl rfl (by decide) (by decide) (by first | assumption | exact hL.t rfl) (by first | assumption | exact hL.r rfl | exact hL.2.2.2.2.2) ?_
    refine xp_iconst (n := 1) rfl (by decide) ?_
    refine xp_pfi rfl rfl (by decide) (by decide) (by decide) (by first | assumption | exact hL.t rfl) ?_
    refine xp_aload_n rfl rfl ?_
    refine xp_gfa rfl rfl (by decide) (by decide) (by first | assumption | exact hL.t rfl) (by first | assumption | exact hL.r rfl | exact hL.2.2.2.2.2) ?_
    refine xp_iconst (n := 0) rfl (by decide) ?_
    refine xp_pfi rfl rfl (by decide) (by decide) (by decide) (by first | assumption | exact hL.t rfl) ?_
    refine xp_aload_n rfl rfl ?_
    refine xp_gfa rfl rfl (by decide) (by decide) (by first | assumption | exact hL.t rfl) (by first | assumption | exact hL.r rfl | exact hL.2.2.2.2.2) ?_
    refine xp_iconst (n := 0) rfl (by decide) ?_
    refine xp_pfi rfl rfl (by decide) (by decide) (by decide) (by first | assumption | exact hL.t rfl) ?_
    refine xp_aload_n rfl rfl ?_
    refine xp_gfa rfl rfl (by decide) (by decide) (by first | assumption | exact hL.t rfl) (by first | assumption | exact hL.r rfl | exact hL.2.2.2.2.2) ?_
    refine xp_gfa rfl rfl (by decide) (by decide) (by first | assumption | exact hL.t rfl) (by first | assumption | exact hL.r rfl | exact hL.2.2.2.2.2) ?_
    refine xp_iv rfl rfl (Nat.le_of_ble_eq_true rfl) (by decide) (by decide) (by decide) (Nat.le_of_ble_eq_true rfl) rfl (xrcv1 (by decide) (by first | assumption | exact hL.t rfl)) (c59 hH) rfl ?_
    show xP _ _ _ _ _ _ (xm _ _ _ (aClear w (aBe0 w A))) _
    refine xp_aload_n rfl rfl ?_
    refine xp_gfa rfl rfl (by decide) (by decide) (by first | assumption | exact hL.t rfl) (by first | assumption | exact hL.r rfl | exact hL.2.2.2.2.2) ?_
    refine xp_gfa rfl rfl (by decide) (by decide) (by first | assumption | exact hL.t rfl) (by first | assumption | exact hL.r rfl | exact hL.2.2.2.2.2) ?_
    refine xp_iconst (n := 0) rfl (by decide) ?_
    refine xp_aald rfl (by first | assumption | exact hL.t rfl) (by decide) (by decide) (by omega) (by omega) (by first | assumption | exact hL.r rfl | exact hL.2.2.2.2.2) ?_
    refine xp_iconst (n := 0) rfl (by decide) ?_
    refine xp_iconst (n := 0) rfl (by decide) ?_
    refine xp_iv rfl rfl (Nat.le_of_ble_eq_true rfl) (by decide) (by decide) (by decide) (Nat.le_of_ble_eq_true rfl) rfl (xrcv1 (by decide) (by first | assumption | exact hL.t rfl)) (c94 hS) rfl ?_
    show xP _ _ _ _ _ _ (xm _ _ _ (aEnd (aClear w (aBe0 w A)) (w + 11) 0 0)) _
    refine xp_aload_n rfl rfl ?_
    refine xp_gfa rfl rfl (by decide) (by decide) (by first | assumption | exact hL.t rfl) (by first | assumption | exact hL.r rfl | exact hL.2.2.2.2.2) ?_
    refine xp_gfa rfl rfl (by decide) (by decide) (by first | assumption | exact hL.t rfl) (by first | assumption | exact hL.r rfl | exact hL.2.2.2.2.2) ?_
    refine xp_iconst (n := 0) rfl (by decide) ?_
    refine xp_aald rfl (by first | assumption | exact hL.t rfl) (by decide) (by decide) (by omega) (by omega) (by first | assumption | exact hL.r rfl | exact hL.2.2.2.2.2) ?_
    refine xp_iload_n rfl rfl ?_
    refine xp_iv rfl rfl (Nat.le_of_ble_eq_true rfl) (by decide) (by decide) (by decide) (Nat.le_of_ble_eq_true rfl) rfl (xrcv1 (by decide) (by first | assumption | exact hL.t rfl)) (c95 hS (by rw [ed]; omega)) rfl ?_
    rw [e0]
    show xP _ _ _ _ _ _ (xm _ _ _ (aBe1 w A f)) _
    refine xp_astore rfl (by decide) ?_
    refine xp_aload_n rfl rfl ?_
    refine xp_gfa rfl rfl (by decide) (by decide) (by first | assumption | exact hL.t rfl) (by first | assumption | exact hL.r rfl | exact hL.2.2.2.2.2) ?_
    refine xp_gfa rfl rfl (by decide) (by decide) (by first | assumption | exact hL.t rfl) (by first | assumption | exact hL.r rfl | exact hL.2.2.2.2.2) ?_
    refine xp_iload_n rfl rfl ?_
    refine xp_iald rfl (by first | assumption | exact hL.t rfl) (by omega) (by omega) ?_
    rw [kk]
    refine xp_ifle 97 rfl (by decide) (by omega) (fun h82 => ?_) (fun h82 => ?_)
    · skip
      refine xp_aload_n rfl rfl ?_
      refine xp_gfa rfl rfl (by decide) (by decide) (by first | assumption | exact hL.t rfl) (by first | assumption | exact hL.r rfl | exact hL.2.2.2.2.2) ?_
      refine xp_gfa rfl rfl (by decide) (by decide) (by first | assumption | exact hL.t rfl) (by first | assumption | exact hL.r rfl | exact hL.2.2.2.2.2) ?_
      refine xp_iload_n rfl rfl ?_
      refine xp_iald rfl (by first | assumption | exact hL.t rfl) (by omega) (by omega) ?_
      rw [kk]
      refine xp_iconst (n := 1) rfl (by decide) ?_
      refine xp_icle 122 rfl (by decide) (by omega) (by omega) (fun h107 => ?_) (fun h107 => ?_)
      · skip
        refine xp_return rfl (by decide) (by decide) (by decide) ?_
        rfl
      · exfalso; omega
    · exfalso; omega
  · by_cases q1 : A.1 2 f = 1
    · rw [if_neg q0, if_pos q1]
      refine xF_eq (xF_p (Nat.le_of_ble_eq_true rfl) ?_)
      refine xp_aload_n rfl rfl ?_
      refine xp_iconst (n := 0) rfl (by decide) ?_
      refine xp_pfi rfl rfl (by decide) (by decide) (by decide) (by first | assumption | exact hL.t rfl) ?_
      refine xp_aload_n rfl rfl ?_
      refine xp_iconst (n := 0) rfl (by decide) ?_
      refine xp_pfi rfl rfl (by decide) (by decide) (by decide) (by first | assumption | exact hL.t rfl) ?_
      refine xp_aload_n rfl rfl ?_
      refine xp_gfa rfl rfl (by decide) (by decide) (by first | assumption | exact hL.t rfl) (by first | assumption | exact hL.r rfl | exact hL.2.2.2.2.2) ?_
      refine xp_iconst (n := 1) rfl (by decide) ?_
      refine xp_pfi rfl rfl (by decide) (by decide) (by decide) (by first | assumption | exact hL.t rfl) ?_
      refine xp_aload_n rfl rfl ?_
      refine xp_gfa rfl rfl (by decide) (by decide) (by first | assumption | exact hL.t rfl) (by first | assumption | exact hL.r rfl | exact hL.2.2.2.2.2) ?_
      refine xp_iconst (n := 0) rfl (by decide) ?_
      refine xp_pfi rfl rfl (by decide) (by decide) (by decide) (by first | assumption | exact hL.t rfl) ?_
      refine xp_aload_n rfl rfl ?_
      refine xp_gfa rfl rfl (by decide) (by decide) (by first | assumption | exact hL.t rfl) (by first | assumption | exact hL.r rfl | exact hL.2.2.2.2.2) ?_
      refine xp_iconst (n := 0) rfl (by decide) ?_
      refine xp_pfi rfl rfl (by decide) (by decide) (by decide) (by first | assumption | exact hL.t rfl) ?_
      refine xp_aload_n rfl rfl ?_
      refine xp_gfa rfl rfl (by decide) (by decide) (by first | assumption | exact hL.t rfl) (by first | assumption | exact hL.r rfl | exact hL.2.2.2.2.2) ?_
      refine xp_gfa rfl rfl (by decide) (by decide) (by first | assumption | exact hL.t rfl) (by first | assumption | exact hL.r rfl | exact hL.2.2.2.2.2) ?_
      refine xp_iv rfl rfl (Nat.le_of_ble_eq_true rfl) (by decide) (by decide) (by decide) (Nat.le_of_ble_eq_true rfl) rfl (xrcv1 (by decide) (by first | assumption | exact hL.t rfl)) (c59 hH) rfl ?_
      show xP _ _ _ _ _ _ (xm _ _ _ (aClear w (aBe0 w A))) _
      refine xp_aload_n rfl rfl ?_
      refine xp_gfa rfl rfl (by decide) (by decide) (by first | assumption | exact hL.t rfl) (by first | assumption | exact hL.r rfl | exact hL.2.2.2.2.2) ?_
      refine xp_gfa rfl rfl (by decide) (by decide) (by first | assumption | exact hL.t rfl) (by first | assumption | exact hL.r rfl | exact hL.2.2.2.2.2) ?_
      refine xp_iconst (n := 0) rfl (by decide) ?_
      refine xp_aald rfl (by first | assumption | exact hL.t rfl) (by decide) (by decide) (by omega) (by omega) (by first | assumption | exact hL.r rfl | exact hL.2.2.2.2.2) ?_
      refine xp_iconst (n := 0) rfl (by decide) ?_
      refine xp_iconst (n := 0) rfl (by decide) ?_
      refine xp_iv rfl rfl (Nat.le_of_ble_eq_true rfl) (by decide) (by decide) (by decide) (Nat.le_of_ble_eq_true rfl) rfl (xrcv1 (by decide) (by first | assumption | exact hL.t rfl)) (c94 hS) rfl ?_
      show xP _ _ _ _ _ _ (xm _ _ _ (aEnd (aClear w (aBe0 w A)) (w + 11) 0 0)) _
      refine xp_aload_n rfl rfl ?_
      refine xp_gfa rfl rfl (by decide) (by decide) (by first | assumption | exact hL.t rfl) (by first | assumption | exact hL.r rfl | exact hL.2.2.2.2.2) ?_
      refine xp_gfa rfl rfl (by decide) (by decide) (by first | assumption | exact hL.t rfl) (by first | assumption | exact hL.r rfl | exact hL.2.2.2.2.2) ?_
      refine xp_iconst (n := 0) rfl (by decide) ?_
      refine xp_aald rfl (by first | assumption | exact hL.t rfl) (by decide) (by decide) (by omega) (by omega) (by first | assumption | exact hL.r rfl | exact hL.2.2.2.2.2) ?_
      refine xp_iload_n rfl rfl ?_
      refine xp_iv rfl rfl (Nat.le_of_ble_eq_true rfl) (by decide) (by decide) (by decide) (Nat.le_of_ble_eq_true rfl) rfl (xrcv1 (by decide) (by first | assumption | exact hL.t rfl)) (c95 hS (by rw [ed]; omega)) rfl ?_
      rw [e0]
      show xP _ _ _ _ _ _ (xm _ _ _ (aBe1 w A f)) _
      refine xp_astore rfl (by decide) ?_
      refine xp_aload_n rfl rfl ?_
      refine xp_gfa rfl rfl (by decide) (by decide) (by first | assumption | exact hL.t rfl) (by first | assumption | exact hL.r rfl | exact hL.2.2.2.2.2) ?_
      refine xp_gfa rfl rfl (by decide) (by decide) (by first | assumption | exact hL.t rfl) (by first | assumption | exact hL.r rfl | exact hL.2.2.2.2.2) ?_
      refine xp_iload_n rfl rfl ?_
      refine xp_iald rfl (by first | assumption | exact hL.t rfl) (by omega) (by omega) ?_
      rw [kk]
      refine xp_ifle 97 rfl (by decide) (by omega) (fun h82 => ?_) (fun h82 => ?_)
      · exfalso; omega
      · skip
        refine xp_aload rfl rfl ?_
        refine xp_gfa rfl rfl (by decide) (by decide) (by first | assumption | exact hL.t rfl) (by first | assumption | exact hL.r rfl | exact hL.2.2.2.2.2) ?_
        refine xp_iconst (n := 1) rfl (by decide) ?_
        refine xp_iconst (n := 1) rfl (by decide) ?_
        refine xp_iload_n rfl rfl ?_
        refine xp_i2l rfl ?_
        refine xp_iv rfl rfl (Nat.le_of_ble_eq_true rfl) (by decide) (by decide) (by decide) (Nat.le_of_ble_eq_true rfl) rfl (xrcv1 (by decide) (by first | assumption | exact hL.t rfl)) (c23 g3 (by omega) (by omega)) rfl ?_
        show xP _ _ _ _ _ _ (xm _ _ _ (aCellI (aBe1 w A f) (w + 16) 1 x.toInt64)) _
        refine xp_aload_n rfl rfl ?_
        refine xp_gfa rfl rfl (by decide) (by decide) (by first | assumption | exact hL.t rfl) (by first | assumption | exact hL.r rfl | exact hL.2.2.2.2.2) ?_
        refine xp_gfa rfl rfl (by decide) (by decide) (by first | assumption | exact hL.t rfl) (by first | assumption | exact hL.r rfl | exact hL.2.2.2.2.2) ?_
        refine xp_iload_n rfl rfl ?_
        refine xp_iald rfl (by first | assumption | exact hL.t rfl) (by omega) (by omega) ?_
        rw [kc]
        refine xp_iconst (n := 1) rfl (by decide) ?_
        refine xp_icle 122 rfl (by decide) (by omega) (by omega) (fun h107 => ?_) (fun h107 => ?_)
        · skip
          refine xp_return rfl (by decide) (by decide) (by decide) ?_
          rfl
        · exfalso; omega
    · rw [if_neg q0, if_neg q1]
      refine xF_eq (xF_p (Nat.le_of_ble_eq_true rfl) ?_)
      refine xp_aload_n rfl rfl ?_
      refine xp_iconst (n := 0) rfl (by decide) ?_
      refine xp_pfi rfl rfl (by decide) (by decide) (by decide) (by first | assumption | exact hL.t rfl) ?_
      refine xp_aload_n rfl rfl ?_
      refine xp_iconst (n := 0) rfl (by decide) ?_
      refine xp_pfi rfl rfl (by decide) (by decide) (by decide) (by first | assumption | exact hL.t rfl) ?_
      refine xp_aload_n rfl rfl ?_
      refine xp_gfa rfl rfl (by decide) (by decide) (by first | assumption | exact hL.t rfl) (by first | assumption | exact hL.r rfl | exact hL.2.2.2.2.2) ?_
      refine xp_iconst (n := 1) rfl (by decide) ?_
      refine xp_pfi rfl rfl (by decide) (by decide) (by decide) (by first | assumption | exact hL.t rfl) ?_
      refine xp_aload_n rfl rfl ?_
      refine xp_gfa rfl rfl (by decide) (by decide) (by first | assumption | exact hL.t rfl) (by first | assumption | exact hL.r rfl | exact hL.2.2.2.2.2) ?_
      refine xp_iconst (n := 0) rfl (by decide) ?_
      refine xp_pfi rfl rfl (by decide) (by decide) (by decide) (by first | assumption | exact hL.t rfl) ?_
      refine xp_aload_n rfl rfl ?_
      refine xp_gfa rfl rfl (by decide) (by decide) (by first | assumption | exact hL.t rfl) (by first | assumption | exact hL.r rfl | exact hL.2.2.2.2.2) ?_
      refine xp_iconst (n := 0) rfl (by decide) ?_
      refine xp_pfi rfl rfl (by decide) (by decide) (by decide) (by first | assumption | exact hL.t rfl) ?_
      refine xp_aload_n rfl rfl ?_
      refine xp_gfa rfl rfl (by decide) (by decide) (by first | assumption | exact hL.t rfl) (by first | assumption | exact hL.r rfl | exact hL.2.2.2.2.2) ?_
      refine xp_gfa rfl rfl (by decide) (by decide) (by first | assumption | exact hL.t rfl) (by first | assumption | exact hL.r rfl | exact hL.2.2.2.2.2) ?_
      refine xp_iv rfl rfl (Nat.le_of_ble_eq_true rfl) (by decide) (by decide) (by decide) (Nat.le_of_ble_eq_true rfl) rfl (xrcv1 (by decide) (by first | assumption | exact hL.t rfl)) (c59 hH) rfl ?_
      show xP _ _ _ _ _ _ (xm _ _ _ (aClear w (aBe0 w A))) _
      refine xp_aload_n rfl rfl ?_
      refine xp_gfa rfl rfl (by decide) (by decide) (by first | assumption | exact hL.t rfl) (by first | assumption | exact hL.r rfl | exact hL.2.2.2.2.2) ?_
      refine xp_gfa rfl rfl (by decide) (by decide) (by first | assumption | exact hL.t rfl) (by first | assumption | exact hL.r rfl | exact hL.2.2.2.2.2) ?_
      refine xp_iconst (n := 0) rfl (by decide) ?_
      refine xp_aald rfl (by first | assumption | exact hL.t rfl) (by decide) (by decide) (by omega) (by omega) (by first | assumption | exact hL.r rfl | exact hL.2.2.2.2.2) ?_
      refine xp_iconst (n := 0) rfl (by decide) ?_
      refine xp_iconst (n := 0) rfl (by decide) ?_
      refine xp_iv rfl rfl (Nat.le_of_ble_eq_true rfl) (by decide) (by decide) (by decide) (Nat.le_of_ble_eq_true rfl) rfl (xrcv1 (by decide) (by first | assumption | exact hL.t rfl)) (c94 hS) rfl ?_
      show xP _ _ _ _ _ _ (xm _ _ _ (aEnd (aClear w (aBe0 w A)) (w + 11) 0 0)) _
      refine xp_aload_n rfl rfl ?_
      refine xp_gfa rfl rfl (by decide) (by decide) (by first | assumption | exact hL.t rfl) (by first | assumption | exact hL.r rfl | exact hL.2.2.2.2.2) ?_
      refine xp_gfa rfl rfl (by decide) (by decide) (by first | assumption | exact hL.t rfl) (by first | assumption | exact hL.r rfl | exact hL.2.2.2.2.2) ?_
      refine xp_iconst (n := 0) rfl (by decide) ?_
      refine xp_aald rfl (by first | assumption | exact hL.t rfl) (by decide) (by decide) (by omega) (by omega) (by first | assumption | exact hL.r rfl | exact hL.2.2.2.2.2) ?_
      refine xp_iload_n rfl rfl ?_
      refine xp_iv rfl rfl (Nat.le_of_ble_eq_true rfl) (by decide) (by decide) (by decide) (Nat.le_of_ble_eq_true rfl) rfl (xrcv1 (by decide) (by first | assumption | exact hL.t rfl)) (c95 hS (by rw [ed]; omega)) rfl ?_
      rw [e0]
      show xP _ _ _ _ _ _ (xm _ _ _ (aBe1 w A f)) _
      refine xp_astore rfl (by decide) ?_
      refine xp_aload_n rfl rfl ?_
      refine xp_gfa rfl rfl (by decide) (by decide) (by first | assumption | exact hL.t rfl) (by first | assumption | exact hL.r rfl | exact hL.2.2.2.2.2) ?_
      refine xp_gfa rfl rfl (by decide) (by decide) (by first | assumption | exact hL.t rfl) (by first | assumption | exact hL.r rfl | exact hL.2.2.2.2.2) ?_
      refine xp_iload_n rfl rfl ?_
      refine xp_iald rfl (by first | assumption | exact hL.t rfl) (by omega) (by omega) ?_
      rw [kk]
      refine xp_ifle 97 rfl (by decide) (by omega) (fun h82 => ?_) (fun h82 => ?_)
      · exfalso; omega
      · skip
        refine xp_aload rfl rfl ?_
        refine xp_gfa rfl rfl (by decide) (by decide) (by first | assumption | exact hL.t rfl) (by first | assumption | exact hL.r rfl | exact hL.2.2.2.2.2) ?_
        refine xp_iconst (n := 1) rfl (by decide) ?_
        refine xp_iconst (n := 1) rfl (by decide) ?_
        refine xp_iload_n rfl rfl ?_
        refine xp_i2l rfl ?_
        refine xp_iv rfl rfl (Nat.le_of_ble_eq_true rfl) (by decide) (by decide) (by decide) (Nat.le_of_ble_eq_true rfl) rfl (xrcv1 (by decide) (by first | assumption | exact hL.t rfl)) (c23 g3 (by omega) (by omega)) rfl ?_
        show xP _ _ _ _ _ _ (xm _ _ _ (aCellI (aBe1 w A f) (w + 16) 1 x.toInt64)) _
        refine xp_aload_n rfl rfl ?_
        refine xp_gfa rfl rfl (by decide) (by decide) (by first | assumption | exact hL.t rfl) (by first | assumption | exact hL.r rfl | exact hL.2.2.2.2.2) ?_
        refine xp_gfa rfl rfl (by decide) (by decide) (by first | assumption | exact hL.t rfl) (by first | assumption | exact hL.r rfl | exact hL.2.2.2.2.2) ?_
        refine xp_iload_n rfl rfl ?_
        refine xp_iald rfl (by first | assumption | exact hL.t rfl) (by omega) (by omega) ?_
        rw [kc]
        refine xp_iconst (n := 1) rfl (by decide) ?_
        refine xp_icle 122 rfl (by decide) (by omega) (by omega) (fun h107 => ?_) (fun h107 => ?_)
        · exfalso; omega
        · skip
          refine xp_aload rfl rfl ?_
          refine xp_gfa rfl rfl (by decide) (by decide) (by first | assumption | exact hL.t rfl) (by first | assumption | exact hL.r rfl | exact hL.2.2.2.2.2) ?_
          refine xp_iconst (n := 2) rfl (by decide) ?_
          refine xp_iconst (n := 1) rfl (by decide) ?_
          refine xp_iload_n rfl rfl ?_
          refine xp_i2l rfl ?_
          refine xp_iv rfl rfl (Nat.le_of_ble_eq_true rfl) (by decide) (by decide) (by decide) (Nat.le_of_ble_eq_true rfl) rfl (xrcv1 (by decide) (by first | assumption | exact hL.t rfl)) (c23 g3 (by omega) (by omega)) rfl ?_
          refine xp_return rfl (by decide) (by decide) (by decide) ?_
          rfl
theorem aBeg_2 {w f : Nat} {A : xQ} {x y : Int64} (hw : w = 12 ∨ w = 103) : (aBeg w A f x y).1 2 f = A.1 2 f := by
  obtain ⟨k1, _⟩ := aBe1_r w A f hw
  have kk : (aBe1 w A f).1 2 f = A.1 2 f := k1 _ _ (by omega)
  unfold aBeg
  split
  · exact kk
  · split
    · rw [aCellI_k (by omega)]
      exact kk
    · rw [aCellI_k (by omega), aCellI_k (by omega)]
      exact kk
theorem c4 {z : Nat} {T : Nat → Option xT} {R : Nat → Nat → Option Nat} {A : xQ} {w f : Nat} {x y : Int32} (hL : xLay T R w) (hf : f < 6) (h2 : A.1 2 f ≤ 2) : xF 4 [.ref 0, .int (nI f), .int x, .int y] (xm z T R A) (.inr (some (.int (nI (A.1 2 f)))), xm z T R (aBeg w A f x.toInt64 y.toInt64)) := by
  have i6 : (if f < 6 then 1 else 0) = 1 := if_pos hf
  have e2 := aBeg_2 (A := A) (f := f) (x := x.toInt64) (y := y.toInt64) hL.1
  refine xF_eq (xF_p (Nat.le_of_ble_eq_true rfl) ?_)
  refine xp_iload_n rfl rfl ?_
  refine xp_is rfl rfl rfl (Nat.le_of_ble_eq_true rfl) (by decide) (by decide) (by decide) (Nat.le_of_ble_eq_true rfl) rfl (xrcv0 (by decide) _ _) (c15 (by omega)) rfl ?_
  rw [i6]
  refine xp_ifne 15 rfl (by decide) (by omega) (fun h4 => ?_) (fun h4 => ?_)
  · skip
    refine xp_aload_n rfl rfl ?_
    refine xp_gfa rfl rfl (by decide) (by decide) (by first | assumption | exact hL.t rfl) (by first | assumption | exact hL.r rfl | exact hL.2.2.2.2.2) ?_
    refine xp_iload_n rfl rfl ?_
    refine xp_iload_n rfl rfl ?_
    refine xp_iload_n rfl rfl ?_
    refine xp_iv rfl rfl (Nat.le_of_ble_eq_true rfl) (by decide) (by decide) (by decide) (Nat.le_of_ble_eq_true rfl) rfl (xrcv1 (by decide) (by first | assumption | exact hL.t rfl)) (c29 hL hf h2) rfl ?_
    refine xp_aload_n rfl rfl ?_
    refine xp_gfa rfl rfl (by decide) (by decide) (by first | assumption | exact hL.t rfl) (by first | assumption | exact hL.r rfl | exact hL.2.2.2.2.2) ?_
    refine xp_gfa rfl rfl (by decide) (by decide) (by first | assumption | exact hL.t rfl) (by first | assumption | exact hL.r rfl | exact hL.2.2.2.2.2) ?_
    refine xp_iload_n rfl rfl ?_
    refine xp_iald rfl (by first | assumption | exact hL.t rfl) (by omega) (by omega) ?_
    rw [e2]
    refine xp_ireturn rfl (by decide) (by decide) (by decide) ?_
    rfl
  · exfalso; omega
theorem c4a {z : Nat} {T : Nat → Option xT} {R : Nat → Nat → Option Nat} {A : xQ} {w f : Nat} {x y : Int32} (hL : xLay T R w) (hf : f < 2 ^ 32) (hq : ¬ f < 6) : xF 4 [.ref 0, .int (nI f), .int x, .int y] (xm z T R A) (.inl 0, xm (z + 1) T R A) := by
  have i6 : (if f < 6 then 1 else 0) = 0 := if_neg hq
  refine xF_eq (xF_p (Nat.le_of_ble_eq_true rfl) ?_)
  refine xp_iload_n rfl rfl ?_
  refine xp_is rfl rfl rfl (Nat.le_of_ble_eq_true rfl) (by decide) (by decide) (by decide) (Nat.le_of_ble_eq_true rfl) rfl (xrcv0 (by decide) _ _) (c15 hf) rfl ?_
  rw [i6]
  refine xp_ifne 15 rfl (by decide) (by omega) (fun h4 => ?_) (fun h4 => ?_)
  · exfalso; omega
  · skip
    refine xp_throw rfl rfl (Nat.le_of_ble_eq_true rfl) (by decide) (by decide) (by decide) ?_
    rfl
def mBe0 (B : xQ) : xQ := xsI (xsI (xsI (xsI (xsI (xsI (xsI (xsI B 189 14 0) 189 16 1) 189 9 1) 189 10 0) 189 11 0) 189 12 0) 189 13 0) 189 15 0
def mBe1 (B : xQ) (f : Nat) : xQ := mBegin (xsI (xsI (xsI (xit (fun i B => xsI B 208 i 0) 24 0 (mBe0 B)) 199 0 0) 200 0 0) 201 0 0) 0 f 4294967295
def mBeg (B : xQ) (f n : Nat) (x y : Int64) : xQ := if n = 0 then mBe1 B f else if n = 1 then mSet (mBe1 B f) 0 1 x else mSet (mSet (mBe1 B f) 0 1 x) 1 1 y
theorem l127 {z : Nat} {T : Nat → Option xT} {R : Nat → Nat → Option Nat} {w f : Nat} {x y : Int32} {P : xR → Prop} (hL : xLay T R w) : ∀ (n i : Nat) (B : xQ), i + n = 24 → xP 127 79 [(0, .ref 189), (1, .int (nI f)), (2, .int x), (3, .int y)] [] 0 0 (xm z T R (xit (fun i B => xsI B 208 i 0) n i B)) P → xP 127 58 [(0, .ref 189), (1, .int (nI f)), (2, .int x), (3, .int y), (4, .int (nI i))] [] 0 0 (xm z T R B) P := by
  intro n
  induction n with
  | zero =>
    intro i B hi hx
    refine xp_iload rfl rfl ?_
    refine xp_bipush (n := 24) rfl (by decide) ?_
    refine xp_icge 79 rfl (by decide) (by omega) (by omega) (fun h62 => ?_) (fun h62 => ?_)
    · skip
      refine xp_weak [(0, .ref 189), (1, .int (nI f)), (2, .int x), (3, .int y)] (xle_cons rfl (xle_cons rfl (xle_cons rfl (xle_cons rfl (xle_nil _))))) (by simp [xnd]) ?_
      exact hx
    · exfalso; omega
  | succ n ih =>
    intro i B hi hx
    refine xp_iload rfl rfl ?_
    refine xp_bipush (n := 24) rfl (by decide) ?_
    refine xp_icge 79 rfl (by decide) (by omega) (by omega) (fun h62 => ?_) (fun h62 => ?_)
    · exfalso; omega
    · skip
      refine xp_aload_n rfl rfl ?_
      refine xp_gfa rfl rfl (by decide) (by decide) (by first | assumption | exact hL.t rfl) (by first | assumption | exact hL.r rfl | exact hL.2.2.2.2.2) ?_
      refine xp_iload rfl rfl ?_
      refine xp_iconst (n := 0) rfl (by decide) ?_
      refine xp_bast rfl (by first | assumption | exact hL.t rfl) (by omega) (by omega) (by omega) ?_
      refine xp_iinc rfl rfl (by decide) (nI_inc _) ?_
      refine xp_goto 58 rfl (by decide) ?_
      refine xp_weak [(0, .ref 189), (1, .int (nI f)), (2, .int x), (3, .int y), (4, .int (nI (i + 1)))] (xle_cons rfl (xle_cons rfl (xle_cons rfl (xle_cons rfl (xle_cons rfl (xle_nil _)))))) (by simp [xnd]) ?_
      exact ih (i + 1) _ (by omega) hx
theorem mBe1_r (B : xQ) (f : Nat) : (∀ a j, (190 ≤ a ∧ a ≤ 198) ∨ (210 ≤ a ∧ a ≤ 212) ∨ a = 214 ∨ (a = 189 ∧ (j = 35 ∨ j = 37)) → (mBe1 B f).1 a j = B.1 a j) ∧ (∀ a j, a = 213 → (mBe1 B f).2 a j = B.2 a j) ∧ ((mBe1 B f).1 189 14 = 0 ∧ (mBe1 B f).1 189 16 = 1 ∧ (mBe1 B f).1 189 9 = 1 ∧ (mBe1 B f).1 189 10 = 0 ∧ (mBe1 B f).1 189 11 = 0 ∧ (mBe1 B f).1 189 12 = 0 ∧ (mBe1 B f).1 189 13 = 0 ∧ (mBe1 B f).1 189 15 = 0) ∧ (∀ o, o < 24 → (mBe1 B f).1 208 o = 0) ∧ ((mBe1 B f).1 199 0 = 0 ∧ (mBe1 B f).1 200 0 = 0 ∧ (mBe1 B f).1 201 0 = 1) ∧ ((mBe1 B f).1 202 0 = f ∧ (mBe1 B f).1 203 0 = 0 ∧ (mBe1 B f).1 204 0 = 4294967295 ∧ (mBe1 B f).1 205 0 = 0) ∧ (∀ i, i < 4 → (mBe1 B f).1 206 i = 0) ∧ ∀ i, i < 4 → (mBe1 B f).2 207 i = 0 := by
  obtain ⟨z1, z2⟩ := xit_fill 208 0 24 0 (mBe0 B)
  unfold mBe1
  generalize xit (fun i B => xsI B 208 i 0) 24 0 (mBe0 B) = X at z1 z2
  have d0 : (xsI (xsI (xsI X 199 0 0) 200 0 0) 201 0 0).1 201 0 = 0 := xsI_eq
  obtain ⟨p1, p2, p3, p4, p5, p6, p7, p8, p9⟩ := mBegin_r (xsI (xsI (xsI X 199 0 0) 200 0 0) 201 0 0) 0 f 4294967295
  rw [d0] at p1 p2 p3 p4 p5 p6 p7 p8 p9
  generalize mBegin (xsI (xsI (xsI X 199 0 0) 200 0 0) 201 0 0) 0 f 4294967295 = Y at p1 p2 p3 p4 p5 p6 p7 p8 p9
  have y1 : ∀ a j, (a < 199 ∨ 208 ≤ a) → Y.1 a j = if a = 208 ∧ 0 ≤ j ∧ j < 0 + 24 then 0 else (mBe0 B).1 a j := fun a j q => by rw [p1 a j (by omega) (by omega) (by omega), xsI_ne (by omega), xsI_ne (by omega), xsI_ne (by omega), z2]
  have n1 : ∀ a j, (a ≠ 189 ∨ j = 35 ∨ j = 37) → (mBe0 B).1 a j = B.1 a j := fun a j q => by unfold mBe0; rw [xsI_ne (by omega), xsI_ne (by omega), xsI_ne (by omega), xsI_ne (by omega), xsI_ne (by omega), xsI_ne (by omega), xsI_ne (by omega), xsI_ne (by omega)]
  refine ⟨fun a j q => by rw [y1 a j (by omega), if_neg (by omega), n1 a j (by omega)], fun a j q => by rw [p2 a j (by omega)]; show X.2 a j = _; rw [z1]; rfl, ?_, fun o ho => by rw [y1 208 o (by omega), if_pos ⟨rfl, by omega, by omega⟩], ⟨?_, ?_, p3⟩, ⟨p4, p5, p6, p7⟩, fun i hi => ?_, fun i hi => ?_⟩
  · refine ⟨?_, ?_, ?_, ?_, ?_, ?_, ?_, ?_⟩ <;> (rw [y1 _ _ (by omega), if_neg (by omega)]; unfold mBe0)
    · rw [xsI_ne (by omega), xsI_ne (by omega), xsI_ne (by omega), xsI_ne (by omega), xsI_ne (by omega), xsI_ne (by omega), xsI_ne (by omega), xsI_eq]
    · rw [xsI_ne (by omega), xsI_ne (by omega), xsI_ne (by omega), xsI_ne (by omega), xsI_ne (by omega), xsI_ne (by omega), xsI_eq]
    · rw [xsI_ne (by omega), xsI_ne (by omega), xsI_ne (by omega), xsI_ne (by omega), xsI_ne (by omega), xsI_eq]
    · rw [xsI_ne (by omega), xsI_ne (by omega), xsI_ne (by omega), xsI_ne (by omega), xsI_eq]
    · rw [xsI_ne (by omega), xsI_ne (by omega), xsI_ne (by omega), xsI_eq]
    · rw [xsI_ne (by omega), xsI_ne (by omega), xsI_eq]
    · rw [xsI_ne (by omega), xsI_eq]
    · exact xsI_eq
  · rw [p1 _ _ (by omega) (by omega) (by omega), xsI_ne (by omega), xsI_ne (by omega), xsI_eq]
  · rw [p1 _ _ (by omega) (by omega) (by omega), xsI_ne (by omega), xsI_eq]
  · have := p8 i hi
    rw [show 10 * (5 * 0 + 0) + i = i by omega] at this
    exact this
  · have := p9 i hi
    rw [show 10 * (5 * 0 + 0) + i = i by omega] at this
    exact this
theorem m127 {z : Nat} {T : Nat → Option xT} {R : Nat → Nat → Option Nat} {B : xQ} {w f : Nat} {x y : Int32} (hL : xLay T R w) (hf : f < 6) (h2 : B.1 190 f ≤ 2) : xF 127 [.ref 189, .int (nI f), .int x, .int y] (xm z T R B) (.inr (some (.int (nI (B.1 190 f)))), xm z T R (mBeg B f (B.1 190 f) x.toInt64 y.toInt64)) := by
  have e1 : mIn f 0 5 = 1 := by rw [mIn_any (by omega) (by omega) (by omega), if_pos (by omega)]
  obtain ⟨k1, k2⟩ := mBe1_r B f
  have kk : (mBe1 B f).1 190 f = B.1 190 f := k1 _ _ (by omega)
  have kc : ∀ v, (mSet (mBe1 B f) 0 1 v).1 190 f = B.1 190 f := fun v => by rw [mSet_1 (by omega)]; exact kk
  have kd : ∀ v u, (mSet (mSet (mBe1 B f) 0 1 v) 1 1 u).1 190 f = B.1 190 f := fun v u => by rw [mSet_1 (by omega)]; exact kc v
  unfold mBeg
  by_cases q0 : B.1 190 f = 0
  · rw [if_pos q0]
    refine xF_eq (xF_p (Nat.le_of_ble_eq_true rfl) ?_)
    refine xp_iload_n rfl rfl ?_
    refine xp_iconst (n := 0) rfl (by decide) ?_
    refine xp_iconst (n := 5) rfl (by decide) ?_
    refine xp_is rfl rfl rfl (Nat.le_of_ble_eq_true rfl) (by decide) (by decide) (by decide) (Nat.le_of_ble_eq_true rfl) rfl (xrcv0 (by decide) _ _) (m112 (by omega) (by omega) (by omega)) rfl ?_
    rw [e1]
    refine xp_ifne 15 rfl (by decide) (by omega) (fun h6 => ?_) (fun h6 => ?_)
    · skip
      refine xp_aload_n rfl rfl ?_
      refine xp_iconst (n := 0) rfl (by decide) ?_
      refine xp_pfi rfl rfl (by decide) (by decide) (by decide) (by first | assumption | exact hL.t rfl) ?_
      refine xp_aload_n rfl rfl ?_
      refine xp_iconst (n := 1) rfl (by decide) ?_
      refine xp_pfz rfl rfl (by decide) (by decide) (by decide) (by first | assumption | exact hL.t rfl) (by omega) ?_
      refine xp_aload_n rfl rfl ?_
      refine xp_iconst (n := 1) rfl (by decide) ?_
      refine xp_pfi rfl rfl (by decide) (by decide) (by decide) (by first | assumption | exact hL.t rfl) ?_
      refine xp_aload_n rfl rfl ?_
      refine xp_iconst (n := 0) rfl (by decide) ?_
      refine xp_pfi rfl rfl (by decide) (by decide) (by decide) (by first | assumption | exact hL.t rfl) ?_
      refine xp_aload_n rfl rfl ?_
      refine xp_iconst (n := 0) rfl (by decide) ?_
      refine xp_pfi rfl rfl (by decide) (by decide) (by decide) (by first | assumption | exact hL.t rfl) ?_
      refine xp_aload_n rfl rfl ?_
      refine xp_iconst (n := 0) rfl (by decide) ?_
      refine xp_pfi rfl rfl (by decide) (by decide) (by decide) (by first | assumption | exact hL.t rfl) ?_
      refine xp_aload_n rfl rfl ?_
      refine xp_iconst (n := 0) rfl (by decide) ?_
      refine xp_pfi rfl rfl (by decide) (by decide) (by decide) (by first | assumption | exact hL.t rfl) ?_
      refine xp_aload_n rfl rfl ?_
      refine xp_iconst (n := 0) rfl (by decide) ?_
      refine xp_pfi rfl rfl (by decide) (by decide) (by decide) (by first | assumption | exact hL.t rfl) ?_
      refine xp_iconst (n := 0) rfl (by decide) ?_
      refine xp_istore rfl (by decide) ?_
      refine xp_weak [(0, .ref 189), (1, .int (nI f)), (2, .int x), (3, .int y), (4, .int (nI 0))] (xle_cons rfl (xle_cons rfl (xle_cons rfl (xle_cons rfl (xle_cons rfl (xle_nil _)))))) (by simp [xnd]) ?_
      refine l127 hL 24 0 _ (by omega) ?_
      refine xp_aload_n rfl rfl ?_
      refine xp_gfa rfl rfl (by decide) (by decide) (by first | assumption | exact hL.t rfl) (by first | assumption | exact hL.r rfl | exact hL.2.2.2.2.2) ?_
      refine xp_iconst (n := 0) rfl (by decide) ?_
      refine xp_iconst (n := 0) rfl (by decide) ?_
      refine xp_iast rfl (by first | assumption | exact hL.t rfl) (by omega) (by omega) ?_
      refine xp_aload_n rfl rfl ?_
      refine xp_gfa rfl rfl (by decide) (by decide) (by first | assumption | exact hL.t rfl) (by first | assumption | exact hL.r rfl | exact hL.2.2.2.2.2) ?_
      refine xp_iconst (n := 0) rfl (by decide) ?_
      refine xp_iconst (n := 0) rfl (by decide) ?_
      refine xp_iast rfl (by first | assumption | exact hL.t rfl) (by omega) (by omega) ?_
      refine xp_aload_n rfl rfl ?_
      refine xp_gfa rfl rfl (by decide) (by decide) (by first | assumption | exact hL.t rfl) (by first | assumption | exact hL.r rfl | exact hL.2.2.2.2.2) ?_
      refine xp_iconst (n := 0) rfl (by decide) ?_
      refine xp_iconst (n := 0) rfl (by decide) ?_
      refine xp_iast rfl (by first | assumption | exact hL.t rfl) (by omega) (by omega) ?_
      refine xp_aload_n rfl rfl ?_
      refine xp_iconst (n := 0) rfl (by decide) ?_
      refine xp_iload_n rfl rfl ?_
      refine xp_iconst (n := 4294967295) rfl (by decide) ?_
      refine xp_iv rfl rfl (Nat.le_of_ble_eq_true rfl) (by decide) (by decide) (by decide) (Nat.le_of_ble_eq_true rfl) rfl (xrcv1 (by decide) (by first | assumption | exact hL.t rfl)) (m125 hL (by omega) (by rw [xsI_eq]; omega)) rfl ?_
      show xP _ _ _ _ _ _ (xm _ _ _ (mBe1 B f)) _
      refine xp_aload_n rfl rfl ?_
      refine xp_gfa rfl rfl (by decide) (by decide) (by first | assumption | exact hL.t rfl) (by first | assumption | exact hL.r rfl | exact hL.2.2.2.2.2) ?_
      refine xp_iload_n rfl rfl ?_
      refine xp_iald rfl (by first | assumption | exact hL.t rfl) (by omega) (by omega) ?_
      rw [kk]
      refine xp_ifle 124 rfl (by decide) (by omega) (fun h113 => ?_) (fun h113 => ?_)
      · skip
        refine xp_aload_n rfl rfl ?_
        refine xp_gfa rfl rfl (by decide) (by decide) (by first | assumption | exact hL.t rfl) (by first | assumption | exact hL.r rfl | exact hL.2.2.2.2.2) ?_
        refine xp_iload_n rfl rfl ?_
        refine xp_iald rfl (by first | assumption | exact hL.t rfl) (by omega) (by omega) ?_
        rw [kk]
        refine xp_iconst (n := 1) rfl (by decide) ?_
        refine xp_icle 142 rfl (by decide) (by omega) (by omega) (fun h131 => ?_) (fun h131 => ?_)
        · skip
          refine xp_aload_n rfl rfl ?_
          refine xp_gfa rfl rfl (by decide) (by decide) (by first | assumption | exact hL.t rfl) (by first | assumption | exact hL.r rfl | exact hL.2.2.2.2.2) ?_
          refine xp_iload_n rfl rfl ?_
          refine xp_iald rfl (by first | assumption | exact hL.t rfl) (by omega) (by omega) ?_
          rw [kk]
          refine xp_ireturn rfl (by decide) (by decide) (by decide) ?_
          rfl
        · exfalso; omega
      · exfalso; omega
    · exfalso; omega
  · by_cases q1 : B.1 190 f = 1
    · rw [if_neg q0, if_pos q1]
      refine xF_eq (xF_p (Nat.le_of_ble_eq_true rfl) ?_)
      refine xp_iload_n rfl rfl ?_
      refine xp_iconst (n := 0) rfl (by decide) ?_
      refine xp_iconst (n := 5) rfl (by decide) ?_
      refine xp_is rfl rfl rfl (Nat.le_of_ble_eq_true rfl) (by decide) (by decide) (by decide) (Nat.le_of_ble_eq_true rfl) rfl (xrcv0 (by decide) _ _) (m112 (by omega) (by omega) (by omega)) rfl ?_
      rw [e1]
      refine xp_ifne 15 rfl (by decide) (by omega) (fun h6 => ?_) (fun h6 => ?_)
      · skip
        refine xp_aload_n rfl rfl ?_
        refine xp_iconst (n := 0) rfl (by decide) ?_
        refine xp_pfi rfl rfl (by decide) (by decide) (by decide) (by first | assumption | exact hL.t rfl) ?_
        refine xp_aload_n rfl rfl ?_
        refine xp_iconst (n := 1) rfl (by decide) ?_
        refine xp_pfz rfl rfl (by decide) (by decide) (by decide) (by first | assumption | exact hL.t rfl) (by omega) ?_
        refine xp_aload_n rfl rfl ?_
        refine xp_iconst (n := 1) rfl (by decide) ?_
        refine xp_pfi rfl rfl (by decide) (by decide) (by decide) (by first | assumption | exact hL.t rfl) ?_
        refine xp_aload_n rfl rfl ?_
        refine xp_iconst (n := 0) rfl (by decide) ?_
        refine xp_pfi rfl rfl (by decide) (by decide) (by decide) (by first | assumption | exact hL.t rfl) ?_
        refine xp_aload_n rfl rfl ?_
        refine xp_iconst (n := 0) rfl (by decide) ?_
        refine xp_pfi rfl rfl (by decide) (by decide) (by decide) (by first | assumption | exact hL.t rfl) ?_
        refine xp_aload_n rfl rfl ?_
        refine xp_iconst (n := 0) rfl (by decide) ?_
        refine xp_pfi rfl rfl (by decide) (by decide) (by decide) (by first | assumption | exact hL.t rfl) ?_
        refine xp_aload_n rfl rfl ?_
        refine xp_iconst (n := 0) rfl (by decide) ?_
        refine xp_pfi rfl rfl (by decide) (by decide) (by decide) (by first | assumption | exact hL.t rfl) ?_
        refine xp_aload_n rfl rfl ?_
        refine xp_iconst (n := 0) rfl (by decide) ?_
        refine xp_pfi rfl rfl (by decide) (by decide) (by decide) (by first | assumption | exact hL.t rfl) ?_
        refine xp_iconst (n := 0) rfl (by decide) ?_
        refine xp_istore rfl (by decide) ?_
        refine xp_weak [(0, .ref 189), (1, .int (nI f)), (2, .int x), (3, .int y), (4, .int (nI 0))] (xle_cons rfl (xle_cons rfl (xle_cons rfl (xle_cons rfl (xle_cons rfl (xle_nil _)))))) (by simp [xnd]) ?_
        refine l127 hL 24 0 _ (by omega) ?_
        refine xp_aload_n rfl rfl ?_
        refine xp_gfa rfl rfl (by decide) (by decide) (by first | assumption | exact hL.t rfl) (by first | assumption | exact hL.r rfl | exact hL.2.2.2.2.2) ?_
        refine xp_iconst (n := 0) rfl (by decide) ?_
        refine xp_iconst (n := 0) rfl (by decide) ?_
        refine xp_iast rfl (by first | assumption | exact hL.t rfl) (by omega) (by omega) ?_
        refine xp_aload_n rfl rfl ?_
        refine xp_gfa rfl rfl (by decide) (by decide) (by first | assumption | exact hL.t rfl) (by first | assumption | exact hL.r rfl | exact hL.2.2.2.2.2) ?_
        refine xp_iconst (n := 0) rfl (by decide) ?_
        refine xp_iconst (n := 0) rfl (by decide) ?_
        refine xp_iast rfl (by first | assumption | exact hL.t rfl) (by omega) (by omega) ?_
        refine xp_aload_n rfl rfl ?_
        refine xp_gfa rfl rfl (by decide) (by decide) (by first | assumption | exact hL.t rfl) (by first | assumption | exact hL.r rfl | exact hL.2.2.2.2.2) ?_
        refine xp_iconst (n := 0) rfl (by decide) ?_
        refine xp_iconst (n := 0) rfl (by decide) ?_
        refine xp_iast rfl (by first | assumption | exact hL.t rfl) (by omega) (by omega) ?_
        refine xp_aload_n rfl rfl ?_
        refine xp_iconst (n := 0) rfl (by decide) ?_
        refine xp_iload_n rfl rfl ?_
        refine xp_iconst (n := 4294967295) rfl (by decide) ?_
        refine xp_iv rfl rfl (Nat.le_of_ble_eq_true rfl) (by decide) (by decide) (by decide) (Nat.le_of_ble_eq_true rfl) rfl (xrcv1 (by decide) (by first | assumption | exact hL.t rfl)) (m125 hL (by omega) (by rw [xsI_eq]; omega)) rfl ?_
        show xP _ _ _ _ _ _ (xm _ _ _ (mBe1 B f)) _
        refine xp_aload_n rfl rfl ?_
        refine xp_gfa rfl rfl (by decide) (by decide) (by first | assumption | exact hL.t rfl) (by first | assumption | exact hL.r rfl | exact hL.2.2.2.2.2) ?_
        refine xp_iload_n rfl rfl ?_
        refine xp_iald rfl (by first | assumption | exact hL.t rfl) (by omega) (by omega) ?_
        rw [kk]
        refine xp_ifle 124 rfl (by decide) (by omega) (fun h113 => ?_) (fun h113 => ?_)
        · exfalso; omega
        · skip
          refine xp_aload_n rfl rfl ?_
          refine xp_iconst (n := 0) rfl (by decide) ?_
          refine xp_iconst (n := 1) rfl (by decide) ?_
          refine xp_iload_n rfl rfl ?_
          refine xp_i2l rfl ?_
          refine xp_iv rfl rfl (Nat.le_of_ble_eq_true rfl) (by decide) (by decide) (by decide) (Nat.le_of_ble_eq_true rfl) rfl (xrcv1 (by decide) (by first | assumption | exact hL.t rfl)) (m120 hL (by omega)) rfl ?_
          refine xp_aload_n rfl rfl ?_
          refine xp_gfa rfl rfl (by decide) (by decide) (by first | assumption | exact hL.t rfl) (by first | assumption | exact hL.r rfl | exact hL.2.2.2.2.2) ?_
          refine xp_iload_n rfl rfl ?_
          refine xp_iald rfl (by first | assumption | exact hL.t rfl) (by omega) (by omega) ?_
          rw [kc]
          refine xp_iconst (n := 1) rfl (by decide) ?_
          refine xp_icle 142 rfl (by decide) (by omega) (by omega) (fun h131 => ?_) (fun h131 => ?_)
          · skip
            refine xp_aload_n rfl rfl ?_
            refine xp_gfa rfl rfl (by decide) (by decide) (by first | assumption | exact hL.t rfl) (by first | assumption | exact hL.r rfl | exact hL.2.2.2.2.2) ?_
            refine xp_iload_n rfl rfl ?_
            refine xp_iald rfl (by first | assumption | exact hL.t rfl) (by omega) (by omega) ?_
            rw [kc]
            refine xp_ireturn rfl (by decide) (by decide) (by decide) ?_
            rfl
          · exfalso; omega
      · exfalso; omega
    · rw [if_neg q0, if_neg q1]
      refine xF_eq (xF_p (Nat.le_of_ble_eq_true rfl) ?_)
      refine xp_iload_n rfl rfl ?_
      refine xp_iconst (n := 0) rfl (by decide) ?_
      refine xp_iconst (n := 5) rfl (by decide) ?_
      refine xp_is rfl rfl rfl (Nat.le_of_ble_eq_true rfl) (by decide) (by decide) (by decide) (Nat.le_of_ble_eq_true rfl) rfl (xrcv0 (by decide) _ _) (m112 (by omega) (by omega) (by omega)) rfl ?_
      rw [e1]
      refine xp_ifne 15 rfl (by decide) (by omega) (fun h6 => ?_) (fun h6 => ?_)
      · skip
        refine xp_aload_n rfl rfl ?_
        refine xp_iconst (n := 0) rfl (by decide) ?_
        refine xp_pfi rfl rfl (by decide) (by decide) (by decide) (by first | assumption | exact hL.t rfl) ?_
        refine xp_aload_n rfl rfl ?_
        refine xp_iconst (n := 1) rfl (by decide) ?_
        refine xp_pfz rfl rfl (by decide) (by decide) (by decide) (by first | assumption | exact hL.t rfl) (by omega) ?_
        refine xp_aload_n rfl rfl ?_
        refine xp_iconst (n := 1) rfl (by decide) ?_
        refine xp_pfi rfl rfl (by decide) (by decide) (by decide) (by first | assumption | exact hL.t rfl) ?_
        refine xp_aload_n rfl rfl ?_
        refine xp_iconst (n := 0) rfl (by decide) ?_
        refine xp_pfi rfl rfl (by decide) (by decide) (by decide) (by first | assumption | exact hL.t rfl) ?_
        refine xp_aload_n rfl rfl ?_
        refine xp_iconst (n := 0) rfl (by decide) ?_
        refine xp_pfi rfl rfl (by decide) (by decide) (by decide) (by first | assumption | exact hL.t rfl) ?_
        refine xp_aload_n rfl rfl ?_
        refine xp_iconst (n := 0) rfl (by decide) ?_
        refine xp_pfi rfl rfl (by decide) (by decide) (by decide) (by first | assumption | exact hL.t rfl) ?_
        refine xp_aload_n rfl rfl ?_
        refine xp_iconst (n := 0) rfl (by decide) ?_
        refine xp_pfi rfl rfl (by decide) (by decide) (by decide) (by first | assumption | exact hL.t rfl) ?_
        refine xp_aload_n rfl rfl ?_
        refine xp_iconst (n := 0) rfl (by decide) ?_
        refine xp_pfi rfl rfl (by decide) (by decide) (by decide) (by first | assumption | exact hL.t rfl) ?_
        refine xp_iconst (n := 0) rfl (by decide) ?_
        refine xp_istore rfl (by decide) ?_
        refine xp_weak [(0, .ref 189), (1, .int (nI f)), (2, .int x), (3, .int y), (4, .int (nI 0))] (xle_cons rfl (xle_cons rfl (xle_cons rfl (xle_cons rfl (xle_cons rfl (xle_nil _)))))) (by simp [xnd]) ?_
        refine l127 hL 24 0 _ (by omega) ?_
        refine xp_aload_n rfl rfl ?_
        refine xp_gfa rfl rfl (by decide) (by decide) (by first | assumption | exact hL.t rfl) (by first | assumption | exact hL.r rfl | exact hL.2.2.2.2.2) ?_
        refine xp_iconst (n := 0) rfl (by decide) ?_
        refine xp_iconst (n := 0) rfl (by decide) ?_
        refine xp_iast rfl (by first | assumption | exact hL.t rfl) (by omega) (by omega) ?_
        refine xp_aload_n rfl rfl ?_
        refine xp_gfa rfl rfl (by decide) (by decide) (by first | assumption | exact hL.t rfl) (by first | assumption | exact hL.r rfl | exact hL.2.2.2.2.2) ?_
        refine xp_iconst (n := 0) rfl (by decide) ?_
        refine xp_iconst (n := 0) rfl (by decide) ?_
        refine xp_iast rfl (by first | assumption | exact hL.t rfl) (by omega) (by omega) ?_
        refine xp_aload_n rfl rfl ?_
        refine xp_gfa rfl rfl (by decide) (by decide) (by first | assumption | exact hL.t rfl) (by first | assumption | exact hL.r rfl | exact hL.2.2.2.2.2) ?_
        refine xp_iconst (n := 0) rfl (by decide) ?_
        refine xp_iconst (n := 0) rfl (by decide) ?_
        refine xp_iast rfl (by first | assumption | exact hL.t rfl) (by omega) (by omega) ?_
        refine xp_aload_n rfl rfl ?_
        refine xp_iconst (n := 0) rfl (by decide) ?_
        refine xp_iload_n rfl rfl ?_
        refine xp_iconst (n := 4294967295) rfl (by decide) ?_
        refine xp_iv rfl rfl (Nat.le_of_ble_eq_true rfl) (by decide) (by decide) (by decide) (Nat.le_of_ble_eq_true rfl) rfl (xrcv1 (by decide) (by first | assumption | exact hL.t rfl)) (m125 hL (by omega) (by rw [xsI_eq]; omega)) rfl ?_
        show xP _ _ _ _ _ _ (xm _ _ _ (mBe1 B f)) _
        refine xp_aload_n rfl rfl ?_
        refine xp_gfa rfl rfl (by decide) (by decide) (by first | assumption | exact hL.t rfl) (by first | assumption | exact hL.r rfl | exact hL.2.2.2.2.2) ?_
        refine xp_iload_n rfl rfl ?_
        refine xp_iald rfl (by first | assumption | exact hL.t rfl) (by omega) (by omega) ?_
        rw [kk]
        refine xp_ifle 124 rfl (by decide) (by omega) (fun h113 => ?_) (fun h113 => ?_)
        · exfalso; omega
        · skip
          refine xp_aload_n rfl rfl ?_
          refine xp_iconst (n := 0) rfl (by decide) ?_
          refine xp_iconst (n := 1) rfl (by decide) ?_
          refine xp_iload_n rfl rfl ?_
          refine xp_i2l rfl ?_
          refine xp_iv rfl rfl (Nat.le_of_ble_eq_true rfl) (by decide) (by decide) (by decide) (Nat.le_of_ble_eq_true rfl) rfl (xrcv1 (by decide) (by first | assumption | exact hL.t rfl)) (m120 hL (by omega)) rfl ?_
          refine xp_aload_n rfl rfl ?_
          refine xp_gfa rfl rfl (by decide) (by decide) (by first | assumption | exact hL.t rfl) (by first | assumption | exact hL.r rfl | exact hL.2.2.2.2.2) ?_
          refine xp_iload_n rfl rfl ?_
          refine xp_iald rfl (by first | assumption | exact hL.t rfl) (by omega) (by omega) ?_
          rw [kc]
          refine xp_iconst (n := 1) rfl (by decide) ?_
          refine xp_icle 142 rfl (by decide) (by omega) (by omega) (fun h131 => ?_) (fun h131 => ?_)
          · exfalso; omega
          · skip
            refine xp_aload_n rfl rfl ?_
            refine xp_iconst (n := 1) rfl (by decide) ?_
            refine xp_iconst (n := 1) rfl (by decide) ?_
            refine xp_iload_n rfl rfl ?_
            refine xp_i2l rfl ?_
            refine xp_iv rfl rfl (Nat.le_of_ble_eq_true rfl) (by decide) (by decide) (by decide) (Nat.le_of_ble_eq_true rfl) rfl (xrcv1 (by decide) (by first | assumption | exact hL.t rfl)) (m120 hL (by omega)) rfl ?_
            refine xp_aload_n rfl rfl ?_
            refine xp_gfa rfl rfl (by decide) (by decide) (by first | assumption | exact hL.t rfl) (by first | assumption | exact hL.r rfl | exact hL.2.2.2.2.2) ?_
            refine xp_iload_n rfl rfl ?_
            refine xp_iald rfl (by first | assumption | exact hL.t rfl) (by omega) (by omega) ?_
            rw [kd]
            refine xp_ireturn rfl (by decide) (by decide) (by decide) ?_
            rfl
      · exfalso; omega
theorem m127a {z : Nat} {T : Nat → Option xT} {R : Nat → Nat → Option Nat} {B : xQ} {w f : Nat} {x y : Int32} (hL : xLay T R w) (hf : f < 2 ^ 32) (hq : ¬ f < 6) : xF 127 [.ref 189, .int (nI f), .int x, .int y] (xm z T R B) (.inr (some (.int (nI 0))), xm z T R (xsI B 189 14 1)) := by
  have e1 : mIn f 0 5 = 0 := by rw [mIn_any hf (by omega) (by omega), if_neg (by omega)]
  refine xF_eq (xF_p (Nat.le_of_ble_eq_true rfl) ?_)
  refine xp_iload_n rfl rfl ?_
  refine xp_iconst (n := 0) rfl (by decide) ?_
  refine xp_iconst (n := 5) rfl (by decide) ?_
  refine xp_is rfl rfl rfl (Nat.le_of_ble_eq_true rfl) (by decide) (by decide) (by decide) (Nat.le_of_ble_eq_true rfl) rfl (xrcv0 (by decide) _ _) (m112 hf (by omega) (by omega)) rfl ?_
  rw [e1]
  refine xp_ifne 15 rfl (by decide) (by omega) (fun h6 => ?_) (fun h6 => ?_)
  · exfalso; omega
  · skip
    refine xp_aload_n rfl rfl ?_
    refine xp_iconst (n := 1) rfl (by decide) ?_
    refine xp_iv rfl rfl (Nat.le_of_ble_eq_true rfl) (by decide) (by decide) (by decide) (Nat.le_of_ble_eq_true rfl) rfl (xrcv1 (by decide) (by first | assumption | exact hL.t rfl)) (m113 hL) rfl ?_
    refine xp_ireturn rfl (by decide) (by decide) (by decide) ?_
    rfl
