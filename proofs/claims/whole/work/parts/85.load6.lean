-- load: the reference's frames and threads, whole
theorem KA.rc2 {u f : Nat} {A : xQ} (h : CI u A) (hl : 1 ≤ A.1 102 5) (hf : Ap u f) : KA u (f + 2) (f + 4) A (aRc u f A) := by
  obtain ⟨⟨f1, f2⟩, hu⟩ := hf
  have h1 := KA.rb (lo := f + 2) (hi := f + 4) h hu 0 4
  have hl2 := h1.l hl
  unfold aRc
  generalize aRb 0 4 A = r at *
  split
  · have h2 := KA.ro (lo := f + 2) (hi := f + 4) (k := 4) h1.ci hu hl2 (by omega)
    have h3 := KA.wI (lo := f + 2) (hi := f + 4) (a := f + 2) (j := 0) (v := 4) h2.ci (by omega) (by omega) (by omega)
    exact h1.trans (h2.trans (h3.trans (KA.wJ h3.ci (by omega) (by omega))))
  · split
    · have h3 := KA.wI (lo := f + 2) (hi := f + 4) (a := f + 2) (j := 0) (v := 0) h1.ci (by omega) (by omega) (by omega)
      exact h1.trans (h3.trans (KA.wJ h3.ci (by omega) (by omega)))
    · have h2 := KA.ref (lo := f + 2) (hi := f + 4) h1.ci hu
      have h3 := KA.wI (lo := f + 2) (hi := f + 4) (a := f + 2) (j := 0) (v := r.1) h2.ci (by omega) (by omega) (by omega)
      exact h1.trans (h2.trans (h3.trans (KA.wJ h3.ci (by omega) (by omega))))
theorem m164 {z : Nat} {T : Nat → Option xT} {R : Nat → Nat → Option Nat} {A B : xQ} {w u s k p : Nat} (hL : xLay T R w) (hs : As u s) (hI : CI u A) (hl : 1 ≤ A.1 102 5) (hR : RR u A B) (hk : A.1 s 3 = k) (hk5 : k < 5) (hp : p < 15) : ∃ B2, xF 164 [.ref 189, .int (nI p)] (xm z T R B) (.inr none, xm z T R B2) ∧ RR u (aOf u s A) B2 ∧ ((aOf u s A).1 102 2 = 4294967294 → RelF (s + 5 + 4 * k) p (aOf u s A) (vB B2) ∧ FOk u (aOf u s A) (s + 5 + 4 * k) ∧ (aOf u s A).1 (s + 5 + 4 * k) 2 ≤ 30) ∧ KB (10 * p) (10 * p + 10) p (p + 1) 0 0 0 0 B B2 := by
  have hu := hs.2
  have hs1 := hs.1
  have hf : Ap u (s + 5 + 4 * k) := hs.fr hk5
  have hf1 := hf.1
  unfold aOf
  rw [hk]
  have hk1 := KA.of1 hI hs (by omega)
  obtain ⟨x1, B1, g1, r1, l1, n1, m1, k1⟩ := m161k (z := z) (lo := 0) (hi := 5) hL hu hI hR (by omega)
  have hin5 := (aRb_in (lo := 0) (hi := 5) (A := A) (by omega)).2
  have o3 := aOpen_r (aRb 0 5 A).2 s (aRb 0 5 A).1
  rw [show (aRb 0 5 A).2.1 s 3 = k by rw [aRb_ne _ _ _ (by omega)]; exact hk] at o3
  obtain ⟨p1, p2, -, -, -, p3, -⟩ := o3
  have RR1 : RR u (aOpen (aRb 0 5 A).2 s (aRb 0 5 A).1) (xsI B1 220 p x1) := r1.oth (fun a j q => p1 a j (by omega) (by omega) (by omega)) (fun a j q => xsI_ne (by omega)) (fun o ho => by rw [xsI_ne (by omega)]; exact (r1.2.2.2.2.1 o ho).2)
  have nfo : (aOpen (aRb 0 5 A).2 s (aRb 0 5 A).1).1 102 2 = (aRb 0 5 A).2.1 102 2 := p1 _ _ (by omega) (by omega) (by omega)
  have kk1 : KB (10 * p) (10 * p + 10) p (p + 1) 0 0 0 0 B (xsI B1 220 p x1) := k1.up.trans ⟨fun a j _ _ _ q _ _ => xsI_ne (by omega), fun _ _ _ => rfl, fun j _ _ _ _ => xsI_ne (by omega), by rw [xsI_ne (by omega)]⟩
  have y1 : (aOpen (aRb 0 5 A).2 s (aRb 0 5 A).1).1 102 2 = 4294967294 → (xsI B1 220 p x1).1 220 p = (aOpen (aRb 0 5 A).2 s (aRb 0 5 A).1).1 (s + 5 + 4 * k) 1 := fun q => by rw [xsI_eq, p3]; rw [nfo] at q; exact n1 q
  have y1b : (aOpen (aRb 0 5 A).2 s (aRb 0 5 A).1).1 (s + 5 + 4 * k) 1 ≤ 5 := by rw [p3]; exact hin5
  have hl1 := hk1.l hl
  have hI1 := hk1.ci
  have b1x : x1 < 256 := l1
  clear n1 m1 r1 p1 p2 p3 nfo hk hk1 hin5 k1
  generalize aOpen (aRb 0 5 A).2 s (aRb 0 5 A).1 = A1 at *
  generalize hF : s + 5 + 4 * k = f at *
  obtain ⟨x2, B2, g2, r2, l2, n2, m2, k2⟩ := m161k (z := z) (lo := 0) (hi := 30) hL hu hI1 RR1 (by omega)
  have hin30 := (aRb_in (lo := 0) (hi := 30) (A := A1) (by omega)).2
  have hk2 := KA.rf1a hI1 hf
  have RR2 : RR u (xsI (aRb 0 30 A1).2 f 2 (aRb 0 30 A1).1) (xsI B2 221 p x2) := r2.oth (fun a j q => xsI_ne (by omega)) (fun a j q => xsI_ne (by omega)) (fun o ho => by rw [xsI_ne (by omega)]; exact (r2.2.2.2.2.1 o ho).2)
  have kk2 : KB (10 * p) (10 * p + 10) p (p + 1) 0 0 0 0 (xsI B1 220 p x1) (xsI B2 221 p x2) := k2.up.trans ⟨fun a j _ _ _ q _ _ => xsI_ne (by omega), fun _ _ _ => rfl, fun j _ _ _ _ => xsI_ne (by omega), by rw [xsI_ne (by omega)]⟩
  have kk12 := kk1.trans kk2
  have y2 : (xsI (aRb 0 30 A1).2 f 2 (aRb 0 30 A1).1).1 102 2 = 4294967294 → (xsI B2 221 p x2).1 220 p = (xsI (aRb 0 30 A1).2 f 2 (aRb 0 30 A1).1).1 f 1 ∧ (xsI B2 221 p x2).1 221 p = (xsI (aRb 0 30 A1).2 f 2 (aRb 0 30 A1).1).1 f 2 := fun q => by
    have q1 := hk2.nf q
    rw [xsI_ne (by omega)] at q
    refine ⟨?_, ?_⟩
    · have hB : (xsI B2 221 p x2).1 220 p = (xsI B1 220 p x1).1 220 p := by rw [xsI_ne (by omega)]; exact k2.1 _ _ (by omega) (by omega) (by omega) (by omega) (by omega) (by omega)
      have hA : (xsI (aRb 0 30 A1).2 f 2 (aRb 0 30 A1).1).1 f 1 = A1.1 f 1 := by rw [xsI_ne (by omega), aRb_ne _ _ _ (by omega)]
      rw [hB, hA]
      exact y1 q1
    · rw [xsI_eq, xsI_eq]; exact n2 q
  have y2b : (xsI (aRb 0 30 A1).2 f 2 (aRb 0 30 A1).1).1 f 1 ≤ 5 ∧ (xsI (aRb 0 30 A1).2 f 2 (aRb 0 30 A1).1).1 f 2 ≤ 30 := ⟨by rw [xsI_ne (by omega), aRb_ne _ _ _ (by omega)]; exact y1b, by rw [xsI_eq]; exact hin30⟩
  have hl2 := hk2.l hl1
  have hI2 := hk2.ci
  have hrf1 : aRf1 u f A1 = xit (aRv u (f + 2) (f + 3)) 4 1 (aRc u f (xsI (aRb 0 30 A1).2 f 2 (aRb 0 30 A1).1)) := rfl
  unfold aRf
  rw [hrf1]
  clear hrf1 hin30 n2 m2 r2 RR1 kk1 kk2 k2 y1 y1b hk2
  generalize xsI (aRb 0 30 A1).2 f 2 (aRb 0 30 A1).1 = A2 at *
  have hk3 := KA.rc2 hI2 hl2 hf
  have hl3 := hk3.l hl2
  have hI3 := hk3.ci
  have hk4 := KA.rvs (lo := f + 2) (hi := f + 4) (ka := f + 2) (na := f + 3) hu (by omega) (by omega) (by omega) (by omega) (by omega) 4 1 _ hI3 hl3
  have hlo4 := rvs_lo (u := u) (ka := f + 2) (na := f + 3) hu (by omega) 4 1 (aRc u f A2) 0 (by omega)
  have hl4 := hk4.l hl3
  have hI4 := hk4.ci
  have hk34 := hk3.trans hk4
  have c1 : ∀ j, (xit (aRv u (f + 2) (f + 3)) 4 1 (aRc u f A2)).1 f j = A2.1 f j := fun j => hk34.1 _ _ (by omega) (by omega) (by omega) (by omega)
  refine xF_x (xF_p (Nat.le_of_ble_eq_true rfl) ?_)
  refine xp_aload_n rfl rfl ?_
  refine xp_gfa rfl rfl (by decide) (by decide) (by first | assumption | exact hL.t rfl) (by first | assumption | exact hL.r rfl | exact hL.2.2.2.2.2) ?_
  refine xp_iload_n rfl rfl ?_
  refine xp_aload_n rfl rfl ?_
  refine xp_iconst (n := 0) rfl (by decide) ?_
  refine xp_iconst (n := 5) rfl (by decide) ?_
  refine xp_iconst (n := 1) rfl (by decide) ?_
  refine xp_iv rfl rfl (Nat.le_of_ble_eq_true rfl) (by decide) (by decide) (by decide) (Nat.le_of_ble_eq_true rfl) rfl (xrcv1 (by decide) (by first | assumption | exact hL.t rfl)) (g1) rfl ?_
  refine xp_iast rfl (by first | assumption | exact hL.t rfl) (by omega) (by omega) ?_
  refine xp_aload_n rfl rfl ?_
  refine xp_gfa rfl rfl (by decide) (by decide) (by first | assumption | exact hL.t rfl) (by first | assumption | exact hL.r rfl | exact hL.2.2.2.2.2) ?_
  refine xp_iload_n rfl rfl ?_
  refine xp_aload_n rfl rfl ?_
  refine xp_iconst (n := 0) rfl (by decide) ?_
  refine xp_bipush (n := 30) rfl (by decide) ?_
  refine xp_iconst (n := 1) rfl (by decide) ?_
  refine xp_iv rfl rfl (Nat.le_of_ble_eq_true rfl) (by decide) (by decide) (by decide) (Nat.le_of_ble_eq_true rfl) rfl (xrcv1 (by decide) (by first | assumption | exact hL.t rfl)) (g2) rfl ?_
  refine xp_iast rfl (by first | assumption | exact hL.t rfl) (by omega) (by omega) ?_
  refine xp_weak [(0, .ref 189), (1, .int (nI p))] (xle_cons rfl (xle_cons rfl (xle_nil _))) (by simp [xnd]) ?_
  refine l164c hL hu hf hp hI2 hl2 RR2 (fun B3 r3 k3 e3 e4 cl => ?_)
  have kk3 := kk12.trans (k3.mono (c2 := 10 * p) (c3 := 10 * p + 10) (f2 := p) (f3 := p + 1) (t2 := 0) (t3 := 0) (o2 := 0) (o3 := 0) (by omega) (by omega) (by omega) (by omega))
  refine xp_iconst (n := 0) rfl (by decide) ?_
  refine xp_istore rfl (by decide) ?_
  refine xp_weak [(0, .ref 189), (1, .int (nI p)), (4, .int (nI 0))] (xle_cons rfl (xle_cons rfl (xle_cons rfl (xle_nil _)))) (by simp [xnd]) ?_
  refine l164a hL hu hf hp 4 0 (aRc u f A2) B3 (by omega) hI3 hl3 r3 (fun _ c _ q => by omega) (fun B4 r4 k4 cr => ?_)
  have kk4 := kk3.trans (k4.mono (c2 := 10 * p) (c3 := 10 * p + 10) (f2 := p) (f3 := p + 1) (t2 := 0) (t3 := 0) (o2 := 0) (o3 := 0) (by omega) (by omega) (by omega) (by omega))
  have z0 : ∀ a, 220 ≤ a → a ≤ 223 → B4.1 a p = B3.1 a p := fun a q1 q2 => k4.1 _ _ (by omega) (by omega) (by omega) (by omega) (by omega) (by omega)
  have y4 : (xit (aRv u (f + 2) (f + 3)) 4 1 (aRc u f A2)).1 102 2 = 4294967294 → (B4.1 220 p = A2.1 f 1 ∧ B4.1 221 p = A2.1 f 2) ∧ ClR u f p (xit (aRv u (f + 2) (f + 3)) 4 1 (aRc u f A2)) B4 := fun q => by
    have q3 := hk4.nf q
    obtain ⟨v1, v2⟩ := y2 (hk3.nf q3)
    obtain ⟨w1, w2⟩ := cl q3
    refine ⟨⟨by rw [z0 _ (by omega) (by omega), e3]; exact v1, by rw [z0 _ (by omega) (by omega), e4]; exact v2⟩, ?_, ?_⟩
    · rw [hlo4.1, hlo4.2, z0 _ (by omega) (by omega)]
      exact w1
    · show VV u _ ((xit (aRv u (f + 2) (f + 3)) 4 1 (aRc u f A2)).1 (f + 2) 0) ((xit (aRv u (f + 2) (f + 3)) 4 1 (aRc u f A2)).2 (f + 3) 0)
      rw [hlo4.1, hlo4.2]
      exact VV.ka w2 hI3 hk4.2.2.2.1
  have r4' : RR u (xit (aRv u (f + 2) (f + 3)) 4 1 (aRc u f A2)) B4 := r4
  have cr' : (xit (aRv u (f + 2) (f + 3)) 4 1 (aRc u f A2)).1 102 2 = 4294967294 → CR u (f + 2) (f + 3) (10 * p) 1 0 4 (xit (aRv u (f + 2) (f + 3)) 4 1 (aRc u f A2)) B4 := cr
  clear r4 cr hlo4 hk4 hk3 y2 cl z0 hk34
  generalize xit (aRv u (f + 2) (f + 3)) 4 1 (aRc u f A2) = A4 at *
  obtain ⟨x5, B5, g5, r5, l5, n5, m5, k5⟩ := m161k (z := z) (lo := 0) (hi := 6) hL hu hI4 r4' (by omega)
  have hin6 := (aRb_in (lo := 0) (hi := 6) (A := A4) (by omega)).2
  have hk5' := KA.rb (lo := f) (hi := f + 1) hI4 hu 0 6
  have hk5'' := hk5'.trans (KA.wI (a := f) (j := 3) (v := (aRb 0 6 A4).1) hk5'.ci (by omega) (by omega) (by omega))
  have RR5 : RR u (xsI (aRb 0 6 A4).2 f 3 (aRb 0 6 A4).1) (xsI B5 223 p x5) := r5.oth (fun a j q => xsI_ne (by omega)) (fun a j q => xsI_ne (by omega)) (fun o ho => by rw [xsI_ne (by omega)]; exact (r5.2.2.2.2.1 o ho).2)
  have kk5 : KB (10 * p) (10 * p + 10) p (p + 1) 0 0 0 0 B (xsI B5 223 p x5) := kk4.trans (k5.up.trans ⟨fun a j _ _ _ q _ _ => xsI_ne (by omega), fun _ _ _ => rfl, fun j _ _ _ _ => xsI_ne (by omega), by rw [xsI_ne (by omega)]⟩)
  have a5 : ∀ a j, (a ≠ f ∨ j ≠ 3) → (a ≠ 102 ∨ (j ≠ 2 ∧ j ≠ 4)) → (xsI (aRb 0 6 A4).2 f 3 (aRb 0 6 A4).1).1 a j = A4.1 a j := fun a j q1 q2 => by rw [xsI_ne q1, aRb_ne _ _ _ q2]
  have a52 : (xsI (aRb 0 6 A4).2 f 3 (aRb 0 6 A4).1).2 = A4.2 := aRb_2 _ _ _
  have b5 : ∀ a j, (a ≠ 223 ∨ j ≠ p) → a ≠ 189 → (xsI B5 223 p x5).1 a j = B4.1 a j ∨ a = 225 := fun a j q1 q2 => by
    by_cases e : a = 225
    · exact Or.inr e
    · rw [xsI_ne q1]; exact Or.inl (k5.1 _ _ q2 e (by omega) (by omega) (by omega) (by omega))
  have b52 : (xsI B5 223 p x5).2 = B4.2 := funext fun a => funext fun j => k5.2.1 a j (by omega)
  have y5 : (xsI (aRb 0 6 A4).2 f 3 (aRb 0 6 A4).1).1 102 2 = 4294967294 → A4.1 102 2 = 4294967294 ∧ x5 = (aRb 0 6 A4).1 := fun q => ⟨hk5''.nf q, by rw [xsI_ne (by omega)] at q; exact n5 q⟩
  have cr5 : (xsI (aRb 0 6 A4).2 f 3 (aRb 0 6 A4).1).1 102 2 = 4294967294 → CR u (f + 2) (f + 3) (10 * p) 1 0 4 (xsI (aRb 0 6 A4).2 f 3 (aRb 0 6 A4).1) (xsI B5 223 p x5) := fun q c q1 q2 => by
    obtain ⟨v1, v2, v3⟩ := cr' (y5 q).1 c q1 q2
    refine ⟨by rw [a5 _ _ (by omega) (by omega), (b5 _ _ (by omega) (by omega)).resolve_right (by omega)]; exact v1, by rw [a52, b52]; exact v2, ?_⟩
    show VV u _ ((xsI (aRb 0 6 A4).2 f 3 (aRb 0 6 A4).1).1 (f + 2) (1 + c)) ((xsI (aRb 0 6 A4).2 f 3 (aRb 0 6 A4).1).2 (f + 3) (1 + c))
    rw [a5 _ _ (by omega) (by omega), a52]
    exact VV.ka v3 hI4 hk5''.2.2.2.1
  have fin := l164b (z := z) (n := (aRb 0 6 A4).1) hL hu hf hp hin6 (aRb 0 6 A4).1 4 (xsI (aRb 0 6 A4).2 f 3 (aRb 0 6 A4).1) (xsI B5 223 p x5) (by omega) hk5''.ci (hk5''.l hl4) RR5 (by rw [xsI_eq]; exact l5) (fun q => by rw [xsI_eq]; exact (y5 q).2) cr5
  have hk6 := KA.rvs (lo := f + 2) (hi := f + 4) (ka := f + 2) (na := f + 3) hu (by omega) (by omega) (by omega) (by omega) (by omega) (aRb 0 6 A4).1 5 _ hk5''.ci (hk5''.l hl4)
  have hlo6 := rvs_lo (u := u) (ka := f + 2) (na := f + 3) hu (by omega) (aRb 0 6 A4).1 5 (xsI (aRb 0 6 A4).2 f 3 (aRb 0 6 A4).1) 0 (by omega)
  have d1 : (xsI (aRb 0 6 A4).2 f 3 (aRb 0 6 A4).1).1 f 1 = A2.1 f 1 := by rw [a5 _ _ (by omega) (by omega), c1]
  have d2 : (xsI (aRb 0 6 A4).2 f 3 (aRb 0 6 A4).1).1 f 2 = A2.1 f 2 := by rw [a5 _ _ (by omega) (by omega), c1]
  have d3 : (xsI (aRb 0 6 A4).2 f 3 (aRb 0 6 A4).1).1 f 3 = (aRb 0 6 A4).1 := xsI_eq
  have b223 : (xsI B5 223 p x5).1 223 p = x5 := xsI_eq
  have fin2 : xP 164 125 [(0, .ref 189), (1, .int (nI p)), (4, .int (nI 4))] [] 0 0 (xm z T R (xsI B5 223 p x5)) (fun r => ∃ B6, r = (.inr none, xm z T R B6) ∧ RR u (xit (aRv u (f + 2) (f + 3)) (aRb 0 6 A4).1 5 (xsI (aRb 0 6 A4).2 f 3 (aRb 0 6 A4).1)) B6 ∧ ((xit (aRv u (f + 2) (f + 3)) (aRb 0 6 A4).1 5 (xsI (aRb 0 6 A4).2 f 3 (aRb 0 6 A4).1)).1 102 2 = 4294967294 → RelF f p (xit (aRv u (f + 2) (f + 3)) (aRb 0 6 A4).1 5 (xsI (aRb 0 6 A4).2 f 3 (aRb 0 6 A4).1)) (vB B6) ∧ FOk u (xit (aRv u (f + 2) (f + 3)) (aRb 0 6 A4).1 5 (xsI (aRb 0 6 A4).2 f 3 (aRb 0 6 A4).1)) f ∧ (xit (aRv u (f + 2) (f + 3)) (aRb 0 6 A4).1 5 (xsI (aRb 0 6 A4).2 f 3 (aRb 0 6 A4).1)).1 f 2 ≤ 30) ∧ KB (10 * p) (10 * p + 10) p (p + 1) 0 0 0 0 B B6) := by
    obtain ⟨r, w1, B6, w2, w3, w4, w5⟩ := fin
    refine ⟨r, w1, B6, w2, w3, fun q => ?_, kk5.trans (w4.mono (by omega) (by omega) (by omega) (by omega))⟩
    have q5 := hk6.nf q
    have cr6 := w5 q
    obtain ⟨q4, qx⟩ := y5 q5
    obtain ⟨⟨v1, v2⟩, v3, v4⟩ := y4 q4
    have hv4 : VV u A4 (A4.1 (f + 2) 0) (A4.2 (f + 3) 0) := v4
    have e1 := fun j => hk6.1 f j (by omega) (by omega) (by omega) (by omega)
    have z6 : ∀ a, 220 ≤ a → a ≤ 223 → B6.1 a p = (xsI B5 223 p x5).1 a p := fun a q1 q2 => w4.1 _ _ (by omega) (by omega) (by omega) (by omega) (by omega) (by omega)
    have z5 : ∀ a, 220 ≤ a → a ≤ 222 → B6.1 a p = B4.1 a p := fun a q1 q2 => by rw [z6 a q1 (by omega)]; exact (b5 _ _ (by omega) (by omega)).resolve_right (by omega)
    have g0 : (xit (aRv u (f + 2) (f + 3)) (aRb 0 6 A4).1 5 (xsI (aRb 0 6 A4).2 f 3 (aRb 0 6 A4).1)).1 (f + 2) 0 = A4.1 (f + 2) 0 := by rw [hlo6.1, a5 _ _ (by omega) (by omega)]
    have g02 : (xit (aRv u (f + 2) (f + 3)) (aRb 0 6 A4).1 5 (xsI (aRb 0 6 A4).2 f 3 (aRb 0 6 A4).1)).2 (f + 3) 0 = A4.2 (f + 3) 0 := by rw [hlo6.2, a52]
    refine ⟨⟨?_, ?_, ?_, ?_, fun c hc => ?_⟩, ⟨?_, ?_, ?_, ?_, fun c hc => ?_⟩, ?_⟩
    · show B6.1 220 p = _
      rw [z5 _ (by omega) (by omega), e1, d1]; exact v1
    · show B6.1 221 p = _
      rw [z5 _ (by omega) (by omega), e1, d2]; exact v2
    · show B6.1 223 p = _
      rw [z6 _ (by omega) (by omega), e1, d3, b223]; exact qx
    · show (_ ∧ B6.1 222 p = _) ∨ (_ ∧ B6.1 222 p = _)
      rw [g0, g02, z5 _ (by omega) (by omega)]; exact v3
    · rw [e1, d3] at hc
      obtain ⟨t1, t2, t3⟩ := cr6 c (by omega) hc
      exact ⟨t1, t2⟩
    · rw [e1, d1]; omega
    · rw [e1, d2]; omega
    · rw [e1, d3]; omega
    · rw [g0]; omega
    · rw [e1, d3] at hc
      by_cases c0 : c = 0
      · rw [c0]
        show VV u _ _ _
        rw [g0, g02]
        exact (VV.ka hv4 hI4 hk5''.2.2.2.1).ka hk5''.ci hk6.2.2.2.1
      · have t3 := (cr6 (c - 1) (by omega) (by omega)).2.2
        rw [show 1 + (c - 1) = c by omega] at t3
        exact t3
    · rw [e1, d2]; omega
  refine xp_aload_n rfl rfl ?_
  refine xp_gfa rfl rfl (by decide) (by decide) (by first | assumption | exact hL.t rfl) (by first | assumption | exact hL.r rfl | exact hL.2.2.2.2.2) ?_
  refine xp_iload_n rfl rfl ?_
  refine xp_aload_n rfl rfl ?_
  refine xp_iconst (n := 0) rfl (by decide) ?_
  refine xp_bipush (n := 6) rfl (by decide) ?_
  refine xp_iconst (n := 1) rfl (by decide) ?_
  refine xp_iv rfl rfl (Nat.le_of_ble_eq_true rfl) (by decide) (by decide) (by decide) (Nat.le_of_ble_eq_true rfl) rfl (xrcv1 (by decide) (by first | assumption | exact hL.t rfl)) (g5) rfl ?_
  refine xp_iast rfl (by first | assumption | exact hL.t rfl) (by omega) (by omega) ?_
  refine xp_iconst (n := 4) rfl (by decide) ?_
  refine xp_istore rfl (by decide) ?_
  refine xp_weak [(0, .ref 189), (1, .int (nI p)), (4, .int (nI 4))] (xle_cons rfl (xle_cons rfl (xle_cons rfl (xle_nil _)))) (by simp [xnd]) ?_
  exact fin2
