-- load: the reference takes all
/-- what taking all keeps -/
def KL (B B2 : xQ) : Prop := (∀ a j, a ≠ 189 → (a < 217 ∨ 228 < a) → B2.1 a j = B.1 a j) ∧ (∀ a j, a ≠ 228 → B2.2 a j = B.2 a j) ∧ ∀ j, j ≠ 9 → j ≠ 10 → j ≠ 11 → (j < 37 ∨ 40 < j) → j ≠ 53 → j ≠ 54 → B2.1 189 j = B.1 189 j
theorem KL.trans {B C D : xQ} (h : KL B C) (g : KL C D) : KL B D := ⟨fun a j q1 q2 => (g.1 a j q1 q2).trans (h.1 a j q1 q2), fun a j q => (g.2.1 a j q).trans (h.2.1 a j q), fun j q1 q2 q3 q4 q5 q6 => (g.2.2 j q1 q2 q3 q4 q5 q6).trans (h.2.2 j q1 q2 q3 q4 q5 q6)⟩
theorem KB.kl {c0 c1 f0 f1 t0 t1 o0 o1 : Nat} {B C : xQ} (h : KB c0 c1 f0 f1 t0 t1 o0 o1 B C) : KL B C := ⟨fun a j q1 q2 => h.1 a j q1 (by omega) (by omega) (by omega) (by omega) (by omega), fun a j q => h.2.1 a j (by omega), fun j _ _ _ q _ _ => h.2.2.1 j (by omega) (by omega) (by omega) (by omega)⟩
theorem RR.w3 {u v : Nat} {A B : xQ} (h : RR u A B) (hu : u = 12 ∨ u = 103) : RR u (xsI A 102 3 v) B := by
  obtain ⟨r1, r2, r3, r4, r5, r6, r7⟩ := h
  have e : ∀ a j, (a ≠ 102 ∨ j ≠ 3) → (xsI A 102 3 v).1 a j = A.1 a j := fun a j q => xsI_ne q
  refine ⟨by rw [e _ _ (by omega)]; exact r1, fun i hi => ?_, r3, r4, r5, fun q => ?_, fun q => ?_⟩
  · rw [e _ _ (by omega)] at hi ⊢
    exact r2 i hi
  · rw [e _ _ (by omega)] at q
    obtain ⟨s1, s2, s3, s4, s5, s6⟩ := r6 q
    rw [e 102 4 (by omega), e (u + 2) 4 (by omega), e 102 5 (by omega)]
    exact ⟨s1, s2, s3, s4, fun o ho => by rw [e _ _ (by omega)]; exact s5 o ho, s6⟩
  · rw [e _ _ (by omega)] at q ⊢
    exact r7 q
theorem aH1_p {u : Nat} {A : xQ} (hu : u = 12 ∨ u = 103) (h1 : A.1 99 1 ≤ 2400) (h2 : ∀ i, i < A.1 99 1 → A.1 100 i < 256) (h : (aH1 u A).1 102 2 = 4294967294) : (aH1 u A).1 102 4 = 3 := by
  have I0 := CI.clr hu h1 h2
  have I1 := I0.rb hu 83 83
  have I2 := I1.rb hu 78 78
  have e0 : (aClear u (xsI (xsI (xsI A 102 2 4294967294) 102 4 0) 102 5 24)).1 102 4 = 0 := by
    unfold aClear
    rw [xsI_ne (by omega), (xit_fill (u + 3) 0 24 0 _).2, if_neg (by omega), xsI_ne (by omega), xsI_eq]
  unfold aH1 at h ⊢
  generalize aClear u (xsI (xsI (xsI A 102 2 4294967294) 102 4 0) 102 5 24) = C at *
  obtain ⟨a1, -, -, -, -, a6⟩ := aRb_nf h I2.pl
  obtain ⟨b1, -, -, -, -, b6⟩ := aRb_nf a1 I1.pl
  obtain ⟨c1, -, -, -, -, c6⟩ := aRb_nf b1 I0.pl
  rw [a6, xsI_eq, b6, xsI_eq, c6, xsI_eq, e0]
/-- all that a good load has brought -/
def Got (u v : Nat) (X B : xQ) : Prop := v = X.1 u 2 ∧ B.1 189 9 = X.1 u 2 ∧ B.1 189 10 = X.1 u 3 ∧ B.1 189 11 = X.1 u 4 ∧ X.1 u 3 < X.1 u 2 ∧ X.1 u 2 ≤ 3 ∧ X.1 u 4 ≤ 3 ∧ (Some0 u X → X.1 (u + 11 + 25 * X.1 u 3) 2 = 0) ∧ (∀ t, t < X.1 u 2 → TH u t X B) ∧ B.1 189 40 = X.1 (u + 2) 4 ∧ ∀ o, o < X.1 (u + 2) 4 → OB u o X B
theorem l167y {z : Nat} {T : Nat → Option xT} {R : Nat → Nat → Option Nat} {H B : xQ} {w u x2 x3 x4 : Nat} (hL : xLay T R w) (hu : u = 12 ∨ u = 103) (ra : CI u H) (r10 : RR u H B) (hn3 : H.1 u 2 ≤ 3) (hn2 : H.1 u 3 ≤ 2) (hn4 : H.1 u 4 ≤ 3) (lt2 : x2 < 256) (lt4 : x4 < 256) (hxr : H.1 102 2 = 4294967294 → x2 = H.1 u 3 ∧ x3 = H.1 u 4 ∧ x4 = H.1 u 2) (th10 : H.1 102 2 = 4294967294 → ∀ t, t < H.1 u 2 → TH u t H B) (ob10 : H.1 102 2 = 4294967294 → ∀ o, o < H.1 (u + 2) 4 → OB u o H B) (k1040 : H.1 102 2 = 4294967294 → B.1 189 40 = H.1 (u + 2) 4) (cd10 : (B.1 189 38 = 2 ↔ H.1 102 3 = 1) ∧ H.1 102 3 ≤ 1) : xP 167 146 [(0, .ref 189), (2, .int (nI x2)), (3, .int (nI x3)), (4, .int (nI x4))] [] 0 0 (xm z T R B) (fun r => ∃ v B2, r = (.inr (some (.int (nI v))), xm z T R B2) ∧ CI u (aTst u (aRend H)) ∧ RR u (aTst u (aRend H)) B2 ∧ ((aTst u (aRend H)).1 102 2 = 4294967294 → Got u v (aTst u (aRend H)) B2) ∧ KL B B2 ∧ (B2.1 189 38 = 2 ↔ (aTst u (aRend H)).1 102 3 = 1) ∧ (aTst u (aRend H)).1 102 3 ≤ 1 ∧ (¬ (aTst u (aRend H)).1 102 2 = 4294967294 → ∀ j, j = 9 ∨ j = 10 ∨ j = 11 → B2.1 189 j = B.1 189 j)) := by
  refine l167e hL hu ra r10 (fun B11 r11 k11 => ?_)
  obtain ⟨p1, p2, p3, p4, p5⟩ := rend_k (u := u) ra hu
  have cd11 : (B11.1 189 38 = 2 ↔ (aRend H).1 102 3 = 1) ∧ (aRend H).1 102 3 ≤ 1 := by rw [p5]; exact ⟨k11.2.2.2.trans cd10.1, cd10.2⟩
  have th11 : (aRend H).1 102 2 = 4294967294 → ∀ t, t < H.1 u 2 → TH u t (aRend H) B11 := fun q t ht => (th10 (p4 q) t ht).keep (by omega) ra (fun o _ => p2 _ _ (by omega)) (fun a j q1 q2 => p2 a j (by omega)) (fun a j q1 q2 => by rw [p3]) (fun a q1 q2 => k11.1 _ _ (by omega) (by omega) (by omega) (by omega) (by omega) (by omega)) (fun a j q1 q2 q3 q4 => k11.1 _ _ (by omega) (by omega) (by omega) (by omega) (by omega) (by omega)) (fun j q1 => k11.1 _ _ (by omega) (by omega) (by omega) (by omega) (by omega) (by omega)) (fun j q1 => k11.2.1 _ _ (by omega))
  have ob11 : (aRend H).1 102 2 = 4294967294 → ∀ o, o < H.1 (u + 2) 4 → OB u o (aRend H) B11 := fun q o ho => (ob10 (p4 q) o ho).keep ra ho (fun o _ => p2 _ _ (by omega)) (p2 _ _ (by omega)) (p2 _ _ (by omega)) (fun j hj => p2 _ _ (by omega)) (fun j hj => by rw [p3]) (fun a q1 q2 => k11.1 _ _ (by omega) (by omega) (by omega) (by omega) (by omega) (by omega)) (fun j hj => k11.1 _ _ (by omega) (by omega) (by omega) (by omega) (by omega) (by omega)) (fun j hj => k11.2.1 _ _ (by omega))
  have v2 : (aRend H).1 u 2 = H.1 u 2 := by rw [p2 _ _ (by omega)]
  have v3 : (aRend H).1 u 3 = H.1 u 3 := by rw [p2 _ _ (by omega)]
  have v4 : (aRend H).1 u 4 = H.1 u 4 := by rw [p2 _ _ (by omega)]
  have v24 : (aRend H).1 (u + 2) 4 = H.1 (u + 2) 4 := p2 _ _ (by omega)
  have h40 : (aRend H).1 102 2 = 4294967294 → B11.1 189 40 = (aRend H).1 (u + 2) 4 := fun q => by rw [k11.2.2.1 40 (by omega) (by omega) (by omega) (by omega), v24]; exact k1040 (p4 q)
  have kl11 := k11.kl
  have hxe : (aRend H).1 102 2 = 4294967294 → x2 = H.1 u 3 ∧ x3 = H.1 u 4 ∧ x4 = H.1 u 2 := fun q => hxr (p4 q)
  have j911 : ∀ j, j = 9 ∨ j = 10 ∨ j = 11 → B11.1 189 j = B.1 189 j := fun j q => by rw [k11.2.2.1 j (by omega) (by omega) (by omega) (by omega)]
  have fin := l167z (z := z) (E := aRend H) (B := B11) (x2 := x2) (x3 := x3) (x4 := x4) hL hu p1 r11 lt2 lt4 (fun q => by
    obtain ⟨q1, q2, q3⟩ := hxe q
    rw [v2, v3, v4]
    refine ⟨q1, q2, q3, by omega, by omega, fun t ht => ?_⟩
    obtain ⟨f1, f2, f3⟩ := th11 q t (by omega)
    exact ⟨f2.1, f1.1⟩)
  obtain ⟨r, w1, v, B12, w2', w3', w4', w5', w6, w7, w8, w9, w10⟩ := fin
  have hci : CI u (aTst u (aRend H)) := by
    unfold aTst
    split
    · exact p1.flt hu (by omega)
    · exact p1
  have e3 : (aTst u (aRend H)).1 102 3 = (aRend H).1 102 3 := by
    unfold aTst
    split
    · exact xsI_ne (by omega)
    · rfl
  refine ⟨r, w1, v, B12, w2', hci, w3', fun q => ?_, kl11.trans ⟨fun a j q _ => w6 a j q, fun a j _ => by rw [w7], fun j q1 q2 q3 q4 _ _ => w8 j q1 q2 q3 (by omega) (by omega)⟩, by rw [e3]; exact w9.trans cd11.1, by rw [e3]; exact cd11.2, fun q j hj => (w10 q j hj).trans (j911 j hj)⟩
  obtain ⟨a1, a2, a3, a4, a5, a6, a7⟩ := w4' q
  rw [a7] at q ⊢
  refine ⟨a1, a2, a3, a4, a5, by omega, by omega, a6, fun t ht => ?_, by rw [w8 40 (by omega) (by omega) (by omega) (by omega) (by omega)]; exact h40 q, fun o ho => ?_⟩
  · exact (th11 q t (by omega)).keep (by omega) p1 (fun _ _ => rfl) (fun _ _ _ _ => rfl) (fun _ _ _ _ => rfl) (fun a q1 q2 => w6 _ _ (by omega)) (fun a j q1 q2 q3 q4 => w6 _ _ (by omega)) (fun j q1 => w6 _ _ (by omega)) (fun j q1 => by rw [w7])
  · exact (ob11 q o (by omega)).keep p1 ho (fun _ _ => rfl) rfl rfl (fun _ _ => rfl) (fun _ _ => rfl) (fun a q1 q2 => w6 _ _ (by omega)) (fun j hj => w6 _ _ (by omega)) (fun j hj => by rw [w7])
theorem l167x {z : Nat} {T : Nat → Option xT} {R : Nat → Nat → Option Nat} {G B8 : xQ} {w u x2 x3 x4 : Nat} (hL : xLay T R w) (hu : u = 12 ∨ u = 103) (I8 : CI u G) (r8 : RR u G B8) (hn3 : G.1 u 2 ≤ 3) (hn2 : G.1 u 3 ≤ 2) (hn4 : G.1 u 4 ≤ 3) (lt2 : x2 < 256) (lt4 : x4 < 256) (hxs : G.1 102 2 = 4294967294 → x2 = G.1 u 3 ∧ x3 = G.1 u 4 ∧ x4 = G.1 u 2) (th8 : G.1 102 2 = 4294967294 → ∀ t, t < G.1 u 2 → TH u t G B8) (cd8 : (B8.1 189 38 = 2 ↔ G.1 102 3 = 1) ∧ G.1 102 3 ≤ 1) : xP 167 95 [(0, .ref 189), (2, .int (nI x2)), (3, .int (nI x3)), (4, .int (nI x4))] [] 0 0 (xm z T R B8) (fun r => ∃ v B2, r = (.inr (some (.int (nI v))), xm z T R B2) ∧ CI u (aTst u (aRend (aRos u G))) ∧ RR u (aTst u (aRend (aRos u G))) B2 ∧ ((aTst u (aRend (aRos u G))).1 102 2 = 4294967294 → Got u v (aTst u (aRend (aRos u G))) B2) ∧ KL B8 B2 ∧ (B2.1 189 38 = 2 ↔ (aTst u (aRend (aRos u G))).1 102 3 = 1) ∧ (aTst u (aRend (aRos u G))).1 102 3 ≤ 1 ∧ (¬ (aTst u (aRend (aRos u G))).1 102 2 = 4294967294 → ∀ j, j = 9 ∨ j = 10 ∨ j = 11 → B2.1 189 j = B8.1 189 j)) := by
  have hx9 : ∃ x9 B9, xF 161 [.ref 189, .int (nI (B8.1 189 53)), .int (nI 24), .int (nI 1)] (xm z T R B8) (.inr (some (.int (nI x9))), xm z T R B9) ∧ RR u (aRb (G.1 (u + 2) 4) 24 G).2 B9 ∧ x9 < 256 ∧ ((aRb (G.1 (u + 2) 4) 24 G).2.1 102 2 = 4294967294 → x9 = (aRb (G.1 (u + 2) 4) 24 G).1) ∧ KB 0 0 0 0 0 0 0 0 B8 B9 := by
    by_cases hE : G.1 102 2 = 4294967294
    · have s4 := (r8.2.2.2.2.2.1 hE).2.2.2.1
      have i5 := I8.2.2.2.2.1
      have i6 := I8.2.2.2.2.2.1
      rw [s4]
      obtain ⟨x, C, c1, c2, c3, c4, c5, c6⟩ := m161k (z := z) (lo := G.1 (u + 2) 4) (hi := 24) hL hu I8 r8 (by omega)
      exact ⟨x, C, c1, c2, c3, c4, c6⟩
    · obtain ⟨x, C, c1, c2, c3, c4, c5, c6⟩ := m161k (z := z) (lo := B8.1 189 53) (hi := 24) hL hu I8 r8 (fun q => absurd q hE)
      rw [aRb_fl hE] at c2
      rw [aRb_fl hE]
      exact ⟨x, C, c1, c2, c3, fun q => absurd q hE, c6⟩
  obtain ⟨x9, B9, g9, r9, lt9, n9, k9⟩ := hx9
  have ro := rol_k hu 24 0 (aRol0 u G) (by omega) (I8.ol hu)
  have ro1 := ros_k (u := u) I8 hu
  have cnt0 : (aRol0 u G).1 (u + 2) 4 = G.1 (u + 2) 4 := by
    unfold aRol0
    rw [xsI_ne (by omega), aRb_ne _ _ _ (by omega)]
  have k30 : ∀ o, (aRol0 u G).1 (u + 3) o = G.1 (u + 3) o := fun o => by
    unfold aRol0
    rw [xsI_ne (by omega), aRb_ne _ _ _ (by omega)]
  have R9 : RR u (aRol0 u G) (xsI (xsI B9 189 40 x9) 189 54 1) := by
    obtain ⟨q1, q2, q3, q4, q5, q6, q7⟩ := r9
    have e : ∀ a j, (a ≠ 102 ∨ j ≠ 5) → (aRol0 u G).1 a j = (aRb (G.1 (u + 2) 4) 24 G).2.1 a j := fun a j q => xsI_ne q
    have e5 : (aRol0 u G).1 102 5 = (aRb (G.1 (u + 2) 4) 24 G).1 := xsI_eq
    have eb : ∀ a j, (a ≠ 189 ∨ (j ≠ 40 ∧ j ≠ 54)) → (xsI (xsI B9 189 40 x9) 189 54 1).1 a j = B9.1 a j := fun a j q => by rw [xsI_ne (by omega), xsI_ne (by omega)]
    refine ⟨by rw [e _ _ (by omega), eb _ _ (by omega)]; exact q1, fun i hi => ?_, by rw [eb _ _ (by omega)]; exact q3, by rw [eb _ _ (by omega)]; exact q4, fun o ho => by rw [eb _ _ (by omega), eb _ _ (by omega)]; exact q5 o ho, fun q => ?_, fun q => ?_⟩
    · rw [e _ _ (by omega)] at hi ⊢
      rw [eb _ _ (by omega)]
      exact q2 i hi
    · rw [e _ _ (by omega)] at q
      obtain ⟨s1, s2, s3, s4, s5, s6⟩ := q6 q
      rw [eb 189 38 (by omega), eb 189 37 (by omega), eb 189 39 (by omega), eb 189 53 (by omega), e 102 4 (by omega), e (u + 2) 4 (by omega), e5]
      exact ⟨s1, s2, s3, s4, fun o ho => by rw [e _ _ (by omega), eb _ _ (by omega)]; exact s5 o ho, Or.inr ⟨xsI_eq, by rw [xsI_ne (by omega), xsI_eq]; exact n9 q⟩⟩
    · rw [e _ _ (by omega)] at q ⊢
      rw [eb _ _ (by omega), eb _ _ (by omega)]
      exact q7 q
  have k9' : KL B8 (xsI (xsI B9 189 40 x9) 189 54 1) := k9.kl.trans ⟨fun a j q _ => by rw [xsI_ne (by omega), xsI_ne (by omega)], fun _ _ _ => rfl, fun j _ _ _ q _ q2 => by rw [xsI_ne (by omega), xsI_ne (by omega)]⟩
  have c938 : (xsI (xsI B9 189 40 x9) 189 54 1).1 189 38 = B9.1 189 38 := by rw [xsI_ne (by omega), xsI_ne (by omega)]
  have b98 : ∀ a j, a ≠ 189 → a ≠ 225 → (xsI (xsI B9 189 40 x9) 189 54 1).1 a j = B8.1 a j := fun a j q1 q2 => by rw [xsI_ne (by omega), xsI_ne (by omega)]; exact k9.1 a j q1 q2 (by omega) (by omega) (by omega) (by omega)
  have b982 : ∀ a j, (xsI (xsI B9 189 40 x9) 189 54 1).2 a j = B8.2 a j := fun a j => k9.2.1 a j (by omega)
  have h40 : (xsI (xsI B9 189 40 x9) 189 54 1).1 189 40 = x9 := by rw [xsI_ne (by omega), xsI_eq]
  have l5 : (aRol0 u G).1 102 2 = 4294967294 → x9 = (aRol0 u G).1 102 5 := fun q => by
    have q' : (aRb (G.1 (u + 2) 4) 24 G).2.1 102 2 = 4294967294 := by rw [← q]; exact (xsI_ne (by omega)).symm
    rw [n9 q']; exact xsI_eq.symm
  refine xp_aload_n rfl rfl ?_
  refine xp_aload_n rfl rfl ?_
  refine xp_aload_n rfl rfl ?_
  refine xp_gfi rfl rfl (by decide) (by decide) (by first | assumption | exact hL.t rfl) ?_
  refine xp_bipush (n := 24) rfl (by decide) ?_
  refine xp_iconst (n := 1) rfl (by decide) ?_
  refine xp_iv rfl rfl (Nat.le_of_ble_eq_true rfl) (by decide) (by decide) (by decide) (Nat.le_of_ble_eq_true rfl) rfl (xrcv1 (by decide) (by first | assumption | exact hL.t rfl)) (g9) rfl ?_
  refine xp_pfi rfl rfl (by decide) (by decide) (by decide) (by first | assumption | exact hL.t rfl) ?_
  refine xp_aload_n rfl rfl ?_
  refine xp_iconst (n := 1) rfl (by decide) ?_
  refine xp_pfz rfl rfl (by decide) (by decide) (by decide) (by first | assumption | exact hL.t rfl) (by omega) ?_
  refine xp_iconst (n := 0) rfl (by decide) ?_
  refine xp_istore rfl (by decide) ?_
  refine xp_weak [(0, .ref 189), (2, .int (nI x2)), (3, .int (nI x3)), (4, .int (nI x4)), (5, .int (nI 0))] (xle_cons rfl (xle_cons rfl (xle_cons rfl (xle_cons rfl (xle_cons rfl (xle_nil _)))))) (by simp [xnd]) ?_
  refine l167o hL hu 24 0 (aRol0 u G) (xsI (xsI B9 189 40 x9) 189 54 1) (by omega) (I8.ol hu) R9 (by rw [h40]; exact lt9) (fun q => ⟨by rw [h40]; exact l5 q, Nat.zero_le _, fun o ho => by omega⟩) (fun B10 r10 k10 ob10 => ?_)
  have r10' : RR u (aRos u G) B10 := r10
  have ob10' : (aRos u G).1 102 2 = 4294967294 → (aRos u G).1 (u + 2) 4 = (aRos u G).1 102 5 ∧ ∀ o, o < (aRos u G).1 (u + 2) 4 → OB u o (aRos u G) B10 := ob10
  have hk3 : ∀ o, o < G.1 (u + 2) 4 → (aRos u G).1 (u + 3) o = G.1 (u + 3) o := fun o ho => (ro.2.2.2.2.2.1 o (by rw [cnt0]; exact ho)).trans (k30 o)
  have ro5 : (aRos u G).1 102 5 = (aRol0 u G).1 102 5 := ro.2.2.2.2.2.2
  have ro4 : (aRos u G).1 102 2 = 4294967294 → (aRol0 u G).1 102 2 = 4294967294 := ro.2.2.2.1
  obtain ⟨ra, rb, rc, rd, re⟩ := ro1
  clear r10 ob10 ro
  have th10 : (aRos u G).1 102 2 = 4294967294 → ∀ t, t < G.1 u 2 → TH u t (aRos u G) B10 := fun q t ht => (th8 (rd q) t ht).keep (by omega) I8 hk3 (fun a j q1 q2 => rb a j (by omega) (by omega)) (fun a j q1 q2 => rc a j (by omega)) (fun a q1 q2 => by rw [k10.1 _ _ (by omega) (by omega) (by omega) (by omega) (by omega) (by omega)]; exact b98 _ _ (by omega) (by omega)) (fun a j q1 q2 q3 q4 => by rw [k10.1 _ _ (by omega) (by omega) (by omega) (by omega) (by omega) (by omega)]; exact b98 _ _ (by omega) (by omega)) (fun j q1 => by rw [k10.1 _ _ (by omega) (by omega) (by omega) (by omega) (by omega) (by omega)]; exact b98 _ _ (by omega) (by omega)) (fun j q1 => by rw [k10.2.1 _ _ (by omega)]; exact b982 _ _)
  have w2 : (aRos u G).1 u 2 = G.1 u 2 := by rw [rb _ _ (by omega) (by omega)]
  have w3 : (aRos u G).1 u 3 = G.1 u 3 := by rw [rb _ _ (by omega) (by omega)]
  have w4 : (aRos u G).1 u 4 = G.1 u 4 := by rw [rb _ _ (by omega) (by omega)]
  have cd10 : (B10.1 189 38 = 2 ↔ (aRos u G).1 102 3 = 1) ∧ (aRos u G).1 102 3 ≤ 1 := by
    rw [re]
    refine ⟨?_, cd8.2⟩
    have q1 := k10.2.2.2
    rw [c938] at q1
    exact q1.trans (k9.2.2.2.trans cd8.1)
  have k1040 : (aRos u G).1 102 2 = 4294967294 → B10.1 189 40 = (aRos u G).1 (u + 2) 4 := fun q => by
    rw [k10.2.2.1 40 (by omega) (by omega) (by omega) (by omega), h40, (ob10' q).1, ro5]
    exact l5 (ro4 q)
  have kl10 : KL B8 B10 := k9'.trans k10.kl
  have j910 : ∀ j, j = 9 ∨ j = 10 ∨ j = 11 → B10.1 189 j = B8.1 189 j := fun j q => by rw [k10.2.2.1 j (by omega) (by omega) (by omega) (by omega), xsI_ne (by omega), xsI_ne (by omega), k9.2.2.1 j (by omega) (by omega) (by omega) (by omega)]
  have hxr : (aRos u G).1 102 2 = 4294967294 → x2 = (aRos u G).1 u 3 ∧ x3 = (aRos u G).1 u 4 ∧ x4 = (aRos u G).1 u 2 := fun q => by rw [w2, w3, w4]; exact hxs (rd q)
  have fin := l167y (z := z) (H := aRos u G) (B := B10) hL hu ra r10' (by rw [w2]; exact hn3) (by rw [w3]; exact hn2) (by rw [w4]; exact hn4) lt2 lt4 hxr (fun q t ht => th10 q t (by rw [← w2]; exact ht)) (fun q => (ob10' q).2) k1040 cd10
  obtain ⟨r, w1', v, B2, w2', c1, c2, c3, c4, c5, c6, c7⟩ := fin
  exact ⟨r, w1', v, B2, w2', c1, c2, c3, kl10.trans c4, c5, c6, fun q j hj => (c7 q j hj).trans (j910 j hj)⟩
theorem m167 {z : Nat} {T : Nat → Option xT} {R : Nat → Nat → Option Nat} {A B : xQ} {w u cs : Nat} (hL : xLay T R w) (hu : u = 12 ∨ u = 103) (h1 : A.1 99 1 ≤ 2400) (h2 : ∀ i, i < A.1 99 1 → A.1 100 i < 256) (hR : RR u (aClear u (xsI (xsI (xsI A 102 2 4294967294) 102 4 0) 102 5 24)) B) (h380 : B.1 189 38 = 0) (hcs : cF (B.1 191) (B.1 193) (B.1 194) (B.1 195) 6 0 0 % 256 = cs) (hnf : ∀ f, f < 6 → B.1 191 f ≤ 30) : ∃ v B2, xF 167 [.ref 189] (xm z T R B) (.inr (some (.int (nI v))), xm z T R B2) ∧ CI u (aRead u cs A) ∧ RR u (aRead u cs A) B2 ∧ ((aRead u cs A).1 102 2 = 4294967294 → Got u v (aRead u cs A) B2) ∧ KL B B2 ∧ (B2.1 189 38 = 2 ↔ (aRead u cs A).1 102 3 = 1) ∧ (aRead u cs A).1 102 3 ≤ 1 ∧ (¬ (aRead u cs A).1 102 2 = 4294967294 → ∀ j, j = 9 ∨ j = 10 ∨ j = 11 → B2.1 189 j = B.1 189 j) := by
  have I0 := CI.clr hu h1 h2
  have hP := aH1_p (u := u) hu h1 h2
  have I3 := CI.h1 hu h1 h2
  have e5 : (aH1 u A).1 102 5 = 24 := by
    unfold aH1
    rw [aRb_ne _ _ _ (by omega), aRb_ne _ _ _ (by omega), aRb_ne _ _ _ (by omega)]
    unfold aClear
    rw [xsI_ne (by omega), (xit_fill (u + 3) 0 24 0 _).2, if_neg (by omega), xsI_eq]
  obtain ⟨y1, B1, g1, r1, -, -, -, k1⟩ := m161k (z := z) (lo := 83) (hi := 83) hL hu I0 hR (by omega)
  have I1 := I0.rb hu 83 83
  obtain ⟨y2, B2, g2, r2, -, -, -, k2⟩ := m161k (z := z) (lo := 78) (hi := 78) hL hu I1 r1 (by omega)
  have I2 := I1.rb hu 78 78
  obtain ⟨y3, B3, g3, r3', -, -, -, k3⟩ := m161k (z := z) (lo := 1) (hi := 1) hL hu I2 r2 (by omega)
  have r3 : RR u (aH1 u A) B3 := r3'
  have k13 := k1.trans (k2.trans k3)
  clear r3' r2 r1 I1 I2 k1 k2 k3
  have ef : ∀ a, (190 ≤ a ∧ a ≤ 213) → B3.1 a = B.1 a := fun a q => funext fun j => k13.1 a j (by omega) (by omega) (by omega) (by omega) (by omega) (by omega)
  have hcm : xF 119 [.ref 189] (xm z T R B3) (.inr (some (.int (nI cs))), xm z T R B3) := by
    have := m119 (z := z) (B := B3) hL (fun f hf => by rw [ef _ (by omega)]; exact hnf f hf)
    rw [ef _ (by omega), ef _ (by omega), ef _ (by omega), ef _ (by omega), hcs] at this
    exact this
  have hcs2 : cs < 256 := by omega
  have n38 : ¬ B3.1 189 38 = 2 := fun q => by have := k13.2.2.2.mp q; omega
  have r338 := r3.2.2.1
  unfold aRead
  generalize aH1 u A = D0 at *
  obtain ⟨y4, B4, g4, r4, -, -, -, b4, b42, b438⟩ := m161 (z := z) (lo := cs) (hi := cs) (c := 2) hL hu I3 r3 (by omega) (by omega)
  have I4 : CI u (aH2 cs D0) := I3.h2 hu
  have R4 : RR u (aH2 cs D0) B4 := r4.w3 hu
  have kl4 : KL B B4 := k13.kl.trans ⟨fun a j q1 q2 => b4 a j (by omega), fun a j q => by rw [b42], fun j _ _ _ q _ _ => b4 189 j (by omega)⟩
  have l4 : 1 ≤ (aH2 cs D0).1 102 5 := by
    unfold aH2
    rw [xsI_ne (by omega), aRb_ne _ _ _ (by omega), e5]; omega
  have cd4 : (B4.1 189 38 = 2 ↔ (aH2 cs D0).1 102 3 = 1) ∧ (aH2 cs D0).1 102 3 ≤ 1 := by
    have e3 : (aH2 cs D0).1 102 3 = (if hasC D0 = 0 then 0 else if (aRb cs cs D0).2.1 102 2 = 4294967294 then 0 else 1) := xsI_eq
    rw [e3, b438]
    unfold hasC
    by_cases q1 : D0.1 102 2 = 4294967294
    · have q4 := hP q1
      rw [if_pos q1, if_pos q1]
      by_cases q2 : (aRb cs cs D0).2.1 102 2 = 4294967294
      · rw [if_pos q2, if_pos q2]
        by_cases q3 : 3 < D0.1 99 1
        · rw [if_pos q3, if_neg (by omega)]; exact ⟨⟨fun q => by omega, fun q => by omega⟩, by omega⟩
        · rw [if_neg q3, if_pos rfl]; exact ⟨⟨fun q => by omega, fun q => by omega⟩, by omega⟩
      · rw [if_neg q2, if_neg q2]
        by_cases q3 : 3 < D0.1 99 1
        · rw [if_pos q3, if_pos (by omega), if_neg (by omega)]; exact ⟨⟨fun q => rfl, fun q => rfl⟩, by omega⟩
        · rw [if_neg q3, if_pos rfl, if_neg (by omega)]; exact ⟨⟨fun q => by omega, fun q => by omega⟩, by omega⟩
    · rw [if_neg q1, if_neg q1, if_pos rfl]; exact ⟨⟨fun q => absurd q n38, fun q => by omega⟩, by omega⟩
  have j49 : ∀ j, j = 9 ∨ j = 10 ∨ j = 11 → B4.1 189 j = B.1 189 j := fun j q => by rw [b4 189 j (by omega)]; exact k13.2.2.1 j (by omega) (by omega) (by omega) (by omega)
  clear b438 b42 b4 r4 n38 r338 ef k13 r3 I3 hP e5 I0 h380 hcs hnf
  generalize aH2 cs D0 = D at *
  obtain ⟨x2, B5, g5, r5, lt2, n5, -, k5⟩ := m161k (z := z) (lo := 0) (hi := 2) hL hu I4 R4 (by omega)
  have R5 : RR u (aH3a u D) B5 := r5.oth (fun a j q => xsI_ne (by omega)) (fun _ _ _ => rfl) (fun o ho => (r5.2.2.2.2.1 o ho).2)
  have K5 := KA.h3a I4 hu
  obtain ⟨x3, B6, g6, r6, -, n6, -, k6⟩ := m161k (z := z) (lo := 0) (hi := 3) hL hu K5.ci R5 (by omega)
  have R6 : RR u (aH3b u D) B6 := r6.oth (fun a j q => xsI_ne (by omega)) (fun _ _ _ => rfl) (fun o ho => (r6.2.2.2.2.1 o ho).2)
  have K6 := KA.h3b I4 hu
  obtain ⟨x4, B7, g7, r7, lt4, n7, -, k7⟩ := m161k (z := z) (lo := 1) (hi := 3) hL hu K6.ci R6 (by omega)
  have R7 : RR u (aH3 u D) B7 := r7.oth (fun a j q => xsI_ne (by omega)) (fun _ _ _ => rfl) (fun o ho => (r7.2.2.2.2.1 o ho).2)
  have K7 := KA.h3 I4 hu
  have k57 := k5.trans (k6.trans k7)
  obtain ⟨d1, d2, d3⟩ := aH3_b (u := u) (A := D) hu
  obtain ⟨z1, z2, z3⟩ := aH3_r (u := u) (A := D) hu
  have hxs : (aH3 u D).1 102 2 = 4294967294 → x2 = (aH3 u D).1 u 3 ∧ x3 = (aH3 u D).1 u 4 ∧ x4 = (aH3 u D).1 u 2 := fun q => by
    have q7 : (aRb 1 3 (aH3b u D)).2.1 102 2 = 4294967294 := by rw [← q]; exact (xsI_ne (by omega)).symm
    have q6' := (aRb_nf q7 K6.ci.pl).1
    have q6 : (aRb 0 3 (aH3a u D)).2.1 102 2 = 4294967294 := by rw [← q6']; exact (xsI_ne (by omega)).symm
    have q5' := (aRb_nf q6 K5.ci.pl).1
    have q5 : (aRb 0 2 D).2.1 102 2 = 4294967294 := by rw [← q5']; exact (xsI_ne (by omega)).symm
    rw [z1, z2, z3]
    exact ⟨n5 q5, n6 q6, n7 q7⟩
  have l7 := K7.l l4
  have e73 : (aH3 u D).1 102 3 = D.1 102 3 := K7.2.2.1 3 (by omega) (by omega)
  have cd7 : (B7.1 189 38 = 2 ↔ (aH3 u D).1 102 3 = 1) ∧ (aH3 u D).1 102 3 ≤ 1 := by rw [e73]; exact ⟨k57.2.2.2.trans cd4.1, cd4.2⟩
  have kl7 := kl4.trans k57.kl
  have I7 := K7.ci
  have j79 : ∀ j, j = 9 ∨ j = 10 ∨ j = 11 → B7.1 189 j = B.1 189 j := fun j q => by rw [k57.2.2.1 j (by omega) (by omega) (by omega) (by omega)]; exact j49 j q
  clear e73 cd4 kl4 k57 z1 z2 z3 n5 n6 n7 r5 r6 r7 R4 R5 R6 K5 K6 K7 k5 k6 k7 I4 l4
  generalize aH3 u D = F at *
  obtain ⟨t1, -⟩ := KA.ths hu (F.1 u 2) 0 F (by omega) I7 l7
  have g2' : (aThs u (F.1 u 2) 0 F).1 u 2 = F.1 u 2 := t1.1 u 2 (by omega) (by omega) (by omega) (by omega)
  have g3' : (aThs u (F.1 u 2) 0 F).1 u 3 = F.1 u 3 := t1.1 u 3 (by omega) (by omega) (by omega) (by omega)
  have g4' : (aThs u (F.1 u 2) 0 F).1 u 4 = F.1 u 4 := t1.1 u 4 (by omega) (by omega) (by omega) (by omega)
  have tnf := fun q => t1.nf q
  have e83 : (aThs u (F.1 u 2) 0 F).1 102 3 = F.1 102 3 := t1.2.2.1 3 (by omega) (by omega)
  have I8 := t1.ci
  have hex : ∃ r, xF 167 [.ref 189] (xm z T R B) r ∧ ∃ v B2, r = (.inr (some (.int (nI v))), xm z T R B2) ∧ CI u (aTst u (aRend (aRos u (aThs u (F.1 u 2) 0 F)))) ∧ RR u (aTst u (aRend (aRos u (aThs u (F.1 u 2) 0 F)))) B2 ∧ ((aTst u (aRend (aRos u (aThs u (F.1 u 2) 0 F)))).1 102 2 = 4294967294 → Got u v (aTst u (aRend (aRos u (aThs u (F.1 u 2) 0 F)))) B2) ∧ KL B B2 ∧ (B2.1 189 38 = 2 ↔ (aTst u (aRend (aRos u (aThs u (F.1 u 2) 0 F)))).1 102 3 = 1) ∧ (aTst u (aRend (aRos u (aThs u (F.1 u 2) 0 F)))).1 102 3 ≤ 1 ∧ (¬ (aTst u (aRend (aRos u (aThs u (F.1 u 2) 0 F)))).1 102 2 = 4294967294 → ∀ j, j = 9 ∨ j = 10 ∨ j = 11 → B2.1 189 j = B.1 189 j) := by
    refine xF_p (Nat.le_of_ble_eq_true rfl) ?_
    refine xp_aload_n rfl rfl ?_
    refine xp_bipush (n := 83) rfl (by decide) ?_
    refine xp_bipush (n := 83) rfl (by decide) ?_
    refine xp_iconst (n := 1) rfl (by decide) ?_
    refine xp_iv rfl rfl (Nat.le_of_ble_eq_true rfl) (by decide) (by decide) (by decide) (Nat.le_of_ble_eq_true rfl) rfl (xrcv1 (by decide) (by first | assumption | exact hL.t rfl)) (g1) rfl ?_
    refine xp_pop rfl rfl ?_
    refine xp_aload_n rfl rfl ?_
    refine xp_bipush (n := 78) rfl (by decide) ?_
    refine xp_bipush (n := 78) rfl (by decide) ?_
    refine xp_iconst (n := 1) rfl (by decide) ?_
    refine xp_iv rfl rfl (Nat.le_of_ble_eq_true rfl) (by decide) (by decide) (by decide) (Nat.le_of_ble_eq_true rfl) rfl (xrcv1 (by decide) (by first | assumption | exact hL.t rfl)) (g2) rfl ?_
    refine xp_pop rfl rfl ?_
    refine xp_aload_n rfl rfl ?_
    refine xp_iconst (n := 1) rfl (by decide) ?_
    refine xp_iconst (n := 1) rfl (by decide) ?_
    refine xp_iconst (n := 1) rfl (by decide) ?_
    refine xp_iv rfl rfl (Nat.le_of_ble_eq_true rfl) (by decide) (by decide) (by decide) (Nat.le_of_ble_eq_true rfl) rfl (xrcv1 (by decide) (by first | assumption | exact hL.t rfl)) (g3) rfl ?_
    refine xp_pop rfl rfl ?_
    refine xp_aload_n rfl rfl ?_
    refine xp_iv rfl rfl (Nat.le_of_ble_eq_true rfl) (by decide) (by decide) (by decide) (Nat.le_of_ble_eq_true rfl) rfl (xrcv1 (by decide) (by first | assumption | exact hL.t rfl)) (hcm) rfl ?_
    refine xp_istore_n rfl (by decide) ?_
    refine xp_aload_n rfl rfl ?_
    refine xp_iload_n rfl rfl ?_
    refine xp_iload_n rfl rfl ?_
    refine xp_iconst (n := 2) rfl (by decide) ?_
    refine xp_iv rfl rfl (Nat.le_of_ble_eq_true rfl) (by decide) (by decide) (by decide) (Nat.le_of_ble_eq_true rfl) rfl (xrcv1 (by decide) (by first | assumption | exact hL.t rfl)) (g4) rfl ?_
    refine xp_pop rfl rfl ?_
    refine xp_aload_n rfl rfl ?_
    refine xp_iconst (n := 0) rfl (by decide) ?_
    refine xp_iconst (n := 2) rfl (by decide) ?_
    refine xp_iconst (n := 1) rfl (by decide) ?_
    refine xp_iv rfl rfl (Nat.le_of_ble_eq_true rfl) (by decide) (by decide) (by decide) (Nat.le_of_ble_eq_true rfl) rfl (xrcv1 (by decide) (by first | assumption | exact hL.t rfl)) (g5) rfl ?_
    refine xp_istore_n rfl (by decide) ?_
    refine xp_aload_n rfl rfl ?_
    refine xp_iconst (n := 0) rfl (by decide) ?_
    refine xp_iconst (n := 3) rfl (by decide) ?_
    refine xp_iconst (n := 1) rfl (by decide) ?_
    refine xp_iv rfl rfl (Nat.le_of_ble_eq_true rfl) (by decide) (by decide) (by decide) (Nat.le_of_ble_eq_true rfl) rfl (xrcv1 (by decide) (by first | assumption | exact hL.t rfl)) (g6) rfl ?_
    refine xp_istore_n rfl (by decide) ?_
    refine xp_aload_n rfl rfl ?_
    refine xp_iconst (n := 1) rfl (by decide) ?_
    refine xp_iconst (n := 3) rfl (by decide) ?_
    refine xp_iconst (n := 1) rfl (by decide) ?_
    refine xp_iv rfl rfl (Nat.le_of_ble_eq_true rfl) (by decide) (by decide) (by decide) (Nat.le_of_ble_eq_true rfl) rfl (xrcv1 (by decide) (by first | assumption | exact hL.t rfl)) (g7) rfl ?_
    refine xp_istore rfl (by decide) ?_
    refine xp_iconst (n := 0) rfl (by decide) ?_
    refine xp_istore rfl (by decide) ?_
    refine xp_weak [(0, .ref 189), (2, .int (nI x2)), (3, .int (nI x3)), (4, .int (nI x4)), (5, .int (nI 0))] (xle_cons rfl (xle_cons rfl (xle_cons rfl (xle_cons rfl (xle_cons rfl (xle_nil _)))))) (by simp [xnd]) ?_
    refine l167t (n := F.1 u 2) hL hu (by omega) lt4 (F.1 u 2) 0 F B7 (by omega) I7 l7 R7 (fun q => (hxs q).2.2) (fun _ v hv => by omega) (fun B8 r8 k8 th8 => ?_)
    have fin := l167x (z := z) (B8 := B8) hL hu I8 r8 (by rw [g2']; omega) (by rw [g3']; omega) (by rw [g4']; omega) lt2 lt4 (fun q => by rw [g2', g3', g4']; exact hxs (tnf q)) (fun q t ht => th8 q t (by rw [← g2']; exact ht)) (by rw [e83]; exact ⟨k8.2.2.2.trans cd7.1, cd7.2⟩)
    obtain ⟨r, w1', v, B2, w2', c1, c2, c3, c4, c5, c6, c7⟩ := fin
    exact ⟨r, w1', v, B2, w2', c1, c2, c3, kl7.trans (k8.kl.trans c4), c5, c6, fun q j hj => (c7 q j hj).trans (by rw [k8.2.2.1 j (by omega) (by omega) (by omega) (by omega)]; exact j79 j hj)⟩
  obtain ⟨r, h3, v, B2, h4, h5⟩ := hex
  rw [h4] at h3
  exact ⟨v, B2, h3, h5⟩
