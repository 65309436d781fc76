-- load: the reference takes all
theorem l167t {z : Nat} {T : Nat → Option xT} {R : Nat → Nat → Option Nat} {w u n x2 x3 x4 : Nat} {Q : xR → Prop} (hL : xLay T R w) (hu : u = 12 ∨ u = 103) (hn3 : n ≤ 3) (hx4 : x4 < 256) : ∀ (m t : Nat) (A B : xQ), t + m = n → CI u A → 1 ≤ A.1 102 5 → RR u A B → (A.1 102 2 = 4294967294 → x4 = n) → (A.1 102 2 = 4294967294 → ∀ v, v < t → TH u v A B) → (∀ B2, RR u (aThs u m t A) B2 → KB 0 150 0 15 0 3 0 0 B B2 → ((aThs u m t A).1 102 2 = 4294967294 → ∀ v, v < n → TH u v (aThs u m t A) B2) → xP 167 95 [(0, .ref 189), (2, .int (nI x2)), (3, .int (nI x3)), (4, .int (nI x4))] [] 0 0 (xm z T R B2) Q) → xP 167 69 [(0, .ref 189), (2, .int (nI x2)), (3, .int (nI x3)), (4, .int (nI x4)), (5, .int (nI t))] [] 0 0 (xm z T R B) Q := by
  intro m
  induction m with
  | zero =>
    intro t A B ht hI hl hR hx hC hQ
    have e4 : t = n := by omega
    subst e4
    have hQ2 := hQ B hR (KB.refl B) hC
    have h38 := hR.2.2.1
    by_cases hE : A.1 102 2 = 4294967294
    · have hx2 := hx hE
      refine xp_iload rfl rfl ?_
      refine xp_iload rfl rfl ?_
      refine xp_icge 95 rfl (by decide) (by omega) (by omega) (fun h73 => ?_) (fun h73 => ?_)
      · skip
        refine xp_weak [(0, .ref 189), (2, .int (nI x2)), (3, .int (nI x3)), (4, .int (nI x4))] (xle_cons rfl (xle_cons rfl (xle_cons rfl (xle_cons rfl (xle_nil _))))) (by simp [xnd]) ?_
        exact hQ2
      · exfalso; omega
    · have h38b := (hR.2.2.2.2.2.2 hE).1
      refine xp_iload rfl rfl ?_
      refine xp_iload rfl rfl ?_
      refine xp_icge 95 rfl (by decide) (by omega) (by omega) (fun h73 => ?_) (fun h73 => ?_)
      · skip
        refine xp_weak [(0, .ref 189), (2, .int (nI x2)), (3, .int (nI x3)), (4, .int (nI x4))] (xle_cons rfl (xle_cons rfl (xle_cons rfl (xle_cons rfl (xle_nil _))))) (by simp [xnd]) ?_
        exact hQ2
      · skip
        refine xp_aload_n rfl rfl ?_
        refine xp_gfi rfl rfl (by decide) (by decide) (by first | assumption | exact hL.t rfl) ?_
        refine xp_ifne 95 rfl (by decide) (by omega) (fun h80 => ?_) (fun h80 => ?_)
        · skip
          refine xp_weak [(0, .ref 189), (2, .int (nI x2)), (3, .int (nI x3)), (4, .int (nI x4))] (xle_cons rfl (xle_cons rfl (xle_cons rfl (xle_cons rfl (xle_nil _))))) (by simp [xnd]) ?_
          exact hQ2
        · exfalso; omega
  | succ m ih =>
    intro t A B ht hI hl hR hx hC hQ
    have h38 := hR.2.2.1
    by_cases hE : A.1 102 2 = 4294967294
    · have hx2 := hx hE
      have h38b := (hR.2.2.2.2.2.1 hE).1
      obtain ⟨B1, g1, g2, g3, g4⟩ := m165 (z := z) (t := t) hL hu (by omega) hI hl hR
      obtain ⟨hK, -⟩ := KA.rs hI hl (As.of (w := 0) (t := t) hu (by omega))
      have hih := ih (t + 1) (aRst u (u + 11 + 25 * t) A) B1 (by omega) hK.ci (hK.l hl) g2 (fun _ => hx2) (fun q v hv => by
        by_cases e : v = t
        · rw [e]; exact g3 q
        · exact (hC (hK.nf q) v (by omega)).keep (by omega) hI hK.2.2.2.1 (fun a j q1 q2 => hK.1 _ _ (by omega) (by omega) (by omega) (by omega)) (fun a j q1 q2 => hK.2.1 _ _ (by omega)) (fun a q1 q2 => g4.1 _ _ (by omega) (by omega) (by omega) (by omega) (by omega) (by omega)) (fun a j q1 q2 q3 q4 => g4.1 _ _ (by omega) (by omega) (by omega) (by omega) (by omega) (by omega)) (fun j q1 => g4.1 _ _ (by omega) (by omega) (by omega) (by omega) (by omega) (by omega)) (fun j q1 => g4.2.1 _ _ (by omega))) (fun B2 h1 h2 h3 => hQ B2 h1 ((g4.mono (by omega) (by omega) (by omega) (by omega)).trans h2) h3)
      refine xp_iload rfl rfl ?_
      refine xp_iload rfl rfl ?_
      refine xp_icge 95 rfl (by decide) (by omega) (by omega) (fun h73 => ?_) (fun h73 => ?_)
      · exfalso; omega
      · skip
        refine xp_aload_n rfl rfl ?_
        refine xp_gfi rfl rfl (by decide) (by decide) (by first | assumption | exact hL.t rfl) ?_
        rw [h38b]
        refine xp_ifne 95 rfl (by decide) (by omega) (fun h80 => ?_) (fun h80 => ?_)
        · exfalso; omega
        · skip
          refine xp_aload_n rfl rfl ?_
          refine xp_iload rfl rfl ?_
          refine xp_iv rfl rfl (Nat.le_of_ble_eq_true rfl) (by decide) (by decide) (by decide) (Nat.le_of_ble_eq_true rfl) rfl (xrcv1 (by decide) (by first | assumption | exact hL.t rfl)) (g1) rfl ?_
          refine xp_iinc rfl rfl (by decide) (nI_inc _) ?_
          refine xp_goto 69 rfl (by decide) ?_
          refine xp_weak [(0, .ref 189), (2, .int (nI x2)), (3, .int (nI x3)), (4, .int (nI x4)), (5, .int (nI (t + 1)))] (xle_cons rfl (xle_cons rfl (xle_cons rfl (xle_cons rfl (xle_cons rfl (xle_nil _)))))) (by simp [xnd]) ?_
          exact hih
    · have h38b := (hR.2.2.2.2.2.2 hE).1
      have hK := (KA.ths hu (m + 1) t A (by omega) hI hl).1
      have hQ2 := hQ B (hR.ka hE hK hu (by omega)) (KB.refl B) (fun q => absurd (hK.nf q) hE)
      refine xp_iload rfl rfl ?_
      refine xp_iload rfl rfl ?_
      refine xp_icge 95 rfl (by decide) (by omega) (by omega) (fun h73 => ?_) (fun h73 => ?_)
      · skip
        refine xp_weak [(0, .ref 189), (2, .int (nI x2)), (3, .int (nI x3)), (4, .int (nI x4))] (xle_cons rfl (xle_cons rfl (xle_cons rfl (xle_cons rfl (xle_nil _))))) (by simp [xnd]) ?_
        exact hQ2
      · skip
        refine xp_aload_n rfl rfl ?_
        refine xp_gfi rfl rfl (by decide) (by decide) (by first | assumption | exact hL.t rfl) ?_
        refine xp_ifne 95 rfl (by decide) (by omega) (fun h80 => ?_) (fun h80 => ?_)
        · skip
          refine xp_weak [(0, .ref 189), (2, .int (nI x2)), (3, .int (nI x3)), (4, .int (nI x4))] (xle_cons rfl (xle_cons rfl (xle_cons rfl (xle_cons rfl (xle_nil _))))) (by simp [xnd]) ?_
          exact hQ2
        · exfalso; omega
theorem l167o {z : Nat} {T : Nat → Option xT} {R : Nat → Nat → Option Nat} {w u x2 x3 x4 : Nat} {Q : xR → Prop} (hL : xLay T R w) (hu : u = 12 ∨ u = 103) : ∀ (n i : Nat) (A B : xQ), i + n = 24 → CI u A → RR u A B → B.1 189 40 < 256 → (A.1 102 2 = 4294967294 → B.1 189 40 = A.1 102 5 ∧ i ≤ A.1 (u + 2) 4 ∧ ∀ o, o < i → OB u o A B) → (∀ B2, RR u (aRol u n i A) B2 → KB 160 240 0 0 0 0 0 24 B B2 → ((aRol u n i A).1 102 2 = 4294967294 → (aRol u n i A).1 (u + 2) 4 = (aRol u n i A).1 102 5 ∧ ∀ o, o < (aRol u n i A).1 (u + 2) 4 → OB u o (aRol u n i A) B2) → xP 167 146 [(0, .ref 189), (2, .int (nI x2)), (3, .int (nI x3)), (4, .int (nI x4))] [] 0 0 (xm z T R B2) Q) → xP 167 118 [(0, .ref 189), (2, .int (nI x2)), (3, .int (nI x3)), (4, .int (nI x4)), (5, .int (nI i))] [] 0 0 (xm z T R B) Q := by
  intro n
  induction n with
  | zero =>
    intro i A B hi hI hR hb hC hQ
    have h38 := hR.2.2.1
    have i5 := hI.2.2.2.2.1
    have i6 := hI.2.2.2.2.2.1
    have hQ2 := hQ B hR (KB.refl B) (fun q => by
      obtain ⟨c1, c2, c3⟩ := hC q
      exact ⟨by show A.1 (u + 2) 4 = A.1 102 5; omega, fun o ho => c3 o (by have : o < A.1 (u + 2) 4 := ho; omega)⟩)
    by_cases hE : A.1 102 2 = 4294967294
    · obtain ⟨c1, c2, c3⟩ := hC hE
      refine xp_iload rfl rfl ?_
      refine xp_aload_n rfl rfl ?_
      refine xp_gfi rfl rfl (by decide) (by decide) (by first | assumption | exact hL.t rfl) ?_
      rw [c1]
      refine xp_icge 146 rfl (by decide) (by omega) (by omega) (fun h124 => ?_) (fun h124 => ?_)
      · skip
        refine xp_weak [(0, .ref 189), (2, .int (nI x2)), (3, .int (nI x3)), (4, .int (nI x4))] (xle_cons rfl (xle_cons rfl (xle_cons rfl (xle_cons rfl (xle_nil _))))) (by simp [xnd]) ?_
        exact hQ2
      · exfalso; omega
    · have h38b := (hR.2.2.2.2.2.2 hE).1
      refine xp_iload rfl rfl ?_
      refine xp_aload_n rfl rfl ?_
      refine xp_gfi rfl rfl (by decide) (by decide) (by first | assumption | exact hL.t rfl) ?_
      refine xp_icge 146 rfl (by decide) (by omega) (by omega) (fun h124 => ?_) (fun h124 => ?_)
      · skip
        refine xp_weak [(0, .ref 189), (2, .int (nI x2)), (3, .int (nI x3)), (4, .int (nI x4))] (xle_cons rfl (xle_cons rfl (xle_cons rfl (xle_cons rfl (xle_nil _))))) (by simp [xnd]) ?_
        exact hQ2
      · skip
        refine xp_aload_n rfl rfl ?_
        refine xp_gfi rfl rfl (by decide) (by decide) (by first | assumption | exact hL.t rfl) ?_
        refine xp_ifne 146 rfl (by decide) (by omega) (fun h131 => ?_) (fun h131 => ?_)
        · skip
          refine xp_weak [(0, .ref 189), (2, .int (nI x2)), (3, .int (nI x3)), (4, .int (nI x4))] (xle_cons rfl (xle_cons rfl (xle_cons rfl (xle_cons rfl (xle_nil _))))) (by simp [xnd]) ?_
          exact hQ2
        · exfalso; omega
  | succ n ih =>
    intro i A B hi hI hR hb hC hQ
    have h38 := hR.2.2.1
    have i5 := hI.2.2.2.2.1
    have i6 := hI.2.2.2.2.2.1
    have hex : ¬ (i < A.1 102 5 ∧ A.1 102 2 = 4294967294) → xP 167 146 [(0, .ref 189), (2, .int (nI x2)), (3, .int (nI x3)), (4, .int (nI x4))] [] 0 0 (xm z T R B) Q := fun hc => by
      have er : aRol u (n + 1) i A = A := if_neg hc
      rw [er] at hQ
      exact hQ B hR (KB.refl B) (fun q => by
        obtain ⟨c1, c2, c3⟩ := hC q
        have hlt : ¬ i < A.1 102 5 := fun z => hc ⟨z, q⟩
        exact ⟨by omega, fun o ho => c3 o (by omega)⟩)
    by_cases hE : A.1 102 2 = 4294967294
    · obtain ⟨c1, c2, c3⟩ := hC hE
      have h38b := (hR.2.2.2.2.2.1 hE).1
      by_cases hlt : i < A.1 102 5
      · obtain ⟨B1, g1, g2, g3, g4⟩ := m166 (z := z) (o := i) hL hu c2 hlt hI hE hR
        have er : aRol u (n + 1) i A = if i = A.1 (u + 2) 4 then xsI A 102 2 (A.1 102 4) else aRol u n (i + 1) (aRob u i A) := if_pos ⟨hlt, hE⟩
        rw [er] at hQ
        have e40 : B1.1 189 40 = B.1 189 40 := g4.2.2.1 _ (by omega) (by omega) (by omega) (by omega)
        by_cases ec : i = A.1 (u + 2) 4
        · rw [if_pos ec] at hQ g2 g3
          have nfD : ¬ (xsI A 102 2 (A.1 102 4)).1 102 2 = 4294967294 := by have := hI.pl; rw [xsI_eq]; omega
          have hQ3 := hQ B1 g2 (g4.mono (by omega) (by omega) (by omega) (by omega)) (fun q => absurd q nfD)
          have h38c := (g2.2.2.2.2.2.2 nfD).1
          have h38d := g2.2.2.1
          have hx : xP 167 118 [(0, .ref 189), (2, .int (nI x2)), (3, .int (nI x3)), (4, .int (nI x4)), (5, .int (nI (i + 1)))] [] 0 0 (xm z T R B1) Q := by
            refine xp_iload rfl rfl ?_
            refine xp_aload_n rfl rfl ?_
            refine xp_gfi rfl rfl (by decide) (by decide) (by first | assumption | exact hL.t rfl) ?_
            rw [e40, c1]
            refine xp_icge 146 rfl (by decide) (by omega) (by omega) (fun h124 => ?_) (fun h124 => ?_)
            · skip
              refine xp_weak [(0, .ref 189), (2, .int (nI x2)), (3, .int (nI x3)), (4, .int (nI x4))] (xle_cons rfl (xle_cons rfl (xle_cons rfl (xle_cons rfl (xle_nil _))))) (by simp [xnd]) ?_
              exact hQ3
            · skip
              refine xp_aload_n rfl rfl ?_
              refine xp_gfi rfl rfl (by decide) (by decide) (by first | assumption | exact hL.t rfl) ?_
              refine xp_ifne 146 rfl (by decide) (by omega) (fun h131 => ?_) (fun h131 => ?_)
              · skip
                refine xp_weak [(0, .ref 189), (2, .int (nI x2)), (3, .int (nI x3)), (4, .int (nI x4))] (xle_cons rfl (xle_cons rfl (xle_cons rfl (xle_cons rfl (xle_nil _))))) (by simp [xnd]) ?_
                exact hQ3
              · exfalso; omega
          skip
          refine xp_iload rfl rfl ?_
          refine xp_aload_n rfl rfl ?_
          refine xp_gfi rfl rfl (by decide) (by decide) (by first | assumption | exact hL.t rfl) ?_
          rw [c1]
          refine xp_icge 146 rfl (by decide) (by omega) (by omega) (fun h124 => ?_) (fun h124 => ?_)
          · exfalso; omega
          · skip
            refine xp_aload_n rfl rfl ?_
            refine xp_gfi rfl rfl (by decide) (by decide) (by first | assumption | exact hL.t rfl) ?_
            rw [h38b]
            refine xp_ifne 146 rfl (by decide) (by omega) (fun h131 => ?_) (fun h131 => ?_)
            · exfalso; omega
            · skip
              refine xp_aload_n rfl rfl ?_
              refine xp_iload rfl rfl ?_
              refine xp_iv rfl rfl (Nat.le_of_ble_eq_true rfl) (by decide) (by decide) (by decide) (Nat.le_of_ble_eq_true rfl) rfl (xrcv1 (by decide) (by first | assumption | exact hL.t rfl)) (g1) rfl ?_
              refine xp_iinc rfl rfl (by decide) (nI_inc _) ?_
              refine xp_goto 118 rfl (by decide) ?_
              refine xp_weak [(0, .ref 189), (2, .int (nI x2)), (3, .int (nI x3)), (4, .int (nI x4)), (5, .int (nI (i + 1)))] (xle_cons rfl (xle_cons rfl (xle_cons rfl (xle_cons rfl (xle_cons rfl (xle_nil _)))))) (by simp [xnd]) ?_
              exact hx
        · rw [if_neg ec] at hQ g2 g3
          have hK := KO.rob (o := i) hI hu (by omega)
          have k5 := hK.2.2.2.2.1
          have hih := ih (i + 1) (aRob u i A) B1 (by omega) hK.ci g2 (by omega) (fun q => ⟨by rw [e40, c1, hK.2.2.1 5 (by omega) (by omega)], by omega, fun o ho => by
            by_cases e : o = i
            · rw [e]; exact g3 q
            · exact (c3 o (by omega)).keep hI (by omega) hK.2.2.2.1 (hK.1 _ _ (by omega) (by omega) (by omega) (by omega) (by omega)) (hK.1 _ _ (by omega) (by omega) (by omega) (by omega) (by omega)) (fun j hj => hK.1 _ _ (by omega) (by omega) (by omega) (by omega) (by omega)) (fun j hj => hK.2.1 _ _ (by omega)) (fun a q1 q2 => g4.1 _ _ (by omega) (by omega) (by omega) (by omega) (by omega) (by omega)) (fun j hj => g4.1 _ _ (by omega) (by omega) (by omega) (by omega) (by omega) (by omega)) (fun j hj => g4.2.1 _ _ (by omega))⟩) (fun B2 h1 h2 h3 => hQ B2 h1 ((g4.mono (by omega) (by omega) (by omega) (by omega)).trans h2) h3)
          refine xp_iload rfl rfl ?_
          refine xp_aload_n rfl rfl ?_
          refine xp_gfi rfl rfl (by decide) (by decide) (by first | assumption | exact hL.t rfl) ?_
          rw [c1]
          refine xp_icge 146 rfl (by decide) (by omega) (by omega) (fun h124 => ?_) (fun h124 => ?_)
          · exfalso; omega
          · skip
            refine xp_aload_n rfl rfl ?_
            refine xp_gfi rfl rfl (by decide) (by decide) (by first | assumption | exact hL.t rfl) ?_
            rw [h38b]
            refine xp_ifne 146 rfl (by decide) (by omega) (fun h131 => ?_) (fun h131 => ?_)
            · exfalso; omega
            · skip
              refine xp_aload_n rfl rfl ?_
              refine xp_iload rfl rfl ?_
              refine xp_iv rfl rfl (Nat.le_of_ble_eq_true rfl) (by decide) (by decide) (by decide) (Nat.le_of_ble_eq_true rfl) rfl (xrcv1 (by decide) (by first | assumption | exact hL.t rfl)) (g1) rfl ?_
              refine xp_iinc rfl rfl (by decide) (nI_inc _) ?_
              refine xp_goto 118 rfl (by decide) ?_
              refine xp_weak [(0, .ref 189), (2, .int (nI x2)), (3, .int (nI x3)), (4, .int (nI x4)), (5, .int (nI (i + 1)))] (xle_cons rfl (xle_cons rfl (xle_cons rfl (xle_cons rfl (xle_cons rfl (xle_nil _)))))) (by simp [xnd]) ?_
              exact hih
      · have hQ2 := hex (fun z => hlt z.1)
        refine xp_iload rfl rfl ?_
        refine xp_aload_n rfl rfl ?_
        refine xp_gfi rfl rfl (by decide) (by decide) (by first | assumption | exact hL.t rfl) ?_
        rw [c1]
        refine xp_icge 146 rfl (by decide) (by omega) (by omega) (fun h124 => ?_) (fun h124 => ?_)
        · skip
          refine xp_weak [(0, .ref 189), (2, .int (nI x2)), (3, .int (nI x3)), (4, .int (nI x4))] (xle_cons rfl (xle_cons rfl (xle_cons rfl (xle_cons rfl (xle_nil _))))) (by simp [xnd]) ?_
          exact hQ2
        · exfalso; omega
    · have hQ2 := hex (fun z => hE z.2)
      have h38b := (hR.2.2.2.2.2.2 hE).1
      refine xp_iload rfl rfl ?_
      refine xp_aload_n rfl rfl ?_
      refine xp_gfi rfl rfl (by decide) (by decide) (by first | assumption | exact hL.t rfl) ?_
      refine xp_icge 146 rfl (by decide) (by omega) (by omega) (fun h124 => ?_) (fun h124 => ?_)
      · skip
        refine xp_weak [(0, .ref 189), (2, .int (nI x2)), (3, .int (nI x3)), (4, .int (nI x4))] (xle_cons rfl (xle_cons rfl (xle_cons rfl (xle_cons rfl (xle_nil _))))) (by simp [xnd]) ?_
        exact hQ2
      · skip
        refine xp_aload_n rfl rfl ?_
        refine xp_gfi rfl rfl (by decide) (by decide) (by first | assumption | exact hL.t rfl) ?_
        refine xp_ifne 146 rfl (by decide) (by omega) (fun h131 => ?_) (fun h131 => ?_)
        · skip
          refine xp_weak [(0, .ref 189), (2, .int (nI x2)), (3, .int (nI x3)), (4, .int (nI x4))] (xle_cons rfl (xle_cons rfl (xle_cons rfl (xle_cons rfl (xle_nil _))))) (by simp [xnd]) ?_
          exact hQ2
        · exfalso; omega
theorem l167e {z : Nat} {T : Nat → Option xT} {R : Nat → Nat → Option Nat} {A B : xQ} {w u x2 x3 x4 : Nat} {Q : xR → Prop} (hL : xLay T R w) (hu : u = 12 ∨ u = 103) (hI : CI u A) (hR : RR u A B) (hQ : ∀ B2, RR u (aRend A) B2 → KB 0 0 0 0 0 0 0 0 B B2 → xP 167 213 [(0, .ref 189), (2, .int (nI x2)), (3, .int (nI x3)), (4, .int (nI x4))] [] 0 0 (xm z T R B2) Q) : xP 167 146 [(0, .ref 189), (2, .int (nI x2)), (3, .int (nI x3)), (4, .int (nI x4))] [] 0 0 (xm z T R B) Q := by
  obtain ⟨r1, r2, r3, r4, r5, r6, r7⟩ := id hR
  have i1 := hI.1
  have i3 := hI.2.2.1
  have hp4 := hI.pl
  by_cases hE : A.1 102 2 = 4294967294
  · obtain ⟨s1, s2, s3, s4, s5, s6⟩ := r6 hE
    by_cases hlt : A.1 102 4 < A.1 99 1
    · have hsm : sm (B.1 214) 0 (A.1 102 4) = sm (A.1 100) 0 (A.1 102 4) := sm_congr _ _ (fun j _ q => r2 j (by omega))
      have hsu := m158 (z := z) (B := B) (n := A.1 102 4) hL hp4
      rw [hsm] at hsu
      unfold aRend at hQ
      have hs256 : sm (A.1 100) 0 (A.1 102 4) % 256 ≤ 255 := by omega
      generalize sm (A.1 100) 0 (A.1 102 4) % 256 = sv at *
      obtain ⟨x, B1, g1, g2, g3, g4, g5, g6⟩ := m161k (z := z) (lo := sv) (hi := sv) hL hu hI hR (by omega)
      have e99 : B1.1 189 35 = A.1 99 1 := by rw [g6.2.2.1 35 (by omega) (by omega) (by omega) (by omega)]; exact r1
      have hI1 := hI.rb hu sv sv
      have b39 := g2.2.2.2.1
      have b38 := g2.2.2.1
      by_cases hE1 : (aRb sv sv A).2.1 102 2 = 4294967294
      · obtain ⟨t1, t2, t3, t4, t5, t6⟩ := g2.2.2.2.2.2.1 hE1
        by_cases hl2 : (aRb sv sv A).2.1 102 4 < A.1 99 1
        · rw [if_pos ⟨hE1, hl2⟩] at hQ
          have hw := m160b (z := z) (B := B1) (p := (aRb sv sv A).2.1 102 4) (c := 1) hL t1
          have n38 : (xsI (xsI B1 189 38 1) 189 37 ((aRb sv sv A).2.1 102 4)).1 189 38 = 1 := by rw [xsI_ne (by omega), xsI_eq]
          have hQ2 := hQ (xsI (xsI B1 189 38 1) 189 37 ((aRb sv sv A).2.1 102 4)) (g2.mk' hu (fun a j q => xsI_ne (by omega)) (fun a j q => by rw [xsI_ne (by omega), xsI_ne (by omega)]) (by omega) (by rw [xsI_ne (by omega), xsI_ne (by omega)]; exact b39) (fun q => by rw [xsI_eq] at q; omega) (fun _ => ⟨by omega, by rw [xsI_eq, xsI_eq]⟩)) (g6.trans ⟨fun a j q _ _ _ _ _ => by rw [xsI_ne (by omega), xsI_ne (by omega)], fun _ _ _ => rfl, fun j q1 q2 q3 q4 => by rw [xsI_ne (by omega), xsI_ne (by omega)], by rw [n38, t1]; omega⟩)
          refine xp_aload_n rfl rfl ?_
          refine xp_gfi rfl rfl (by decide) (by decide) (by first | assumption | exact hL.t rfl) ?_
          rw [s1]
          refine xp_ifne 184 rfl (by decide) (by omega) (fun h150 => ?_) (fun h150 => ?_)
          · exfalso; omega
          · skip
            refine xp_aload_n rfl rfl ?_
            refine xp_gfi rfl rfl (by decide) (by decide) (by first | assumption | exact hL.t rfl) ?_
            refine xp_aload_n rfl rfl ?_
            refine xp_gfi rfl rfl (by decide) (by decide) (by first | assumption | exact hL.t rfl) ?_
            rw [s3, r1]
            refine xp_icge 184 rfl (by decide) (by omega) (by omega) (fun h161 => ?_) (fun h161 => ?_)
            · exfalso; omega
            · skip
              refine xp_aload_n rfl rfl ?_
              refine xp_aload_n rfl rfl ?_
              refine xp_gfi rfl rfl (by decide) (by decide) (by first | assumption | exact hL.t rfl) ?_
              rw [s3]
              refine xp_iv rfl rfl (Nat.le_of_ble_eq_true rfl) (by decide) (by decide) (by decide) (Nat.le_of_ble_eq_true rfl) rfl (xrcv1 (by decide) (by first | assumption | exact hL.t rfl)) (hsu) rfl ?_
              refine xp_istore_n rfl (by decide) ?_
              refine xp_aload_n rfl rfl ?_
              refine xp_iload_n rfl rfl ?_
              refine xp_iload_n rfl rfl ?_
              refine xp_iconst (n := 1) rfl (by decide) ?_
              refine xp_iv rfl rfl (Nat.le_of_ble_eq_true rfl) (by decide) (by decide) (by decide) (Nat.le_of_ble_eq_true rfl) rfl (xrcv1 (by decide) (by first | assumption | exact hL.t rfl)) (g1) rfl ?_
              refine xp_pop rfl rfl ?_
              refine xp_goto 193 rfl (by decide) ?_
              refine xp_aload_n rfl rfl ?_
              refine xp_gfi rfl rfl (by decide) (by decide) (by first | assumption | exact hL.t rfl) ?_
              refine xp_aload_n rfl rfl ?_
              refine xp_gfi rfl rfl (by decide) (by decide) (by first | assumption | exact hL.t rfl) ?_
              rw [e99, t3]
              refine xp_icge 213 rfl (by decide) (by omega) (by omega) (fun h201 => ?_) (fun h201 => ?_)
              · exfalso; omega
              · skip
                refine xp_aload_n rfl rfl ?_
                refine xp_aload_n rfl rfl ?_
                refine xp_gfi rfl rfl (by decide) (by decide) (by first | assumption | exact hL.t rfl) ?_
                rw [t3]
                refine xp_iconst (n := 1) rfl (by decide) ?_
                refine xp_iv rfl rfl (Nat.le_of_ble_eq_true rfl) (by decide) (by decide) (by decide) (Nat.le_of_ble_eq_true rfl) rfl (xrcv1 (by decide) (by first | assumption | exact hL.t rfl)) (hw) rfl ?_
                refine xp_weak [(0, .ref 189), (2, .int (nI x2)), (3, .int (nI x3)), (4, .int (nI x4))] (xle_cons rfl (xle_cons rfl (xle_cons rfl (xle_cons rfl (xle_nil _))))) (by simp [xnd]) ?_
                exact hQ2
        · rw [if_neg (fun z => hl2 z.2)] at hQ
          have hQ2 := hQ B1 g2 g6
          refine xp_aload_n rfl rfl ?_
          refine xp_gfi rfl rfl (by decide) (by decide) (by first | assumption | exact hL.t rfl) ?_
          rw [s1]
          refine xp_ifne 184 rfl (by decide) (by omega) (fun h150 => ?_) (fun h150 => ?_)
          · exfalso; omega
          · skip
            refine xp_aload_n rfl rfl ?_
            refine xp_gfi rfl rfl (by decide) (by decide) (by first | assumption | exact hL.t rfl) ?_
            refine xp_aload_n rfl rfl ?_
            refine xp_gfi rfl rfl (by decide) (by decide) (by first | assumption | exact hL.t rfl) ?_
            rw [s3, r1]
            refine xp_icge 184 rfl (by decide) (by omega) (by omega) (fun h161 => ?_) (fun h161 => ?_)
            · exfalso; omega
            · skip
              refine xp_aload_n rfl rfl ?_
              refine xp_aload_n rfl rfl ?_
              refine xp_gfi rfl rfl (by decide) (by decide) (by first | assumption | exact hL.t rfl) ?_
              rw [s3]
              refine xp_iv rfl rfl (Nat.le_of_ble_eq_true rfl) (by decide) (by decide) (by decide) (Nat.le_of_ble_eq_true rfl) rfl (xrcv1 (by decide) (by first | assumption | exact hL.t rfl)) (hsu) rfl ?_
              refine xp_istore_n rfl (by decide) ?_
              refine xp_aload_n rfl rfl ?_
              refine xp_iload_n rfl rfl ?_
              refine xp_iload_n rfl rfl ?_
              refine xp_iconst (n := 1) rfl (by decide) ?_
              refine xp_iv rfl rfl (Nat.le_of_ble_eq_true rfl) (by decide) (by decide) (by decide) (Nat.le_of_ble_eq_true rfl) rfl (xrcv1 (by decide) (by first | assumption | exact hL.t rfl)) (g1) rfl ?_
              refine xp_pop rfl rfl ?_
              refine xp_goto 193 rfl (by decide) ?_
              refine xp_aload_n rfl rfl ?_
              refine xp_gfi rfl rfl (by decide) (by decide) (by first | assumption | exact hL.t rfl) ?_
              refine xp_aload_n rfl rfl ?_
              refine xp_gfi rfl rfl (by decide) (by decide) (by first | assumption | exact hL.t rfl) ?_
              rw [e99, t3]
              refine xp_icge 213 rfl (by decide) (by omega) (by omega) (fun h201 => ?_) (fun h201 => ?_)
              · skip
                refine xp_weak [(0, .ref 189), (2, .int (nI x2)), (3, .int (nI x3)), (4, .int (nI x4))] (xle_cons rfl (xle_cons rfl (xle_cons rfl (xle_cons rfl (xle_nil _))))) (by simp [xnd]) ?_
                exact hQ2
              · exfalso; omega
      · rw [if_neg (fun z => hE1 z.1)] at hQ
        have hQ2 := hQ B1 g2 g6
        have t1 := (g2.2.2.2.2.2.2 hE1).1
        have hw : ∀ p, xF 160 [.ref 189, .int (nI p), .int (nI 1)] (xm z T R B1) (.inr none, xm z T R B1) := fun p => m160a hL t1 b38
        refine xp_aload_n rfl rfl ?_
        refine xp_gfi rfl rfl (by decide) (by decide) (by first | assumption | exact hL.t rfl) ?_
        rw [s1]
        refine xp_ifne 184 rfl (by decide) (by omega) (fun h150 => ?_) (fun h150 => ?_)
        · exfalso; omega
        · skip
          refine xp_aload_n rfl rfl ?_
          refine xp_gfi rfl rfl (by decide) (by decide) (by first | assumption | exact hL.t rfl) ?_
          refine xp_aload_n rfl rfl ?_
          refine xp_gfi rfl rfl (by decide) (by decide) (by first | assumption | exact hL.t rfl) ?_
          rw [s3, r1]
          refine xp_icge 184 rfl (by decide) (by omega) (by omega) (fun h161 => ?_) (fun h161 => ?_)
          · exfalso; omega
          · skip
            refine xp_aload_n rfl rfl ?_
            refine xp_aload_n rfl rfl ?_
            refine xp_gfi rfl rfl (by decide) (by decide) (by first | assumption | exact hL.t rfl) ?_
            rw [s3]
            refine xp_iv rfl rfl (Nat.le_of_ble_eq_true rfl) (by decide) (by decide) (by decide) (Nat.le_of_ble_eq_true rfl) rfl (xrcv1 (by decide) (by first | assumption | exact hL.t rfl)) (hsu) rfl ?_
            refine xp_istore_n rfl (by decide) ?_
            refine xp_aload_n rfl rfl ?_
            refine xp_iload_n rfl rfl ?_
            refine xp_iload_n rfl rfl ?_
            refine xp_iconst (n := 1) rfl (by decide) ?_
            refine xp_iv rfl rfl (Nat.le_of_ble_eq_true rfl) (by decide) (by decide) (by decide) (Nat.le_of_ble_eq_true rfl) rfl (xrcv1 (by decide) (by first | assumption | exact hL.t rfl)) (g1) rfl ?_
            refine xp_pop rfl rfl ?_
            refine xp_goto 193 rfl (by decide) ?_
            refine xp_aload_n rfl rfl ?_
            refine xp_gfi rfl rfl (by decide) (by decide) (by first | assumption | exact hL.t rfl) ?_
            refine xp_aload_n rfl rfl ?_
            refine xp_gfi rfl rfl (by decide) (by decide) (by first | assumption | exact hL.t rfl) ?_
            rw [e99]
            refine xp_icge 213 rfl (by decide) (by omega) (by omega) (fun h201 => ?_) (fun h201 => ?_)
            · skip
              refine xp_weak [(0, .ref 189), (2, .int (nI x2)), (3, .int (nI x3)), (4, .int (nI x4))] (xle_cons rfl (xle_cons rfl (xle_cons rfl (xle_cons rfl (xle_nil _))))) (by simp [xnd]) ?_
              exact hQ2
            · skip
              refine xp_aload_n rfl rfl ?_
              refine xp_aload_n rfl rfl ?_
              refine xp_gfi rfl rfl (by decide) (by decide) (by first | assumption | exact hL.t rfl) ?_
              refine xp_iconst (n := 1) rfl (by decide) ?_
              refine xp_iv rfl rfl (Nat.le_of_ble_eq_true rfl) (by decide) (by decide) (by decide) (Nat.le_of_ble_eq_true rfl) rfl (xrcv1 (by decide) (by first | assumption | exact hL.t rfl)) (hw _) rfl ?_
              refine xp_weak [(0, .ref 189), (2, .int (nI x2)), (3, .int (nI x3)), (4, .int (nI x4))] (xle_cons rfl (xle_cons rfl (xle_cons rfl (xle_cons rfl (xle_nil _))))) (by simp [xnd]) ?_
              exact hQ2
    · have er : aRend A = xsI A 102 2 (A.1 102 4) := by
        unfold aRend
        have e : aRb (sm (A.1 100) 0 (A.1 102 4) % 256) (sm (A.1 100) 0 (A.1 102 4) % 256) A = (sm (A.1 100) 0 (A.1 102 4) % 256, xsI A 102 2 (A.1 102 4)) := by
          unfold aRb
          rw [if_pos hE, if_neg (fun z => hlt z.1)]
        rw [e, if_neg (fun z => by have : (xsI A 102 2 (A.1 102 4)).1 102 2 = 4294967294 := z.1; rw [xsI_eq] at this; omega)]
      rw [er] at hQ
      have hw := m160b (z := z) (B := B) (p := A.1 99 1) (c := 1) hL s1
      have n38 : (xsI (xsI B 189 38 1) 189 37 (A.1 99 1)).1 189 38 = 1 := by rw [xsI_ne (by omega), xsI_eq]
      have n39 : (xsI (xsI B 189 38 1) 189 37 (A.1 99 1)).1 189 39 = A.1 102 4 := by rw [xsI_ne (by omega), xsI_ne (by omega)]; exact s3
      have n35 : (xsI (xsI B 189 38 1) 189 37 (A.1 99 1)).1 189 35 = A.1 99 1 := by rw [xsI_ne (by omega), xsI_ne (by omega)]; exact r1
      have hQ2 := hQ (xsI (xsI B 189 38 1) 189 37 (A.1 99 1)) (hR.mk' hu (fun a j q => xsI_ne (by omega)) (fun a j q => by rw [xsI_ne (by omega), xsI_ne (by omega)]) (by omega) (by omega) (fun q => by rw [xsI_eq] at q; omega) (fun _ => ⟨by omega, by rw [xsI_eq, xsI_eq]; omega⟩)) ⟨fun a j q _ _ _ _ _ => by rw [xsI_ne (by omega), xsI_ne (by omega)], fun _ _ _ => rfl, fun j q1 q2 q3 q4 => by rw [xsI_ne (by omega), xsI_ne (by omega)], by rw [n38, s1]; omega⟩
      refine xp_aload_n rfl rfl ?_
      refine xp_gfi rfl rfl (by decide) (by decide) (by first | assumption | exact hL.t rfl) ?_
      rw [s1]
      refine xp_ifne 184 rfl (by decide) (by omega) (fun h150 => ?_) (fun h150 => ?_)
      · exfalso; omega
      · skip
        refine xp_aload_n rfl rfl ?_
        refine xp_gfi rfl rfl (by decide) (by decide) (by first | assumption | exact hL.t rfl) ?_
        refine xp_aload_n rfl rfl ?_
        refine xp_gfi rfl rfl (by decide) (by decide) (by first | assumption | exact hL.t rfl) ?_
        rw [s3, r1]
        refine xp_icge 184 rfl (by decide) (by omega) (by omega) (fun h161 => ?_) (fun h161 => ?_)
        · skip
          refine xp_aload_n rfl rfl ?_
          refine xp_aload_n rfl rfl ?_
          refine xp_gfi rfl rfl (by decide) (by decide) (by first | assumption | exact hL.t rfl) ?_
          rw [r1]
          refine xp_iconst (n := 1) rfl (by decide) ?_
          refine xp_iv rfl rfl (Nat.le_of_ble_eq_true rfl) (by decide) (by decide) (by decide) (Nat.le_of_ble_eq_true rfl) rfl (xrcv1 (by decide) (by first | assumption | exact hL.t rfl)) (hw) rfl ?_
          refine xp_aload_n rfl rfl ?_
          refine xp_gfi rfl rfl (by decide) (by decide) (by first | assumption | exact hL.t rfl) ?_
          refine xp_aload_n rfl rfl ?_
          refine xp_gfi rfl rfl (by decide) (by decide) (by first | assumption | exact hL.t rfl) ?_
          rw [n35, n39]
          refine xp_icge 213 rfl (by decide) (by omega) (by omega) (fun h201 => ?_) (fun h201 => ?_)
          · skip
            refine xp_weak [(0, .ref 189), (2, .int (nI x2)), (3, .int (nI x3)), (4, .int (nI x4))] (xle_cons rfl (xle_cons rfl (xle_cons rfl (xle_cons rfl (xle_nil _))))) (by simp [xnd]) ?_
            exact hQ2
          · exfalso; omega
        · exfalso; omega
  · have er : aRend A = A := by
      unfold aRend
      rw [aRb_fl hE, if_neg (fun z => hE z.1)]
    rw [er] at hQ
    have t1 := (r7 hE).1
    have hQ2 := hQ B hR (KB.refl B)
    have hw : ∀ p, xF 160 [.ref 189, .int (nI p), .int (nI 1)] (xm z T R B) (.inr none, xm z T R B) := fun p => m160a hL t1 r3
    refine xp_aload_n rfl rfl ?_
    refine xp_gfi rfl rfl (by decide) (by decide) (by first | assumption | exact hL.t rfl) ?_
    refine xp_ifne 184 rfl (by decide) (by omega) (fun h150 => ?_) (fun h150 => ?_)
    · skip
      refine xp_aload_n rfl rfl ?_
      refine xp_aload_n rfl rfl ?_
      refine xp_gfi rfl rfl (by decide) (by decide) (by first | assumption | exact hL.t rfl) ?_
      refine xp_iconst (n := 1) rfl (by decide) ?_
      refine xp_iv rfl rfl (Nat.le_of_ble_eq_true rfl) (by decide) (by decide) (by decide) (Nat.le_of_ble_eq_true rfl) rfl (xrcv1 (by decide) (by first | assumption | exact hL.t rfl)) (hw _) rfl ?_
      refine xp_aload_n rfl rfl ?_
      refine xp_gfi rfl rfl (by decide) (by decide) (by first | assumption | exact hL.t rfl) ?_
      refine xp_aload_n rfl rfl ?_
      refine xp_gfi rfl rfl (by decide) (by decide) (by first | assumption | exact hL.t rfl) ?_
      refine xp_icge 213 rfl (by decide) (by first | omega | (rw [r1]; omega)) (by first | omega | (rw [r1]; omega)) (fun h201 => ?_) (fun h201 => ?_)
      · skip
        refine xp_weak [(0, .ref 189), (2, .int (nI x2)), (3, .int (nI x3)), (4, .int (nI x4))] (xle_cons rfl (xle_cons rfl (xle_cons rfl (xle_cons rfl (xle_nil _))))) (by simp [xnd]) ?_
        exact hQ2
      · skip
        refine xp_aload_n rfl rfl ?_
        refine xp_aload_n rfl rfl ?_
        refine xp_gfi rfl rfl (by decide) (by decide) (by first | assumption | exact hL.t rfl) ?_
        refine xp_iconst (n := 1) rfl (by decide) ?_
        refine xp_iv rfl rfl (Nat.le_of_ble_eq_true rfl) (by decide) (by decide) (by decide) (Nat.le_of_ble_eq_true rfl) rfl (xrcv1 (by decide) (by first | assumption | exact hL.t rfl)) (hw _) rfl ?_
        refine xp_weak [(0, .ref 189), (2, .int (nI x2)), (3, .int (nI x3)), (4, .int (nI x4))] (xle_cons rfl (xle_cons rfl (xle_cons rfl (xle_cons rfl (xle_nil _))))) (by simp [xnd]) ?_
        exact hQ2
    · exfalso; omega
theorem l167r {z : Nat} {T : Nat → Option xT} {R : Nat → Nat → Option Nat} {A B : xQ} {w u x2 x3 x4 : Nat} {Q : xR → Prop} (hL : xLay T R w) (h38 : B.1 189 38 = 0) (hn3 : x4 ≤ 3) (hst : ∀ t, t < x4 → B.1 217 t = A.1 (u + 11 + 25 * t) 2 ∧ A.1 (u + 11 + 25 * t) 2 ≤ 2) : ∀ (m i g : Nat), i + m = x4 → (g = 0 ∨ g = 1) → (∀ h, (h = 0 ∨ h = 1) → (h = 1 ↔ g = 1 ∨ ∃ v, i ≤ v ∧ v < x4 ∧ A.1 (u + 11 + 25 * v) 2 = 0) → xP 167 252 [(0, .ref 189), (2, .int (nI x2)), (3, .int (nI x3)), (4, .int (nI x4)), (5, .int (nI h))] [] 0 0 (xm z T R B) Q) → xP 167 219 [(0, .ref 189), (2, .int (nI x2)), (3, .int (nI x3)), (4, .int (nI x4)), (5, .int (nI g)), (6, .int (nI i))] [] 0 0 (xm z T R B) Q := by
  intro m
  induction m with
  | zero =>
    intro i g hi hg hQ
    have hQ2 := hQ g hg ⟨fun q => Or.inl q, fun q => q.elim id (fun ⟨v, v1, v2, _⟩ => by omega)⟩
    refine xp_iload rfl rfl ?_
    refine xp_iload rfl rfl ?_
    refine xp_icge 252 rfl (by decide) (by omega) (by omega) (fun h223 => ?_) (fun h223 => ?_)
    · skip
      refine xp_weak [(0, .ref 189), (2, .int (nI x2)), (3, .int (nI x3)), (4, .int (nI x4)), (5, .int (nI g))] (xle_cons rfl (xle_cons rfl (xle_cons rfl (xle_cons rfl (xle_cons rfl (xle_nil _)))))) (by simp [xnd]) ?_
      exact hQ2
    · exfalso; omega
  | succ m ih =>
    intro i g hi hg hQ
    obtain ⟨y1, y2⟩ := hst i (by omega)
    by_cases h0 : A.1 (u + 11 + 25 * i) 2 = 0
    · have hih := ih (i + 1) 1 (by omega) (Or.inr rfl) (fun h h1 h2 => hQ h h1 ⟨fun _ => Or.inr ⟨i, by omega, by omega, h0⟩, fun _ => h2.mpr (Or.inl rfl)⟩)
      refine xp_iload rfl rfl ?_
      refine xp_iload rfl rfl ?_
      refine xp_icge 252 rfl (by decide) (by omega) (by omega) (fun h223 => ?_) (fun h223 => ?_)
      · exfalso; omega
      · skip
        refine xp_aload_n rfl rfl ?_
        refine xp_gfi rfl rfl (by decide) (by decide) (by first | assumption | exact hL.t rfl) ?_
        rw [h38]
        refine xp_ifne 252 rfl (by decide) (by omega) (fun h230 => ?_) (fun h230 => ?_)
        · exfalso; omega
        · skip
          refine xp_aload_n rfl rfl ?_
          refine xp_gfa rfl rfl (by decide) (by decide) (by first | assumption | exact hL.t rfl) (by first | assumption | exact hL.r rfl | exact hL.2.2.2.2.2) ?_
          refine xp_iload rfl rfl ?_
          refine xp_iald rfl (by first | assumption | exact hL.t rfl) (by omega) (by omega) ?_
          rw [y1]
          refine xp_ifne 246 rfl (by decide) (by omega) (fun h240 => ?_) (fun h240 => ?_)
          · exfalso; omega
          · skip
            refine xp_iconst (n := 1) rfl (by decide) ?_
            refine xp_istore rfl (by decide) ?_
            refine xp_iinc rfl rfl (by decide) (nI_inc _) ?_
            refine xp_goto 219 rfl (by decide) ?_
            refine xp_weak [(0, .ref 189), (2, .int (nI x2)), (3, .int (nI x3)), (4, .int (nI x4)), (5, .int (nI 1)), (6, .int (nI (i + 1)))] (xle_cons rfl (xle_cons rfl (xle_cons rfl (xle_cons rfl (xle_cons rfl (xle_cons rfl (xle_nil _))))))) (by simp [xnd]) ?_
            exact hih
    · have hih := ih (i + 1) g (by omega) hg (fun h h1 h2 => hQ h h1 (h2.trans ⟨fun q => q.elim Or.inl (fun ⟨v, v1, v2, v3⟩ => Or.inr ⟨v, by omega, v2, v3⟩), fun q => q.elim Or.inl (fun ⟨v, v1, v2, v3⟩ => by
        by_cases e : v = i
        · rw [e] at v3; exact absurd v3 h0
        · exact Or.inr ⟨v, by omega, v2, v3⟩)⟩))
      refine xp_iload rfl rfl ?_
      refine xp_iload rfl rfl ?_
      refine xp_icge 252 rfl (by decide) (by omega) (by omega) (fun h223 => ?_) (fun h223 => ?_)
      · exfalso; omega
      · skip
        refine xp_aload_n rfl rfl ?_
        refine xp_gfi rfl rfl (by decide) (by decide) (by first | assumption | exact hL.t rfl) ?_
        rw [h38]
        refine xp_ifne 252 rfl (by decide) (by omega) (fun h230 => ?_) (fun h230 => ?_)
        · exfalso; omega
        · skip
          refine xp_aload_n rfl rfl ?_
          refine xp_gfa rfl rfl (by decide) (by decide) (by first | assumption | exact hL.t rfl) (by first | assumption | exact hL.r rfl | exact hL.2.2.2.2.2) ?_
          refine xp_iload rfl rfl ?_
          refine xp_iald rfl (by first | assumption | exact hL.t rfl) (by omega) (by omega) ?_
          rw [y1]
          refine xp_ifne 246 rfl (by decide) (by omega) (fun h240 => ?_) (fun h240 => ?_)
          · skip
            refine xp_iinc rfl rfl (by decide) (nI_inc _) ?_
            refine xp_goto 219 rfl (by decide) ?_
            refine xp_weak [(0, .ref 189), (2, .int (nI x2)), (3, .int (nI x3)), (4, .int (nI x4)), (5, .int (nI g)), (6, .int (nI (i + 1)))] (xle_cons rfl (xle_cons rfl (xle_cons rfl (xle_cons rfl (xle_cons rfl (xle_cons rfl (xle_nil _))))))) (by simp [xnd]) ?_
            exact hih
          · exfalso; omega
theorem l167z {z : Nat} {T : Nat → Option xT} {R : Nat → Nat → Option Nat} {E B : xQ} {w u x2 x3 x4 : Nat} (hL : xLay T R w) (hu : u = 12 ∨ u = 103) (hI : CI u E) (hR : RR u E B) (hx2 : x2 < 256) (hx4 : x4 < 256) (h0 : E.1 102 2 = 4294967294 → x2 = E.1 u 3 ∧ x3 = E.1 u 4 ∧ x4 = E.1 u 2 ∧ x4 ≤ 3 ∧ x2 ≤ 2 ∧ ∀ t, t < x4 → B.1 217 t = E.1 (u + 11 + 25 * t) 2 ∧ E.1 (u + 11 + 25 * t) 2 ≤ 2) : xP 167 213 [(0, .ref 189), (2, .int (nI x2)), (3, .int (nI x3)), (4, .int (nI x4))] [] 0 0 (xm z T R B) (fun r => ∃ v B2, r = (.inr (some (.int (nI v))), xm z T R B2) ∧ RR u (aTst u E) B2 ∧ ((aTst u E).1 102 2 = 4294967294 → v = E.1 u 2 ∧ B2.1 189 9 = E.1 u 2 ∧ B2.1 189 10 = E.1 u 3 ∧ B2.1 189 11 = E.1 u 4 ∧ E.1 u 3 < E.1 u 2 ∧ (Some0 u E → E.1 (u + 11 + 25 * E.1 u 3) 2 = 0) ∧ aTst u E = E) ∧ (¬ (aTst u E).1 102 2 = 4294967294 → v = 0) ∧ (∀ a j, a ≠ 189 → B2.1 a j = B.1 a j) ∧ B2.2 = B.2 ∧ (∀ j, j ≠ 9 → j ≠ 10 → j ≠ 11 → j ≠ 37 → j ≠ 38 → B2.1 189 j = B.1 189 j) ∧ (B2.1 189 38 = 2 ↔ B.1 189 38 = 2) ∧ (¬ (aTst u E).1 102 2 = 4294967294 → ∀ j, j = 9 ∨ j = 10 ∨ j = 11 → B2.1 189 j = B.1 189 j)) := by
  obtain ⟨r1, r2, r3, r4, r5, r6, r7⟩ := id hR
  by_cases hE : E.1 102 2 = 4294967294
  · obtain ⟨s1, s2, s3, s4, s5, s6⟩ := r6 hE
    obtain ⟨q1, q2, q3, q4, q5, q6⟩ := h0 hE
    have hru : aRuns u E (E.1 u 2) 0 = 1 ↔ Some0 u E := by
      rw [aRuns_some]
      exact ⟨fun ⟨v, v1, v2, v3⟩ => ⟨v, by omega, v3⟩, fun ⟨v, v1, v2⟩ => ⟨v, by omega, by omega, v2⟩⟩
    have okR : ¬ (E.1 102 2 = 4294967294 ∧ (E.1 u 2 ≤ E.1 u 3 ∨ (E.1 (u + 11 + 25 * E.1 u 3) 2 ≠ 0 ∧ aRuns u E (E.1 u 2) 0 = 1))) → ∃ v B2, ((Sum.inr (some (Value.int (nI x4))) : Nat ⊕ Option Value), xm z T R (xsI (xsI (xsI B 189 10 x2) 189 11 x3) 189 9 x4)) = (.inr (some (.int (nI v))), xm z T R B2) ∧ RR u (aTst u E) B2 ∧ ((aTst u E).1 102 2 = 4294967294 → v = E.1 u 2 ∧ B2.1 189 9 = E.1 u 2 ∧ B2.1 189 10 = E.1 u 3 ∧ B2.1 189 11 = E.1 u 4 ∧ E.1 u 3 < E.1 u 2 ∧ (Some0 u E → E.1 (u + 11 + 25 * E.1 u 3) 2 = 0) ∧ aTst u E = E) ∧ (¬ (aTst u E).1 102 2 = 4294967294 → v = 0) ∧ (∀ a j, a ≠ 189 → B2.1 a j = B.1 a j) ∧ B2.2 = B.2 ∧ (∀ j, j ≠ 9 → j ≠ 10 → j ≠ 11 → j ≠ 37 → j ≠ 38 → B2.1 189 j = B.1 189 j) ∧ (B2.1 189 38 = 2 ↔ B.1 189 38 = 2) ∧ (¬ (aTst u E).1 102 2 = 4294967294 → ∀ j, j = 9 ∨ j = 10 ∨ j = 11 → B2.1 189 j = B.1 189 j) := fun hc => by
      have et : aTst u E = E := if_neg hc
      rw [et]
      have h1 : E.1 u 3 < E.1 u 2 := Nat.lt_of_not_le (fun z => hc ⟨hE, Or.inl z⟩)
      refine ⟨x4, _, rfl, hR.oth (fun _ _ _ => rfl) (fun a j q => by rw [xsI_ne (by omega), xsI_ne (by omega), xsI_ne (by omega)]) (fun o ho => by rw [xsI_ne (by omega), xsI_ne (by omega), xsI_ne (by omega)]; exact (r5 o ho).2), fun _ => ⟨q3, ?_, ?_, ?_, h1, fun hs => ?_, rfl⟩, fun q => absurd hE q, fun a j q => by rw [xsI_ne (by omega), xsI_ne (by omega), xsI_ne (by omega)], rfl, fun j _ _ _ _ _ => by rw [xsI_ne (by omega), xsI_ne (by omega), xsI_ne (by omega)], by rw [xsI_ne (by omega), xsI_ne (by omega), xsI_ne (by omega)], fun q => absurd hE q⟩
      · rw [xsI_eq]; exact q3
      · rw [xsI_ne (by omega), xsI_ne (by omega), xsI_eq]; exact q1
      · rw [xsI_ne (by omega), xsI_eq]; exact q2
      · by_cases e : E.1 (u + 11 + 25 * E.1 u 3) 2 = 0
        · exact e
        · exact absurd ⟨hE, Or.inr ⟨e, hru.mpr hs⟩⟩ hc
    have badR : (E.1 102 2 = 4294967294 ∧ (E.1 u 2 ≤ E.1 u 3 ∨ (E.1 (u + 11 + 25 * E.1 u 3) 2 ≠ 0 ∧ aRuns u E (E.1 u 2) 0 = 1))) → ∃ v B2, ((Sum.inr (some (Value.int (nI 0))) : Nat ⊕ Option Value), xm z T R (xsI (xsI B 189 38 1) 189 37 4)) = (.inr (some (.int (nI v))), xm z T R B2) ∧ RR u (aTst u E) B2 ∧ ((aTst u E).1 102 2 = 4294967294 → v = E.1 u 2 ∧ B2.1 189 9 = E.1 u 2 ∧ B2.1 189 10 = E.1 u 3 ∧ B2.1 189 11 = E.1 u 4 ∧ E.1 u 3 < E.1 u 2 ∧ (Some0 u E → E.1 (u + 11 + 25 * E.1 u 3) 2 = 0) ∧ aTst u E = E) ∧ (¬ (aTst u E).1 102 2 = 4294967294 → v = 0) ∧ (∀ a j, a ≠ 189 → B2.1 a j = B.1 a j) ∧ B2.2 = B.2 ∧ (∀ j, j ≠ 9 → j ≠ 10 → j ≠ 11 → j ≠ 37 → j ≠ 38 → B2.1 189 j = B.1 189 j) ∧ (B2.1 189 38 = 2 ↔ B.1 189 38 = 2) ∧ (¬ (aTst u E).1 102 2 = 4294967294 → ∀ j, j = 9 ∨ j = 10 ∨ j = 11 → B2.1 189 j = B.1 189 j) := fun hc => by
      have et : aTst u E = xsI E 102 2 4 := if_pos hc
      rw [et]
      have n38 : (xsI (xsI B 189 38 1) 189 37 4).1 189 38 = 1 := by rw [xsI_ne (by omega), xsI_eq]
      have nf : ¬ (xsI E 102 2 4).1 102 2 = 4294967294 := by rw [xsI_eq]; omega
      exact ⟨0, _, rfl, hR.mk' hu (fun a j q => xsI_ne (by omega)) (fun a j q => by rw [xsI_ne (by omega), xsI_ne (by omega)]) (by omega) (by rw [xsI_ne (by omega), xsI_ne (by omega)]; exact r4) (fun q => absurd q nf) (fun _ => ⟨by omega, by rw [xsI_eq, xsI_eq]⟩), fun q => absurd q nf, fun _ => rfl, fun a j q => by rw [xsI_ne (by omega), xsI_ne (by omega)], rfl, fun j _ _ _ q4 q5 => by rw [xsI_ne (by omega), xsI_ne (by omega)], by rw [n38, s1]; omega, fun _ j q => by rw [xsI_ne (by omega), xsI_ne (by omega)]⟩
    have hw := m160b (z := z) (B := B) (p := 4) (c := 1) hL s1
    have n38 : (xsI (xsI B 189 38 1) 189 37 4).1 189 38 = 1 := by rw [xsI_ne (by omega), xsI_eq]
    have hgo : ∀ h, (h = 0 ∨ h = 1) → (h = 1 ↔ aRuns u E (E.1 u 2) 0 = 1) → xP 167 252 [(0, .ref 189), (2, .int (nI x2)), (3, .int (nI x3)), (4, .int (nI x4)), (5, .int (nI h))] [] 0 0 (xm z T R B) (fun r => ∃ v B2, r = (.inr (some (.int (nI v))), xm z T R B2) ∧ RR u (aTst u E) B2 ∧ ((aTst u E).1 102 2 = 4294967294 → v = E.1 u 2 ∧ B2.1 189 9 = E.1 u 2 ∧ B2.1 189 10 = E.1 u 3 ∧ B2.1 189 11 = E.1 u 4 ∧ E.1 u 3 < E.1 u 2 ∧ (Some0 u E → E.1 (u + 11 + 25 * E.1 u 3) 2 = 0) ∧ aTst u E = E) ∧ (¬ (aTst u E).1 102 2 = 4294967294 → v = 0) ∧ (∀ a j, a ≠ 189 → B2.1 a j = B.1 a j) ∧ B2.2 = B.2 ∧ (∀ j, j ≠ 9 → j ≠ 10 → j ≠ 11 → j ≠ 37 → j ≠ 38 → B2.1 189 j = B.1 189 j) ∧ (B2.1 189 38 = 2 ↔ B.1 189 38 = 2) ∧ (¬ (aTst u E).1 102 2 = 4294967294 → ∀ j, j = 9 ∨ j = 10 ∨ j = 11 → B2.1 189 j = B.1 189 j)) := fun h hh hq => by
      by_cases hc : E.1 102 2 = 4294967294 ∧ (E.1 u 2 ≤ E.1 u 3 ∨ (E.1 (u + 11 + 25 * E.1 u 3) 2 ≠ 0 ∧ aRuns u E (E.1 u 2) 0 = 1))
      · have hres := badR hc
        have hc2 := hc.2
        rw [← hq] at hc2
        have y := q6 x2
        rw [← q1, ← q3] at hc2
        refine xp_aload_n rfl rfl ?_
        refine xp_gfi rfl rfl (by decide) (by decide) (by first | assumption | exact hL.t rfl) ?_
        rw [s1]
        refine xp_ifne 285 rfl (by decide) (by omega) (fun h256 => ?_) (fun h256 => ?_)
        · exfalso; omega
        · skip
          refine xp_iload_n rfl rfl ?_
          refine xp_iload rfl rfl ?_
          refine xp_icge 279 rfl (by decide) (by omega) (by omega) (fun h262 => ?_) (fun h262 => ?_)
          · skip
            refine xp_aload_n rfl rfl ?_
            refine xp_iconst (n := 4) rfl (by decide) ?_
            refine xp_iconst (n := 1) rfl (by decide) ?_
            refine xp_iv rfl rfl (Nat.le_of_ble_eq_true rfl) (by decide) (by decide) (by decide) (Nat.le_of_ble_eq_true rfl) rfl (xrcv1 (by decide) (by first | assumption | exact hL.t rfl)) (hw) rfl ?_
            refine xp_aload_n rfl rfl ?_
            refine xp_gfi rfl rfl (by decide) (by decide) (by first | assumption | exact hL.t rfl) ?_
            rw [n38]
            refine xp_ifle 294 rfl (by decide) (by omega) (fun h289 => ?_) (fun h289 => ?_)
            · exfalso; omega
            · skip
              refine xp_iconst (n := 0) rfl (by decide) ?_
              refine xp_ireturn rfl (by decide) (by decide) (by decide) ?_
              first | exact hres | (rw [s1] at hres; exact hres)
          · skip
            refine xp_iload rfl rfl ?_
            refine xp_ifeq 285 rfl (by decide) (by omega) (fun h267 => ?_) (fun h267 => ?_)
            · exfalso; omega
            · skip
              refine xp_aload_n rfl rfl ?_
              refine xp_gfa rfl rfl (by decide) (by decide) (by first | assumption | exact hL.t rfl) (by first | assumption | exact hL.r rfl | exact hL.2.2.2.2.2) ?_
              refine xp_iload_n rfl rfl ?_
              refine xp_iald rfl (by first | assumption | exact hL.t rfl) (by omega) (by omega) ?_
              rw [(y (by omega)).1]
              refine xp_ifeq 285 rfl (by decide) (by first | omega | (have := (y (by omega)).2; omega)) (fun h276 => ?_) (fun h276 => ?_)
              · exfalso; omega
              · skip
                refine xp_aload_n rfl rfl ?_
                refine xp_iconst (n := 4) rfl (by decide) ?_
                refine xp_iconst (n := 1) rfl (by decide) ?_
                refine xp_iv rfl rfl (Nat.le_of_ble_eq_true rfl) (by decide) (by decide) (by decide) (Nat.le_of_ble_eq_true rfl) rfl (xrcv1 (by decide) (by first | assumption | exact hL.t rfl)) (hw) rfl ?_
                refine xp_aload_n rfl rfl ?_
                refine xp_gfi rfl rfl (by decide) (by decide) (by first | assumption | exact hL.t rfl) ?_
                rw [n38]
                refine xp_ifle 294 rfl (by decide) (by omega) (fun h289 => ?_) (fun h289 => ?_)
                · exfalso; omega
                · skip
                  refine xp_iconst (n := 0) rfl (by decide) ?_
                  refine xp_ireturn rfl (by decide) (by decide) (by decide) ?_
                  first | exact hres | (rw [s1] at hres; exact hres)
      · have hres := okR hc
        have h1 : E.1 u 3 < E.1 u 2 := Nat.lt_of_not_le (fun z => hc ⟨hE, Or.inl z⟩)
        have h2 : h = 1 → E.1 (u + 11 + 25 * E.1 u 3) 2 = 0 := fun z => by
          by_cases e : E.1 (u + 11 + 25 * E.1 u 3) 2 = 0
          · exact e
          · exact absurd ⟨hE, Or.inr ⟨e, hq.mp z⟩⟩ hc
        have y := q6 x2 (by omega)
        rw [← q1] at h2
        refine xp_aload_n rfl rfl ?_
        refine xp_gfi rfl rfl (by decide) (by decide) (by first | assumption | exact hL.t rfl) ?_
        rw [s1]
        refine xp_ifne 285 rfl (by decide) (by omega) (fun h256 => ?_) (fun h256 => ?_)
        · exfalso; omega
        · skip
          refine xp_iload_n rfl rfl ?_
          refine xp_iload rfl rfl ?_
          refine xp_icge 279 rfl (by decide) (by omega) (by omega) (fun h262 => ?_) (fun h262 => ?_)
          · exfalso; omega
          · skip
            refine xp_iload rfl rfl ?_
            refine xp_ifeq 285 rfl (by decide) (by omega) (fun h267 => ?_) (fun h267 => ?_)
            · skip
              refine xp_aload_n rfl rfl ?_
              refine xp_gfi rfl rfl (by decide) (by decide) (by first | assumption | exact hL.t rfl) ?_
              rw [s1]
              refine xp_ifle 294 rfl (by decide) (by omega) (fun h289 => ?_) (fun h289 => ?_)
              · skip
                refine xp_aload_n rfl rfl ?_
                refine xp_iload_n rfl rfl ?_
                refine xp_pfi rfl rfl (by decide) (by decide) (by decide) (by first | assumption | exact hL.t rfl) ?_
                refine xp_aload_n rfl rfl ?_
                refine xp_iload_n rfl rfl ?_
                refine xp_pfi rfl rfl (by decide) (by decide) (by decide) (by first | assumption | exact hL.t rfl) ?_
                refine xp_aload_n rfl rfl ?_
                refine xp_iload rfl rfl ?_
                refine xp_pfi rfl rfl (by decide) (by decide) (by decide) (by first | assumption | exact hL.t rfl) ?_
                refine xp_iload rfl rfl ?_
                refine xp_ireturn rfl (by decide) (by decide) (by decide) ?_
                first | exact hres | (rw [s1] at hres; exact hres)
              · exfalso; omega
            · skip
              refine xp_aload_n rfl rfl ?_
              refine xp_gfa rfl rfl (by decide) (by decide) (by first | assumption | exact hL.t rfl) (by first | assumption | exact hL.r rfl | exact hL.2.2.2.2.2) ?_
              refine xp_iload_n rfl rfl ?_
              refine xp_iald rfl (by first | assumption | exact hL.t rfl) (by omega) (by omega) ?_
              rw [y.1]
              refine xp_ifeq 285 rfl (by decide) (by omega) (fun h276 => ?_) (fun h276 => ?_)
              · skip
                refine xp_aload_n rfl rfl ?_
                refine xp_gfi rfl rfl (by decide) (by decide) (by first | assumption | exact hL.t rfl) ?_
                rw [s1]
                refine xp_ifle 294 rfl (by decide) (by omega) (fun h289 => ?_) (fun h289 => ?_)
                · skip
                  refine xp_aload_n rfl rfl ?_
                  refine xp_iload_n rfl rfl ?_
                  refine xp_pfi rfl rfl (by decide) (by decide) (by decide) (by first | assumption | exact hL.t rfl) ?_
                  refine xp_aload_n rfl rfl ?_
                  refine xp_iload_n rfl rfl ?_
                  refine xp_pfi rfl rfl (by decide) (by decide) (by decide) (by first | assumption | exact hL.t rfl) ?_
                  refine xp_aload_n rfl rfl ?_
                  refine xp_iload rfl rfl ?_
                  refine xp_pfi rfl rfl (by decide) (by decide) (by decide) (by first | assumption | exact hL.t rfl) ?_
                  refine xp_iload rfl rfl ?_
                  refine xp_ireturn rfl (by decide) (by decide) (by decide) ?_
                  first | exact hres | (rw [s1] at hres; exact hres)
                · exfalso; omega
              · exfalso; have h3 := h2 (by omega); omega
    have hst : ∀ t, t < x4 → B.1 217 t = E.1 (u + 11 + 25 * t) 2 ∧ E.1 (u + 11 + 25 * t) 2 ≤ 2 := q6
    refine xp_iconst (n := 0) rfl (by decide) ?_
    refine xp_istore rfl (by decide) ?_
    refine xp_iconst (n := 0) rfl (by decide) ?_
    refine xp_istore rfl (by decide) ?_
    refine xp_weak [(0, .ref 189), (2, .int (nI x2)), (3, .int (nI x3)), (4, .int (nI x4)), (5, .int (nI 0)), (6, .int (nI 0))] (xle_cons rfl (xle_cons rfl (xle_cons rfl (xle_cons rfl (xle_cons rfl (xle_cons rfl (xle_nil _))))))) (by simp [xnd]) ?_
    refine l167r (A := E) hL s1 q4 hst x4 0 0 (by omega) (Or.inl rfl) (fun h h1 h2 => hgo h h1 (h2.trans ?_))
    rw [hru]
    exact ⟨fun q => q.elim (fun q => by omega) (fun ⟨v, v1, v2, v3⟩ => ⟨v, by omega, v3⟩), fun ⟨v, v1, v2⟩ => Or.inr ⟨v, by omega, by omega, v2⟩⟩
  · have et : aTst u E = E := if_neg (fun z => hE z.1)
    have s1 := (r7 hE).1
    have hres : ∃ v B2, ((Sum.inr (some (Value.int (nI 0))) : Nat ⊕ Option Value), xm z T R B) = (.inr (some (.int (nI v))), xm z T R B2) ∧ RR u (aTst u E) B2 ∧ ((aTst u E).1 102 2 = 4294967294 → v = E.1 u 2 ∧ B2.1 189 9 = E.1 u 2 ∧ B2.1 189 10 = E.1 u 3 ∧ B2.1 189 11 = E.1 u 4 ∧ E.1 u 3 < E.1 u 2 ∧ (Some0 u E → E.1 (u + 11 + 25 * E.1 u 3) 2 = 0) ∧ aTst u E = E) ∧ (¬ (aTst u E).1 102 2 = 4294967294 → v = 0) ∧ (∀ a j, a ≠ 189 → B2.1 a j = B.1 a j) ∧ B2.2 = B.2 ∧ (∀ j, j ≠ 9 → j ≠ 10 → j ≠ 11 → j ≠ 37 → j ≠ 38 → B2.1 189 j = B.1 189 j) ∧ (B2.1 189 38 = 2 ↔ B.1 189 38 = 2) ∧ (¬ (aTst u E).1 102 2 = 4294967294 → ∀ j, j = 9 ∨ j = 10 ∨ j = 11 → B2.1 189 j = B.1 189 j) := by
      rw [et]
      exact ⟨0, B, rfl, hR, fun q => absurd q hE, fun _ => rfl, fun _ _ _ => rfl, rfl, fun _ _ _ _ _ _ => rfl, Iff.rfl, fun _ _ _ => rfl⟩
    refine xp_iconst (n := 0) rfl (by decide) ?_
    refine xp_istore rfl (by decide) ?_
    refine xp_iconst (n := 0) rfl (by decide) ?_
    refine xp_istore rfl (by decide) ?_
    refine xp_iload rfl rfl ?_
    refine xp_iload rfl rfl ?_
    refine xp_icge 252 rfl (by decide) (by omega) (by omega) (fun h223 => ?_) (fun h223 => ?_)
    · skip
      refine xp_aload_n rfl rfl ?_
      refine xp_gfi rfl rfl (by decide) (by decide) (by first | assumption | exact hL.t rfl) ?_
      refine xp_ifne 285 rfl (by decide) (by omega) (fun h256 => ?_) (fun h256 => ?_)
      · skip
        refine xp_aload_n rfl rfl ?_
        refine xp_gfi rfl rfl (by decide) (by decide) (by first | assumption | exact hL.t rfl) ?_
        refine xp_ifle 294 rfl (by decide) (by omega) (fun h289 => ?_) (fun h289 => ?_)
        · exfalso; omega
        · skip
          refine xp_iconst (n := 0) rfl (by decide) ?_
          refine xp_ireturn rfl (by decide) (by decide) (by decide) ?_
          first | exact hres | (rw [s1] at hres; exact hres)
      · exfalso; omega
    · skip
      refine xp_aload_n rfl rfl ?_
      refine xp_gfi rfl rfl (by decide) (by decide) (by first | assumption | exact hL.t rfl) ?_
      refine xp_ifne 252 rfl (by decide) (by omega) (fun h230 => ?_) (fun h230 => ?_)
      · skip
        refine xp_aload_n rfl rfl ?_
        refine xp_gfi rfl rfl (by decide) (by decide) (by first | assumption | exact hL.t rfl) ?_
        refine xp_ifne 285 rfl (by decide) (by omega) (fun h256 => ?_) (fun h256 => ?_)
        · skip
          refine xp_aload_n rfl rfl ?_
          refine xp_gfi rfl rfl (by decide) (by decide) (by first | assumption | exact hL.t rfl) ?_
          refine xp_ifle 294 rfl (by decide) (by omega) (fun h289 => ?_) (fun h289 => ?_)
          · exfalso; omega
          · skip
            refine xp_iconst (n := 0) rfl (by decide) ?_
            refine xp_ireturn rfl (by decide) (by decide) (by decide) ?_
            first | exact hres | (rw [s1] at hres; exact hres)
        · exfalso; omega
      · exfalso; omega
