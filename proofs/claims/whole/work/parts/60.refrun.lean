-- THE REFERENCE: errors, a run
theorem l146b {z : Nat} {T : Nat → Option xT} {R : Nat → Nat → Option Nat} {A B : xQ} {w m fn e pl : Nat} {P : xR → Prop} (hL : xLay T R w) (hm : m < 15) (hfn : fn < 6) (hc7 : A.1 7 fn ≤ 3) (hb : ∀ j, j < A.1 7 fn → A.1 8 (fn * 3 + j) ≤ 29 ∧ A.1 9 (fn * 3 + j) ≤ 30 ∧ A.1 10 (fn * 3 + j) ≤ 29) (e192 : B.1 192 fn = A.1 7 fn) (hg : ∀ j, j < A.1 7 fn → B.1 196 (3 * fn + j) = A.1 8 (fn * 3 + j) ∧ B.1 197 (3 * fn + j) = A.1 9 (fn * 3 + j) ∧ B.1 198 (3 * fn + j) = A.1 10 (fn * 3 + j)) (e203 : B.1 203 m = pl) (hpl : pl ≤ 31) (hd : B.1 205 m ≤ 6) (he : e < 32) : ∀ n j, j + n = A.1 7 fn → (aHnd A pl n (fn * 3 + j) = 4294967295 → xP 146 114 [(0, .ref 189), (1, .int (nI e))] [] 0 0 (xm z T R B) P) → (aHnd A pl n (fn * 3 + j) ≠ 4294967295 → P (.inr none, xm z T R (mPush (xsI (xsI B 203 m (aHnd A pl n (fn * 3 + j))) 205 m 0) m 1 (lN e)))) → xP 146 29 [(0, .ref 189), (1, .int (nI e)), (2, .int (nI m)), (3, .int (nI fn)), (4, .int (nI (3 * fn + j)))] [] 0 0 (xm z T R B) P := by
  intro n
  induction n with
  | zero =>
    intro j hj hx hy
    have hz := hx rfl
    refine xp_iload rfl rfl ?_
    refine xp_iconst (n := 3) rfl (by decide) ?_
    refine xp_iload_n rfl rfl ?_
    refine xp_imul rfl ?_
    refine xp_aload_n rfl rfl ?_
    refine xp_gfa rfl rfl (by decide) (by decide) (by first | assumption | exact hL.t rfl) (by first | assumption | exact hL.r rfl | exact hL.2.2.2.2.2) ?_
    refine xp_iload_n rfl rfl ?_
    refine xp_iald rfl (by first | assumption | exact hL.t rfl) (by omega) (by omega) ?_
    rw [e192]
    refine xp_iadd rfl ?_
    refine xp_icge 114 rfl (by decide) (by omega) (by omega) (fun h41 => ?_) (fun h41 => ?_)
    · skip
      refine xp_weak [(0, .ref 189), (1, .int (nI e))] (xle_cons rfl (xle_cons rfl (xle_nil _))) (by simp [xnd]) ?_
      exact hz
    · exfalso; omega
  | succ n ih =>
    intro j hj hx hy
    obtain ⟨b1, b2, b3⟩ := hb j (by omega)
    obtain ⟨g1, g2, g3⟩ := hg j (by omega)
    unfold aHnd at hx hy
    have e5 : ∀ p, (xsI (xsI B 203 m p) 205 m 0).1 205 m = 0 := fun p => xsI_eq
    by_cases hq : A.1 8 (fn * 3 + j) ≤ pl ∧ pl < A.1 9 (fn * 3 + j)
    · rw [if_pos hq] at hx hy
      have hz := hy (by omega)
      refine xp_iload rfl rfl ?_
      refine xp_iconst (n := 3) rfl (by decide) ?_
      refine xp_iload_n rfl rfl ?_
      refine xp_imul rfl ?_
      refine xp_aload_n rfl rfl ?_
      refine xp_gfa rfl rfl (by decide) (by decide) (by first | assumption | exact hL.t rfl) (by first | assumption | exact hL.r rfl | exact hL.2.2.2.2.2) ?_
      refine xp_iload_n rfl rfl ?_
      refine xp_iald rfl (by first | assumption | exact hL.t rfl) (by omega) (by omega) ?_
      rw [e192]
      refine xp_iadd rfl ?_
      refine xp_icge 114 rfl (by decide) (by omega) (by omega) (fun h41 => ?_) (fun h41 => ?_)
      · exfalso; omega
      · skip
        refine xp_aload_n rfl rfl ?_
        refine xp_gfa rfl rfl (by decide) (by decide) (by first | assumption | exact hL.t rfl) (by first | assumption | exact hL.r rfl | exact hL.2.2.2.2.2) ?_
        refine xp_iload_n rfl rfl ?_
        refine xp_iald rfl (by first | assumption | exact hL.t rfl) (by omega) (by omega) ?_
        rw [e203]
        refine xp_aload_n rfl rfl ?_
        refine xp_gfa rfl rfl (by decide) (by decide) (by first | assumption | exact hL.t rfl) (by first | assumption | exact hL.r rfl | exact hL.2.2.2.2.2) ?_
        refine xp_iload rfl rfl ?_
        refine xp_iald rfl (by first | assumption | exact hL.t rfl) (by omega) (by omega) ?_
        rw [g1]
        refine xp_iclt 108 rfl (by decide) (by omega) (by omega) (fun h57 => ?_) (fun h57 => ?_)
        · exfalso; omega
        · skip
          refine xp_aload_n rfl rfl ?_
          refine xp_gfa rfl rfl (by decide) (by decide) (by first | assumption | exact hL.t rfl) (by first | assumption | exact hL.r rfl | exact hL.2.2.2.2.2) ?_
          refine xp_iload_n rfl rfl ?_
          refine xp_iald rfl (by first | assumption | exact hL.t rfl) (by omega) (by omega) ?_
          rw [e203]
          refine xp_aload_n rfl rfl ?_
          refine xp_gfa rfl rfl (by decide) (by decide) (by first | assumption | exact hL.t rfl) (by first | assumption | exact hL.r rfl | exact hL.2.2.2.2.2) ?_
          refine xp_iload rfl rfl ?_
          refine xp_iald rfl (by first | assumption | exact hL.t rfl) (by omega) (by omega) ?_
          rw [g2]
          refine xp_iclt 79 rfl (by decide) (by omega) (by omega) (fun h73 => ?_) (fun h73 => ?_)
          · skip
            refine xp_aload_n rfl rfl ?_
            refine xp_gfa rfl rfl (by decide) (by decide) (by first | assumption | exact hL.t rfl) (by first | assumption | exact hL.r rfl | exact hL.2.2.2.2.2) ?_
            refine xp_iload_n rfl rfl ?_
            refine xp_aload_n rfl rfl ?_
            refine xp_gfa rfl rfl (by decide) (by decide) (by first | assumption | exact hL.t rfl) (by first | assumption | exact hL.r rfl | exact hL.2.2.2.2.2) ?_
            refine xp_iload rfl rfl ?_
            refine xp_iald rfl (by first | assumption | exact hL.t rfl) (by omega) (by omega) ?_
            rw [g3]
            refine xp_iast rfl (by first | assumption | exact hL.t rfl) (by omega) (by omega) ?_
            refine xp_aload_n rfl rfl ?_
            refine xp_gfa rfl rfl (by decide) (by decide) (by first | assumption | exact hL.t rfl) (by first | assumption | exact hL.r rfl | exact hL.2.2.2.2.2) ?_
            refine xp_iload_n rfl rfl ?_
            refine xp_iconst (n := 0) rfl (by decide) ?_
            refine xp_iast rfl (by first | assumption | exact hL.t rfl) (by omega) (by omega) ?_
            refine xp_aload_n rfl rfl ?_
            refine xp_iload_n rfl rfl ?_
            refine xp_iconst (n := 1) rfl (by decide) ?_
            refine xp_iload_n rfl rfl ?_
            refine xp_i2l rfl ?_
            rw [nI_l (by omega)]
            refine xp_iv rfl rfl (Nat.le_of_ble_eq_true rfl) (by decide) (by decide) (by decide) (Nat.le_of_ble_eq_true rfl) rfl (xrcv1 (by decide) (by first | assumption | exact hL.t rfl)) (m124 hL hm (by rw [e5]; omega)) rfl ?_
            refine xp_return rfl (by decide) (by decide) (by decide) ?_
            exact hz
          · exfalso; omega
    · rw [if_neg hq] at hx hy
      refine xp_iload rfl rfl ?_
      refine xp_iconst (n := 3) rfl (by decide) ?_
      refine xp_iload_n rfl rfl ?_
      refine xp_imul rfl ?_
      refine xp_aload_n rfl rfl ?_
      refine xp_gfa rfl rfl (by decide) (by decide) (by first | assumption | exact hL.t rfl) (by first | assumption | exact hL.r rfl | exact hL.2.2.2.2.2) ?_
      refine xp_iload_n rfl rfl ?_
      refine xp_iald rfl (by first | assumption | exact hL.t rfl) (by omega) (by omega) ?_
      rw [e192]
      refine xp_iadd rfl ?_
      refine xp_icge 114 rfl (by decide) (by omega) (by omega) (fun h41 => ?_) (fun h41 => ?_)
      · exfalso; omega
      · skip
        refine xp_aload_n rfl rfl ?_
        refine xp_gfa rfl rfl (by decide) (by decide) (by first | assumption | exact hL.t rfl) (by first | assumption | exact hL.r rfl | exact hL.2.2.2.2.2) ?_
        refine xp_iload_n rfl rfl ?_
        refine xp_iald rfl (by first | assumption | exact hL.t rfl) (by omega) (by omega) ?_
        rw [e203]
        refine xp_aload_n rfl rfl ?_
        refine xp_gfa rfl rfl (by decide) (by decide) (by first | assumption | exact hL.t rfl) (by first | assumption | exact hL.r rfl | exact hL.2.2.2.2.2) ?_
        refine xp_iload rfl rfl ?_
        refine xp_iald rfl (by first | assumption | exact hL.t rfl) (by omega) (by omega) ?_
        rw [g1]
        refine xp_iclt 108 rfl (by decide) (by omega) (by omega) (fun h57 => ?_) (fun h57 => ?_)
        · skip
          refine xp_iinc rfl rfl (by decide) (nI_inc _) ?_
          refine xp_goto 29 rfl (by decide) ?_
          refine xp_weak [(0, .ref 189), (1, .int (nI e)), (2, .int (nI m)), (3, .int (nI fn)), (4, .int (nI (3 * fn + (j + 1))))] (xle_cons rfl (xle_cons rfl (xle_cons rfl (xle_cons rfl (xle_cons rfl (xle_nil _)))))) (by simp [xnd]) ?_
          exact ih (j + 1) (by omega) hx hy
        · skip
          refine xp_aload_n rfl rfl ?_
          refine xp_gfa rfl rfl (by decide) (by decide) (by first | assumption | exact hL.t rfl) (by first | assumption | exact hL.r rfl | exact hL.2.2.2.2.2) ?_
          refine xp_iload_n rfl rfl ?_
          refine xp_iald rfl (by first | assumption | exact hL.t rfl) (by omega) (by omega) ?_
          rw [e203]
          refine xp_aload_n rfl rfl ?_
          refine xp_gfa rfl rfl (by decide) (by decide) (by first | assumption | exact hL.t rfl) (by first | assumption | exact hL.r rfl | exact hL.2.2.2.2.2) ?_
          refine xp_iload rfl rfl ?_
          refine xp_iald rfl (by first | assumption | exact hL.t rfl) (by omega) (by omega) ?_
          rw [g2]
          refine xp_iclt 79 rfl (by decide) (by omega) (by omega) (fun h73 => ?_) (fun h73 => ?_)
          · exfalso; omega
          · skip
            refine xp_goto 108 rfl (by decide) ?_
            refine xp_iinc rfl rfl (by decide) (nI_inc _) ?_
            refine xp_goto 29 rfl (by decide) ?_
            refine xp_weak [(0, .ref 189), (1, .int (nI e)), (2, .int (nI m)), (3, .int (nI fn)), (4, .int (nI (3 * fn + (j + 1))))] (xle_cons rfl (xle_cons rfl (xle_cons rfl (xle_cons rfl (xle_cons rfl (xle_nil _)))))) (by simp [xnd]) ?_
            exact ih (j + 1) (by omega) hx hy
theorem l146 {z : Nat} {T : Nat → Option xT} {R : Nat → Nat → Option Nat} {A B : xQ} {w t s e : Nat} (hL : xLay T R w) (hc : COk w A) (hR : Rel w A B) (ht : t < A.1 w 2) (h3 : A.1 w 3 = t) (hs : s = w + 11 + 25 * t) (he : e < 32) : ∀ d, d ≤ A.1 s 3 → xP 146 0 [(0, .ref 189), (1, .int (nI e))] [] 0 0 (xm z T R (xsI B 201 t d)) (fun r => ∃ B2, r = (.inr none, xm z T R B2) ∧ Rel w (aRaise A s e d) B2) := by
  have h0 := hc.1
  have hc3 := hc.cnt
  have hRS := hR.2.2.2.1 t ht
  have hSo := hc.st ht
  rw [← hs] at hRS hSo
  obtain ⟨s1, s2, s3, s4, s5, s6, s7⟩ := hSo
  intro d
  have x1 : ∀ d a j, (a ≠ 201 ∨ j ≠ t) → (xsI B 201 t d).1 a j = B.1 a j := fun d a j q => xsI_ne q
  have x2 : ∀ d, (xsI B 201 t d).1 201 t = d := fun d => xsI_eq
  have x10 : ∀ d, (xsI B 201 t d).1 189 10 = t := fun d => by rw [x1 _ _ _ (by omega), hR.2.2.1.2.1, h3]
  induction d with
  | zero =>
    intro _
    have hfin := hR.end (st := 2) (er := e) (B2 := xsI (xsI (xsI B 201 t 0) 199 t 2) 200 t e) hc ht hs (Or.inr rfl) (fun a j p1 p2 => by rw [xsI_ne (by omega), xsI_ne (by omega), xsI_ne (by omega)]) (fun a j p => rfl) (by rw [xsI_ne (by omega), xsI_eq]) xsI_eq (by rw [xsI_ne (by omega), xsI_ne (by omega), xsI_eq]) (fun z => by omega)
    have y10 : (xsI (xsI B 201 t 0) 199 t 2).1 189 10 = t := by rw [xsI_ne (by omega)]; exact x10 0
    refine xp_aload_n rfl rfl ?_
    refine xp_gfa rfl rfl (by decide) (by decide) (by first | assumption | exact hL.t rfl) (by first | assumption | exact hL.r rfl | exact hL.2.2.2.2.2) ?_
    refine xp_aload_n rfl rfl ?_
    refine xp_gfi rfl rfl (by decide) (by decide) (by first | assumption | exact hL.t rfl) ?_
    rw [x10]
    refine xp_iald rfl (by first | assumption | exact hL.t rfl) (by omega) (by omega) ?_
    rw [x2]
    refine xp_ifle 130 rfl (by decide) (by omega) (fun h9 => ?_) (fun h9 => ?_)
    · skip
      refine xp_aload_n rfl rfl ?_
      refine xp_gfa rfl rfl (by decide) (by decide) (by first | assumption | exact hL.t rfl) (by first | assumption | exact hL.r rfl | exact hL.2.2.2.2.2) ?_
      refine xp_aload_n rfl rfl ?_
      refine xp_gfi rfl rfl (by decide) (by decide) (by first | assumption | exact hL.t rfl) ?_
      rw [x10]
      refine xp_iconst (n := 2) rfl (by decide) ?_
      refine xp_iast rfl (by first | assumption | exact hL.t rfl) (by omega) (by omega) ?_
      refine xp_aload_n rfl rfl ?_
      refine xp_gfa rfl rfl (by decide) (by decide) (by first | assumption | exact hL.t rfl) (by first | assumption | exact hL.r rfl | exact hL.2.2.2.2.2) ?_
      refine xp_aload_n rfl rfl ?_
      refine xp_gfi rfl rfl (by decide) (by decide) (by first | assumption | exact hL.t rfl) ?_
      rw [y10]
      refine xp_iload_n rfl rfl ?_
      refine xp_iast rfl (by first | assumption | exact hL.t rfl) (by omega) (by omega) ?_
      refine xp_return rfl (by decide) (by decide) (by decide) ?_
      exact ⟨_, rfl, hfin⟩
    · exfalso; omega
  | succ d ih =>
    intro hd
    have hst : A.1 s 2 = 0 := by
      by_cases q : A.1 s 2 = 0
      · exact q
      · have := s4 q; omega
    have hF := s7 d (by omega)
    have hRF := hRS.2.2.2.2 d (by omega)
    obtain ⟨r1, r2, r3, r4, r5⟩ := hRF
    obtain ⟨c1, c2, c3, c4, c5⟩ := hc.2.2.1 _ hF.1
    obtain ⟨g1, g2, g3, g4, g5⟩ := hR.1 _ hF.1
    have hF1 := hF.1
    have hF2 := hF.2.1
    have hF3 := hF.2.2.1
    have etop := m122 (z := z) (B := xsI B 201 t (d + 1)) hL (by rw [x10]; omega) (by rw [x10, x2]; omega)
    rw [x10, x2, show 5 * t + (d + 1) - 1 = 5 * t + d by omega] at etop
    have e202 : (xsI B 201 t (d + 1)).1 202 (5 * t + d) = A.1 (s + 5 + 4 * d) 1 := by rw [x1 _ _ _ (by omega)]; exact r1
    unfold aRaise
    obtain ⟨hC1, ag1⟩ := hc.depth (d := d + 1) ht hs hst (by omega) hd
    have hR1 := hR.depth (d := d + 1) hc ht hs hst hd
    have a1 : ∀ a j, (a ≠ s ∨ j ≠ 3) → (xsI A s 3 (d + 1)).1 a j = A.1 a j := fun a j q => xsI_ne q
    have a3 : (xsI A s 3 (d + 1)).1 s 3 = d + 1 := xsI_eq
    have hT1 : Top w (xsI A s 3 (d + 1)) t d (s + 5 + 4 * d) (5 * t + d) := ⟨by rw [a1 _ _ (by omega)]; exact ht, by rw [← hs, a3], by rw [← hs], rfl⟩
    refine xp_aload_n rfl rfl ?_
    refine xp_gfa rfl rfl (by decide) (by decide) (by first | assumption | exact hL.t rfl) (by first | assumption | exact hL.r rfl | exact hL.2.2.2.2.2) ?_
    refine xp_aload_n rfl rfl ?_
    refine xp_gfi rfl rfl (by decide) (by decide) (by first | assumption | exact hL.t rfl) ?_
    rw [x10]
    refine xp_iald rfl (by first | assumption | exact hL.t rfl) (by omega) (by omega) ?_
    rw [x2]
    refine xp_ifle 130 rfl (by decide) (by omega) (fun h9 => ?_) (fun h9 => ?_)
    · exfalso; omega
    · skip
      refine xp_aload_n rfl rfl ?_
      refine xp_iv rfl rfl (Nat.le_of_ble_eq_true rfl) (by decide) (by decide) (by decide) (Nat.le_of_ble_eq_true rfl) rfl (xrcv1 (by decide) (by first | assumption | exact hL.t rfl)) (etop) rfl ?_
      refine xp_istore_n rfl (by decide) ?_
      refine xp_aload_n rfl rfl ?_
      refine xp_gfa rfl rfl (by decide) (by decide) (by first | assumption | exact hL.t rfl) (by first | assumption | exact hL.r rfl | exact hL.2.2.2.2.2) ?_
      refine xp_iload_n rfl rfl ?_
      refine xp_iald rfl (by first | assumption | exact hL.t rfl) (by omega) (by omega) ?_
      rw [e202]
      refine xp_istore_n rfl (by decide) ?_
      refine xp_iconst (n := 3) rfl (by decide) ?_
      refine xp_iload_n rfl rfl ?_
      refine xp_imul rfl ?_
      refine xp_istore rfl (by decide) ?_
      refine xp_weak [(0, .ref 189), (1, .int (nI e)), (2, .int (nI (5 * t + d))), (3, .int (nI (A.1 (s + 5 + 4 * d) 1))), (4, .int (nI (3 * A.1 (s + 5 + 4 * d) 1 + 0)))] (xle_cons rfl (xle_cons rfl (xle_cons rfl (xle_cons rfl (xle_cons rfl (xle_nil _)))))) (by simp [xnd]) ?_
      refine l146b (A := A) (pl := A.1 (s + 5 + 4 * d) 2) hL (by omega) hF1 c3 c5 (by rw [x1 _ _ _ (by omega)]; exact g3) (fun j hj => by rw [x1 _ _ _ (by omega), x1 _ _ _ (by omega), x1 _ _ _ (by omega)]; exact g5 j hj) (by rw [x1 _ _ _ (by omega)]; exact r2) hF2 (by rw [x1 _ _ _ (by omega), r3]; exact hF3) he (A.1 7 (A.1 (s + 5 + 4 * d) 1)) 0 (by omega) (fun hz => ?_) (fun hz => ?_)
      · rw [show A.1 (s + 5 + 4 * d) 1 * 3 + 0 = A.1 (s + 5 + 4 * d) 1 * 3 by omega] at hz
        rw [if_pos hz]
        refine xp_aload_n rfl rfl ?_
        refine xp_gfa rfl rfl (by decide) (by decide) (by first | assumption | exact hL.t rfl) (by first | assumption | exact hL.r rfl | exact hL.2.2.2.2.2) ?_
        refine xp_aload_n rfl rfl ?_
        refine xp_gfi rfl rfl (by decide) (by decide) (by first | assumption | exact hL.t rfl) ?_
        rw [x10]
        refine xp_dup2 rfl rfl rfl ?_
        refine xp_iald rfl (by first | assumption | exact hL.t rfl) (by omega) (by omega) ?_
        rw [x2]
        refine xp_iconst (n := 1) rfl (by decide) ?_
        refine xp_isub rfl (by omega) ?_
        rw [Nat.add_sub_cancel]
        refine xp_iast rfl (by first | assumption | exact hL.t rfl) (by omega) (by omega) ?_
        rw [xsI_same]
        refine xp_goto 0 rfl (by decide) ?_
        refine xp_weak [(0, .ref 189), (1, .int (nI e))] (xle_cons rfl (xle_cons rfl (xle_nil _))) (by simp [xnd]) ?_
        exact ih (by omega)
      · rw [show A.1 (s + 5 + 4 * d) 1 * 3 + 0 = A.1 (s + 5 + 4 * d) 1 * 3 by omega] at hz ⊢
        rw [if_neg hz]
        have h29 := (hc.2.2.1.hnd hF1 (A.1 (s + 5 + 4 * d) 2)).resolve_left hz
        generalize aHnd A (A.1 (s + 5 + 4 * d) 2) (A.1 7 (A.1 (s + 5 + 4 * d) 1)) (A.1 (s + 5 + 4 * d) 1 * 3) = p at h29
        have hk1 := hT1.ok hC1
        have bb := hT1.b hC1
        have u1 := hR1.place (p := p) hC1 hT1
        obtain ⟨u2, _, u3⟩ := hC1.opf (r := (0, xsI (xsI A s 3 (d + 1)) (s + 5 + 4 * d) 2 p)) hT1.1 hT1.2.1 hT1.2.2.1 ⟨(AgF.refl _ _).i, hk1.place (by omega) (by omega)⟩
        have hT2 : Top w (xsI (xsI A s 3 (d + 1)) (s + 5 + 4 * d) 2 p) t d (s + 5 + 4 * d) (5 * t + d) := ⟨by rw [xsI_ne (Or.inl (by omega))]; exact hT1.1, by rw [u3]; exact hT1.2.1, hT1.2.2⟩
        have hk2 := hT2.ok u2
        have v1 := hT2.rel u2 u1 (AgF.refl _ _).i (MAg.refl _ _).d ((hT2.g u1).size (n := 0) (by omega))
        obtain ⟨v2, _, v3⟩ := u2.opf (r := (0, xsI (xsI (xsI A s 3 (d + 1)) (s + 5 + 4 * d) 2 p) (s + 5 + 4 * d) 3 0)) hT2.1 hT2.2.1 hT2.2.2.1 ⟨(AgF.refl _ _).i, hk2.size (by omega) (by omega)⟩
        have hT3 : Top w (xsI (xsI (xsI A s 3 (d + 1)) (s + 5 + 4 * d) 2 p) (s + 5 + 4 * d) 3 0) t d (s + 5 + 4 * d) (5 * t + d) := ⟨by rw [xsI_ne (Or.inl (by omega))]; exact hT2.1, by rw [v3]; exact hT2.2.1, hT2.2.2⟩
        exact ⟨_, rfl, v1.push v2 hT3 (by rw [xsI_eq]; omega)⟩
theorem m146 {z : Nat} {T : Nat → Option xT} {R : Nat → Nat → Option Nat} {A B : xQ} {w t s e : Nat} (hL : xLay T R w) (hc : COk w A) (hR : Rel w A B) (ht : t < A.1 w 2) (h3 : A.1 w 3 = t) (hs : s = w + 11 + 25 * t) (he : e < 32) : ∃ B2, xF 146 [.ref 189, .int (nI e)] (xm z T R B) (.inr none, xm z T R B2) ∧ Rel w (aRaise A s e (A.1 s 3)) B2 := by
  have hRS := hR.2.2.2.1 t ht
  rw [← hs] at hRS
  have h := l146 (z := z) hL hc hR ht h3 hs he (A.1 s 3) (Nat.le_refl _)
  rw [← hRS.2.2.1, xsI_id] at h
  refine xF_x (xF_p (Nat.le_of_ble_eq_true rfl) ?_)
  rw [hRS.2.2.1] at h
  exact h
theorem l147 {z : Nat} {T : Nat → Option xT} {R : Nat → Nat → Option Nat} {A B : xQ} {w : Nat} (hL : xLay T R w) (hc : COk w A) (hR : Rel w A B) : ∀ n t, t + n = A.1 w 2 → xP 147 2 [(0, .ref 189), (1, .int (nI t))] [] 0 0 (xm z T R B) (fun r => r = (.inr (some (.int (nI (aRuns w A n t)))), xm z T R B)) := by
  have hc3 := hc.cnt
  have h9 := hR.2.2.1.1
  intro n
  induction n with
  | zero =>
    intro t ht
    refine xp_iload_n rfl rfl ?_
    refine xp_aload_n rfl rfl ?_
    refine xp_gfi rfl rfl (by decide) (by decide) (by first | assumption | exact hL.t rfl) ?_
    rw [h9]
    refine xp_icge 27 rfl (by decide) (by omega) (by omega) (fun h7 => ?_) (fun h7 => ?_)
    · skip
      refine xp_iconst (n := 0) rfl (by decide) ?_
      refine xp_zreturn rfl (by decide) (by decide) (by decide) (by omega) ?_
      rfl
    · exfalso; omega
  | succ n ih =>
    intro t ht
    have e1 := (hR.2.2.2.1 t (by omega)).1
    have s1 := (hc.st (t := t) (by omega)).1
    unfold aRuns
    by_cases hq : A.1 (w + 11 + 25 * t) 2 = 0
    · rw [if_pos hq]
      refine xp_iload_n rfl rfl ?_
      refine xp_aload_n rfl rfl ?_
      refine xp_gfi rfl rfl (by decide) (by decide) (by first | assumption | exact hL.t rfl) ?_
      rw [h9]
      refine xp_icge 27 rfl (by decide) (by omega) (by omega) (fun h7 => ?_) (fun h7 => ?_)
      · exfalso; omega
      · skip
        refine xp_aload_n rfl rfl ?_
        refine xp_gfa rfl rfl (by decide) (by decide) (by first | assumption | exact hL.t rfl) (by first | assumption | exact hL.r rfl | exact hL.2.2.2.2.2) ?_
        refine xp_iload_n rfl rfl ?_
        refine xp_iald rfl (by first | assumption | exact hL.t rfl) (by omega) (by omega) ?_
        rw [e1]
        refine xp_ifne 21 rfl (by decide) (by omega) (fun h16 => ?_) (fun h16 => ?_)
        · exact absurd hq h16
        · skip
          refine xp_iconst (n := 1) rfl (by decide) ?_
          refine xp_zreturn rfl (by decide) (by decide) (by decide) (by omega) ?_
          rfl
    · rw [if_neg hq]
      refine xp_iload_n rfl rfl ?_
      refine xp_aload_n rfl rfl ?_
      refine xp_gfi rfl rfl (by decide) (by decide) (by first | assumption | exact hL.t rfl) ?_
      rw [h9]
      refine xp_icge 27 rfl (by decide) (by omega) (by omega) (fun h7 => ?_) (fun h7 => ?_)
      · exfalso; omega
      · skip
        refine xp_aload_n rfl rfl ?_
        refine xp_gfa rfl rfl (by decide) (by decide) (by first | assumption | exact hL.t rfl) (by first | assumption | exact hL.r rfl | exact hL.2.2.2.2.2) ?_
        refine xp_iload_n rfl rfl ?_
        refine xp_iald rfl (by first | assumption | exact hL.t rfl) (by omega) (by omega) ?_
        rw [e1]
        refine xp_ifne 21 rfl (by decide) (by omega) (fun h16 => ?_) (fun h16 => ?_)
        · skip
          refine xp_iinc rfl rfl (by decide) (nI_inc _) ?_
          refine xp_goto 2 rfl (by decide) ?_
          refine xp_weak [(0, .ref 189), (1, .int (nI (t + 1)))] (xle_cons rfl (xle_cons rfl (xle_nil _))) (by simp [xnd]) ?_
          exact ih (t + 1) (by omega)
        · exact absurd h16 hq
theorem m147 {z : Nat} {T : Nat → Option xT} {R : Nat → Nat → Option Nat} {A B : xQ} {w : Nat} (hL : xLay T R w) (hc : COk w A) (hR : Rel w A B) : xF 147 [.ref 189] (xm z T R B) (.inr (some (.int (nI (aRuns w A (A.1 w 2) 0)))), xm z T R B) := by
  refine xF_eq (xF_p (Nat.le_of_ble_eq_true rfl) ?_)
  refine xp_iconst (n := 0) rfl (by decide) ?_
  refine xp_istore_n rfl (by decide) ?_
  refine xp_weak [(0, .ref 189), (1, .int (nI 0))] (xle_cons rfl (xle_cons rfl (xle_nil _))) (by simp [xnd]) ?_
  exact l147 hL hc hR _ 0 (by omega)
