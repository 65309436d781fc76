-- THE REFERENCE: its search, all of it
theorem VV.u {w : Nat} {A : xQ} {k : Nat} {v : Int64} (h : VV w A k v) (hk : 3 ≤ k) : oN v < 24 := by
  obtain ⟨o, h1, h2, h3⟩ := h.2 hk
  rw [h2, oN_lN (by omega)]
  exact h1
theorem l130a {z : Nat} {T : Nat → Option xT} {R : Nat → Nat → Option Nat} {w : Nat} {A B : xQ} {P : xR → Prop} (hL : xLay T R w) (hc : COk w A) (hR : Rel w A B) {t k f m : Nat} (ht : t < A.1 w 2) (hk : k < A.1 (w + 11 + 25 * t) 3) (hf : f = w + 11 + 25 * t + 5 + 4 * k) (hm : m = 5 * t + k) : ∀ (n i : Nat) (B1 : xQ), i + n = 4 + A.1 f 3 → Mk w A B B1 → (∀ B2, Mk w A B B2 → Mn B1 B2 → (∀ c, i ≤ c → c < 4 + A.1 f 3 → 3 ≤ A.1 (f + 2) (1 + c) → B2.1 209 (oN (A.2 (f + 3) (1 + c))) = 1) → xP 130 130 [(0, .ref 189), (1, .int (nI t)), (2, .int (nI m))] [] 0 0 (xm z T R B2) P) → xP 130 101 [(0, .ref 189), (1, .int (nI t)), (2, .int (nI m)), (3, .int (nI i))] [] 0 0 (xm z T R B1) P := by
  have hW := hL.w hL.1
  obtain ⟨f1, f2, f3, f4⟩ := find_fd hW hc.2.1
  have hc3 := hc.cnt
  have hk5 := (hc.st ht).2.1
  have hF := hc.fr ht hk
  rw [← hf] at hF
  have h6 := hF.2.2.1
  have hRF := (hR.2.2.2.1 t ht).2.2.2.2 k hk
  rw [← hf, ← hm] at hRF
  intro n
  induction n with
  | zero =>
    intro i B1 hi hM hk
    have e1 : B1.1 205 m = A.1 f 3 := by rw [hM.1 _ _ (by omega), hRF.2.2.1]
    have hx := hk B1 hM (Mn.refl _) (fun c h1 h2 => by omega)
    refine xp_iload_n rfl rfl ?_
    refine xp_iconst (n := 4) rfl (by decide) ?_
    refine xp_aload_n rfl rfl ?_
    refine xp_gfa rfl rfl (by decide) (by decide) (by first | assumption | exact hL.t rfl) (by first | assumption | exact hL.r rfl | exact hL.2.2.2.2.2) ?_
    refine xp_iload_n rfl rfl ?_
    refine xp_iald rfl (by first | assumption | exact hL.t rfl) (by first | omega | (rw [e1]; omega)) (by omega) ?_
    refine xp_iadd rfl ?_
    refine xp_icge 130 rfl (by decide) (by first | omega | (rw [e1]; omega)) (by first | omega | (rw [e1]; omega)) (fun h110 => ?_) (fun h110 => ?_)
    · skip
      refine xp_weak [(0, .ref 189), (1, .int (nI t)), (2, .int (nI m))] (xle_cons rfl (xle_cons rfl (xle_cons rfl (xle_nil _)))) (by simp [xnd]) ?_
      exact hx
    · exfalso; rw [e1] at h110; omega
  | succ n ih =>
    intro i B1 hi hM hk
    have e1 : B1.1 205 m = A.1 f 3 := by rw [hM.1 _ _ (by omega), hRF.2.2.1]
    obtain ⟨v1, v2⟩ := hRF.2.2.2.2 i (by omega)
    have vv := hF.v (c := 1 + i) (by omega)
    have v4 : 3 ≤ B.1 206 (10 * m + i) → oN (B.2 207 (10 * m + i)) < 24 ∧ aFd w (aFind w A) (oN (B.2 207 (10 * m + i))) := by
      rw [v1, v2]
      intro q
      have hu := vv.u q
      exact ⟨hu, f2 _ hu ⟨t, ht, Or.inr ⟨k, by omega, 1 + i, by rw [← hf]; omega, by rw [← hf]; exact ⟨q, rfl⟩⟩⟩⟩
    have e3 : B1.1 206 (10 * m + i) = B.1 206 (10 * m + i) := hM.1 _ _ (by omega)
    have mk := m128 (z := z) (B := B1) (v := 10 * m + i) hL (by omega) (by rw [e3, v1]; exact vv.1) (by rw [e3, hM.2.1]; exact fun q => (v4 q).1) (by rw [e3, hM.2.1]; exact fun q => by have := hM.2.2.1 _ (v4 q).1; omega)
    obtain ⟨k1, k2, k3, k4⟩ := hM.mark (v := 10 * m + i) v4
    generalize mMark B1 (10 * m + i) = r at mk k1 k2 k3 k4
    rw [v1, v2] at k3
    refine xp_iload_n rfl rfl ?_
    refine xp_iconst (n := 4) rfl (by decide) ?_
    refine xp_aload_n rfl rfl ?_
    refine xp_gfa rfl rfl (by decide) (by decide) (by first | assumption | exact hL.t rfl) (by first | assumption | exact hL.r rfl | exact hL.2.2.2.2.2) ?_
    refine xp_iload_n rfl rfl ?_
    refine xp_iald rfl (by first | assumption | exact hL.t rfl) (by first | omega | (rw [e1]; omega)) (by omega) ?_
    refine xp_iadd rfl ?_
    refine xp_icge 130 rfl (by decide) (by first | omega | (rw [e1]; omega)) (by first | omega | (rw [e1]; omega)) (fun h110 => ?_) (fun h110 => ?_)
    · exfalso; rw [e1] at h110; omega
    · skip
      refine xp_aload_n rfl rfl ?_
      refine xp_bipush (n := 10) rfl (by decide) ?_
      refine xp_iload_n rfl rfl ?_
      refine xp_imul rfl ?_
      refine xp_iload_n rfl rfl ?_
      refine xp_iadd rfl ?_
      refine xp_iv rfl rfl (Nat.le_of_ble_eq_true rfl) (by decide) (by decide) (by decide) (Nat.le_of_ble_eq_true rfl) rfl (xrcv1 (by decide) (by first | assumption | exact hL.t rfl)) (mk) rfl ?_
      refine xp_pop rfl rfl ?_
      refine xp_iinc rfl rfl (by decide) (nI_inc _) ?_
      refine xp_goto 101 rfl (by decide) ?_
      refine xp_weak [(0, .ref 189), (1, .int (nI t)), (2, .int (nI m)), (3, .int (nI (i + 1)))] (xle_cons rfl (xle_cons rfl (xle_cons rfl (xle_cons rfl (xle_nil _))))) (by simp [xnd]) ?_
      refine ih (i + 1) r.2 (by omega) k1 (fun B2 g1 g2 g3 => hk B2 g1 (k2.trans g2) (fun c h1 h2 h3 => ?_))
      by_cases hci : c = i
      · rw [hci] at h3 ⊢
        exact g2 _ (k3 h3)
      · exact g3 c (by omega) h2 h3
theorem l130b {z : Nat} {T : Nat → Option xT} {R : Nat → Nat → Option Nat} {w : Nat} {A B : xQ} {P : xR → Prop} (hL : xLay T R w) (hc : COk w A) (hR : Rel w A B) {t s : Nat} (ht : t < A.1 w 2) (hs : s = w + 11 + 25 * t) (hst : A.1 s 2 = 0) : ∀ (n k : Nat) (B1 : xQ), k + n = A.1 s 3 → Mk w A B B1 → (∀ B2, Mk w A B B2 → Mn B1 B2 → (∀ j, k ≤ j → j < A.1 s 3 → ∀ o, RF A (s + 5 + 4 * j) o → B2.1 209 o = 1) → xP 130 136 [(0, .ref 189), (1, .int (nI t))] [] 0 0 (xm z T R B2) P) → xP 130 55 [(0, .ref 189), (1, .int (nI t)), (2, .int (nI (5 * t + k)))] [] 0 0 (xm z T R B1) P := by
  have hW := hL.w hL.1
  obtain ⟨f1, f2, f3, f4⟩ := find_fd hW hc.2.1
  have hc3 := hc.cnt
  have hSo := hc.st ht
  rw [← hs] at hSo
  have hk5 := hSo.2.1
  have hRS := hR.2.2.2.1 t ht
  rw [← hs] at hRS
  intro n
  induction n with
  | zero =>
    intro k B1 hk hM hx
    have e1 : B1.1 201 t = A.1 s 3 := by rw [hM.1 _ _ (by omega), hRS.2.2.1]
    have hy := hx B1 hM (Mn.refl _) (fun c h1 h2 => by omega)
    refine xp_iload_n rfl rfl ?_
    refine xp_iconst (n := 5) rfl (by decide) ?_
    refine xp_iload_n rfl rfl ?_
    refine xp_imul rfl ?_
    refine xp_aload_n rfl rfl ?_
    refine xp_gfa rfl rfl (by decide) (by decide) (by first | assumption | exact hL.t rfl) (by first | assumption | exact hL.r rfl | exact hL.2.2.2.2.2) ?_
    refine xp_iload_n rfl rfl ?_
    refine xp_iald rfl (by first | assumption | exact hL.t rfl) (by first | omega | (rw [e1]; omega)) (by omega) ?_
    refine xp_iadd rfl ?_
    refine xp_icge 136 rfl (by decide) (by first | omega | (rw [e1]; omega)) (by first | omega | (rw [e1]; omega)) (fun h66 => ?_) (fun h66 => ?_)
    · skip
      refine xp_weak [(0, .ref 189), (1, .int (nI t))] (xle_cons rfl (xle_cons rfl (xle_nil _))) (by simp [xnd]) ?_
      exact hy
    · exfalso; rw [e1] at h66; omega
  | succ n ih =>
    intro k B1 hk hM hx
    have e1 : B1.1 201 t = A.1 s 3 := by rw [hM.1 _ _ (by omega), hRS.2.2.1]
    have e2 : B1.1 199 t = 0 := by rw [hM.1 _ _ (by omega), hRS.1, hst]
    have e3 : B1.1 204 (5 * t + k) = B.1 204 (5 * t + k) := hM.1 _ _ (by omega)
    have hF := hSo.2.2.2.2.2.2 k (by omega)
    have hcl := (hRS.2.2.2.2 k (by omega)).2.2.2.1
    have rest : ∀ B2, Mk w A B B2 → Mn B1 B2 → (3 ≤ A.1 (s + 5 + 4 * k + 2) 0 → B2.1 209 (oN (A.2 (s + 5 + 4 * k + 3) 0)) = 1) → xP 130 101 [(0, .ref 189), (1, .int (nI t)), (2, .int (nI (5 * t + k))), (3, .int (nI 0))] [] 0 0 (xm z T R B2) P := by
      intro B2 g1 g2 g3
      refine l130a hL hc hR (k := k) (f := s + 5 + 4 * k) ht (by rw [← hs]; omega) (by rw [hs]) rfl (4 + A.1 (s + 5 + 4 * k) 3) 0 B2 (by omega) g1 (fun B3 q1 q2 q3 => ?_)
      refine xp_iinc rfl rfl (by decide) (nI_inc _) ?_
      refine xp_goto 55 rfl (by decide) ?_
      refine xp_weak [(0, .ref 189), (1, .int (nI t)), (2, .int (nI (5 * t + (k + 1))))] (xle_cons rfl (xle_cons rfl (xle_cons rfl (xle_nil _)))) (by simp [xnd]) ?_
      refine ih (k + 1) B3 (by omega) q1 (fun B4 p1 p2 p3 => hx B4 p1 ((g2.trans q2).trans p2) (fun j h1 h2 o ho => ?_))
      by_cases hjk : j = k
      · rw [hjk] at ho
        obtain ⟨c, c1, c2, c3⟩ := ho
        rw [c3]
        by_cases hc0 : c = 0
        · rw [hc0] at c2 ⊢
          exact p2 _ (q2 _ (g3 c2))
        · have q4 := q3 (c - 1) (by omega) (by omega)
          rw [show 1 + (c - 1) = c by omega] at q4
          exact p2 _ (q4 c2)
      · exact p3 j (by omega) h2 o ho
    rcases hcl with ⟨q1, q2⟩ | ⟨q1, q2⟩
    · skip
      refine xp_iload_n rfl rfl ?_
      refine xp_iconst (n := 5) rfl (by decide) ?_
      refine xp_iload_n rfl rfl ?_
      refine xp_imul rfl ?_
      refine xp_aload_n rfl rfl ?_
      refine xp_gfa rfl rfl (by decide) (by decide) (by first | assumption | exact hL.t rfl) (by first | assumption | exact hL.r rfl | exact hL.2.2.2.2.2) ?_
      refine xp_iload_n rfl rfl ?_
      refine xp_iald rfl (by first | assumption | exact hL.t rfl) (by first | omega | (rw [e1]; omega)) (by omega) ?_
      refine xp_iadd rfl ?_
      refine xp_icge 136 rfl (by decide) (by first | omega | (rw [e1]; omega)) (by first | omega | (rw [e1]; omega)) (fun h66 => ?_) (fun h66 => ?_)
      · exfalso; rw [e1] at h66; omega
      · skip
        refine xp_aload_n rfl rfl ?_
        refine xp_gfa rfl rfl (by decide) (by decide) (by first | assumption | exact hL.t rfl) (by first | assumption | exact hL.r rfl | exact hL.2.2.2.2.2) ?_
        refine xp_iload_n rfl rfl ?_
        refine xp_iald rfl (by first | assumption | exact hL.t rfl) (by first | omega | (rw [e1]; omega)) (by omega) ?_
        rw [e2]
        refine xp_ifne 136 rfl (by decide) (by first | omega | (rw [e1]; omega)) (fun h75 => ?_) (fun h75 => ?_)
        · exfalso; omega
        · skip
          refine xp_aload_n rfl rfl ?_
          refine xp_gfa rfl rfl (by decide) (by decide) (by first | assumption | exact hL.t rfl) (by first | assumption | exact hL.r rfl | exact hL.2.2.2.2.2) ?_
          refine xp_iload_n rfl rfl ?_
          refine xp_iald rfl (by first | assumption | exact hL.t rfl) (by first | omega | (rw [e1]; omega)) (by omega) ?_
          rw [e3, q2]
          refine xp_iflt 99 rfl (by decide) (by first | omega | (rw [e1]; omega)) (fun h84 => ?_) (fun h84 => ?_)
          · skip
            refine xp_iconst (n := 0) rfl (by decide) ?_
            refine xp_istore_n rfl (by decide) ?_
            refine xp_weak [(0, .ref 189), (1, .int (nI t)), (2, .int (nI (5 * t + k))), (3, .int (nI 0))] (xle_cons rfl (xle_cons rfl (xle_cons rfl (xle_cons rfl (xle_nil _))))) (by simp [xnd]) ?_
            exact rest B1 hM (Mn.refl _) (fun z => by omega)
          · exfalso; omega
    · have hu := (hF.v (c := 0) (by omega)).u (by omega)
      have hfd : aFd w (aFind w A) (oN (A.2 (s + 5 + 4 * k + 3) 0)) := f2 _ hu ⟨t, ht, Or.inr ⟨k, by rw [← hs]; omega, 0, by omega, by rw [← hs]; exact ⟨by omega, rfl⟩⟩⟩
      have a1 : ∀ o, (xsI B1 209 (oN (A.2 (s + 5 + 4 * k + 3) 0)) 1).1 209 o = if o = oN (A.2 (s + 5 + 4 * k + 3) 0) then 1 else B1.1 209 o := by
        intro o
        by_cases e : o = oN (A.2 (s + 5 + 4 * k + 3) 0)
        · rw [if_pos e, e, xsI_eq]
        · rw [if_neg e, xsI_ne (Or.inr e)]
      have hM2 : Mk w A B (xsI B1 209 (oN (A.2 (s + 5 + 4 * k + 3) 0)) 1) := by
        refine ⟨fun a j z => by rw [xsI_ne (Or.inl z)]; exact hM.1 a j z, hM.2.1, fun o ho => ?_, fun o ho => ?_⟩
        · rw [a1]
          split
          · exact Or.inr rfl
          · exact hM.2.2.1 o ho
        · rw [a1]
          split
          · rename_i e; intro _; rw [e]; exact hfd
          · exact hM.2.2.2 o ho
      have hMn : Mn B1 (xsI B1 209 (oN (A.2 (s + 5 + 4 * k + 3) 0)) 1) := by
        intro o ho
        rw [a1]
        split
        · rfl
        · exact ho
      refine xp_iload_n rfl rfl ?_
      refine xp_iconst (n := 5) rfl (by decide) ?_
      refine xp_iload_n rfl rfl ?_
      refine xp_imul rfl ?_
      refine xp_aload_n rfl rfl ?_
      refine xp_gfa rfl rfl (by decide) (by decide) (by first | assumption | exact hL.t rfl) (by first | assumption | exact hL.r rfl | exact hL.2.2.2.2.2) ?_
      refine xp_iload_n rfl rfl ?_
      refine xp_iald rfl (by first | assumption | exact hL.t rfl) (by first | omega | (rw [e1]; omega)) (by omega) ?_
      refine xp_iadd rfl ?_
      refine xp_icge 136 rfl (by decide) (by first | omega | (rw [e1]; omega)) (by first | omega | (rw [e1]; omega)) (fun h66 => ?_) (fun h66 => ?_)
      · exfalso; rw [e1] at h66; omega
      · skip
        refine xp_aload_n rfl rfl ?_
        refine xp_gfa rfl rfl (by decide) (by decide) (by first | assumption | exact hL.t rfl) (by first | assumption | exact hL.r rfl | exact hL.2.2.2.2.2) ?_
        refine xp_iload_n rfl rfl ?_
        refine xp_iald rfl (by first | assumption | exact hL.t rfl) (by first | omega | (rw [e1]; omega)) (by omega) ?_
        rw [e2]
        refine xp_ifne 136 rfl (by decide) (by first | omega | (rw [e1]; omega)) (fun h75 => ?_) (fun h75 => ?_)
        · exfalso; omega
        · skip
          refine xp_aload_n rfl rfl ?_
          refine xp_gfa rfl rfl (by decide) (by decide) (by first | assumption | exact hL.t rfl) (by first | assumption | exact hL.r rfl | exact hL.2.2.2.2.2) ?_
          refine xp_iload_n rfl rfl ?_
          refine xp_iald rfl (by first | assumption | exact hL.t rfl) (by first | omega | (rw [e1]; omega)) (by omega) ?_
          rw [e3, q2]
          refine xp_iflt 99 rfl (by decide) (by first | omega | (rw [e1]; omega)) (fun h84 => ?_) (fun h84 => ?_)
          · exfalso; omega
          · skip
            refine xp_aload_n rfl rfl ?_
            refine xp_gfa rfl rfl (by decide) (by decide) (by first | assumption | exact hL.t rfl) (by first | assumption | exact hL.r rfl | exact hL.2.2.2.2.2) ?_
            refine xp_aload_n rfl rfl ?_
            refine xp_gfa rfl rfl (by decide) (by decide) (by first | assumption | exact hL.t rfl) (by first | assumption | exact hL.r rfl | exact hL.2.2.2.2.2) ?_
            refine xp_iload_n rfl rfl ?_
            refine xp_iald rfl (by first | assumption | exact hL.t rfl) (by first | omega | (rw [e1]; omega)) (by omega) ?_
            rw [e3, q2]
            refine xp_iconst (n := 1) rfl (by decide) ?_
            refine xp_bast rfl (by first | assumption | exact hL.t rfl) (by first | omega | (rw [e1]; omega)) (by omega) (by first | omega | (rw [e1]; omega)) ?_
            refine xp_iconst (n := 0) rfl (by decide) ?_
            refine xp_istore_n rfl (by decide) ?_
            refine xp_weak [(0, .ref 189), (1, .int (nI t)), (2, .int (nI (5 * t + k))), (3, .int (nI 0))] (xle_cons rfl (xle_cons rfl (xle_cons rfl (xle_cons rfl (xle_nil _))))) (by simp [xnd]) ?_
            exact rest _ hM2 hMn (fun _ => xsI_eq)
theorem l130c {z : Nat} {T : Nat → Option xT} {R : Nat → Nat → Option Nat} {w : Nat} {A B : xQ} {P : xR → Prop} (hL : xLay T R w) (hc : COk w A) (hR : Rel w A B) : ∀ (n t : Nat) (B1 : xQ), t + n = A.1 w 2 → Mk w A B B1 → (∀ B2, Mk w A B B2 → Mn B1 B2 → (∀ u, t ≤ u → u < A.1 w 2 → ∀ o, RS A (w + 11 + 25 * u) o → B2.1 209 o = 1) → xP 130 142 [(0, .ref 189)] [] 0 0 (xm z T R B2) P) → xP 130 23 [(0, .ref 189), (1, .int (nI t))] [] 0 0 (xm z T R B1) P := by
  have hW := hL.w hL.1
  obtain ⟨f1, f2, f3, f4⟩ := find_fd hW hc.2.1
  have hc3 := hc.cnt
  intro n
  induction n with
  | zero =>
    intro t B1 ht hM hx
    have e0 : B1.1 189 9 = A.1 w 2 := by rw [hM.1 _ _ (by omega), hR.2.2.1.1]
    have hy := hx B1 hM (Mn.refl _) (fun c h1 h2 => by omega)
    refine xp_iload_n rfl rfl ?_
    refine xp_aload_n rfl rfl ?_
    refine xp_gfi rfl rfl (by decide) (by decide) (by first | assumption | exact hL.t rfl) ?_
    refine xp_icge 142 rfl (by decide) (by first | omega | (rw [e0]; omega)) (by first | omega | (rw [e0]; omega)) (fun h28 => ?_) (fun h28 => ?_)
    · skip
      refine xp_weak [(0, .ref 189)] (xle_cons rfl (xle_nil _)) (by simp [xnd]) ?_
      exact hy
    · exfalso; rw [e0] at h28; omega
  | succ n ih =>
    intro t B1 ht hM hx
    have ht2 : t < A.1 w 2 := by omega
    have e0 : B1.1 189 9 = A.1 w 2 := by rw [hM.1 _ _ (by omega), hR.2.2.1.1]
    obtain ⟨s, hs⟩ : ∃ s, s = w + 11 + 25 * t := ⟨_, rfl⟩
    have hSo := hc.st ht2
    have hRS := hR.2.2.2.1 t ht2
    rw [← hs] at hSo hRS
    have e1 : B1.1 199 t = A.1 s 2 := by rw [hM.1 _ _ (by omega), hRS.1]
    have hst2 := hSo.1
    have done : ∀ B2, Mk w A B B2 → Mn B1 B2 → (∀ o, RS A s o → B2.1 209 o = 1) → xP 130 136 [(0, .ref 189), (1, .int (nI t))] [] 0 0 (xm z T R B2) P := by
      intro B2 g1 g2 g3
      refine xp_iinc rfl rfl (by decide) (nI_inc _) ?_
      refine xp_goto 23 rfl (by decide) ?_
      refine xp_weak [(0, .ref 189), (1, .int (nI (t + 1)))] (xle_cons rfl (xle_cons rfl (xle_nil _))) (by simp [xnd]) ?_
      refine ih (t + 1) B2 (by omega) g1 (fun B3 p1 p2 p3 => hx B3 p1 (g2.trans p2) (fun u h1 h2 o ho => ?_))
      by_cases hut : u = t
      · rw [hut, ← hs] at ho
        exact p2 _ (g3 o ho)
      · exact p3 u (by omega) h2 o ho
    by_cases h1 : A.1 s 2 = 1
    · have hd0 : A.1 s 3 = 0 := hSo.2.2.2.1 (by omega)
      obtain ⟨v1, v2⟩ := hRS.2.2.2.1 h1
      have vv : VV w A (A.1 (s + 3) 0) (A.2 (s + 4) 0) := hSo.2.2.2.2.2.1 h1
      have v4 : 3 ≤ B.1 206 (150 + t) → oN (B.2 207 (150 + t)) < 24 ∧ aFd w (aFind w A) (oN (B.2 207 (150 + t))) := by
        rw [v1, v2]
        intro q
        have hu := vv.u q
        exact ⟨hu, f2 _ hu ⟨t, ht2, Or.inl (by rw [← hs]; exact ⟨h1, q, rfl⟩)⟩⟩
      have e3 : B1.1 206 (150 + t) = B.1 206 (150 + t) := hM.1 _ _ (by omega)
      have mk := m128 (z := z) (B := B1) (v := 150 + t) hL (by omega) (by rw [e3, v1]; exact vv.1) (by rw [e3, hM.2.1]; exact fun q => (v4 q).1) (by rw [e3, hM.2.1]; exact fun q => by have := hM.2.2.1 _ (v4 q).1; omega)
      obtain ⟨k1, k2, k3, k4⟩ := hM.mark (v := 150 + t) v4
      generalize mMark B1 (150 + t) = r at mk k1 k2 k3 k4
      rw [v1, v2] at k3
      have e4 : r.2.1 201 t = 0 := by rw [k1.1 _ _ (by omega), hRS.2.2.1, hd0]
      have hy := done r.2 k1 k2 (fun o ho => by
        rcases ho with ⟨_, q1, q2⟩ | ⟨k, q, _⟩
        · rw [q2]; exact k3 q1
        · omega)
      refine xp_iload_n rfl rfl ?_
      refine xp_aload_n rfl rfl ?_
      refine xp_gfi rfl rfl (by decide) (by decide) (by first | assumption | exact hL.t rfl) ?_
      refine xp_icge 142 rfl (by decide) (by first | omega | (rw [e0]; omega) | (rw [e1]; omega)) (by first | omega | (rw [e0]; omega) | (rw [e1]; omega)) (fun h28 => ?_) (fun h28 => ?_)
      · exfalso; rw [e0] at h28; omega
      · skip
        refine xp_aload_n rfl rfl ?_
        refine xp_gfa rfl rfl (by decide) (by decide) (by first | assumption | exact hL.t rfl) (by first | assumption | exact hL.r rfl | exact hL.2.2.2.2.2) ?_
        refine xp_iload_n rfl rfl ?_
        refine xp_iald rfl (by first | assumption | exact hL.t rfl) (by first | omega | (rw [e0]; omega) | (rw [e1]; omega)) (by omega) ?_
        refine xp_iconst (n := 1) rfl (by decide) ?_
        refine xp_icne 51 rfl (by decide) (by first | omega | (rw [e0]; omega) | (rw [e1]; omega)) (by first | omega | (rw [e0]; omega) | (rw [e1]; omega)) (fun h38 => ?_) (fun h38 => ?_)
        · exfalso; rw [e1] at h38; omega
        · skip
          refine xp_aload_n rfl rfl ?_
          refine xp_sipush (n := 150) rfl (by decide) ?_
          refine xp_iload_n rfl rfl ?_
          refine xp_iadd rfl ?_
          refine xp_iv rfl rfl (Nat.le_of_ble_eq_true rfl) (by decide) (by decide) (by decide) (Nat.le_of_ble_eq_true rfl) rfl (xrcv1 (by decide) (by first | assumption | exact hL.t rfl)) (mk) rfl ?_
          refine xp_pop rfl rfl ?_
          refine xp_iconst (n := 5) rfl (by decide) ?_
          refine xp_iload_n rfl rfl ?_
          refine xp_imul rfl ?_
          refine xp_istore_n rfl (by decide) ?_
          refine xp_iload_n rfl rfl ?_
          refine xp_iconst (n := 5) rfl (by decide) ?_
          refine xp_iload_n rfl rfl ?_
          refine xp_imul rfl ?_
          refine xp_aload_n rfl rfl ?_
          refine xp_gfa rfl rfl (by decide) (by decide) (by first | assumption | exact hL.t rfl) (by first | assumption | exact hL.r rfl | exact hL.2.2.2.2.2) ?_
          refine xp_iload_n rfl rfl ?_
          refine xp_iald rfl (by first | assumption | exact hL.t rfl) (by first | omega | (rw [e0]; omega) | (rw [e1]; omega)) (by omega) ?_
          refine xp_iadd rfl ?_
          refine xp_icge 136 rfl (by decide) (by first | omega | (rw [e4]; omega)) (by first | omega | (rw [e4]; omega)) (fun h66 => ?_) (fun h66 => ?_)
          · skip
            refine xp_weak [(0, .ref 189), (1, .int (nI t))] (xle_cons rfl (xle_cons rfl (xle_nil _))) (by simp [xnd]) ?_
            exact hy
          · exfalso; rw [e4] at h66; omega
    · by_cases h0 : A.1 s 2 = 0
      · skip
        refine xp_iload_n rfl rfl ?_
        refine xp_aload_n rfl rfl ?_
        refine xp_gfi rfl rfl (by decide) (by decide) (by first | assumption | exact hL.t rfl) ?_
        refine xp_icge 142 rfl (by decide) (by first | omega | (rw [e0]; omega) | (rw [e1]; omega)) (by first | omega | (rw [e0]; omega) | (rw [e1]; omega)) (fun h28 => ?_) (fun h28 => ?_)
        · exfalso; rw [e0] at h28; omega
        · skip
          refine xp_aload_n rfl rfl ?_
          refine xp_gfa rfl rfl (by decide) (by decide) (by first | assumption | exact hL.t rfl) (by first | assumption | exact hL.r rfl | exact hL.2.2.2.2.2) ?_
          refine xp_iload_n rfl rfl ?_
          refine xp_iald rfl (by first | assumption | exact hL.t rfl) (by first | omega | (rw [e0]; omega) | (rw [e1]; omega)) (by omega) ?_
          refine xp_iconst (n := 1) rfl (by decide) ?_
          refine xp_icne 51 rfl (by decide) (by first | omega | (rw [e0]; omega) | (rw [e1]; omega)) (by first | omega | (rw [e0]; omega) | (rw [e1]; omega)) (fun h38 => ?_) (fun h38 => ?_)
          · skip
            refine xp_iconst (n := 5) rfl (by decide) ?_
            refine xp_iload_n rfl rfl ?_
            refine xp_imul rfl ?_
            refine xp_istore_n rfl (by decide) ?_
            refine xp_weak [(0, .ref 189), (1, .int (nI t)), (2, .int (nI (5 * t + 0)))] (xle_cons rfl (xle_cons rfl (xle_cons rfl (xle_nil _)))) (by simp [xnd]) ?_
            refine l130b hL hc hR ht2 hs h0 (A.1 s 3) 0 B1 (by omega) hM (fun B2 g1 g2 g3 => done B2 g1 g2 (fun o ho => ?_))
            rcases ho with ⟨q, _⟩ | ⟨k, q1, q2⟩
            · omega
            · exact g3 k (by omega) q1 o q2
          · exfalso; rw [e1] at h38; omega
      · have hd0 : A.1 s 3 = 0 := hSo.2.2.2.1 h0
        have e4 : B1.1 201 t = 0 := by rw [hM.1 _ _ (by omega), hRS.2.2.1, hd0]
        have hy := done B1 hM (Mn.refl _) (fun o ho => by
          rcases ho with ⟨q, _⟩ | ⟨k, q, _⟩ <;> omega)
        refine xp_iload_n rfl rfl ?_
        refine xp_aload_n rfl rfl ?_
        refine xp_gfi rfl rfl (by decide) (by decide) (by first | assumption | exact hL.t rfl) ?_
        refine xp_icge 142 rfl (by decide) (by first | omega | (rw [e0]; omega) | (rw [e1]; omega)) (by first | omega | (rw [e0]; omega) | (rw [e1]; omega)) (fun h28 => ?_) (fun h28 => ?_)
        · exfalso; rw [e0] at h28; omega
        · skip
          refine xp_aload_n rfl rfl ?_
          refine xp_gfa rfl rfl (by decide) (by decide) (by first | assumption | exact hL.t rfl) (by first | assumption | exact hL.r rfl | exact hL.2.2.2.2.2) ?_
          refine xp_iload_n rfl rfl ?_
          refine xp_iald rfl (by first | assumption | exact hL.t rfl) (by first | omega | (rw [e0]; omega) | (rw [e1]; omega)) (by omega) ?_
          refine xp_iconst (n := 1) rfl (by decide) ?_
          refine xp_icne 51 rfl (by decide) (by first | omega | (rw [e0]; omega) | (rw [e1]; omega)) (by first | omega | (rw [e0]; omega) | (rw [e1]; omega)) (fun h38 => ?_) (fun h38 => ?_)
          · skip
            refine xp_iconst (n := 5) rfl (by decide) ?_
            refine xp_iload_n rfl rfl ?_
            refine xp_imul rfl ?_
            refine xp_istore_n rfl (by decide) ?_
            refine xp_iload_n rfl rfl ?_
            refine xp_iconst (n := 5) rfl (by decide) ?_
            refine xp_iload_n rfl rfl ?_
            refine xp_imul rfl ?_
            refine xp_aload_n rfl rfl ?_
            refine xp_gfa rfl rfl (by decide) (by decide) (by first | assumption | exact hL.t rfl) (by first | assumption | exact hL.r rfl | exact hL.2.2.2.2.2) ?_
            refine xp_iload_n rfl rfl ?_
            refine xp_iald rfl (by first | assumption | exact hL.t rfl) (by first | omega | (rw [e0]; omega) | (rw [e1]; omega)) (by omega) ?_
            refine xp_iadd rfl ?_
            refine xp_icge 136 rfl (by decide) (by first | omega | (rw [e4]; omega)) (by first | omega | (rw [e4]; omega)) (fun h66 => ?_) (fun h66 => ?_)
            · skip
              refine xp_weak [(0, .ref 189), (1, .int (nI t))] (xle_cons rfl (xle_cons rfl (xle_nil _))) (by simp [xnd]) ?_
              exact hy
            · exfalso; rw [e4] at h66; omega
          · exfalso; rw [e1] at h38; omega
def ClM (B B2 : xQ) : Prop := ∀ p, p < 24 → B2.1 209 p = 1 → ChM B B2 p 0
theorem l130d {z : Nat} {T : Nat → Option xT} {R : Nat → Nat → Option Nat} {w : Nat} {A B : xQ} {P : xR → Prop} (hL : xLay T R w) (hc : COk w A) (hR : Rel w A B) : ∀ (n : Nat) (B1 : xQ) (more : Nat), 24 - mC B1 < n → Mk w A B B1 → (∀ o, Rt w A o → B1.1 209 o = 1) → (more = 1 ∨ (more = 0 ∧ ClM B B1)) → (∀ B2, Mk w A B B2 → (∀ o, Rt w A o → B2.1 209 o = 1) → ClM B B2 → xP 130 156 [(0, .ref 189)] [] 0 0 (xm z T R B2) P) → xP 130 144 [(0, .ref 189), (1, .int (nI more))] [] 0 0 (xm z T R B1) P := by
  intro n
  induction n with
  | zero => intro B1 more h; omega
  | succ n ih =>
    intro B1 more hn hM hr hm hx
    rcases hm with rfl | ⟨rfl, hcl⟩
    · obtain ⟨B2, ⟨e, g1, g2, g3⟩, g4, g5, g6⟩ := m129 (z := z) hL hc hR hM
      have hr2 : ∀ o, Rt w A o → B2.1 209 o = 1 := fun o ho => g5 o (hr o ho)
      rcases g3 with ⟨rfl, rfl⟩ | ⟨rfl, hlt⟩
      · have hy := hx B2 hM hr (fun p hp h1 => g6 p hp h1)
        refine xp_iload_n rfl rfl ?_
        refine xp_ifeq 156 rfl (by decide) (by omega) (fun h145 => ?_) (fun h145 => ?_)
        · exfalso; omega
        · skip
          refine xp_aload_n rfl rfl ?_
          refine xp_iv rfl rfl (Nat.le_of_ble_eq_true rfl) (by decide) (by decide) (by decide) (Nat.le_of_ble_eq_true rfl) rfl (xrcv1 (by decide) (by first | assumption | exact hL.t rfl)) (g1) rfl ?_
          refine xp_istore_n rfl (by decide) ?_
          refine xp_goto 144 rfl (by decide) ?_
          refine xp_weak [(0, .ref 189), (1, .int (nI 0))] (xle_cons rfl (xle_cons rfl (xle_nil _))) (by simp [xnd]) ?_
          refine xp_iload_n rfl rfl ?_
          refine xp_ifeq 156 rfl (by decide) (by omega) (fun h145 => ?_) (fun h145 => ?_)
          · skip
            refine xp_weak [(0, .ref 189)] (xle_cons rfl (xle_nil _)) (by simp [xnd]) ?_
            exact hy
          · exfalso; omega
      · have hle : mC B2 ≤ 24 := xcnt_le _ _
        refine xp_iload_n rfl rfl ?_
        refine xp_ifeq 156 rfl (by decide) (by omega) (fun h145 => ?_) (fun h145 => ?_)
        · exfalso; omega
        · skip
          refine xp_aload_n rfl rfl ?_
          refine xp_iv rfl rfl (Nat.le_of_ble_eq_true rfl) (by decide) (by decide) (by decide) (Nat.le_of_ble_eq_true rfl) rfl (xrcv1 (by decide) (by first | assumption | exact hL.t rfl)) (g1) rfl ?_
          refine xp_istore_n rfl (by decide) ?_
          refine xp_goto 144 rfl (by decide) ?_
          refine xp_weak [(0, .ref 189), (1, .int (nI 1))] (xle_cons rfl (xle_cons rfl (xle_nil _))) (by simp [xnd]) ?_
          exact ih B2 1 (by omega) g4 hr2 (Or.inl rfl) hx
    · have hy := hx B1 hM hr hcl
      refine xp_iload_n rfl rfl ?_
      refine xp_ifeq 156 rfl (by decide) (by omega) (fun h145 => ?_) (fun h145 => ?_)
      · skip
        refine xp_weak [(0, .ref 189)] (xle_cons rfl (xle_nil _)) (by simp [xnd]) ?_
        exact hy
      · exfalso; omega
def mKeep (o : Nat) (B : xQ) : xQ := if B.1 209 o = 0 then xsI B 208 o (B.1 209 o) else xsI (xsI B 208 o (B.1 209 o)) 189 15 (B.1 189 15 + 1)
theorem mKeep_r : ∀ (n o : Nat) (B : xQ), o + n = 24 → (∀ p, p < 24 → B.1 209 p = 0 ∨ B.1 209 p = 1) → (∀ a j, a ≠ 208 → (a ≠ 189 ∨ j ≠ 15) → (xit mKeep n o B).1 a j = B.1 a j) ∧ (xit mKeep n o B).2 = B.2 ∧ (∀ p, o ≤ p → p < 24 → (xit mKeep n o B).1 208 p = B.1 209 p) ∧ (∀ p, p < o → (xit mKeep n o B).1 208 p = B.1 208 p) ∧ ((xit mKeep n o B).1 189 15 + xcnt (fun p => decide (B.1 209 p = 1)) o = B.1 189 15 + mC B) := by
  intro n
  induction n with
  | zero =>
    intro o B ho _
    have : o = 24 := by omega
    subst this
    exact ⟨fun _ _ _ _ => rfl, rfl, fun p h1 h2 => by omega, fun _ _ => rfl, rfl⟩
  | succ n ih =>
    intro o B ho hb
    have e9 : ∀ a j, a ≠ 208 → (a ≠ 189 ∨ j ≠ 15) → (mKeep o B).1 a j = B.1 a j := by
      intro a j h1 h2
      unfold mKeep
      split
      · exact xsI_ne (Or.inl h1)
      · rw [xsI_ne h2, xsI_ne (Or.inl h1)]
    have e8 : (mKeep o B).1 208 o = B.1 209 o := by
      unfold mKeep
      split
      · exact xsI_eq
      · rw [xsI_ne (by omega), xsI_eq]
    have e8b : ∀ p, p ≠ o → (mKeep o B).1 208 p = B.1 208 p := by
      intro p hp
      unfold mKeep
      split
      · exact xsI_ne (Or.inr hp)
      · rw [xsI_ne (by omega), xsI_ne (Or.inr hp)]
    have e15 : (mKeep o B).1 189 15 = B.1 189 15 + (if B.1 209 o = 1 then 1 else 0) := by
      unfold mKeep
      have := hb o (by omega)
      split
      · rename_i h; rw [if_neg (by omega)]; exact xsI_ne (by omega)
      · rw [if_pos (by omega), xsI_eq]
    have e2 : (mKeep o B).2 = B.2 := by unfold mKeep; split <;> rfl
    obtain ⟨g1, g2, g3, g4, g5⟩ := ih (o + 1) (mKeep o B) (by omega) (fun p hp => by rw [e9 _ _ (by omega) (by omega)]; exact hb p hp)
    have em : mC (mKeep o B) = mC B := xcnt_congr _ (fun i _ => by rw [e9 _ _ (by omega) (by omega)])
    have ex : xcnt (fun p => decide ((mKeep o B).1 209 p = 1)) (o + 1) = xcnt (fun p => decide (B.1 209 p = 1)) o + (if B.1 209 o = 1 then 1 else 0) := by
      rw [xcnt_congr (q := fun p => decide (B.1 209 p = 1)) (o + 1) (fun i _ => by rw [e9 _ _ (by omega) (by omega)])]
      show xcnt _ o + _ = _
      by_cases hq : B.1 209 o = 1
      · simp [hq]
      · simp [hq]
    refine ⟨fun a j h1 h2 => (g1 a j h1 h2).trans (e9 a j h1 h2), g2.trans e2, fun p h1 h2 => ?_, fun p hp => ?_, ?_⟩
    · by_cases hp : p = o
      · rw [hp]
        exact (g4 o (by omega)).trans e8
      · exact (g3 p (by omega) h2).trans (e9 _ _ (by omega) (by omega))
    · exact (g4 p (by omega)).trans (e8b p (by omega))
    · show (xit mKeep n (o + 1) (mKeep o B)).1 189 15 + _ = _
      rw [ex, em, e15] at g5
      omega
theorem l130e {z : Nat} {T : Nat → Option xT} {R : Nat → Nat → Option Nat} {w : Nat} (hL : xLay T R w) : ∀ (n o : Nat) (B : xQ), o + n = 24 → (∀ p, p < 24 → B.1 209 p = 0 ∨ B.1 209 p = 1) → xP 130 163 [(0, .ref 189), (2, .int (nI o))] [] 0 0 (xm z T R B) (fun r => r = (.inr none, xm z T R (xit mKeep n o B))) := by
  intro n
  induction n with
  | zero =>
    intro o B ho hb
    refine xp_iload_n rfl rfl ?_
    refine xp_bipush (n := 24) rfl (by decide) ?_
    refine xp_icge 206 rfl (by decide) (by omega) (by omega) (fun h166 => ?_) (fun h166 => ?_)
    · skip
      refine xp_return rfl (by decide) (by decide) (by decide) ?_
      rfl
    · exfalso; omega
  | succ n ih =>
    intro o B ho hb
    have hbo := hb o (by omega)
    have e8 : (xsI B 208 o (B.1 209 o)).1 208 o = B.1 209 o := xsI_eq
    have e15 : (xsI B 208 o (B.1 209 o)).1 189 15 = B.1 189 15 := xsI_ne (by omega)
    have hnx : ∀ p, p < 24 → (mKeep o B).1 209 p = 0 ∨ (mKeep o B).1 209 p = 1 := by
      intro p hp
      have : (mKeep o B).1 209 p = B.1 209 p := by
        unfold mKeep
        split
        · exact xsI_ne (by omega)
        · rw [xsI_ne (by omega), xsI_ne (by omega)]
      rw [this]
      exact hb p hp
    have hih := ih (o + 1) (mKeep o B) (by omega) hnx
    by_cases hz : B.1 209 o = 0
    · have ek : mKeep o B = xsI B 208 o (B.1 209 o) := by unfold mKeep; rw [if_pos hz]
      rw [ek] at hih
      refine xp_iload_n rfl rfl ?_
      refine xp_bipush (n := 24) rfl (by decide) ?_
      refine xp_icge 206 rfl (by decide) (by omega) (by omega) (fun h166 => ?_) (fun h166 => ?_)
      · exfalso; omega
      · skip
        refine xp_aload_n rfl rfl ?_
        refine xp_gfa rfl rfl (by decide) (by decide) (by first | assumption | exact hL.t rfl) (by first | assumption | exact hL.r rfl | exact hL.2.2.2.2.2) ?_
        refine xp_iload_n rfl rfl ?_
        refine xp_aload_n rfl rfl ?_
        refine xp_gfa rfl rfl (by decide) (by decide) (by first | assumption | exact hL.t rfl) (by first | assumption | exact hL.r rfl | exact hL.2.2.2.2.2) ?_
        refine xp_iload_n rfl rfl ?_
        refine xp_bald rfl (by first | assumption | exact hL.t rfl) (by omega) (by omega) ?_
        refine xp_bast rfl (by first | assumption | exact hL.t rfl) (by omega) (by omega) (by omega) ?_
        refine xp_aload_n rfl rfl ?_
        refine xp_gfa rfl rfl (by decide) (by decide) (by first | assumption | exact hL.t rfl) (by first | assumption | exact hL.r rfl | exact hL.2.2.2.2.2) ?_
        refine xp_iload_n rfl rfl ?_
        refine xp_bald rfl (by first | assumption | exact hL.t rfl) (by omega) (by omega) ?_
        rw [e8]
        refine xp_ifeq 200 rfl (by decide) (by omega) (fun h187 => ?_) (fun h187 => ?_)
        · skip
          refine xp_iinc rfl rfl (by decide) (nI_inc _) ?_
          refine xp_goto 163 rfl (by decide) ?_
          refine xp_weak [(0, .ref 189), (2, .int (nI (o + 1)))] (xle_cons rfl (xle_cons rfl (xle_nil _))) (by simp [xnd]) ?_
          show xP _ _ _ _ _ _ _ (fun r => r = (.inr none, xm z T R (xit mKeep n (o + 1) (mKeep o B))))
          rw [ek]
          exact hih
        · exfalso; omega
    · have ek : mKeep o B = xsI (xsI B 208 o (B.1 209 o)) 189 15 (B.1 189 15 + 1) := by unfold mKeep; rw [if_neg hz]
      rw [ek] at hih
      refine xp_iload_n rfl rfl ?_
      refine xp_bipush (n := 24) rfl (by decide) ?_
      refine xp_icge 206 rfl (by decide) (by omega) (by omega) (fun h166 => ?_) (fun h166 => ?_)
      · exfalso; omega
      · skip
        refine xp_aload_n rfl rfl ?_
        refine xp_gfa rfl rfl (by decide) (by decide) (by first | assumption | exact hL.t rfl) (by first | assumption | exact hL.r rfl | exact hL.2.2.2.2.2) ?_
        refine xp_iload_n rfl rfl ?_
        refine xp_aload_n rfl rfl ?_
        refine xp_gfa rfl rfl (by decide) (by decide) (by first | assumption | exact hL.t rfl) (by first | assumption | exact hL.r rfl | exact hL.2.2.2.2.2) ?_
        refine xp_iload_n rfl rfl ?_
        refine xp_bald rfl (by first | assumption | exact hL.t rfl) (by omega) (by omega) ?_
        refine xp_bast rfl (by first | assumption | exact hL.t rfl) (by omega) (by omega) (by omega) ?_
        refine xp_aload_n rfl rfl ?_
        refine xp_gfa rfl rfl (by decide) (by decide) (by first | assumption | exact hL.t rfl) (by first | assumption | exact hL.r rfl | exact hL.2.2.2.2.2) ?_
        refine xp_iload_n rfl rfl ?_
        refine xp_bald rfl (by first | assumption | exact hL.t rfl) (by omega) (by omega) ?_
        rw [e8]
        refine xp_ifeq 200 rfl (by decide) (by omega) (fun h187 => ?_) (fun h187 => ?_)
        · exfalso; omega
        · skip
          refine xp_aload_n rfl rfl ?_
          refine xp_dup rfl rfl ?_
          refine xp_gfi rfl rfl (by decide) (by decide) (by first | assumption | exact hL.t rfl) ?_
          rw [e15]
          refine xp_iconst (n := 1) rfl (by decide) ?_
          refine xp_iadd rfl ?_
          refine xp_pfi rfl rfl (by decide) (by decide) (by decide) (by first | assumption | exact hL.t rfl) ?_
          refine xp_iinc rfl rfl (by decide) (nI_inc _) ?_
          refine xp_goto 163 rfl (by decide) ?_
          refine xp_weak [(0, .ref 189), (2, .int (nI (o + 1)))] (xle_cons rfl (xle_cons rfl (xle_nil _))) (by simp [xnd]) ?_
          show xP _ _ _ _ _ _ _ (fun r => r = (.inr none, xm z T R (xit mKeep n (o + 1) (mKeep o B))))
          rw [ek]
          exact hih
theorem l130f {z : Nat} {T : Nat → Option xT} {R : Nat → Nat → Option Nat} {w : Nat} {P : xR → Prop} (hL : xLay T R w) : ∀ (n i : Nat) (B1 : xQ), i + n = 24 → xP 130 21 [(0, .ref 189)] [] 0 0 (xm z T R (xit (fun i B => xsI B 209 i 0) n i B1)) P → xP 130 2 [(0, .ref 189), (1, .int (nI i))] [] 0 0 (xm z T R B1) P := by
  intro n
  induction n with
  | zero =>
    intro i B1 hi hx
    refine xp_iload_n rfl rfl ?_
    refine xp_bipush (n := 24) rfl (by decide) ?_
    refine xp_icge 21 rfl (by decide) (by omega) (by omega) (fun h5 => ?_) (fun h5 => ?_)
    · skip
      refine xp_weak [(0, .ref 189)] (xle_cons rfl (xle_nil _)) (by simp [xnd]) ?_
      exact hx
    · exfalso; omega
  | succ n ih =>
    intro i B1 hi hx
    refine xp_iload_n rfl rfl ?_
    refine xp_bipush (n := 24) rfl (by decide) ?_
    refine xp_icge 21 rfl (by decide) (by omega) (by omega) (fun h5 => ?_) (fun h5 => ?_)
    · exfalso; omega
    · skip
      refine xp_aload_n rfl rfl ?_
      refine xp_gfa rfl rfl (by decide) (by decide) (by first | assumption | exact hL.t rfl) (by first | assumption | exact hL.r rfl | exact hL.2.2.2.2.2) ?_
      refine xp_iload_n rfl rfl ?_
      refine xp_iconst (n := 0) rfl (by decide) ?_
      refine xp_bast rfl (by first | assumption | exact hL.t rfl) (by omega) (by omega) (by omega) ?_
      refine xp_iinc rfl rfl (by decide) (nI_inc _) ?_
      refine xp_goto 2 rfl (by decide) ?_
      refine xp_weak [(0, .ref 189), (1, .int (nI (i + 1)))] (xle_cons rfl (xle_cons rfl (xle_nil _))) (by simp [xnd]) ?_
      exact ih (i + 1) _ (by omega) hx
theorem m130 {z : Nat} {T : Nat → Option xT} {R : Nat → Nat → Option Nat} {w : Nat} {A B : xQ} (hL : xLay T R w) (hc : COk w A) (hR : Rel w A B) (hn : A.1 w 2 ≠ 0) : ∃ B2, xF 130 [.ref 189] (xm z T R B) (.inr none, xm z T R B2) ∧ Rel w (aDrop w (aFind w A)) B2 := by
  have hW := hL.w hL.1
  obtain ⟨f1, f2, f3, f4⟩ := find_fd hW hc.2.1
  obtain ⟨z1, z2⟩ := xit_fill 209 0 24 0 B
  have hM0 : Mk w A B (xit (fun i B => xsI B 209 i 0) 24 0 B) := by
    refine ⟨fun a j h => by rw [z2, if_neg (fun z => h z.1)], z1, fun o ho => ?_, fun o ho => ?_⟩
    · rw [z2, if_pos ⟨rfl, by omega, by omega⟩]; exact Or.inl rfl
    · rw [z2, if_pos ⟨rfl, by omega, by omega⟩]; intro q; omega
  refine xF_x (xF_p (Nat.le_of_ble_eq_true rfl) ?_)
  refine xp_iconst (n := 0) rfl (by decide) ?_
  refine xp_istore_n rfl (by decide) ?_
  refine xp_weak [(0, .ref 189), (1, .int (nI 0))] (xle_cons rfl (xle_cons rfl (xle_nil _))) (by simp [xnd]) ?_
  refine l130f hL 24 0 B (by omega) ?_
  refine xp_iconst (n := 0) rfl (by decide) ?_
  refine xp_istore_n rfl (by decide) ?_
  refine xp_weak [(0, .ref 189), (1, .int (nI 0))] (xle_cons rfl (xle_cons rfl (xle_nil _))) (by simp [xnd]) ?_
  refine l130c hL hc hR (A.1 w 2) 0 _ (by omega) hM0 (fun B2 g1 g2 g3 => ?_)
  refine xp_iconst (n := 1) rfl (by decide) ?_
  refine xp_istore_n rfl (by decide) ?_
  refine xp_weak [(0, .ref 189), (1, .int (nI 1))] (xle_cons rfl (xle_cons rfl (xle_nil _))) (by simp [xnd]) ?_
  refine l130d hL hc hR 25 B2 1 (by omega) g1 (fun o ho => ?_) (Or.inl rfl) (fun B3 q1 q2 q3 => ?_)
  · obtain ⟨u, h1, h2⟩ := ho
    exact g3 u (by omega) h1 o h2
  refine xp_aload_n rfl rfl ?_
  refine xp_iconst (n := 0) rfl (by decide) ?_
  refine xp_pfi rfl rfl (by decide) (by decide) (by decide) (by first | assumption | exact hL.t rfl) ?_
  refine xp_iconst (n := 0) rfl (by decide) ?_
  refine xp_istore_n rfl (by decide) ?_
  refine xp_weak [(0, .ref 189), (2, .int (nI 0))] (xle_cons rfl (xle_cons rfl (xle_nil _))) (by simp [xnd]) ?_
  have hfd : ∀ o, o < 24 → (B3.1 209 o = 1 ↔ aFd w (aFind w A) o) := by
    intro o ho
    refine ⟨q1.2.2.2 o ho, fun hf => (f4 (fun p => 24 ≤ p ∨ B3.1 209 p = 1) (fun p hp => Or.inl hp) (fun p hp => Or.inr (q2 p hp)) (fun p x hp hz hcd => ?_) o hf).resolve_left (by omega)⟩
    have hp1 := hz.resolve_left (by omega)
    obtain ⟨s1, s2, s3⟩ := hR.ch hW hc hp (q1.2.2.2 p hp hp1)
    obtain ⟨j, j1, j2, j3⟩ := hcd
    obtain ⟨v1, v2, v3, v4⟩ := s3 j (by omega)
    have hcm := q3 p hp hp1 j (by omega) (by omega) (by rw [v2]; exact j2)
    rw [v3, ← j3] at hcm
    exact Or.inr hcm
  have e15 : ∀ a j, (a ≠ 189 ∨ j ≠ 15) → (xsI B3 189 15 0).1 a j = B3.1 a j := fun a j h => xsI_ne h
  obtain ⟨r1, r2, r3, r4, r5⟩ := mKeep_r 24 0 (xsI B3 189 15 0) (by omega) (fun p hp => by rw [e15 _ _ (by omega)]; exact q1.2.2.1 p hp)
  obtain ⟨r, l1, l2⟩ := l130e (z := z) hL 24 0 (xsI B3 189 15 0) (by omega) (fun p hp => by rw [e15 _ _ (by omega)]; exact q1.2.2.1 p hp)
  refine ⟨r, l1, _, l2, ?_⟩
  refine hR.drop hW hc hn (fun a j h1 h2 h3 => by rw [r1 a j h2 h1, e15 a j h1, q1.1 a j h3]) (by rw [r2]; exact q1.2.1) (fun o ho => ⟨fun hf => ?_, fun hf => ?_⟩) ?_
  · rw [r3 o (by omega) ho, e15 _ _ (by omega)]; exact (hfd o ho).mpr hf
  · rw [r3 o (by omega) ho, e15 _ _ (by omega)]; exact (q1.2.2.1 o ho).resolve_right (fun z => hf ((hfd o ho).mp z))
  · have em : mC (xsI B3 189 15 0) = (aFind w A).1 (w + 2) 7 := by
      rw [f1.1.2.2.1]
      refine xcnt_congr _ (fun o ho => ?_)
      rw [e15 _ _ (by omega)]
      by_cases hf : aFd w (aFind w A) o
      · have h1 := (hfd o ho).mpr hf
        unfold aFd at hf
        simp [h1, hf]
      · have h1 : ¬ B3.1 209 o = 1 := fun z => hf ((hfd o ho).mp z)
        have h2 := Classical.not_not.mp hf
        simp [h1, h2]
    rw [em, xsI_eq] at r5
    have : xcnt (fun p => decide ((xsI B3 189 15 0).1 209 p = 1)) 0 = 0 := rfl
    omega
theorem m131 {z : Nat} {T : Nat → Option xT} {R : Nat → Nat → Option Nat} {w : Nat} {A B : xQ} (hL : xLay T R w) (hc : COk w A) (hR : Rel w A B) (hn : A.1 w 2 ≠ 0) : ∃ B2, xF 131 [.ref 189] (xm z T R B) (.inr (some (.int (nI (if (aRoom w A).1 (w + 2) 4 < 24 then 0 else 1)))), xm z T R B2) ∧ Rel w (aRoom w A) B2 := by
  have e0 := hR.2.2.1.2.2.2.1
  have h24 : A.1 (w + 2) 4 ≤ 24 := by rw [hc.2.2.2.1]; exact xcnt_le _ _
  by_cases hq : A.1 (w + 2) 4 = 24
  · obtain ⟨B2, g1, g2⟩ := m130 (z := z) hL hc hR hn
    have er : aRoom w A = aDrop w (aFind w A) := by unfold aRoom; rw [if_pos hq]
    have hcr := (hc.room (hL.w hL.1)).1
    rw [er] at hcr ⊢
    have e2 := g2.2.2.1.2.2.2.1
    have h24b : (aDrop w (aFind w A)).1 (w + 2) 4 ≤ 24 := by rw [hcr.2.2.2.1]; exact xcnt_le _ _
    refine xF_x (xF_p (Nat.le_of_ble_eq_true rfl) ?_)
    refine xp_aload_n rfl rfl ?_
    refine xp_gfi rfl rfl (by decide) (by decide) (by first | assumption | exact hL.t rfl) ?_
    refine xp_bipush (n := 24) rfl (by decide) ?_
    rw [e0]
    refine xp_icne 13 rfl (by decide) (by omega) (by omega) (fun h6 => ?_) (fun h6 => ?_)
    · exfalso; omega
    · skip
      refine xp_aload_n rfl rfl ?_
      refine xp_iv rfl rfl (Nat.le_of_ble_eq_true rfl) (by decide) (by decide) (by decide) (Nat.le_of_ble_eq_true rfl) rfl (xrcv1 (by decide) (by first | assumption | exact hL.t rfl)) (g1) rfl ?_
      refine xp_aload_n rfl rfl ?_
      refine xp_gfi rfl rfl (by decide) (by decide) (by first | assumption | exact hL.t rfl) ?_
      refine xp_bipush (n := 24) rfl (by decide) ?_
      rw [e2]
      refine xp_icne 26 rfl (by decide) (by omega) (by omega) (fun h19 => ?_) (fun h19 => ?_)
      · skip
        refine xp_iconst (n := 0) rfl (by decide) ?_
        refine xp_zreturn rfl (by decide) (by decide) (by decide) (by omega) ?_
        first | (rw [if_pos (by omega)]; exact ⟨_, rfl, g2⟩) | (rw [if_neg (by omega)]; exact ⟨_, rfl, g2⟩)
      · skip
        refine xp_iconst (n := 1) rfl (by decide) ?_
        refine xp_goto 27 rfl (by decide) ?_
        refine xp_zreturn rfl (by decide) (by decide) (by decide) (by omega) ?_
        first | (rw [if_pos (by omega)]; exact ⟨_, rfl, g2⟩) | (rw [if_neg (by omega)]; exact ⟨_, rfl, g2⟩)
  · have er : aRoom w A = A := by unfold aRoom; rw [if_neg hq]
    rw [er]
    refine xF_x (xF_p (Nat.le_of_ble_eq_true rfl) ?_)
    refine xp_aload_n rfl rfl ?_
    refine xp_gfi rfl rfl (by decide) (by decide) (by first | assumption | exact hL.t rfl) ?_
    refine xp_bipush (n := 24) rfl (by decide) ?_
    rw [e0]
    refine xp_icne 13 rfl (by decide) (by omega) (by omega) (fun h6 => ?_) (fun h6 => ?_)
    · skip
      refine xp_aload_n rfl rfl ?_
      refine xp_gfi rfl rfl (by decide) (by decide) (by first | assumption | exact hL.t rfl) ?_
      refine xp_bipush (n := 24) rfl (by decide) ?_
      rw [e0]
      refine xp_icne 26 rfl (by decide) (by omega) (by omega) (fun h19 => ?_) (fun h19 => ?_)
      · skip
        refine xp_iconst (n := 0) rfl (by decide) ?_
        refine xp_zreturn rfl (by decide) (by decide) (by decide) (by omega) ?_
        rw [if_pos (by omega)]
        exact ⟨_, rfl, hR⟩
      · exfalso; omega
    · exfalso; omega
