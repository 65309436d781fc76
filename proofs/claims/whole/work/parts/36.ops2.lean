-- THE ENGINE, second part: objects, calls, forks
def aTest (k want : Nat) : Nat := if k = 0 then 3 else if k = want then 0 else 2
theorem c46 {z : Nat} {T : Nat → Option xT} {R : Nat → Nat → Option Nat} {A : xQ} {a ka na n i k : Nat} (hC : xC0 T R a ka na n) (hi : i < n) (hn : n < 2 ^ 31) (hk4 : A.1 ka i ≤ 4) (hk : k ≤ 4) : xF 46 [.ref a, .int (nI i), .int (nI k)] (xm z T R A) (.inr (some (.int (nI (aTest (A.1 ka i) k)))), xm z T R A) := by
  obtain ⟨c1, c2, c3, c4, c5⟩ := hC
  unfold aTest
  refine xF_eq (xF_p (Nat.le_of_ble_eq_true rfl) ?_)
  refine xp_aload_n rfl rfl ?_
  refine xp_gfa rfl rfl (by decide) (by decide) (by assumption) (by assumption) ?_
  refine xp_iload_n rfl rfl ?_
  refine xp_iald rfl (by assumption) (by omega) (by omega) ?_
  refine xp_ifne 11 rfl (by decide) (by omega) (fun h6 => ?_) (fun h6 => ?_)
  · skip
    refine xp_aload_n rfl rfl ?_
    refine xp_gfa rfl rfl (by decide) (by decide) (by assumption) (by assumption) ?_
    refine xp_iload_n rfl rfl ?_
    refine xp_iald rfl (by assumption) (by omega) (by omega) ?_
    refine xp_iload_n rfl rfl ?_
    refine xp_icne 25 rfl (by decide) (by omega) (by omega) (fun h18 => ?_) (fun h18 => ?_)
    · skip
      refine xp_iconst (n := 2) rfl (by decide) ?_
      refine xp_ireturn rfl (by decide) (by decide) (by decide) ?_
      first | (rw [if_pos h6]) | (rw [if_neg h6, if_pos h18]) | (rw [if_neg h6, if_neg h18])
    · skip
      refine xp_iconst (n := 0) rfl (by decide) ?_
      refine xp_goto 26 rfl (by decide) ?_
      refine xp_ireturn rfl (by decide) (by decide) (by decide) ?_
      first | (rw [if_pos h6]) | (rw [if_neg h6, if_pos h18]) | (rw [if_neg h6, if_neg h18])
  · skip
    refine xp_iconst (n := 3) rfl (by decide) ?_
    refine xp_ireturn rfl (by decide) (by decide) (by decide) ?_
    first | (rw [if_pos h6]) | (rw [if_neg h6, if_pos h18]) | (rw [if_neg h6, if_neg h18])
def aRecord (w : Nat) (A : xQ) (f : Nat) : Nat × xQ := if A.1 f 3 = 6 then (6, A) else aPush (aMake w 3 0 3 A) f 3 (lN (aFree w A 23 0))
theorem aMake_keep {w k fn sz b j : Nat} (A : xQ) (h3 : b ≠ w + 3) (h4 : b ≠ w + 4) (h5 : b ≠ w + 5) (h7 : b ≠ w + 7) (h2 : b ≠ w + 2) : (aMake w k fn sz A).1 b j = A.1 b j := by
  unfold aMake aMakeAt
  rw [xsI_ne (Or.inl h2), xit_keep (fun i B => by unfold xnul1; exact xsI_ne (Or.inl h7))]
  unfold aShape
  rw [xsI_ne (Or.inl h5), xsI_ne (Or.inl h4), xsI_ne (Or.inl h3)]
theorem xF0.ne {T : Nat → Option xT} {R : Nat → Nat → Option Nat} {w f : Nat} (hW : xW0 T R w) (hF : xF0 T R f) : f ≠ w ∧ f ≠ w + 2 ∧ f ≠ w + 3 ∧ f ≠ w + 4 ∧ f ≠ w + 5 ∧ f ≠ w + 7 ∧ f + 2 ≠ w + 2 ∧ f + 2 ≠ w + 3 ∧ f + 2 ≠ w + 4 ∧ f + 2 ≠ w + 5 ∧ f + 2 ≠ w + 7 ∧ f + 3 ≠ w + 8 := by
  obtain ⟨f1, f2, c1, c2, c3, c4, c5⟩ := hF
  obtain ⟨w1, w2, w3, w4, ⟨h1, h2, h3, h4, h5, h6, h7, h8, h9, h10, h11, h12, d1, d2, d3, d4, d5⟩, hSt⟩ := hW
  exact ⟨xne f1 w1 (by simp), xne f1 h1 (by simp), xne f1 h8 (by simp), xne f1 h9 (by simp), xne f1 h10 (by simp), xne f1 d4 (by simp), xne c4 h1 (by simp), xne c4 h8 (by simp), xne c4 h9 (by simp), xne c4 h10 (by simp), xne c4 d4 (by simp), xne c5 d5 (by simp)⟩
theorem c44 {z : Nat} {T : Nat → Option xT} {R : Nat → Nat → Option Nat} {A : xQ} {f w : Nat} (hL : xLay T R w) (hF : xF0 T R f) (hs6 : A.1 f 3 ≤ 6) (hkb : ∀ o, o < 24 → A.1 (w + 3) o < 2 ^ 31) : xF 44 [.ref 11, .ref f] (xm z T R A) (.inr (some (.int (nI (aRecord w A f).1))), xm z T R (aRecord w A f).2) := by
  have hF0 := hF
  obtain ⟨f1, f2, hC⟩ := hF
  obtain ⟨c1, c2, c3, c4, c5⟩ := id hC
  have hW := hL.w hL.1
  have hH := hW.2.2.2.2.1
  have w1 := hW.1
  have w2 := hW.2.1
  have w3 := hW.2.2.1
  have w4 := hW.2.2.2.1
  obtain ⟨h1, h2, h3, h4, h5, h6, h7, h8, h9, h10, h11, h12, hCC⟩ := id hH
  obtain ⟨d1, d2, d3, d4, d5⟩ := id hCC
  obtain ⟨n1, n2, n3, n4, n5, n6, n7, n8, n9, n10, n11, n12⟩ := xF0.ne hW hF0
  have hfr := aFree_le w A 23 0
  by_cases hq : A.1 f 3 = 6
  · have e : aRecord w A f = (6, A) := by unfold aRecord; rw [if_pos hq]
    rw [e]
    refine xF_eq (xF_p (Nat.le_of_ble_eq_true rfl) ?_)
    refine xp_aload_n rfl rfl ?_
    refine xp_gfi rfl rfl (by decide) (by decide) (by first | assumption | exact hL.t rfl) ?_
    refine xp_bipush (n := 6) rfl (by decide) ?_
    refine xp_icne 12 rfl (by decide) (by omega) (by omega) (fun h6 => ?_) (fun h6 => ?_)
    · exact absurd hq h6
    · skip
      refine xp_bipush (n := 6) rfl (by decide) ?_
      refine xp_ireturn rfl (by decide) (by decide) (by decide) ?_
      rfl
  · have e : aRecord w A f = aPush (aMake w 3 0 3 A) f 3 (lN (aFree w A 23 0)) := by unfold aRecord; rw [if_neg hq]
    rw [e]
    refine xF_eq (xF_p (Nat.le_of_ble_eq_true rfl) ?_)
    refine xp_aload_n rfl rfl ?_
    refine xp_gfi rfl rfl (by decide) (by decide) (by first | assumption | exact hL.t rfl) ?_
    refine xp_bipush (n := 6) rfl (by decide) ?_
    refine xp_icne 12 rfl (by decide) (by omega) (by omega) (fun h6 => ?_) (fun h6 => ?_)
    · skip
      refine xp_aload_n rfl rfl ?_
      refine xp_iconst (n := 3) rfl (by decide) ?_
      refine xp_aload_n rfl rfl ?_
      refine xp_gfa rfl rfl (by decide) (by decide) (by first | assumption | exact hL.t rfl) (by first | assumption | exact hL.r rfl | exact hL.2.2.2.2.2) ?_
      refine xp_gfa rfl rfl (by decide) (by decide) (by first | assumption | exact hL.t rfl) (by first | assumption | exact hL.r rfl | exact hL.2.2.2.2.2) ?_
      refine xp_iconst (n := 3) rfl (by decide) ?_
      refine xp_iconst (n := 0) rfl (by decide) ?_
      refine xp_iconst (n := 3) rfl (by decide) ?_
      refine xp_iv rfl rfl (Nat.le_of_ble_eq_true rfl) (by decide) (by decide) (by decide) (Nat.le_of_ble_eq_true rfl) rfl (xrcv1 (by decide) (by first | assumption | exact hL.t rfl)) (c61 hH hkb) rfl ?_
      refine xp_i2l rfl ?_
      rw [nI_l (by omega)]
      refine xp_iv rfl rfl (Nat.le_of_ble_eq_true rfl) (by decide) (by decide) (by decide) (Nat.le_of_ble_eq_true rfl) rfl (xrcv1 (by decide) (by first | assumption | exact hL.t rfl)) (c55a hF0 (by rw [aMake_keep A n3 n4 n5 n6 n2]; omega)) rfl ?_
      refine xp_ireturn rfl (by decide) (by decide) (by decide) ?_
      rfl
    · exact absurd h6 hq
def aClosure (w : Nat) (A : xQ) (f fn n : Nat) : Nat × xQ := if A.1 f 3 - n = 6 then (6, A) else aPush (xit (fun i B => aCopy (w + 7) (w + 8) (aFree w A 23 0 * 3 + i) (f + 2) (f + 3) (5 + (A.1 f 3 - n) + i) B) n 0 (aPop (aMake w 4 fn n A) f n)) f 4 (lN (aFree w A 23 0))
theorem l45 {z : Nat} {T : Nat → Option xT} {R : Nat → Nat → Option Nat} {f fn n w o s : Nat} {P : xR → Prop} (hL : xLay T R w) (hF : xF0 T R f) (hn : n ≤ 2) (hs : s + n ≤ 6) (ho : o < 24) : ∀ (m i : Nat) (A : xQ), i + m = n → A.1 f 3 = s → ((xit (fun i B => aCopy (w + 7) (w + 8) (o * 3 + i) (f + 2) (f + 3) (5 + s + i) B) m i A).1 f 3 = s → xP 45 89 [(0, .ref 11), (1, .ref f), (2, .int (nI fn)), (3, .int (nI n)), (4, .ref (w + 2)), (5, .int (nI o))] [] 0 0 (xm z T R (xit (fun i B => aCopy (w + 7) (w + 8) (o * 3 + i) (f + 2) (f + 3) (5 + s + i) B) m i A)) P) → xP 45 46 [(0, .ref 11), (1, .ref f), (2, .int (nI fn)), (3, .int (nI n)), (4, .ref (w + 2)), (5, .int (nI o)), (6, .int (nI i))] [] 0 0 (xm z T R A) P := by
  have hF0 := hF
  obtain ⟨f1, f2, hC⟩ := hF
  obtain ⟨c1, c2, c3, c4, c5⟩ := id hC
  have hW := hL.w hL.1
  have hH := hW.2.2.2.2.1
  have w1 := hW.1
  have w2 := hW.2.1
  have w3 := hW.2.2.1
  have w4 := hW.2.2.2.1
  obtain ⟨h1, h2, h3, h4, h5, h6, h7, h8, h9, h10, h11, h12, hCC⟩ := id hH
  obtain ⟨d1, d2, d3, d4, d5⟩ := id hCC
  obtain ⟨n1, n2, n3, n4, n5, n6, n7, n8, n9, n10, n11, n12⟩ := xF0.ne hW hF0
  intro m
  induction m with
  | zero =>
    intro i A hi0 hs0 hk
    refine xp_iload rfl rfl ?_
    refine xp_iload_n rfl rfl ?_
    refine xp_icge 89 rfl (by decide) (by omega) (by omega) (fun h49 => ?_) (fun h49 => ?_)
    · skip
      refine xp_weak [(0, .ref 11), (1, .ref f), (2, .int (nI fn)), (3, .int (nI n)), (4, .ref (w + 2)), (5, .int (nI o))] (xle_cons rfl (xle_cons rfl (xle_cons rfl (xle_cons rfl (xle_cons rfl (xle_cons rfl (xle_nil _))))))) (by simp [xnd]) ?_
      exact hk hs0
    · exfalso; omega
  | succ m ih =>
    intro i A hi0 hs0 hk
    refine xp_iload rfl rfl ?_
    refine xp_iload_n rfl rfl ?_
    refine xp_icge 89 rfl (by decide) (by omega) (by omega) (fun h49 => ?_) (fun h49 => ?_)
    · exfalso; omega
    · skip
      refine xp_aload rfl rfl ?_
      refine xp_gfa rfl rfl (by decide) (by decide) (by first | assumption | exact hL.t rfl) (by first | assumption | exact hL.r rfl | exact hL.2.2.2.2.2) ?_
      refine xp_aload rfl rfl ?_
      refine xp_iload rfl rfl ?_
      refine xp_iv rfl rfl (Nat.le_of_ble_eq_true rfl) (by decide) (by decide) (by decide) (Nat.le_of_ble_eq_true rfl) rfl (xrcv1 (by decide) (by first | assumption | exact hL.t rfl)) (c60) rfl ?_
      refine xp_iload rfl rfl ?_
      refine xp_iadd rfl ?_
      refine xp_aload_n rfl rfl ?_
      refine xp_gfa rfl rfl (by decide) (by decide) (by first | assumption | exact hL.t rfl) (by first | assumption | exact hL.r rfl | exact hL.2.2.2.2.2) ?_
      refine xp_iconst (n := 5) rfl (by decide) ?_
      refine xp_aload_n rfl rfl ?_
      refine xp_gfi rfl rfl (by decide) (by decide) (by first | assumption | exact hL.t rfl) ?_
      refine xp_iadd rfl ?_
      refine xp_iload rfl rfl ?_
      refine xp_iadd rfl ?_
      refine xp_iv rfl rfl (Nat.le_of_ble_eq_true rfl) (by decide) (by decide) (by decide) (Nat.le_of_ble_eq_true rfl) rfl (xrcv1 (by decide) (by first | assumption | exact hL.t rfl)) (c24 hCC hC (by omega) (by omega) (by omega) (by omega)) rfl ?_
      refine xp_iinc rfl rfl (by decide) (nI_inc _) ?_
      refine xp_goto 46 rfl (by decide) ?_
      rw [hs0]
      refine xp_weak [(0, .ref 11), (1, .ref f), (2, .int (nI fn)), (3, .int (nI n)), (4, .ref (w + 2)), (5, .int (nI o)), (6, .int (nI (i + 1)))] (xle_cons rfl (xle_cons rfl (xle_cons rfl (xle_cons rfl (xle_cons rfl (xle_cons rfl (xle_cons rfl (xle_nil _)))))))) (by simp [xnd]) ?_
      refine ih (i + 1) _ (by omega) ?_ hk
      show (xsI _ _ _ _).1 f 3 = s
      rw [xsI_ne (Or.inl n6)]
      exact hs0
theorem c45 {z : Nat} {T : Nat → Option xT} {R : Nat → Nat → Option Nat} {A : xQ} {f fn n w : Nat} (hL : xLay T R w) (hF : xF0 T R f) (hs6 : A.1 f 3 ≤ 6) (hn : n ≤ 2) (hns : n ≤ A.1 f 3) (hkb : ∀ o, o < 24 → A.1 (w + 3) o < 2 ^ 31) : xF 45 [.ref 11, .ref f, .int (nI fn), .int (nI n)] (xm z T R A) (.inr (some (.int (nI (aClosure w A f fn n).1))), xm z T R (aClosure w A f fn n).2) := by
  have hF0 := hF
  obtain ⟨f1, f2, hC⟩ := hF
  obtain ⟨c1, c2, c3, c4, c5⟩ := id hC
  have hW := hL.w hL.1
  have hH := hW.2.2.2.2.1
  have w1 := hW.1
  have w2 := hW.2.1
  have w3 := hW.2.2.1
  have w4 := hW.2.2.2.1
  obtain ⟨h1, h2, h3, h4, h5, h6, h7, h8, h9, h10, h11, h12, hCC⟩ := id hH
  obtain ⟨d1, d2, d3, d4, d5⟩ := id hCC
  obtain ⟨n1, n2, n3, n4, n5, n6, n7, n8, n9, n10, n11, n12⟩ := xF0.ne hW hF0
  have hfr := aFree_le w A 23 0
  have hmk : (aMake w 4 fn n A).1 f 3 = A.1 f 3 := aMake_keep A n3 n4 n5 n6 n2
  by_cases hq : A.1 f 3 - n = 6
  · have e : aClosure w A f fn n = (6, A) := by unfold aClosure; rw [if_pos hq]
    rw [e]
    refine xF_eq (xF_p (Nat.le_of_ble_eq_true rfl) ?_)
    refine xp_aload_n rfl rfl ?_
    refine xp_gfi rfl rfl (by decide) (by decide) (by first | assumption | exact hL.t rfl) ?_
    refine xp_iload_n rfl rfl ?_
    refine xp_isub rfl (by omega) ?_
    refine xp_bipush (n := 6) rfl (by decide) ?_
    refine xp_icne 14 rfl (by decide) (by omega) (by omega) (fun h8 => ?_) (fun h8 => ?_)
    · exact absurd hq h8
    · skip
      refine xp_bipush (n := 6) rfl (by decide) ?_
      refine xp_ireturn rfl (by decide) (by decide) (by decide) ?_
      rfl
  · have e : aClosure w A f fn n = aPush (xit (fun i B => aCopy (w + 7) (w + 8) (aFree w A 23 0 * 3 + i) (f + 2) (f + 3) (5 + (A.1 f 3 - n) + i) B) n 0 (aPop (aMake w 4 fn n A) f n)) f 4 (lN (aFree w A 23 0)) := by unfold aClosure; rw [if_neg hq]
    rw [e]
    refine xF_eq (xF_p (Nat.le_of_ble_eq_true rfl) ?_)
    refine xp_aload_n rfl rfl ?_
    refine xp_gfi rfl rfl (by decide) (by decide) (by first | assumption | exact hL.t rfl) ?_
    refine xp_iload_n rfl rfl ?_
    refine xp_isub rfl (by omega) ?_
    refine xp_bipush (n := 6) rfl (by decide) ?_
    refine xp_icne 14 rfl (by decide) (by omega) (by omega) (fun h8 => ?_) (fun h8 => ?_)
    · skip
      refine xp_aload_n rfl rfl ?_
      refine xp_gfa rfl rfl (by decide) (by decide) (by first | assumption | exact hL.t rfl) (by first | assumption | exact hL.r rfl | exact hL.2.2.2.2.2) ?_
      refine xp_gfa rfl rfl (by decide) (by decide) (by first | assumption | exact hL.t rfl) (by first | assumption | exact hL.r rfl | exact hL.2.2.2.2.2) ?_
      refine xp_astore rfl (by decide) ?_
      refine xp_aload rfl rfl ?_
      refine xp_iconst (n := 4) rfl (by decide) ?_
      refine xp_iload_n rfl rfl ?_
      refine xp_iload_n rfl rfl ?_
      refine xp_iv rfl rfl (Nat.le_of_ble_eq_true rfl) (by decide) (by decide) (by decide) (Nat.le_of_ble_eq_true rfl) rfl (xrcv1 (by decide) (by first | assumption | exact hL.t rfl)) (c61 hH hkb) rfl ?_
      refine xp_istore rfl (by decide) ?_
      refine xp_aload_n rfl rfl ?_
      refine xp_dup rfl rfl ?_
      refine xp_gfi rfl rfl (by decide) (by decide) (by first | assumption | exact hL.t rfl) ?_
      refine xp_iload_n rfl rfl ?_
      refine xp_isub rfl (by rw [hmk]; omega) ?_
      refine xp_pfi rfl rfl (by decide) (by decide) (by decide) (by first | assumption | exact hL.t rfl) ?_
      refine xp_iconst (n := 0) rfl (by decide) ?_
      refine xp_istore rfl (by decide) ?_
      refine xp_weak [(0, .ref 11), (1, .ref f), (2, .int (nI fn)), (3, .int (nI n)), (4, .ref (w + 2)), (5, .int (nI (aFree w A 23 0))), (6, .int (nI 0))] (xle_cons rfl (xle_cons rfl (xle_cons rfl (xle_cons rfl (xle_cons rfl (xle_cons rfl (xle_cons rfl (xle_nil _)))))))) (by simp [xnd]) ?_
      refine l45 (s := A.1 f 3 - n) hL hF0 hn (by omega) (by omega) n 0 (aPop (aMake w 4 fn n A) f n) (by omega) (by rw [aPop3, hmk]) (fun hk3 => ?_)
      refine xp_aload_n rfl rfl ?_
      refine xp_iconst (n := 4) rfl (by decide) ?_
      refine xp_iload rfl rfl ?_
      refine xp_i2l rfl ?_
      rw [nI_l (by omega)]
      refine xp_iv rfl rfl (Nat.le_of_ble_eq_true rfl) (by decide) (by decide) (by decide) (Nat.le_of_ble_eq_true rfl) rfl (xrcv1 (by decide) (by first | assumption | exact hL.t rfl)) (c55a hF0 (by rw [hk3]; omega)) rfl ?_
      refine xp_ireturn rfl (by decide) (by decide) (by decide) ?_
      rfl
    · exact absurd h8 hq
def aGet (w : Nat) (A : xQ) (f i : Nat) : Nat × xQ := if A.1 (f + 2) (4 + A.1 f 3) = 3 then (0, aCopy (f + 2) (f + 3) (4 + A.1 f 3) (w + 7) (w + 8) (oN (A.2 (f + 3) (4 + A.1 f 3)) * 3 + i) A) else (aTest (A.1 (f + 2) (4 + A.1 f 3)) 3, A)
theorem c47 {z : Nat} {T : Nat → Option xT} {R : Nat → Nat → Option Nat} {A : xQ} {f i w : Nat} (hL : xLay T R w) (hF : xF0 T R f) (h1s : 1 ≤ A.1 f 3) (hs6 : A.1 f 3 ≤ 6) (hk4 : A.1 (f + 2) (4 + A.1 f 3) ≤ 4) (ho : A.1 (f + 2) (4 + A.1 f 3) = 3 → oN (A.2 (f + 3) (4 + A.1 f 3)) < 24) (hi : i < 3) : xF 47 [.ref 11, .ref f, .int (nI i)] (xm z T R A) (.inr (some (.int (nI (aGet w A f i).1))), xm z T R (aGet w A f i).2) := by
  have hF0 := hF
  obtain ⟨f1, f2, hC⟩ := hF
  obtain ⟨c1, c2, c3, c4, c5⟩ := id hC
  have hW := hL.w hL.1
  have hH := hW.2.2.2.2.1
  have w1 := hW.1
  have w2 := hW.2.1
  have w3 := hW.2.2.1
  have w4 := hW.2.2.2.1
  obtain ⟨h1, h2, h3, h4, h5, h6, h7, h8, h9, h10, h11, h12, hCC⟩ := id hH
  obtain ⟨d1, d2, d3, d4, d5⟩ := id hCC
  by_cases hq : A.1 (f + 2) (4 + A.1 f 3) = 3
  · have o1 := ho hq
    have e : aGet w A f i = (0, aCopy (f + 2) (f + 3) (4 + A.1 f 3) (w + 7) (w + 8) (oN (A.2 (f + 3) (4 + A.1 f 3)) * 3 + i) A) := by unfold aGet; rw [if_pos hq]
    have et : aTest (A.1 (f + 2) (4 + A.1 f 3)) 3 = 0 := by rw [hq]; rfl
    rw [e]
    refine xF_eq (xF_p (Nat.le_of_ble_eq_true rfl) ?_)
    refine xp_aload_n rfl rfl ?_
    refine xp_iv rfl rfl (Nat.le_of_ble_eq_true rfl) (by decide) (by decide) (by decide) (Nat.le_of_ble_eq_true rfl) rfl (xrcv1 (by decide) (by first | assumption | exact hL.t rfl)) (c54 hF0) rfl ?_
    refine xp_istore_n rfl (by decide) ?_
    refine xp_aload_n rfl rfl ?_
    refine xp_gfa rfl rfl (by decide) (by decide) (by first | assumption | exact hL.t rfl) (by first | assumption | exact hL.r rfl | exact hL.2.2.2.2.2) ?_
    refine xp_iload_n rfl rfl ?_
    refine xp_iconst (n := 3) rfl (by decide) ?_
    refine xp_is rfl rfl rfl (Nat.le_of_ble_eq_true rfl) (by decide) (by decide) (by decide) (Nat.le_of_ble_eq_true rfl) rfl (xrcv0 (by decide) _ _) (c46 hC (by omega) (by omega) hk4 (by omega)) rfl ?_
    rw [et]
    refine xp_istore rfl (by decide) ?_
    refine xp_iload rfl rfl ?_
    refine xp_ifeq 24 rfl (by decide) (by omega) (fun h18 => ?_) (fun h18 => ?_)
    · skip
      refine xp_aload_n rfl rfl ?_
      refine xp_gfa rfl rfl (by decide) (by decide) (by first | assumption | exact hL.t rfl) (by first | assumption | exact hL.r rfl | exact hL.2.2.2.2.2) ?_
      refine xp_gfa rfl rfl (by decide) (by decide) (by first | assumption | exact hL.t rfl) (by first | assumption | exact hL.r rfl | exact hL.2.2.2.2.2) ?_
      refine xp_astore rfl (by decide) ?_
      refine xp_aload_n rfl rfl ?_
      refine xp_gfa rfl rfl (by decide) (by decide) (by first | assumption | exact hL.t rfl) (by first | assumption | exact hL.r rfl | exact hL.2.2.2.2.2) ?_
      refine xp_iload_n rfl rfl ?_
      refine xp_aload rfl rfl ?_
      refine xp_gfa rfl rfl (by decide) (by decide) (by first | assumption | exact hL.t rfl) (by first | assumption | exact hL.r rfl | exact hL.2.2.2.2.2) ?_
      refine xp_aload rfl rfl ?_
      refine xp_aload_n rfl rfl ?_
      refine xp_gfa rfl rfl (by decide) (by decide) (by first | assumption | exact hL.t rfl) (by first | assumption | exact hL.r rfl | exact hL.2.2.2.2.2) ?_
      refine xp_gfa rfl rfl (by decide) (by decide) (by first | assumption | exact hL.t rfl) (by first | assumption | exact hL.r rfl | exact hL.2.2.2.2.2) ?_
      refine xp_iload_n rfl rfl ?_
      refine xp_lald rfl (by first | assumption | exact hL.t rfl) (by omega) (by omega) ?_
      refine xp_l2i rfl ?_
      rw [oN_i]
      refine xp_iv rfl rfl (Nat.le_of_ble_eq_true rfl) (by decide) (by decide) (by decide) (Nat.le_of_ble_eq_true rfl) rfl (xrcv1 (by decide) (by first | assumption | exact hL.t rfl)) (c60) rfl ?_
      refine xp_iload_n rfl rfl ?_
      refine xp_iadd rfl ?_
      refine xp_iv rfl rfl (Nat.le_of_ble_eq_true rfl) (by decide) (by decide) (by decide) (Nat.le_of_ble_eq_true rfl) rfl (xrcv1 (by decide) (by first | assumption | exact hL.t rfl)) (c24 hC hCC (by omega) (by omega) (by omega) (by omega)) rfl ?_
      refine xp_iconst (n := 0) rfl (by decide) ?_
      refine xp_ireturn rfl (by decide) (by decide) (by decide) ?_
      rfl
    · exfalso; omega
  · have e : aGet w A f i = (aTest (A.1 (f + 2) (4 + A.1 f 3)) 3, A) := by unfold aGet; rw [if_neg hq]
    have et : aTest (A.1 (f + 2) (4 + A.1 f 3)) 3 = 2 ∨ aTest (A.1 (f + 2) (4 + A.1 f 3)) 3 = 3 := by unfold aTest; split <;> simp [hq]
    rw [e]
    refine xF_eq (xF_p (Nat.le_of_ble_eq_true rfl) ?_)
    refine xp_aload_n rfl rfl ?_
    refine xp_iv rfl rfl (Nat.le_of_ble_eq_true rfl) (by decide) (by decide) (by decide) (Nat.le_of_ble_eq_true rfl) rfl (xrcv1 (by decide) (by first | assumption | exact hL.t rfl)) (c54 hF0) rfl ?_
    refine xp_istore_n rfl (by decide) ?_
    refine xp_aload_n rfl rfl ?_
    refine xp_gfa rfl rfl (by decide) (by decide) (by first | assumption | exact hL.t rfl) (by first | assumption | exact hL.r rfl | exact hL.2.2.2.2.2) ?_
    refine xp_iload_n rfl rfl ?_
    refine xp_iconst (n := 3) rfl (by decide) ?_
    refine xp_is rfl rfl rfl (Nat.le_of_ble_eq_true rfl) (by decide) (by decide) (by decide) (Nat.le_of_ble_eq_true rfl) rfl (xrcv0 (by decide) _ _) (c46 hC (by omega) (by omega) hk4 (by omega)) rfl ?_
    refine xp_istore rfl (by decide) ?_
    refine xp_iload rfl rfl ?_
    refine xp_ifeq 24 rfl (by decide) (by omega) (fun h18 => ?_) (fun h18 => ?_)
    · exfalso; omega
    · skip
      refine xp_iload rfl rfl ?_
      refine xp_ireturn rfl (by decide) (by decide) (by decide) ?_
      rfl
def aPut (w : Nat) (A : xQ) (f i : Nat) : Nat × xQ := if A.1 (f + 2) (3 + A.1 f 3) = 3 then (0, aPop (aCopy (w + 7) (w + 8) (oN (A.2 (f + 3) (3 + A.1 f 3)) * 3 + i) (f + 2) (f + 3) (4 + A.1 f 3) A) f 2) else (aTest (A.1 (f + 2) (3 + A.1 f 3)) 3, A)
theorem c48 {z : Nat} {T : Nat → Option xT} {R : Nat → Nat → Option Nat} {A : xQ} {f i w : Nat} (hL : xLay T R w) (hF : xF0 T R f) (h2s : 2 ≤ A.1 f 3) (hs6 : A.1 f 3 ≤ 6) (hk4 : A.1 (f + 2) (3 + A.1 f 3) ≤ 4) (ho : A.1 (f + 2) (3 + A.1 f 3) = 3 → oN (A.2 (f + 3) (3 + A.1 f 3)) < 24) (hi : i < 3) : xF 48 [.ref 11, .ref f, .int (nI i)] (xm z T R A) (.inr (some (.int (nI (aPut w A f i).1))), xm z T R (aPut w A f i).2) := by
  have hF0 := hF
  obtain ⟨f1, f2, hC⟩ := hF
  obtain ⟨c1, c2, c3, c4, c5⟩ := id hC
  have hW := hL.w hL.1
  have hH := hW.2.2.2.2.1
  have w1 := hW.1
  have w2 := hW.2.1
  have w3 := hW.2.2.1
  have w4 := hW.2.2.2.1
  obtain ⟨h1, h2, h3, h4, h5, h6, h7, h8, h9, h10, h11, h12, hCC⟩ := id hH
  obtain ⟨d1, d2, d3, d4, d5⟩ := id hCC
  obtain ⟨n1, n2, n3, n4, n5, n6, n7, n8, n9, n10, n11, n12⟩ := xF0.ne hW hF0
  have e0 : 4 + A.1 f 3 - 1 = 3 + A.1 f 3 := by omega
  have e1 : 3 + A.1 f 3 + 1 = 4 + A.1 f 3 := by omega
  by_cases hq : A.1 (f + 2) (3 + A.1 f 3) = 3
  · have o1 := ho hq
    have e : aPut w A f i = (0, aPop (aCopy (w + 7) (w + 8) (oN (A.2 (f + 3) (3 + A.1 f 3)) * 3 + i) (f + 2) (f + 3) (4 + A.1 f 3) A) f 2) := by unfold aPut; rw [if_pos hq]
    have et : aTest (A.1 (f + 2) (3 + A.1 f 3)) 3 = 0 := by rw [hq]; rfl
    rw [e]
    refine xF_eq (xF_p (Nat.le_of_ble_eq_true rfl) ?_)
    refine xp_aload_n rfl rfl ?_
    refine xp_iv rfl rfl (Nat.le_of_ble_eq_true rfl) (by decide) (by decide) (by decide) (Nat.le_of_ble_eq_true rfl) rfl (xrcv1 (by decide) (by first | assumption | exact hL.t rfl)) (c54 hF0) rfl ?_
    refine xp_iconst (n := 1) rfl (by decide) ?_
    refine xp_isub rfl (by omega) ?_
    rw [e0]
    refine xp_istore_n rfl (by decide) ?_
    refine xp_aload_n rfl rfl ?_
    refine xp_gfa rfl rfl (by decide) (by decide) (by first | assumption | exact hL.t rfl) (by first | assumption | exact hL.r rfl | exact hL.2.2.2.2.2) ?_
    refine xp_iload_n rfl rfl ?_
    refine xp_iconst (n := 3) rfl (by decide) ?_
    refine xp_is rfl rfl rfl (Nat.le_of_ble_eq_true rfl) (by decide) (by decide) (by decide) (Nat.le_of_ble_eq_true rfl) rfl (xrcv0 (by decide) _ _) (c46 hC (by omega) (by omega) hk4 (by omega)) rfl ?_
    rw [et]
    refine xp_istore rfl (by decide) ?_
    refine xp_iload rfl rfl ?_
    refine xp_ifeq 26 rfl (by decide) (by omega) (fun h20 => ?_) (fun h20 => ?_)
    · skip
      refine xp_aload_n rfl rfl ?_
      refine xp_gfa rfl rfl (by decide) (by decide) (by first | assumption | exact hL.t rfl) (by first | assumption | exact hL.r rfl | exact hL.2.2.2.2.2) ?_
      refine xp_gfa rfl rfl (by decide) (by decide) (by first | assumption | exact hL.t rfl) (by first | assumption | exact hL.r rfl | exact hL.2.2.2.2.2) ?_
      refine xp_astore rfl (by decide) ?_
      refine xp_aload rfl rfl ?_
      refine xp_gfa rfl rfl (by decide) (by decide) (by first | assumption | exact hL.t rfl) (by first | assumption | exact hL.r rfl | exact hL.2.2.2.2.2) ?_
      refine xp_aload rfl rfl ?_
      refine xp_aload_n rfl rfl ?_
      refine xp_gfa rfl rfl (by decide) (by decide) (by first | assumption | exact hL.t rfl) (by first | assumption | exact hL.r rfl | exact hL.2.2.2.2.2) ?_
      refine xp_gfa rfl rfl (by decide) (by decide) (by first | assumption | exact hL.t rfl) (by first | assumption | exact hL.r rfl | exact hL.2.2.2.2.2) ?_
      refine xp_iload_n rfl rfl ?_
      refine xp_lald rfl (by first | assumption | exact hL.t rfl) (by omega) (by omega) ?_
      refine xp_l2i rfl ?_
      rw [oN_i]
      refine xp_iv rfl rfl (Nat.le_of_ble_eq_true rfl) (by decide) (by decide) (by decide) (Nat.le_of_ble_eq_true rfl) rfl (xrcv1 (by decide) (by first | assumption | exact hL.t rfl)) (c60) rfl ?_
      refine xp_iload_n rfl rfl ?_
      refine xp_iadd rfl ?_
      refine xp_aload_n rfl rfl ?_
      refine xp_gfa rfl rfl (by decide) (by decide) (by first | assumption | exact hL.t rfl) (by first | assumption | exact hL.r rfl | exact hL.2.2.2.2.2) ?_
      refine xp_iload_n rfl rfl ?_
      refine xp_iconst (n := 1) rfl (by decide) ?_
      refine xp_iadd rfl ?_
      rw [e1]
      refine xp_iv rfl rfl (Nat.le_of_ble_eq_true rfl) (by decide) (by decide) (by decide) (Nat.le_of_ble_eq_true rfl) rfl (xrcv1 (by decide) (by first | assumption | exact hL.t rfl)) (c24 hCC hC (by omega) (by omega) (by omega) (by omega)) rfl ?_
      refine xp_aload_n rfl rfl ?_
      refine xp_dup rfl rfl ?_
      refine xp_gfi rfl rfl (by decide) (by decide) (by first | assumption | exact hL.t rfl) ?_
      refine xp_iconst (n := 2) rfl (by decide) ?_
      refine xp_isub rfl (by show 2 ≤ (xsI _ _ _ _).1 f 3; rw [xsI_ne (Or.inl n6)]; exact h2s) ?_
      refine xp_pfi rfl rfl (by decide) (by decide) (by decide) (by first | assumption | exact hL.t rfl) ?_
      refine xp_iconst (n := 0) rfl (by decide) ?_
      refine xp_ireturn rfl (by decide) (by decide) (by decide) ?_
      rfl
    · exfalso; omega
  · have e : aPut w A f i = (aTest (A.1 (f + 2) (3 + A.1 f 3)) 3, A) := by unfold aPut; rw [if_neg hq]
    have et : aTest (A.1 (f + 2) (3 + A.1 f 3)) 3 = 2 ∨ aTest (A.1 (f + 2) (3 + A.1 f 3)) 3 = 3 := by unfold aTest; split <;> simp [hq]
    rw [e]
    refine xF_eq (xF_p (Nat.le_of_ble_eq_true rfl) ?_)
    refine xp_aload_n rfl rfl ?_
    refine xp_iv rfl rfl (Nat.le_of_ble_eq_true rfl) (by decide) (by decide) (by decide) (Nat.le_of_ble_eq_true rfl) rfl (xrcv1 (by decide) (by first | assumption | exact hL.t rfl)) (c54 hF0) rfl ?_
    refine xp_iconst (n := 1) rfl (by decide) ?_
    refine xp_isub rfl (by omega) ?_
    rw [e0]
    refine xp_istore_n rfl (by decide) ?_
    refine xp_aload_n rfl rfl ?_
    refine xp_gfa rfl rfl (by decide) (by decide) (by first | assumption | exact hL.t rfl) (by first | assumption | exact hL.r rfl | exact hL.2.2.2.2.2) ?_
    refine xp_iload_n rfl rfl ?_
    refine xp_iconst (n := 3) rfl (by decide) ?_
    refine xp_is rfl rfl rfl (Nat.le_of_ble_eq_true rfl) (by decide) (by decide) (by decide) (Nat.le_of_ble_eq_true rfl) rfl (xrcv0 (by decide) _ _) (c46 hC (by omega) (by omega) hk4 (by omega)) rfl ?_
    refine xp_istore rfl (by decide) ?_
    refine xp_iload rfl rfl ?_
    refine xp_ifeq 26 rfl (by decide) (by omega) (fun h20 => ?_) (fun h20 => ?_)
    · exfalso; omega
    · skip
      refine xp_iload rfl rfl ?_
      refine xp_ireturn rfl (by decide) (by decide) (by decide) ?_
      rfl
def aHeld (w : Nat) (A : xQ) (f k : Nat) : Nat × xQ := if A.1 (f + 2) 0 = 4 then (if k < A.1 (w + 5) (oN (A.2 (f + 3) 0)) then aPush A f (A.1 (w + 7) (oN (A.2 (f + 3) 0) * 3 + k)) (A.2 (w + 8) (oN (A.2 (f + 3) 0) * 3 + k)) else (3, A)) else (3, A)
theorem c49 {z : Nat} {T : Nat → Option xT} {R : Nat → Nat → Option Nat} {A : xQ} {f k w : Nat} (hL : xLay T R w) (hF : xF0 T R f) (hs6 : A.1 f 3 ≤ 6) (hk4 : A.1 (f + 2) 0 ≤ 4) (ho : A.1 (f + 2) 0 = 4 → oN (A.2 (f + 3) 0) < 24 ∧ A.1 (w + 5) (oN (A.2 (f + 3) 0)) ≤ 3) (hk : k < 2) : xF 49 [.ref 11, .ref f, .int (nI k)] (xm z T R A) (.inr (some (.int (nI (aHeld w A f k).1))), xm z T R (aHeld w A f k).2) := by
  have hF0 := hF
  obtain ⟨f1, f2, hC⟩ := hF
  obtain ⟨c1, c2, c3, c4, c5⟩ := id hC
  have hW := hL.w hL.1
  have hH := hW.2.2.2.2.1
  have w1 := hW.1
  have w2 := hW.2.1
  have w3 := hW.2.2.1
  have w4 := hW.2.2.2.1
  obtain ⟨h1, h2, h3, h4, h5, h6, h7, h8, h9, h10, h11, h12, hCC⟩ := id hH
  obtain ⟨d1, d2, d3, d4, d5⟩ := id hCC
  by_cases hq : A.1 (f + 2) 0 = 4
  · obtain ⟨o1, o2⟩ := ho hq
    by_cases hz : k < A.1 (w + 5) (oN (A.2 (f + 3) 0))
    · have e : aHeld w A f k = aPush A f (A.1 (w + 7) (oN (A.2 (f + 3) 0) * 3 + k)) (A.2 (w + 8) (oN (A.2 (f + 3) 0) * 3 + k)) := by unfold aHeld; rw [if_pos hq, if_pos hz]
      rw [e]
      refine xF_eq (xF_p (Nat.le_of_ble_eq_true rfl) ?_)
      refine xp_aload_n rfl rfl ?_
      refine xp_gfa rfl rfl (by decide) (by decide) (by first | assumption | exact hL.t rfl) (by first | assumption | exact hL.r rfl | exact hL.2.2.2.2.2) ?_
      refine xp_gfa rfl rfl (by decide) (by decide) (by first | assumption | exact hL.t rfl) (by first | assumption | exact hL.r rfl | exact hL.2.2.2.2.2) ?_
      refine xp_iconst (n := 0) rfl (by decide) ?_
      refine xp_iald rfl (by first | assumption | exact hL.t rfl) (by omega) (by omega) ?_
      refine xp_iconst (n := 4) rfl (by decide) ?_
      refine xp_iceq 15 rfl (by decide) (by omega) (by omega) (fun h10 => ?_) (fun h10 => ?_)
      · skip
        refine xp_aload_n rfl rfl ?_
        refine xp_gfa rfl rfl (by decide) (by decide) (by first | assumption | exact hL.t rfl) (by first | assumption | exact hL.r rfl | exact hL.2.2.2.2.2) ?_
        refine xp_gfa rfl rfl (by decide) (by decide) (by first | assumption | exact hL.t rfl) (by first | assumption | exact hL.r rfl | exact hL.2.2.2.2.2) ?_
        refine xp_astore_n rfl (by decide) ?_
        refine xp_aload_n rfl rfl ?_
        refine xp_gfa rfl rfl (by decide) (by decide) (by first | assumption | exact hL.t rfl) (by first | assumption | exact hL.r rfl | exact hL.2.2.2.2.2) ?_
        refine xp_gfa rfl rfl (by decide) (by decide) (by first | assumption | exact hL.t rfl) (by first | assumption | exact hL.r rfl | exact hL.2.2.2.2.2) ?_
        refine xp_iconst (n := 0) rfl (by decide) ?_
        refine xp_lald rfl (by first | assumption | exact hL.t rfl) (by omega) (by omega) ?_
        refine xp_l2i rfl ?_
        rw [oN_i]
        refine xp_istore rfl (by decide) ?_
        refine xp_iload_n rfl rfl ?_
        refine xp_aload_n rfl rfl ?_
        refine xp_gfa rfl rfl (by decide) (by decide) (by first | assumption | exact hL.t rfl) (by first | assumption | exact hL.r rfl | exact hL.2.2.2.2.2) ?_
        refine xp_iload rfl rfl ?_
        refine xp_iald rfl (by first | assumption | exact hL.t rfl) (by omega) (by omega) ?_
        refine xp_iclt 48 rfl (by decide) (by omega) (by omega) (fun h43 => ?_) (fun h43 => ?_)
        · skip
          refine xp_aload_n rfl rfl ?_
          refine xp_aload_n rfl rfl ?_
          refine xp_gfa rfl rfl (by decide) (by decide) (by first | assumption | exact hL.t rfl) (by first | assumption | exact hL.r rfl | exact hL.2.2.2.2.2) ?_
          refine xp_aload_n rfl rfl ?_
          refine xp_iload rfl rfl ?_
          refine xp_iv rfl rfl (Nat.le_of_ble_eq_true rfl) (by decide) (by decide) (by decide) (Nat.le_of_ble_eq_true rfl) rfl (xrcv1 (by decide) (by first | assumption | exact hL.t rfl)) (c60) rfl ?_
          refine xp_iload_n rfl rfl ?_
          refine xp_iadd rfl ?_
          refine xp_iv rfl rfl (Nat.le_of_ble_eq_true rfl) (by decide) (by decide) (by decide) (Nat.le_of_ble_eq_true rfl) rfl (xrcv1 (by decide) (by first | assumption | exact hL.t rfl)) (c56 hF0 hCC (by omega) (by omega) hs6) rfl ?_
          refine xp_ireturn rfl (by decide) (by decide) (by decide) ?_
          rfl
        · exfalso; omega
      · exact absurd hq h10
    · have e : aHeld w A f k = (3, A) := by unfold aHeld; rw [if_pos hq, if_neg hz]
      rw [e]
      refine xF_eq (xF_p (Nat.le_of_ble_eq_true rfl) ?_)
      refine xp_aload_n rfl rfl ?_
      refine xp_gfa rfl rfl (by decide) (by decide) (by first | assumption | exact hL.t rfl) (by first | assumption | exact hL.r rfl | exact hL.2.2.2.2.2) ?_
      refine xp_gfa rfl rfl (by decide) (by decide) (by first | assumption | exact hL.t rfl) (by first | assumption | exact hL.r rfl | exact hL.2.2.2.2.2) ?_
      refine xp_iconst (n := 0) rfl (by decide) ?_
      refine xp_iald rfl (by first | assumption | exact hL.t rfl) (by omega) (by omega) ?_
      refine xp_iconst (n := 4) rfl (by decide) ?_
      refine xp_iceq 15 rfl (by decide) (by omega) (by omega) (fun h10 => ?_) (fun h10 => ?_)
      · skip
        refine xp_aload_n rfl rfl ?_
        refine xp_gfa rfl rfl (by decide) (by decide) (by first | assumption | exact hL.t rfl) (by first | assumption | exact hL.r rfl | exact hL.2.2.2.2.2) ?_
        refine xp_gfa rfl rfl (by decide) (by decide) (by first | assumption | exact hL.t rfl) (by first | assumption | exact hL.r rfl | exact hL.2.2.2.2.2) ?_
        refine xp_astore_n rfl (by decide) ?_
        refine xp_aload_n rfl rfl ?_
        refine xp_gfa rfl rfl (by decide) (by decide) (by first | assumption | exact hL.t rfl) (by first | assumption | exact hL.r rfl | exact hL.2.2.2.2.2) ?_
        refine xp_gfa rfl rfl (by decide) (by decide) (by first | assumption | exact hL.t rfl) (by first | assumption | exact hL.r rfl | exact hL.2.2.2.2.2) ?_
        refine xp_iconst (n := 0) rfl (by decide) ?_
        refine xp_lald rfl (by first | assumption | exact hL.t rfl) (by omega) (by omega) ?_
        refine xp_l2i rfl ?_
        rw [oN_i]
        refine xp_istore rfl (by decide) ?_
        refine xp_iload_n rfl rfl ?_
        refine xp_aload_n rfl rfl ?_
        refine xp_gfa rfl rfl (by decide) (by decide) (by first | assumption | exact hL.t rfl) (by first | assumption | exact hL.r rfl | exact hL.2.2.2.2.2) ?_
        refine xp_iload rfl rfl ?_
        refine xp_iald rfl (by first | assumption | exact hL.t rfl) (by omega) (by omega) ?_
        refine xp_iclt 48 rfl (by decide) (by omega) (by omega) (fun h43 => ?_) (fun h43 => ?_)
        · exfalso; omega
        · skip
          refine xp_iconst (n := 3) rfl (by decide) ?_
          refine xp_ireturn rfl (by decide) (by decide) (by decide) ?_
          rfl
      · exact absurd hq h10
  · have e : aHeld w A f k = (3, A) := by unfold aHeld; rw [if_neg hq]
    rw [e]
    refine xF_eq (xF_p (Nat.le_of_ble_eq_true rfl) ?_)
    refine xp_aload_n rfl rfl ?_
    refine xp_gfa rfl rfl (by decide) (by decide) (by first | assumption | exact hL.t rfl) (by first | assumption | exact hL.r rfl | exact hL.2.2.2.2.2) ?_
    refine xp_gfa rfl rfl (by decide) (by decide) (by first | assumption | exact hL.t rfl) (by first | assumption | exact hL.r rfl | exact hL.2.2.2.2.2) ?_
    refine xp_iconst (n := 0) rfl (by decide) ?_
    refine xp_iald rfl (by first | assumption | exact hL.t rfl) (by omega) (by omega) ?_
    refine xp_iconst (n := 4) rfl (by decide) ?_
    refine xp_iceq 15 rfl (by decide) (by omega) (by omega) (fun h10 => ?_) (fun h10 => ?_)
    · exact absurd h10 hq
    · skip
      refine xp_iconst (n := 3) rfl (by decide) ?_
      refine xp_ireturn rfl (by decide) (by decide) (by decide) ?_
      rfl
