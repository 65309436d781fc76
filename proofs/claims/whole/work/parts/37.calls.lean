-- THE ENGINE, third part: forks, calls, returns
theorem aOpen_k {A : xQ} {s fn b j : Nat} (h1 : b ≠ s) (h2 : b ≠ s + 5 + 4 * A.1 s 3) (h3 : b ≠ s + 5 + 4 * A.1 s 3 + 2) : (aOpen A s fn).1 b j = A.1 b j := by
  unfold aOpen
  rw [xit_keep (fun i B => by unfold xnul1; exact xsI_ne (Or.inl h3)), xsI_ne (Or.inl h2), xsI_ne (Or.inl h2), xsI_ne (Or.inl h2), xsI_ne (Or.inl h1)]
theorem aOpen_d {A : xQ} {s fn : Nat} : (aOpen A s fn).1 s 3 = A.1 s 3 + 1 := by
  unfold aOpen
  rw [xit_keep (fun i B => by unfold xnul1; exact xsI_ne (Or.inl (by omega))), xsI_ne (Or.inl (by omega)), xsI_ne (Or.inl (by omega)), xsI_ne (Or.inl (by omega)), xsI_eq]
theorem aTake_k {A : xQ} {g f n a b j : Nat} (h1 : b ≠ g + 2) (h2 : b ≠ f ∨ j ≠ 3) : (aTake A g f n a).1 b j = A.1 b j := by
  unfold aTake
  rw [xsI_ne h2, xit_keep (fun i B => by unfold aCopy; exact xsI_ne (Or.inl h1))]
theorem aTake_s {A : xQ} {g f n a : Nat} : (aTake A g f n a).1 f 3 = A.1 f 3 - (n + a) := xsI_eq
theorem aPush_le (A : xQ) (f k : Nat) (v : Int64) : (aPush A f k v).1 = 0 ∨ (aPush A f k v).1 = 6 := by
  unfold aPush
  split
  · exact Or.inl rfl
  · exact Or.inr rfl
def aGoOn (f : Nat) (r : Nat × xQ) : Nat × xQ := if r.1 = 0 then (r.1, xsI r.2 f 2 (r.2.1 f 2 + 1)) else r
theorem c33 {z : Nat} {T : Nat → Option xT} {R : Nat → Nat → Option Nat} {A : xQ} {f e : Nat} (hF : xF0 T R f) (he : e < 2 ^ 32) : xF 33 [.ref f, .int (nI e)] (xm z T R A) (.inr (some (.int (nI (aGoOn f (e, A)).1))), xm z T R (aGoOn f (e, A)).2) := by
  obtain ⟨f1, f2, hC⟩ := hF
  unfold aGoOn
  refine xF_eq (xF_p (Nat.le_of_ble_eq_true rfl) ?_)
  refine xp_iload_n rfl rfl ?_
  refine xp_ifne 14 rfl (by decide) (by omega) (fun h1 => ?_) (fun h1 => ?_)
  · skip
    refine xp_iload_n rfl rfl ?_
    refine xp_ireturn rfl (by decide) (by decide) (by decide) ?_
    first | (rw [if_pos h1]) | (rw [if_neg h1])
  · skip
    refine xp_aload_n rfl rfl ?_
    refine xp_dup rfl rfl ?_
    refine xp_gfi rfl rfl (by decide) (by decide) (by assumption) ?_
    refine xp_iconst (n := 1) rfl (by decide) ?_
    refine xp_iadd rfl ?_
    refine xp_pfi rfl rfl (by decide) (by decide) (by decide) (by assumption) ?_
    refine xp_iload_n rfl rfl ?_
    refine xp_ireturn rfl (by decide) (by decide) (by decide) ?_
    first | (rw [if_pos h1]) | (rw [if_neg h1])
def aEnter (A : xQ) (s f fn ab : Nat) : Nat × xQ := if A.1 f 3 - ab < A.1 2 fn then (6, A) else if A.1 s 3 = 5 then (5, A) else (0, aTake (aOpen A s fn) (s + 5 + 4 * A.1 s 3) f (A.1 2 fn) ab)
theorem c50 {z : Nat} {T : Nat → Option xT} {R : Nat → Nat → Option Nat} {A : xQ} {s f fn ab w : Nat} (hL : xLay T R w) (hS : xSt0 T R s) (hF : xF0 T R f) (hd5 : A.1 s 3 ≤ 5) (hfs : f + 4 = s + 5 + 4 * A.1 s 3) (hs6 : A.1 f 3 ≤ 6) (hab : ab ≤ A.1 f 3) (hfn : fn < 6) (hn : A.1 2 fn ≤ 2) : xF 50 [.ref 11, .ref s, .ref f, .int (nI fn), .int (nI ab)] (xm z T R A) (.inr (some (.int (nI (aEnter A s f fn ab).1))), xm z T R (aEnter A s f fn ab).2) := by
  have hF0 := hF
  obtain ⟨f1, f2, hC⟩ := hF
  obtain ⟨c1, c2, c3, c4, c5⟩ := id hC
  have hS0 := hS
  obtain ⟨s1, s2, s3, s4, s5, s6⟩ := hS
  obtain ⟨s51, s52, s53, s54, s55⟩ := id s5
  have hk3 : (aOpen A s fn).1 f 3 = A.1 f 3 := aOpen_k (by omega) (by omega) (by omega)
  refine xF_eq (xF_p (Nat.le_of_ble_eq_true rfl) ?_)
  refine xp_aload_n rfl rfl ?_
  refine xp_gfa rfl rfl (by decide) (by decide) (by first | assumption | exact hL.t rfl) (by first | assumption | exact hL.r rfl | exact hL.2.2.2.2.2) ?_
  refine xp_gfa rfl rfl (by decide) (by decide) (by first | assumption | exact hL.t rfl) (by first | assumption | exact hL.r rfl | exact hL.2.2.2.2.2) ?_
  refine xp_iload_n rfl rfl ?_
  refine xp_iald rfl (by first | assumption | exact hL.t rfl) (by omega) (by omega) ?_
  refine xp_istore rfl (by decide) ?_
  refine xp_aload_n rfl rfl ?_
  refine xp_gfi rfl rfl (by decide) (by decide) (by first | assumption | exact hL.t rfl) ?_
  refine xp_iload rfl rfl ?_
  refine xp_isub rfl (by omega) ?_
  refine xp_iload rfl rfl ?_
  refine xp_icge 26 rfl (by decide) (by omega) (by omega) (fun h20 => ?_) (fun h20 => ?_)
  · skip
    refine xp_aload_n rfl rfl ?_
    refine xp_gfi rfl rfl (by decide) (by decide) (by first | assumption | exact hL.t rfl) ?_
    refine xp_iconst (n := 5) rfl (by decide) ?_
    refine xp_icne 36 rfl (by decide) (by omega) (by omega) (fun h31 => ?_) (fun h31 => ?_)
    · skip
      refine xp_aload_n rfl rfl ?_
      refine xp_iload_n rfl rfl ?_
      refine xp_iv rfl rfl (Nat.le_of_ble_eq_true rfl) (by decide) (by decide) (by decide) (Nat.le_of_ble_eq_true rfl) rfl (xrcv1 (by decide) (by first | assumption | exact hL.t rfl)) (c95 hS0 (by omega)) rfl ?_
      refine xp_aload_n rfl rfl ?_
      refine xp_iload rfl rfl ?_
      refine xp_iload rfl rfl ?_
      refine xp_iv rfl rfl (Nat.le_of_ble_eq_true rfl) (by decide) (by decide) (by decide) (Nat.le_of_ble_eq_true rfl) rfl (xrcv1 (by decide) (by exact (s6 (A.1 s 3) (by omega)).2.1)) (c57 hF0 (s6 (A.1 s 3) (by omega)).2 hn (by rw [hk3]; omega) (by rw [hk3]; omega)) rfl ?_
      refine xp_iconst (n := 0) rfl (by decide) ?_
      refine xp_ireturn rfl (by decide) (by decide) (by decide) ?_
      unfold aEnter
      repeat (first | rw [if_pos (by omega)] | rw [if_neg (by omega)])
      try rfl
    · skip
      refine xp_iconst (n := 5) rfl (by decide) ?_
      refine xp_ireturn rfl (by decide) (by decide) (by decide) ?_
      unfold aEnter
      repeat (first | rw [if_pos (by omega)] | rw [if_neg (by omega)])
      try rfl
  · skip
    refine xp_bipush (n := 6) rfl (by decide) ?_
    refine xp_ireturn rfl (by decide) (by decide) (by decide) ?_
    unfold aEnter
    repeat (first | rw [if_pos (by omega)] | rw [if_neg (by omega)])
    try rfl
def aApply (w : Nat) (A : xQ) (s f : Nat) : Nat × xQ := if A.1 (f + 2) (4 + A.1 f 3) = 4 then (if (aEnter A s f (A.1 (w + 4) (oN (A.2 (f + 3) (4 + A.1 f 3)))) 1).1 = 0 then (0, xsJ (xsI (aEnter A s f (A.1 (w + 4) (oN (A.2 (f + 3) (4 + A.1 f 3)))) 1).2 (s + 5 + 4 * A.1 s 3 + 2) 0 4) (s + 5 + 4 * A.1 s 3 + 3) 0 (lN (oN (A.2 (f + 3) (4 + A.1 f 3))))) else aEnter A s f (A.1 (w + 4) (oN (A.2 (f + 3) (4 + A.1 f 3)))) 1) else (aTest (A.1 (f + 2) (4 + A.1 f 3)) 4, A)
theorem aEnter_le (A : xQ) (s f fn ab : Nat) : (aEnter A s f fn ab).1 = 0 ∨ (aEnter A s f fn ab).1 = 5 ∨ (aEnter A s f fn ab).1 = 6 := by
  unfold aEnter
  split
  · exact Or.inr (Or.inr rfl)
  · split
    · exact Or.inr (Or.inl rfl)
    · exact Or.inl rfl
theorem aEnter_d {A : xQ} {s f fn ab : Nat} (h : (aEnter A s f fn ab).1 = 0) (hfs : f + 4 = s + 5 + 4 * A.1 s 3) : A.1 s 3 ≠ 5 ∧ (aEnter A s f fn ab).2.1 s 3 = A.1 s 3 + 1 := by
  unfold aEnter at h ⊢
  split at h
  · exact absurd h (by simp)
  · split at h
    · exact absurd h (by simp)
    · rename_i q1 q2
      rw [if_neg q1, if_neg q2]
      refine ⟨q2, ?_⟩
      show (aTake _ _ _ _ _).1 s 3 = _
      rw [aTake_k (by omega) (Or.inl (by omega)), aOpen_d]
theorem c51 {z : Nat} {T : Nat → Option xT} {R : Nat → Nat → Option Nat} {A : xQ} {s f w : Nat} (hL : xLay T R w) (hS : xSt0 T R s) (hF : xF0 T R f) (hd5 : A.1 s 3 ≤ 5) (hfs : f + 4 = s + 5 + 4 * A.1 s 3) (hs1 : 1 ≤ A.1 f 3) (hs6 : A.1 f 3 ≤ 6) (hk4 : A.1 (f + 2) (4 + A.1 f 3) ≤ 4) (ho : A.1 (f + 2) (4 + A.1 f 3) = 4 → oN (A.2 (f + 3) (4 + A.1 f 3)) < 24 ∧ A.1 (w + 4) (oN (A.2 (f + 3) (4 + A.1 f 3))) < 6) (hn : ∀ g, g < 6 → A.1 2 g ≤ 2) : xF 51 [.ref 11, .ref s, .ref f] (xm z T R A) (.inr (some (.int (nI (aApply w A s f).1))), xm z T R (aApply w A s f).2) := by
  have hF0 := hF
  obtain ⟨f1, f2, hC⟩ := hF
  obtain ⟨c1, c2, c3, c4, c5⟩ := id hC
  have hW := hL.w hL.1
  have hH := hW.2.2.2.2.1
  have w1 := hW.1
  have w2 := hW.2.1
  have w3 := hW.2.2.1
  have w4 := hW.2.2.2.1
  obtain ⟨h1, h2, h3, h4, h5, h6, h7, h8, h9, h10, h11, h12, hCC⟩ := id hH
  obtain ⟨d1, d2, d3, d4, d5⟩ := id hCC
  have hS0 := hS
  obtain ⟨s1, s2, s3, s4, s5, s6⟩ := hS
  obtain ⟨s51, s52, s53, s54, s55⟩ := id s5
  by_cases hq : A.1 (f + 2) (4 + A.1 f 3) = 4
  · obtain ⟨o1, o2⟩ := ho hq
    have et : aTest (A.1 (f + 2) (4 + A.1 f 3)) 4 = 0 := by rw [hq]; rfl
    have hle := aEnter_le A s f (A.1 (w + 4) (oN (A.2 (f + 3) (4 + A.1 f 3)))) 1
    by_cases he : (aEnter A s f (A.1 (w + 4) (oN (A.2 (f + 3) (4 + A.1 f 3)))) 1).1 = 0
    · obtain ⟨e1, e2⟩ := aEnter_d he hfs
      refine xF_eq (xF_p (Nat.le_of_ble_eq_true rfl) ?_)
      refine xp_aload_n rfl rfl ?_
      refine xp_gfa rfl rfl (by decide) (by decide) (by first | assumption | exact hL.t rfl | exact (s6 (A.1 s 3) (by omega)).2.1) (by first | assumption | exact hL.r rfl | exact hL.2.2.2.2.2 | exact (s6 (A.1 s 3) (by omega)).2.2.1) ?_
      refine xp_aload_n rfl rfl ?_
      refine xp_iv rfl rfl (Nat.le_of_ble_eq_true rfl) (by decide) (by decide) (by decide) (Nat.le_of_ble_eq_true rfl) rfl (xrcv1 (by decide) (by first | assumption | exact hL.t rfl | exact (s6 (A.1 s 3) (by omega)).2.1)) (c54 hF0) rfl ?_
      refine xp_iconst (n := 4) rfl (by decide) ?_
      refine xp_is rfl rfl rfl (Nat.le_of_ble_eq_true rfl) (by decide) (by decide) (by decide) (Nat.le_of_ble_eq_true rfl) rfl (xrcv0 (by decide) _ _) (c46 hC (by omega) (by omega) hk4 (by omega)) rfl ?_
      rw [et]
      refine xp_istore_n rfl (by decide) ?_
      refine xp_iload_n rfl rfl ?_
      refine xp_ifeq 19 rfl (by decide) (by omega) (fun h14 => ?_) (fun h14 => ?_)
      · skip
        refine xp_aload_n rfl rfl ?_
        refine xp_gfa rfl rfl (by decide) (by decide) (by first | assumption | exact hL.t rfl | exact (s6 (A.1 s 3) (by omega)).2.1) (by first | assumption | exact hL.r rfl | exact hL.2.2.2.2.2 | exact (s6 (A.1 s 3) (by omega)).2.2.1) ?_
        refine xp_gfa rfl rfl (by decide) (by decide) (by first | assumption | exact hL.t rfl | exact (s6 (A.1 s 3) (by omega)).2.1) (by first | assumption | exact hL.r rfl | exact hL.2.2.2.2.2 | exact (s6 (A.1 s 3) (by omega)).2.2.1) ?_
        refine xp_aload_n rfl rfl ?_
        refine xp_iv rfl rfl (Nat.le_of_ble_eq_true rfl) (by decide) (by decide) (by decide) (Nat.le_of_ble_eq_true rfl) rfl (xrcv1 (by decide) (by first | assumption | exact hL.t rfl | exact (s6 (A.1 s 3) (by omega)).2.1)) (c54 hF0) rfl ?_
        refine xp_lald rfl (by first | assumption | exact hL.t rfl | exact (s6 (A.1 s 3) (by omega)).2.1) (by omega) (by omega) ?_
        refine xp_l2i rfl ?_
        rw [oN_i]
        refine xp_istore rfl (by decide) ?_
        refine xp_aload_n rfl rfl ?_
        refine xp_aload_n rfl rfl ?_
        refine xp_aload_n rfl rfl ?_
        refine xp_aload_n rfl rfl ?_
        refine xp_gfa rfl rfl (by decide) (by decide) (by first | assumption | exact hL.t rfl | exact (s6 (A.1 s 3) (by omega)).2.1) (by first | assumption | exact hL.r rfl | exact hL.2.2.2.2.2 | exact (s6 (A.1 s 3) (by omega)).2.2.1) ?_
        refine xp_gfa rfl rfl (by decide) (by decide) (by first | assumption | exact hL.t rfl | exact (s6 (A.1 s 3) (by omega)).2.1) (by first | assumption | exact hL.r rfl | exact hL.2.2.2.2.2 | exact (s6 (A.1 s 3) (by omega)).2.2.1) ?_
        refine xp_gfa rfl rfl (by decide) (by decide) (by first | assumption | exact hL.t rfl | exact (s6 (A.1 s 3) (by omega)).2.1) (by first | assumption | exact hL.r rfl | exact hL.2.2.2.2.2 | exact (s6 (A.1 s 3) (by omega)).2.2.1) ?_
        refine xp_iload rfl rfl ?_
        refine xp_iald rfl (by first | assumption | exact hL.t rfl | exact (s6 (A.1 s 3) (by omega)).2.1) (by omega) (by omega) ?_
        refine xp_iconst (n := 1) rfl (by decide) ?_
        refine xp_iv rfl rfl (Nat.le_of_ble_eq_true rfl) (by decide) (by decide) (by decide) (Nat.le_of_ble_eq_true rfl) rfl (xrcv1 (by decide) (by first | assumption | exact hL.t rfl | exact (s6 (A.1 s 3) (by omega)).2.1)) (c50 hL hS0 hF0 hd5 hfs hs6 (by omega) o2 (hn _ o2)) rfl ?_
        refine xp_istore_n rfl (by decide) ?_
        refine xp_iload_n rfl rfl ?_
        refine xp_ifne 74 rfl (by decide) (by omega) (fun h56 => ?_) (fun h56 => ?_)
        · exfalso; omega
        · skip
          refine xp_aload_n rfl rfl ?_
          refine xp_iv rfl rfl (Nat.le_of_ble_eq_true rfl) (by decide) (by decide) (by decide) (Nat.le_of_ble_eq_true rfl) rfl (xrcv1 (by decide) (by first | assumption | exact hL.t rfl | exact (s6 (A.1 s 3) (by omega)).2.1)) (c96 hS0 (by omega) (by omega)) rfl ?_
          rw [e2, Nat.add_sub_cancel]
          refine xp_gfa rfl rfl (by decide) (by decide) (by first | assumption | exact hL.t rfl | exact (s6 (A.1 s 3) (by omega)).2.1) (by first | assumption | exact hL.r rfl | exact hL.2.2.2.2.2 | exact (s6 (A.1 s 3) (by omega)).2.2.1) ?_
          refine xp_iconst (n := 0) rfl (by decide) ?_
          refine xp_iconst (n := 4) rfl (by decide) ?_
          refine xp_iload rfl rfl ?_
          refine xp_i2l rfl ?_
          rw [nI_l (by omega)]
          refine xp_iv rfl rfl (Nat.le_of_ble_eq_true rfl) (by decide) (by decide) (by decide) (Nat.le_of_ble_eq_true rfl) rfl (xrcv1 (by decide) (by exact (s6 (A.1 s 3) (by omega)).2.2.2.1)) (c23 (s6 (A.1 s 3) (by omega)).2.2.2 (by omega) (by omega)) rfl ?_
          refine xp_iload_n rfl rfl ?_
          refine xp_ireturn rfl (by decide) (by decide) (by decide) ?_
          unfold aApply
          rw [if_pos hq, if_pos he, he]
      · exfalso; omega
    · skip
      refine xF_eq (xF_p (Nat.le_of_ble_eq_true rfl) ?_)
      refine xp_aload_n rfl rfl ?_
      refine xp_gfa rfl rfl (by decide) (by decide) (by first | assumption | exact hL.t rfl) (by first | assumption | exact hL.r rfl | exact hL.2.2.2.2.2) ?_
      refine xp_aload_n rfl rfl ?_
      refine xp_iv rfl rfl (Nat.le_of_ble_eq_true rfl) (by decide) (by decide) (by decide) (Nat.le_of_ble_eq_true rfl) rfl (xrcv1 (by decide) (by first | assumption | exact hL.t rfl)) (c54 hF0) rfl ?_
      refine xp_iconst (n := 4) rfl (by decide) ?_
      refine xp_is rfl rfl rfl (Nat.le_of_ble_eq_true rfl) (by decide) (by decide) (by decide) (Nat.le_of_ble_eq_true rfl) rfl (xrcv0 (by decide) _ _) (c46 hC (by omega) (by omega) hk4 (by omega)) rfl ?_
      rw [et]
      refine xp_istore_n rfl (by decide) ?_
      refine xp_iload_n rfl rfl ?_
      refine xp_ifeq 19 rfl (by decide) (by omega) (fun h14 => ?_) (fun h14 => ?_)
      · skip
        refine xp_aload_n rfl rfl ?_
        refine xp_gfa rfl rfl (by decide) (by decide) (by first | assumption | exact hL.t rfl) (by first | assumption | exact hL.r rfl | exact hL.2.2.2.2.2) ?_
        refine xp_gfa rfl rfl (by decide) (by decide) (by first | assumption | exact hL.t rfl) (by first | assumption | exact hL.r rfl | exact hL.2.2.2.2.2) ?_
        refine xp_aload_n rfl rfl ?_
        refine xp_iv rfl rfl (Nat.le_of_ble_eq_true rfl) (by decide) (by decide) (by decide) (Nat.le_of_ble_eq_true rfl) rfl (xrcv1 (by decide) (by first | assumption | exact hL.t rfl)) (c54 hF0) rfl ?_
        refine xp_lald rfl (by first | assumption | exact hL.t rfl) (by omega) (by omega) ?_
        refine xp_l2i rfl ?_
        rw [oN_i]
        refine xp_istore rfl (by decide) ?_
        refine xp_aload_n rfl rfl ?_
        refine xp_aload_n rfl rfl ?_
        refine xp_aload_n rfl rfl ?_
        refine xp_aload_n rfl rfl ?_
        refine xp_gfa rfl rfl (by decide) (by decide) (by first | assumption | exact hL.t rfl) (by first | assumption | exact hL.r rfl | exact hL.2.2.2.2.2) ?_
        refine xp_gfa rfl rfl (by decide) (by decide) (by first | assumption | exact hL.t rfl) (by first | assumption | exact hL.r rfl | exact hL.2.2.2.2.2) ?_
        refine xp_gfa rfl rfl (by decide) (by decide) (by first | assumption | exact hL.t rfl) (by first | assumption | exact hL.r rfl | exact hL.2.2.2.2.2) ?_
        refine xp_iload rfl rfl ?_
        refine xp_iald rfl (by first | assumption | exact hL.t rfl) (by omega) (by omega) ?_
        refine xp_iconst (n := 1) rfl (by decide) ?_
        refine xp_iv rfl rfl (Nat.le_of_ble_eq_true rfl) (by decide) (by decide) (by decide) (Nat.le_of_ble_eq_true rfl) rfl (xrcv1 (by decide) (by first | assumption | exact hL.t rfl)) (c50 hL hS0 hF0 hd5 hfs hs6 (by omega) o2 (hn _ o2)) rfl ?_
        refine xp_istore_n rfl (by decide) ?_
        refine xp_iload_n rfl rfl ?_
        refine xp_ifne 74 rfl (by decide) (by omega) (fun h56 => ?_) (fun h56 => ?_)
        · skip
          refine xp_iload_n rfl rfl ?_
          refine xp_ireturn rfl (by decide) (by decide) (by decide) ?_
          unfold aApply
          rw [if_pos hq, if_neg he]
        · exfalso; omega
      · exfalso; omega
  · have et : aTest (A.1 (f + 2) (4 + A.1 f 3)) 4 = 2 ∨ aTest (A.1 (f + 2) (4 + A.1 f 3)) 4 = 3 := by unfold aTest; split <;> simp [hq]
    refine xF_eq (xF_p (Nat.le_of_ble_eq_true rfl) ?_)
    refine xp_aload_n rfl rfl ?_
    refine xp_gfa rfl rfl (by decide) (by decide) (by first | assumption | exact hL.t rfl) (by first | assumption | exact hL.r rfl | exact hL.2.2.2.2.2) ?_
    refine xp_aload_n rfl rfl ?_
    refine xp_iv rfl rfl (Nat.le_of_ble_eq_true rfl) (by decide) (by decide) (by decide) (Nat.le_of_ble_eq_true rfl) rfl (xrcv1 (by decide) (by first | assumption | exact hL.t rfl)) (c54 hF0) rfl ?_
    refine xp_iconst (n := 4) rfl (by decide) ?_
    refine xp_is rfl rfl rfl (Nat.le_of_ble_eq_true rfl) (by decide) (by decide) (by decide) (Nat.le_of_ble_eq_true rfl) rfl (xrcv0 (by decide) _ _) (c46 hC (by omega) (by omega) hk4 (by omega)) rfl ?_
    refine xp_istore_n rfl (by decide) ?_
    refine xp_iload_n rfl rfl ?_
    refine xp_ifeq 19 rfl (by decide) (by omega) (fun h14 => ?_) (fun h14 => ?_)
    · exfalso; omega
    · skip
      refine xp_iload_n rfl rfl ?_
      refine xp_ireturn rfl (by decide) (by decide) (by decide) ?_
      unfold aApply
      rw [if_neg hq]
def aEnd (A : xQ) (s st er : Nat) : xQ := xsI (xsI (xsI A s 2 st) s 4 er) s 3 0
def aBack (A : xQ) (s f : Nat) : Nat × xQ := aPush (xsI A s 3 (A.1 s 3 - 1)) (s + 5 + 4 * (A.1 s 3 - 2)) (A.1 (f + 2) (4 + A.1 f 3)) (A.2 (f + 3) (4 + A.1 f 3))
def aLeave (A : xQ) (s f : Nat) : Nat × xQ := if A.1 s 3 = 1 then (0, aEnd (aCopy (s + 3) (s + 4) 0 (f + 2) (f + 3) (4 + A.1 f 3) A) s 1 0) else aGoOn (s + 5 + 4 * (A.1 s 3 - 2)) (aBack A s f)
theorem c52 {z : Nat} {T : Nat → Option xT} {R : Nat → Nat → Option Nat} {A : xQ} {s f w : Nat} (hL : xLay T R w) (hS : xSt0 T R s) (hF : xF0 T R f) (hd1 : 1 ≤ A.1 s 3) (hd5 : A.1 s 3 ≤ 5) (hfs : f + 4 = s + 5 + 4 * A.1 s 3) (hs1 : 1 ≤ A.1 f 3) (hs6 : A.1 f 3 ≤ 6) (hb6 : A.1 s 3 ≠ 1 → A.1 (s + 5 + 4 * (A.1 s 3 - 2)) 3 ≤ 6) : xF 52 [.ref 11, .ref s, .ref f] (xm z T R A) (.inr (some (.int (nI (aLeave A s f).1))), xm z T R (aLeave A s f).2) := by
  have hF0 := hF
  obtain ⟨f1, f2, hC⟩ := hF
  obtain ⟨c1, c2, c3, c4, c5⟩ := id hC
  have hS0 := hS
  obtain ⟨s1, s2, s3, s4, s5, s6⟩ := hS
  obtain ⟨s51, s52, s53, s54, s55⟩ := id s5
  by_cases hq : A.1 s 3 = 1
  · have e : aLeave A s f = (0, aEnd (aCopy (s + 3) (s + 4) 0 (f + 2) (f + 3) (4 + A.1 f 3) A) s 1 0) := by unfold aLeave; rw [if_pos hq]
    rw [e]
    refine xF_eq (xF_p (Nat.le_of_ble_eq_true rfl) ?_)
    refine xp_aload_n rfl rfl ?_
    refine xp_gfi rfl rfl (by decide) (by decide) (by first | assumption | exact hL.t rfl) ?_
    refine xp_iconst (n := 1) rfl (by decide) ?_
    refine xp_icne 32 rfl (by decide) (by omega) (by omega) (fun h5 => ?_) (fun h5 => ?_)
    · exact absurd hq h5
    · skip
      refine xp_aload_n rfl rfl ?_
      refine xp_gfa rfl rfl (by decide) (by decide) (by first | assumption | exact hL.t rfl) (by first | assumption | exact hL.r rfl | exact hL.2.2.2.2.2) ?_
      refine xp_iconst (n := 0) rfl (by decide) ?_
      refine xp_aload_n rfl rfl ?_
      refine xp_gfa rfl rfl (by decide) (by decide) (by first | assumption | exact hL.t rfl) (by first | assumption | exact hL.r rfl | exact hL.2.2.2.2.2) ?_
      refine xp_aload_n rfl rfl ?_
      refine xp_iv rfl rfl (Nat.le_of_ble_eq_true rfl) (by decide) (by decide) (by decide) (Nat.le_of_ble_eq_true rfl) rfl (xrcv1 (by decide) (by first | assumption | exact hL.t rfl)) (c54 hF0) rfl ?_
      refine xp_iv rfl rfl (Nat.le_of_ble_eq_true rfl) (by decide) (by decide) (by decide) (Nat.le_of_ble_eq_true rfl) rfl (xrcv1 (by decide) (by first | assumption | exact hL.t rfl)) (c24 s5 hC (by omega) (by omega) (by omega) (by omega)) rfl ?_
      refine xp_aload_n rfl rfl ?_
      refine xp_iconst (n := 1) rfl (by decide) ?_
      refine xp_iconst (n := 0) rfl (by decide) ?_
      refine xp_iv rfl rfl (Nat.le_of_ble_eq_true rfl) (by decide) (by decide) (by decide) (Nat.le_of_ble_eq_true rfl) rfl (xrcv1 (by decide) (by first | assumption | exact hL.t rfl)) (c94 hS0) rfl ?_
      refine xp_iconst (n := 0) rfl (by decide) ?_
      refine xp_ireturn rfl (by decide) (by decide) (by decide) ?_
      rfl
  · have hb := hb6 hq
    obtain ⟨g1, g2⟩ := s6 (A.1 s 3 - 2) (by omega)
    have e1 : (xsI A s 3 (A.1 s 3 - 1)).1 s 3 = A.1 s 3 - 1 := xsI_eq
    have e2 : ∀ b j, b ≠ s → (xsI A s 3 (A.1 s 3 - 1)).1 b j = A.1 b j := fun b j hb => xsI_ne (Or.inl hb)
    have e3 : A.1 s 3 - 1 - 1 = A.1 s 3 - 2 := by omega
    have e4 : (xsI A s 3 (A.1 s 3 - 1)).1 (f + 2) (4 + A.1 f 3) = A.1 (f + 2) (4 + A.1 f 3) := e2 _ _ (by omega)
    have hp := aPush_le (xsI A s 3 (A.1 s 3 - 1)) (s + 5 + 4 * (A.1 s 3 - 2)) (A.1 (f + 2) (4 + A.1 f 3)) (A.2 (f + 3) (4 + A.1 f 3))
    have ec := c56 (z := z) (A := xsI A s 3 (A.1 s 3 - 1)) (i := 4 + A.1 f 3) g2 hC (by omega) (by omega) (by rw [e2 _ _ (by omega)]; omega)
    have e5 : (xsI A s 3 (A.1 s 3 - 1)).2 = A.2 := rfl
    rw [e4, e5] at ec
    have e : aLeave A s f = aGoOn (s + 5 + 4 * (A.1 s 3 - 2)) (aBack A s f) := by unfold aLeave; rw [if_neg hq]
    rw [e]
    unfold aGoOn aBack
    refine xF_eq (xF_p (Nat.le_of_ble_eq_true rfl) ?_)
    refine xp_aload_n rfl rfl ?_
    refine xp_gfi rfl rfl (by decide) (by decide) (by first | assumption | exact hL.t rfl | exact g2.1) ?_
    refine xp_iconst (n := 1) rfl (by decide) ?_
    refine xp_icne 32 rfl (by decide) (by omega) (by omega) (fun h5 => ?_) (fun h5 => ?_)
    · skip
      refine xp_aload_n rfl rfl ?_
      refine xp_dup rfl rfl ?_
      refine xp_gfi rfl rfl (by decide) (by decide) (by first | assumption | exact hL.t rfl | exact g2.1) ?_
      refine xp_iconst (n := 1) rfl (by decide) ?_
      refine xp_isub rfl (by omega) ?_
      refine xp_pfi rfl rfl (by decide) (by decide) (by decide) (by first | assumption | exact hL.t rfl | exact g2.1) ?_
      refine xp_aload_n rfl rfl ?_
      refine xp_iv rfl rfl (Nat.le_of_ble_eq_true rfl) (by decide) (by decide) (by decide) (Nat.le_of_ble_eq_true rfl) rfl (xrcv1 (by decide) (by first | assumption | exact hL.t rfl | exact g2.1)) (c96 hS0 (by rw [e1]; omega) (by rw [e1]; omega)) rfl ?_
      rw [e1, e3]
      refine xp_astore_n rfl (by decide) ?_
      refine xp_aload_n rfl rfl ?_
      refine xp_aload_n rfl rfl ?_
      refine xp_gfa rfl rfl (by decide) (by decide) (by first | assumption | exact hL.t rfl | exact g2.1) (by first | assumption | exact hL.r rfl | exact hL.2.2.2.2.2) ?_
      refine xp_aload_n rfl rfl ?_
      refine xp_iv rfl rfl (Nat.le_of_ble_eq_true rfl) (by decide) (by decide) (by decide) (Nat.le_of_ble_eq_true rfl) rfl (xrcv1 (by decide) (by first | assumption | exact hL.t rfl | exact g2.1)) (c54 hF0) rfl ?_
      rw [e2 f 3 (by omega)]
      refine xp_iv rfl rfl (Nat.le_of_ble_eq_true rfl) (by decide) (by decide) (by decide) (Nat.le_of_ble_eq_true rfl) rfl (xrcv1 (by decide) (by first | assumption | exact hL.t rfl | exact g2.1)) (ec) rfl ?_
      refine xp_istore rfl (by decide) ?_
      refine xp_iload rfl rfl ?_
      refine xp_ifne 76 rfl (by decide) (by omega) (fun h63 => ?_) (fun h63 => ?_)
      · skip
        refine xp_iload rfl rfl ?_
        refine xp_ireturn rfl (by decide) (by decide) (by decide) ?_
        first | (rw [if_pos h63]) | (rw [if_neg h63])
      · skip
        refine xp_aload_n rfl rfl ?_
        refine xp_dup rfl rfl ?_
        refine xp_gfi rfl rfl (by decide) (by decide) (by first | assumption | exact hL.t rfl | exact g2.1) ?_
        refine xp_iconst (n := 1) rfl (by decide) ?_
        refine xp_iadd rfl ?_
        refine xp_pfi rfl rfl (by decide) (by decide) (by decide) (by first | assumption | exact hL.t rfl | exact g2.1) ?_
        refine xp_iload rfl rfl ?_
        refine xp_ireturn rfl (by decide) (by decide) (by decide) ?_
        first | (rw [if_pos h63]) | (rw [if_neg h63])
    · exact absurd h5 hq
def aFork1 (w : Nat) (A : xQ) (f fn : Nat) : xQ := aTake (aOpen (aEnd A (w + 11 + 25 * A.1 w 2) 0 0) (w + 11 + 25 * A.1 w 2) fn) (w + 11 + 25 * A.1 w 2 + 5) f (A.1 2 fn) 0
def aFork (w : Nat) (A : xQ) (f fn : Nat) : Nat × xQ := if A.1 w 2 = 3 then (4, A) else if A.1 f 3 - A.1 2 fn = 6 then (6, A) else aPush (xsI (aFork1 w A f fn) w 2 (A.1 w 2 + 1)) f 1 (lN (A.1 w 2))
theorem aEnd_k {A : xQ} {s st er b j : Nat} (h : b ≠ s) : (aEnd A s st er).1 b j = A.1 b j := by
  unfold aEnd
  rw [xsI_ne (Or.inl h), xsI_ne (Or.inl h), xsI_ne (Or.inl h)]
theorem aEnd_d {A : xQ} {s st er : Nat} : (aEnd A s st er).1 s 3 = 0 := xsI_eq
theorem aFork1_k {w : Nat} {A : xQ} {f fn b j : Nat} (h1 : b < w + 11 + 25 * A.1 w 2) (h2 : b ≠ f ∨ j ≠ 3) : (aFork1 w A f fn).1 b j = A.1 b j := by
  unfold aFork1
  have e := aEnd_d (A := A) (s := w + 11 + 25 * A.1 w 2) (st := 0) (er := 0)
  rw [aTake_k (by omega) h2, aOpen_k (by omega) (by rw [e]; omega) (by rw [e]; omega), aEnd_k (by omega)]
theorem c43 {z : Nat} {T : Nat → Option xT} {R : Nat → Nat → Option Nat} {A : xQ} {f fn w : Nat} (hL : xLay T R w) (hF : xF0 T R f) (hc3 : A.1 w 2 ≤ 3) (hf1 : w < f) (hf2 : f < w + 11 + 25 * A.1 w 2) (hs6 : A.1 f 3 ≤ 6) (hfn : fn < 6) (hn : A.1 2 fn ≤ 2) (hns : A.1 2 fn ≤ A.1 f 3) : xF 43 [.ref 11, .ref f, .int (nI fn)] (xm z T R A) (.inr (some (.int (nI (aFork w A f fn).1))), xm z T R (aFork w A f fn).2) := by
  have hF0 := hF
  obtain ⟨f1, f2, hC⟩ := hF
  obtain ⟨c1, c2, c3, c4, c5⟩ := id hC
  have hW := hL.w hL.1
  have hH := hW.2.2.2.2.1
  have w1 := hW.1
  have w2 := hW.2.1
  have w3 := hW.2.2.1
  have w4 := hW.2.2.2.1
  obtain ⟨h1, h2, h3, h4, h5, h6, h7, h8, h9, h10, h11, h12, hCC⟩ := id hH
  obtain ⟨d1, d2, d3, d4, d5⟩ := id hCC
  by_cases hq : A.1 w 2 = 3
  · have e : aFork w A f fn = (4, A) := by unfold aFork; rw [if_pos hq]
    rw [e]
    refine xF_eq (xF_p (Nat.le_of_ble_eq_true rfl) ?_)
    refine xp_aload_n rfl rfl ?_
    refine xp_gfa rfl rfl (by decide) (by decide) (by first | assumption | exact hL.t rfl) (by first | assumption | exact hL.r rfl | exact hL.2.2.2.2.2) ?_
    refine xp_gfa rfl rfl (by decide) (by decide) (by first | assumption | exact hL.t rfl) (by first | assumption | exact hL.r rfl | exact hL.2.2.2.2.2) ?_
    refine xp_iload_n rfl rfl ?_
    refine xp_iald rfl (by first | assumption | exact hL.t rfl) (by omega) (by omega) ?_
    refine xp_istore_n rfl (by decide) ?_
    refine xp_aload_n rfl rfl ?_
    refine xp_gfa rfl rfl (by decide) (by decide) (by first | assumption | exact hL.t rfl) (by first | assumption | exact hL.r rfl | exact hL.2.2.2.2.2) ?_
    refine xp_gfi rfl rfl (by decide) (by decide) (by first | assumption | exact hL.t rfl) ?_
    refine xp_iconst (n := 3) rfl (by decide) ?_
    refine xp_icne 23 rfl (by decide) (by omega) (by omega) (fun h18 => ?_) (fun h18 => ?_)
    · exact absurd hq h18
    · skip
      refine xp_iconst (n := 4) rfl (by decide) ?_
      refine xp_ireturn rfl (by decide) (by decide) (by decide) ?_
      rfl
  · by_cases hr : A.1 f 3 - A.1 2 fn = 6
    · have e : aFork w A f fn = (6, A) := by unfold aFork; rw [if_neg hq, if_pos hr]
      rw [e]
      refine xF_eq (xF_p (Nat.le_of_ble_eq_true rfl) ?_)
      refine xp_aload_n rfl rfl ?_
      refine xp_gfa rfl rfl (by decide) (by decide) (by first | assumption | exact hL.t rfl) (by first | assumption | exact hL.r rfl | exact hL.2.2.2.2.2) ?_
      refine xp_gfa rfl rfl (by decide) (by decide) (by first | assumption | exact hL.t rfl) (by first | assumption | exact hL.r rfl | exact hL.2.2.2.2.2) ?_
      refine xp_iload_n rfl rfl ?_
      refine xp_iald rfl (by first | assumption | exact hL.t rfl) (by omega) (by omega) ?_
      refine xp_istore_n rfl (by decide) ?_
      refine xp_aload_n rfl rfl ?_
      refine xp_gfa rfl rfl (by decide) (by decide) (by first | assumption | exact hL.t rfl) (by first | assumption | exact hL.r rfl | exact hL.2.2.2.2.2) ?_
      refine xp_gfi rfl rfl (by decide) (by decide) (by first | assumption | exact hL.t rfl) ?_
      refine xp_iconst (n := 3) rfl (by decide) ?_
      refine xp_icne 23 rfl (by decide) (by omega) (by omega) (fun h18 => ?_) (fun h18 => ?_)
      · skip
        refine xp_aload_n rfl rfl ?_
        refine xp_gfi rfl rfl (by decide) (by decide) (by first | assumption | exact hL.t rfl) ?_
        refine xp_iload_n rfl rfl ?_
        refine xp_isub rfl (by omega) ?_
        refine xp_bipush (n := 6) rfl (by decide) ?_
        refine xp_icne 37 rfl (by decide) (by omega) (by omega) (fun h31 => ?_) (fun h31 => ?_)
        · exact absurd hr h31
        · skip
          refine xp_bipush (n := 6) rfl (by decide) ?_
          refine xp_ireturn rfl (by decide) (by decide) (by decide) ?_
          rfl
      · exact absurd h18 hq
    · have e : aFork w A f fn = aPush (xsI (aFork1 w A f fn) w 2 (A.1 w 2 + 1)) f 1 (lN (A.1 w 2)) := by unfold aFork; rw [if_neg hq, if_neg hr]
      obtain ⟨r1, hS⟩ := hW.2.2.2.2.2 (A.1 w 2) (by omega)
      have hS0 := hS
      obtain ⟨s1, s2, s3, s4, s5, s6⟩ := hS
      have ed := aEnd_d (A := A) (s := w + 11 + 25 * A.1 w 2) (st := 0) (er := 0)
      have ew : (aFork1 w A f fn).1 w 2 = A.1 w 2 := aFork1_k (by omega) (Or.inl (by omega))
      have eo : (aOpen (aEnd A (w + 11 + 25 * A.1 w 2) 0 0) (w + 11 + 25 * A.1 w 2) fn).1 f 3 = A.1 f 3 := by
        rw [aOpen_k (by omega) (by rw [ed]; omega) (by rw [ed]; omega), aEnd_k (by omega)]
      have eg : (xsI (aFork1 w A f fn) w 2 (A.1 w 2 + 1)).1 w 2 = A.1 w 2 + 1 := xsI_eq
      have ef : (xsI (aFork1 w A f fn) w 2 (A.1 w 2 + 1)).1 f 3 = A.1 f 3 - (A.1 2 fn + 0) := by
        rw [xsI_ne (Or.inl (by omega))]
        unfold aFork1
        rw [aTake_s, eo]
      have e0 : w + 11 + 25 * A.1 w 2 + 5 + 4 * (aEnd A (w + 11 + 25 * A.1 w 2) 0 0).1 (w + 11 + 25 * A.1 w 2) 3 = w + 11 + 25 * A.1 w 2 + 5 := by rw [ed]
      have hg : xF0 T R (w + 11 + 25 * A.1 w 2 + 5) := (s6 0 (by omega)).2
      have hg1 := hg.1
      rw [e]
      refine xF_eq (xF_p (Nat.le_of_ble_eq_true rfl) ?_)
      refine xp_aload_n rfl rfl ?_
      refine xp_gfa rfl rfl (by decide) (by decide) (by first | assumption | exact hL.t rfl) (by first | assumption | exact hL.r rfl | exact hL.2.2.2.2.2) ?_
      refine xp_gfa rfl rfl (by decide) (by decide) (by first | assumption | exact hL.t rfl) (by first | assumption | exact hL.r rfl | exact hL.2.2.2.2.2) ?_
      refine xp_iload_n rfl rfl ?_
      refine xp_iald rfl (by first | assumption | exact hL.t rfl) (by omega) (by omega) ?_
      refine xp_istore_n rfl (by decide) ?_
      refine xp_aload_n rfl rfl ?_
      refine xp_gfa rfl rfl (by decide) (by decide) (by first | assumption | exact hL.t rfl) (by first | assumption | exact hL.r rfl | exact hL.2.2.2.2.2) ?_
      refine xp_gfi rfl rfl (by decide) (by decide) (by first | assumption | exact hL.t rfl) ?_
      refine xp_iconst (n := 3) rfl (by decide) ?_
      refine xp_icne 23 rfl (by decide) (by omega) (by omega) (fun h18 => ?_) (fun h18 => ?_)
      · skip
        refine xp_aload_n rfl rfl ?_
        refine xp_gfi rfl rfl (by decide) (by decide) (by first | assumption | exact hL.t rfl) ?_
        refine xp_iload_n rfl rfl ?_
        refine xp_isub rfl (by omega) ?_
        refine xp_bipush (n := 6) rfl (by decide) ?_
        refine xp_icne 37 rfl (by decide) (by omega) (by omega) (fun h31 => ?_) (fun h31 => ?_)
        · skip
          refine xp_aload_n rfl rfl ?_
          refine xp_gfa rfl rfl (by decide) (by decide) (by first | assumption | exact hL.t rfl) (by first | assumption | exact hL.r rfl | exact hL.2.2.2.2.2) ?_
          refine xp_gfa rfl rfl (by decide) (by decide) (by first | assumption | exact hL.t rfl) (by first | assumption | exact hL.r rfl | exact hL.2.2.2.2.2) ?_
          refine xp_aload_n rfl rfl ?_
          refine xp_gfa rfl rfl (by decide) (by decide) (by first | assumption | exact hL.t rfl) (by first | assumption | exact hL.r rfl | exact hL.2.2.2.2.2) ?_
          refine xp_gfi rfl rfl (by decide) (by decide) (by first | assumption | exact hL.t rfl) ?_
          refine xp_aald rfl (by first | assumption | exact hL.t rfl) (by decide) (by decide) (by omega) (by omega) (by first | assumption | exact hL.r rfl | exact hL.2.2.2.2.2) ?_
          refine xp_astore rfl (by decide) ?_
          refine xp_aload rfl rfl ?_
          refine xp_iconst (n := 0) rfl (by decide) ?_
          refine xp_iconst (n := 0) rfl (by decide) ?_
          refine xp_iv rfl rfl (Nat.le_of_ble_eq_true rfl) (by decide) (by decide) (by decide) (Nat.le_of_ble_eq_true rfl) rfl (xrcv1 (by decide) (by first | assumption | exact hL.t rfl)) (c94 hS0) rfl ?_
          show xP _ _ _ _ _ _ (xm _ _ _ (aEnd A (w + 11 + 25 * A.1 w 2) 0 0)) _
          refine xp_aload rfl rfl ?_
          refine xp_iload_n rfl rfl ?_
          refine xp_iv rfl rfl (Nat.le_of_ble_eq_true rfl) (by decide) (by decide) (by decide) (Nat.le_of_ble_eq_true rfl) rfl (xrcv1 (by decide) (by first | assumption | exact hL.t rfl)) (c95 hS0 (by rw [ed]; omega)) rfl ?_
          rw [e0]
          refine xp_aload_n rfl rfl ?_
          refine xp_iload_n rfl rfl ?_
          refine xp_iconst (n := 0) rfl (by decide) ?_
          refine xp_iv rfl rfl (Nat.le_of_ble_eq_true rfl) (by decide) (by decide) (by decide) (Nat.le_of_ble_eq_true rfl) rfl (xrcv1 (by decide) (by first | assumption | exact hL.t rfl)) (c57 hF0 hg hn (by rw [eo]; omega) (by rw [eo]; omega)) rfl ?_
          show xP _ _ _ _ _ _ (xm _ _ _ (aFork1 w A f fn)) _
          refine xp_aload_n rfl rfl ?_
          refine xp_gfa rfl rfl (by decide) (by decide) (by first | assumption | exact hL.t rfl) (by first | assumption | exact hL.r rfl | exact hL.2.2.2.2.2) ?_
          refine xp_dup rfl rfl ?_
          refine xp_gfi rfl rfl (by decide) (by decide) (by first | assumption | exact hL.t rfl) ?_
          refine xp_iconst (n := 1) rfl (by decide) ?_
          refine xp_iadd rfl ?_
          refine xp_pfi rfl rfl (by decide) (by decide) (by decide) (by first | assumption | exact hL.t rfl) ?_
          rw [ew]
          refine xp_aload_n rfl rfl ?_
          refine xp_iconst (n := 1) rfl (by decide) ?_
          refine xp_aload_n rfl rfl ?_
          refine xp_gfa rfl rfl (by decide) (by decide) (by first | assumption | exact hL.t rfl) (by first | assumption | exact hL.r rfl | exact hL.2.2.2.2.2) ?_
          refine xp_gfi rfl rfl (by decide) (by decide) (by first | assumption | exact hL.t rfl) ?_
          refine xp_iconst (n := 1) rfl (by decide) ?_
          refine xp_isub rfl (by rw [eg]; omega) ?_
          rw [eg, Nat.add_sub_cancel]
          refine xp_i2l rfl ?_
          rw [nI_l (by omega)]
          refine xp_iv rfl rfl (Nat.le_of_ble_eq_true rfl) (by decide) (by decide) (by decide) (Nat.le_of_ble_eq_true rfl) rfl (xrcv1 (by decide) (by first | assumption | exact hL.t rfl)) (c55a hF0 (by rw [ef]; omega)) rfl ?_
          refine xp_ireturn rfl (by decide) (by decide) (by decide) ?_
          rfl
        · exact absurd h31 hr
      · exact absurd h18 hq
