-- A STEP: the walks
theorem c32 {z : Nat} {T : Nat → Option xT} {R : Nat → Nat → Option Nat} {A : xQ} {s f i t w : Nat} (hL : xLay T R w) (h : COk w A) (ht : t < A.1 w 2) (hs : s = w + 11 + 25 * t) (hst : A.1 s 2 = 0) (hfs : f + 4 = s + 5 + 4 * A.1 s 3) (hi : i < 180) (hI : IOk (A.1 4 i) (A.1 5 i) (A.1 6 i)) (hsd : A.1 11 3 < 2 ^ 31) : xF 32 [.ref 11, .ref s, .ref f, .int (nI i)] (xm z T R A) (.inr (some (.int (nI (aPerf w A s f i).1))), xm z T R (aPerf w A s f i).2) := by
  have h0 := h.1
  have hW := hL.w hL.1
  have hc3 := h.cnt
  obtain ⟨r1, hS⟩ := hW.2.2.2.2.2 t (by omega)
  rw [← hs] at r1 hS
  have hSk := h.st ht
  rw [← hs] at hSk
  obtain ⟨q1, q2, q3, q4, q5, q6, q7⟩ := hSk
  have hd1 := q3 hst
  have hF : xF0 T R f := by
    have := (hS.2.2.2.2.2 (A.1 s 3 - 1) (by omega)).2
    rw [show s + 5 + 4 * (A.1 s 3 - 1) = f by omega] at this
    exact this
  have hk : FOk w A f := by
    have := q7 (A.1 s 3 - 1) (by omega)
    rw [show s + 5 + 4 * (A.1 s 3 - 1) = f by omega] at this
    exact this
  have k6 := hk.2.2.1
  have hO := h.2.1.2.2
  have hc24 : A.1 (w + 2) 4 ≤ 24 := by rw [h.2.2.2.1]; exact xcnt_le _ _
  have hn : ∀ g, g < 6 → A.1 2 g ≤ 2 := fun g hg => (h.2.2.1 g hg).1
  have hF1 := hF.1
  have hI0 := hI
  obtain ⟨hop0, i1, i2, i3, i4, i5, i6⟩ := hI
  have hnd : aNeed A (A.1 4 i) (A.1 5 i) (A.1 6 i) < 2 ^ 31 := by
    rcases op28 (op := A.1 4 i) hop0 with hop | hop | hop | hop | hop | hop | hop | hop | hop | hop | hop | hop | hop | hop | hop | hop | hop | hop | hop | hop | hop | hop | hop | hop | hop | hop | hop | hop <;> rw [hop] at i1 i2 i3 i4 i5 i6 ⊢
    · show (0 : Nat) < _; omega
    · show (0 : Nat) < _; omega
    · show (0 : Nat) < _; omega
    · show (0 : Nat) < _; omega
    · show (0 : Nat) < _; omega
    · show (1 : Nat) < _; omega
    · show (1 : Nat) < _; omega
    · show (1 : Nat) < _; omega
    · show (2 : Nat) < _; omega
    · show (2 : Nat) < _; omega
    · show (2 : Nat) < _; omega
    · show (2 : Nat) < _; omega
    · show (2 : Nat) < _; omega
    · show (2 : Nat) < _; omega
    · show (0 : Nat) < _; omega
    · show (1 : Nat) < _; omega
    · show (0 : Nat) < _; omega
    · show (1 : Nat) < _; omega
    · show (2 : Nat) < _; omega
    · show A.1 6 i < _; have := i6 rfl; omega
    · show (0 : Nat) < _; omega
    · show A.1 2 (A.1 5 i) < _; have := hn _ (show A.1 5 i < 6 by have := i3 (by omega); omega); omega
    · show (1 : Nat) < _; omega
    · show (1 : Nat) < _; omega
    · show (1 : Nat) < _; omega
    · show (1 : Nat) < _; omega
    · show A.1 2 (A.1 5 i) < _; have := hn _ (show A.1 5 i < 6 by have := i3 (by omega); omega); omega
    · show (0 : Nat) < _; omega
  have kb : ∀ q, q + 1 < A.1 s 3 → A.1 (s + 5 + 4 * q) 3 ≤ 6 := fun q hq => (q7 q (by omega)).2.2.1
  unfold aPerf
  refine xF_eq (xF_p (Nat.le_of_ble_eq_true rfl) ?_)
  refine xp_aload_n rfl rfl ?_
  refine xp_gfa rfl rfl (by decide) (by decide) (by first | assumption | exact hL.t rfl) (by first | assumption | exact hL.r rfl | exact hL.2.2.2.2.2) ?_
  refine xp_gfa rfl rfl (by decide) (by decide) (by first | assumption | exact hL.t rfl) (by first | assumption | exact hL.r rfl | exact hL.2.2.2.2.2) ?_
  refine xp_iload_n rfl rfl ?_
  refine xp_iald rfl (by first | assumption | exact hL.t rfl) (by omega) (by omega) ?_
  refine xp_istore rfl (by decide) ?_
  refine xp_aload_n rfl rfl ?_
  refine xp_gfa rfl rfl (by decide) (by decide) (by first | assumption | exact hL.t rfl) (by first | assumption | exact hL.r rfl | exact hL.2.2.2.2.2) ?_
  refine xp_gfa rfl rfl (by decide) (by decide) (by first | assumption | exact hL.t rfl) (by first | assumption | exact hL.r rfl | exact hL.2.2.2.2.2) ?_
  refine xp_iload_n rfl rfl ?_
  refine xp_iald rfl (by first | assumption | exact hL.t rfl) (by omega) (by omega) ?_
  refine xp_istore rfl (by decide) ?_
  refine xp_aload_n rfl rfl ?_
  refine xp_gfa rfl rfl (by decide) (by decide) (by first | assumption | exact hL.t rfl) (by first | assumption | exact hL.r rfl | exact hL.2.2.2.2.2) ?_
  refine xp_gfa rfl rfl (by decide) (by decide) (by first | assumption | exact hL.t rfl) (by first | assumption | exact hL.r rfl | exact hL.2.2.2.2.2) ?_
  refine xp_iload_n rfl rfl ?_
  refine xp_iald rfl (by first | assumption | exact hL.t rfl) (by omega) (by omega) ?_
  refine xp_istore rfl (by decide) ?_
  refine xp_aload_n rfl rfl ?_
  refine xp_gfi rfl rfl (by decide) (by decide) (by first | assumption | exact hL.t rfl) ?_
  refine xp_aload_n rfl rfl ?_
  refine xp_gfa rfl rfl (by decide) (by decide) (by first | assumption | exact hL.t rfl) (by first | assumption | exact hL.r rfl | exact hL.2.2.2.2.2) ?_
  refine xp_iload_n rfl rfl ?_
  refine xp_iv rfl rfl (Nat.le_of_ble_eq_true rfl) (by decide) (by decide) (by decide) (Nat.le_of_ble_eq_true rfl) rfl (xrcv1 (by decide) (by first | assumption | exact hL.t rfl)) (c76 hL hi hI0) rfl ?_
  refine xp_icge 51 rfl (by decide) (by omega) (by omega) (fun h45 => ?_) (fun h45 => ?_)
  · skip
    have hsz := h45
    rw [if_neg (by omega)]
    rcases op28 (op := A.1 4 i) hop0 with hop | hop | hop | hop | hop | hop | hop | hop | hop | hop | hop | hop | hop | hop | hop | hop | hop | hop | hop | hop | hop | hop | hop | hop | hop | hop | hop | hop <;> rw [hop] at i1 i2 i3 i4 i5 i6 hsz ⊢
    · skip
      refine xp_iload rfl rfl ?_
      refine xp_tsw 164 rfl (by omega) (by first | rfl | (rw [if_pos (by omega)]) | (rw [if_neg (by omega)]; rfl)) (by decide) ?_
      refine xp_aload_n rfl rfl ?_
      refine xp_aload_n rfl rfl ?_
      refine xp_aload_n rfl rfl ?_
      refine xp_iload rfl rfl ?_
      refine xp_iload rfl rfl ?_
      refine xp_iload rfl rfl ?_
      refine xp_iv rfl rfl (Nat.le_of_ble_eq_true rfl) (by decide) (by decide) (by decide) (Nat.le_of_ble_eq_true rfl) rfl (xrcv1 (by decide) (by first | assumption | exact hL.t rfl)) (c34_0 hL hF hk) rfl ?_
      refine xp_is rfl rfl rfl (Nat.le_of_ble_eq_true rfl) (by decide) (by decide) (by decide) (Nat.le_of_ble_eq_true rfl) rfl (xrcv0 (by decide) _ _) (c33 hF (by have := aInLine_lt w A f 0 (A.1 5 i) (A.1 6 i); omega)) rfl ?_
      refine xp_ireturn rfl (by decide) (by decide) (by decide) ?_
      rfl
    · skip
      refine xp_iload rfl rfl ?_
      refine xp_tsw 164 rfl (by omega) (by first | rfl | (rw [if_pos (by omega)]) | (rw [if_neg (by omega)]; rfl)) (by decide) ?_
      refine xp_aload_n rfl rfl ?_
      refine xp_aload_n rfl rfl ?_
      refine xp_aload_n rfl rfl ?_
      refine xp_iload rfl rfl ?_
      refine xp_iload rfl rfl ?_
      refine xp_iload rfl rfl ?_
      refine xp_iv rfl rfl (Nat.le_of_ble_eq_true rfl) (by decide) (by decide) (by decide) (Nat.le_of_ble_eq_true rfl) rfl (xrcv1 (by decide) (by first | assumption | exact hL.t rfl)) (c34_1 hL hF hk) rfl ?_
      refine xp_is rfl rfl rfl (Nat.le_of_ble_eq_true rfl) (by decide) (by decide) (by decide) (Nat.le_of_ble_eq_true rfl) rfl (xrcv0 (by decide) _ _) (c33 hF (by have := aInLine_lt w A f 1 (A.1 5 i) (A.1 6 i); omega)) rfl ?_
      refine xp_ireturn rfl (by decide) (by decide) (by decide) ?_
      rfl
    · skip
      refine xp_iload rfl rfl ?_
      refine xp_tsw 164 rfl (by omega) (by first | rfl | (rw [if_pos (by omega)]) | (rw [if_neg (by omega)]; rfl)) (by decide) ?_
      refine xp_aload_n rfl rfl ?_
      refine xp_aload_n rfl rfl ?_
      refine xp_aload_n rfl rfl ?_
      refine xp_iload rfl rfl ?_
      refine xp_iload rfl rfl ?_
      refine xp_iload rfl rfl ?_
      refine xp_iv rfl rfl (Nat.le_of_ble_eq_true rfl) (by decide) (by decide) (by decide) (Nat.le_of_ble_eq_true rfl) rfl (xrcv1 (by decide) (by first | assumption | exact hL.t rfl)) (c34_2 hL hF hk) rfl ?_
      refine xp_is rfl rfl rfl (Nat.le_of_ble_eq_true rfl) (by decide) (by decide) (by decide) (Nat.le_of_ble_eq_true rfl) rfl (xrcv0 (by decide) _ _) (c33 hF (by have := aInLine_lt w A f 2 (A.1 5 i) (A.1 6 i); omega)) rfl ?_
      refine xp_ireturn rfl (by decide) (by decide) (by decide) ?_
      rfl
    · skip
      refine xp_iload rfl rfl ?_
      refine xp_tsw 164 rfl (by omega) (by first | rfl | (rw [if_pos (by omega)]) | (rw [if_neg (by omega)]; rfl)) (by decide) ?_
      refine xp_aload_n rfl rfl ?_
      refine xp_aload_n rfl rfl ?_
      refine xp_aload_n rfl rfl ?_
      refine xp_iload rfl rfl ?_
      refine xp_iload rfl rfl ?_
      refine xp_iload rfl rfl ?_
      refine xp_iv rfl rfl (Nat.le_of_ble_eq_true rfl) (by decide) (by decide) (by decide) (Nat.le_of_ble_eq_true rfl) rfl (xrcv1 (by decide) (by first | assumption | exact hL.t rfl)) (c34_3 hL hF hk) rfl ?_
      refine xp_is rfl rfl rfl (Nat.le_of_ble_eq_true rfl) (by decide) (by decide) (by decide) (Nat.le_of_ble_eq_true rfl) rfl (xrcv0 (by decide) _ _) (c33 hF (by have := aInLine_lt w A f 3 (A.1 5 i) (A.1 6 i); omega)) rfl ?_
      refine xp_ireturn rfl (by decide) (by decide) (by decide) ?_
      rfl
    · skip
      refine xp_iload rfl rfl ?_
      refine xp_tsw 164 rfl (by omega) (by first | rfl | (rw [if_pos (by omega)]) | (rw [if_neg (by omega)]; rfl)) (by decide) ?_
      refine xp_aload_n rfl rfl ?_
      refine xp_aload_n rfl rfl ?_
      refine xp_aload_n rfl rfl ?_
      refine xp_iload rfl rfl ?_
      refine xp_iload rfl rfl ?_
      refine xp_iload rfl rfl ?_
      refine xp_iv rfl rfl (Nat.le_of_ble_eq_true rfl) (by decide) (by decide) (by decide) (Nat.le_of_ble_eq_true rfl) rfl (xrcv1 (by decide) (by first | assumption | exact hL.t rfl)) (c34_4 hL hF hk (i1 (by omega))) rfl ?_
      refine xp_is rfl rfl rfl (Nat.le_of_ble_eq_true rfl) (by decide) (by decide) (by decide) (Nat.le_of_ble_eq_true rfl) rfl (xrcv0 (by decide) _ _) (c33 hF (by have := aInLine_lt w A f 4 (A.1 5 i) (A.1 6 i); omega)) rfl ?_
      refine xp_ireturn rfl (by decide) (by decide) (by decide) ?_
      rfl
    · have hs1 : 1 ≤ A.1 f 3 := hsz
      refine xp_iload rfl rfl ?_
      refine xp_tsw 164 rfl (by omega) (by first | rfl | (rw [if_pos (by omega)]) | (rw [if_neg (by omega)]; rfl)) (by decide) ?_
      refine xp_aload_n rfl rfl ?_
      refine xp_aload_n rfl rfl ?_
      refine xp_aload_n rfl rfl ?_
      refine xp_iload rfl rfl ?_
      refine xp_iload rfl rfl ?_
      refine xp_iload rfl rfl ?_
      refine xp_iv rfl rfl (Nat.le_of_ble_eq_true rfl) (by decide) (by decide) (by decide) (Nat.le_of_ble_eq_true rfl) rfl (xrcv1 (by decide) (by first | assumption | exact hL.t rfl)) (c34_5 hL hF hk hs1 (i1 (by omega))) rfl ?_
      refine xp_is rfl rfl rfl (Nat.le_of_ble_eq_true rfl) (by decide) (by decide) (by decide) (Nat.le_of_ble_eq_true rfl) rfl (xrcv0 (by decide) _ _) (c33 hF (by have := aInLine_lt w A f 5 (A.1 5 i) (A.1 6 i); omega)) rfl ?_
      refine xp_ireturn rfl (by decide) (by decide) (by decide) ?_
      rfl
    · have hs1 : 1 ≤ A.1 f 3 := hsz
      refine xp_iload rfl rfl ?_
      refine xp_tsw 164 rfl (by omega) (by first | rfl | (rw [if_pos (by omega)]) | (rw [if_neg (by omega)]; rfl)) (by decide) ?_
      refine xp_aload_n rfl rfl ?_
      refine xp_aload_n rfl rfl ?_
      refine xp_aload_n rfl rfl ?_
      refine xp_iload rfl rfl ?_
      refine xp_iload rfl rfl ?_
      refine xp_iload rfl rfl ?_
      refine xp_iv rfl rfl (Nat.le_of_ble_eq_true rfl) (by decide) (by decide) (by decide) (Nat.le_of_ble_eq_true rfl) rfl (xrcv1 (by decide) (by first | assumption | exact hL.t rfl)) (c34_6 hL hF hk hs1) rfl ?_
      refine xp_is rfl rfl rfl (Nat.le_of_ble_eq_true rfl) (by decide) (by decide) (by decide) (Nat.le_of_ble_eq_true rfl) rfl (xrcv0 (by decide) _ _) (c33 hF (by have := aInLine_lt w A f 6 (A.1 5 i) (A.1 6 i); omega)) rfl ?_
      refine xp_ireturn rfl (by decide) (by decide) (by decide) ?_
      rfl
    · have hs1 : 1 ≤ A.1 f 3 := hsz
      refine xp_iload rfl rfl ?_
      refine xp_tsw 164 rfl (by omega) (by first | rfl | (rw [if_pos (by omega)]) | (rw [if_neg (by omega)]; rfl)) (by decide) ?_
      refine xp_aload_n rfl rfl ?_
      refine xp_aload_n rfl rfl ?_
      refine xp_aload_n rfl rfl ?_
      refine xp_iload rfl rfl ?_
      refine xp_iload rfl rfl ?_
      refine xp_iload rfl rfl ?_
      refine xp_iv rfl rfl (Nat.le_of_ble_eq_true rfl) (by decide) (by decide) (by decide) (Nat.le_of_ble_eq_true rfl) rfl (xrcv1 (by decide) (by first | assumption | exact hL.t rfl)) (c34_7 hL hF hk hs1) rfl ?_
      refine xp_is rfl rfl rfl (Nat.le_of_ble_eq_true rfl) (by decide) (by decide) (by decide) (Nat.le_of_ble_eq_true rfl) rfl (xrcv0 (by decide) _ _) (c33 hF (by have := aInLine_lt w A f 7 (A.1 5 i) (A.1 6 i); omega)) rfl ?_
      refine xp_ireturn rfl (by decide) (by decide) (by decide) ?_
      rfl
    · have hs1 : 2 ≤ A.1 f 3 := hsz
      refine xp_iload rfl rfl ?_
      refine xp_tsw 164 rfl (by omega) (by first | rfl | (rw [if_pos (by omega)]) | (rw [if_neg (by omega)]; rfl)) (by decide) ?_
      refine xp_aload_n rfl rfl ?_
      refine xp_aload_n rfl rfl ?_
      refine xp_aload_n rfl rfl ?_
      refine xp_iload rfl rfl ?_
      refine xp_iload rfl rfl ?_
      refine xp_iload rfl rfl ?_
      refine xp_iv rfl rfl (Nat.le_of_ble_eq_true rfl) (by decide) (by decide) (by decide) (Nat.le_of_ble_eq_true rfl) rfl (xrcv1 (by decide) (by first | assumption | exact hL.t rfl)) (c34_8 hL hF hk hs1) rfl ?_
      refine xp_is rfl rfl rfl (Nat.le_of_ble_eq_true rfl) (by decide) (by decide) (by decide) (Nat.le_of_ble_eq_true rfl) rfl (xrcv0 (by decide) _ _) (c33 hF (by have := aInLine_lt w A f 8 (A.1 5 i) (A.1 6 i); omega)) rfl ?_
      refine xp_ireturn rfl (by decide) (by decide) (by decide) ?_
      rfl
    · have hs1 : 2 ≤ A.1 f 3 := hsz
      refine xp_iload rfl rfl ?_
      refine xp_tsw 164 rfl (by omega) (by first | rfl | (rw [if_pos (by omega)]) | (rw [if_neg (by omega)]; rfl)) (by decide) ?_
      refine xp_aload_n rfl rfl ?_
      refine xp_aload_n rfl rfl ?_
      refine xp_aload_n rfl rfl ?_
      refine xp_iload rfl rfl ?_
      refine xp_iload rfl rfl ?_
      refine xp_iload rfl rfl ?_
      refine xp_iv rfl rfl (Nat.le_of_ble_eq_true rfl) (by decide) (by decide) (by decide) (Nat.le_of_ble_eq_true rfl) rfl (xrcv1 (by decide) (by first | assumption | exact hL.t rfl)) (c34_9 hL hF hk hs1) rfl ?_
      refine xp_is rfl rfl rfl (Nat.le_of_ble_eq_true rfl) (by decide) (by decide) (by decide) (Nat.le_of_ble_eq_true rfl) rfl (xrcv0 (by decide) _ _) (c33 hF (by have := aInLine_lt w A f 9 (A.1 5 i) (A.1 6 i); omega)) rfl ?_
      refine xp_ireturn rfl (by decide) (by decide) (by decide) ?_
      rfl
    · have hs1 : 2 ≤ A.1 f 3 := hsz
      refine xp_iload rfl rfl ?_
      refine xp_tsw 164 rfl (by omega) (by first | rfl | (rw [if_pos (by omega)]) | (rw [if_neg (by omega)]; rfl)) (by decide) ?_
      refine xp_aload_n rfl rfl ?_
      refine xp_aload_n rfl rfl ?_
      refine xp_aload_n rfl rfl ?_
      refine xp_iload rfl rfl ?_
      refine xp_iload rfl rfl ?_
      refine xp_iload rfl rfl ?_
      refine xp_iv rfl rfl (Nat.le_of_ble_eq_true rfl) (by decide) (by decide) (by decide) (Nat.le_of_ble_eq_true rfl) rfl (xrcv1 (by decide) (by first | assumption | exact hL.t rfl)) (c34_10 hL hF hk hs1) rfl ?_
      refine xp_is rfl rfl rfl (Nat.le_of_ble_eq_true rfl) (by decide) (by decide) (by decide) (Nat.le_of_ble_eq_true rfl) rfl (xrcv0 (by decide) _ _) (c33 hF (by have := aInLine_lt w A f 10 (A.1 5 i) (A.1 6 i); omega)) rfl ?_
      refine xp_ireturn rfl (by decide) (by decide) (by decide) ?_
      rfl
    · have hs1 : 2 ≤ A.1 f 3 := hsz
      refine xp_iload rfl rfl ?_
      refine xp_tsw 164 rfl (by omega) (by first | rfl | (rw [if_pos (by omega)]) | (rw [if_neg (by omega)]; rfl)) (by decide) ?_
      refine xp_aload_n rfl rfl ?_
      refine xp_aload_n rfl rfl ?_
      refine xp_aload_n rfl rfl ?_
      refine xp_iload rfl rfl ?_
      refine xp_iload rfl rfl ?_
      refine xp_iload rfl rfl ?_
      refine xp_iv rfl rfl (Nat.le_of_ble_eq_true rfl) (by decide) (by decide) (by decide) (Nat.le_of_ble_eq_true rfl) rfl (xrcv1 (by decide) (by first | assumption | exact hL.t rfl)) (c34_11 hL hF hk hs1) rfl ?_
      refine xp_is rfl rfl rfl (Nat.le_of_ble_eq_true rfl) (by decide) (by decide) (by decide) (Nat.le_of_ble_eq_true rfl) rfl (xrcv0 (by decide) _ _) (c33 hF (by have := aInLine_lt w A f 11 (A.1 5 i) (A.1 6 i); omega)) rfl ?_
      refine xp_ireturn rfl (by decide) (by decide) (by decide) ?_
      rfl
    · have hs1 : 2 ≤ A.1 f 3 := hsz
      refine xp_iload rfl rfl ?_
      refine xp_tsw 164 rfl (by omega) (by first | rfl | (rw [if_pos (by omega)]) | (rw [if_neg (by omega)]; rfl)) (by decide) ?_
      refine xp_aload_n rfl rfl ?_
      refine xp_aload_n rfl rfl ?_
      refine xp_aload_n rfl rfl ?_
      refine xp_iload rfl rfl ?_
      refine xp_iload rfl rfl ?_
      refine xp_iload rfl rfl ?_
      refine xp_iv rfl rfl (Nat.le_of_ble_eq_true rfl) (by decide) (by decide) (by decide) (Nat.le_of_ble_eq_true rfl) rfl (xrcv1 (by decide) (by first | assumption | exact hL.t rfl)) (c34_12 hL hF hk hs1) rfl ?_
      refine xp_is rfl rfl rfl (Nat.le_of_ble_eq_true rfl) (by decide) (by decide) (by decide) (Nat.le_of_ble_eq_true rfl) rfl (xrcv0 (by decide) _ _) (c33 hF (by have := aInLine_lt w A f 12 (A.1 5 i) (A.1 6 i); omega)) rfl ?_
      refine xp_ireturn rfl (by decide) (by decide) (by decide) ?_
      rfl
    · have hs1 : 2 ≤ A.1 f 3 := hsz
      refine xp_iload rfl rfl ?_
      refine xp_tsw 164 rfl (by omega) (by first | rfl | (rw [if_pos (by omega)]) | (rw [if_neg (by omega)]; rfl)) (by decide) ?_
      refine xp_aload_n rfl rfl ?_
      refine xp_aload_n rfl rfl ?_
      refine xp_aload_n rfl rfl ?_
      refine xp_iload rfl rfl ?_
      refine xp_iload rfl rfl ?_
      refine xp_iload rfl rfl ?_
      refine xp_iv rfl rfl (Nat.le_of_ble_eq_true rfl) (by decide) (by decide) (by decide) (Nat.le_of_ble_eq_true rfl) rfl (xrcv1 (by decide) (by first | assumption | exact hL.t rfl)) (c34_13 hL hF hk hs1) rfl ?_
      refine xp_is rfl rfl rfl (Nat.le_of_ble_eq_true rfl) (by decide) (by decide) (by decide) (Nat.le_of_ble_eq_true rfl) rfl (xrcv0 (by decide) _ _) (c33 hF (by have := aInLine_lt w A f 13 (A.1 5 i) (A.1 6 i); omega)) rfl ?_
      refine xp_ireturn rfl (by decide) (by decide) (by decide) ?_
      rfl
    · skip
      refine xp_iload rfl rfl ?_
      refine xp_tsw 108 rfl (by omega) (by first | rfl | (rw [if_pos (by omega)]) | (rw [if_neg (by omega)]; rfl)) (by decide) ?_
      refine xp_aload_n rfl rfl ?_
      refine xp_iload rfl rfl ?_
      refine xp_pfi rfl rfl (by decide) (by decide) (by decide) (by first | assumption | exact hL.t rfl) ?_
      refine xp_iconst (n := 0) rfl (by decide) ?_
      refine xp_ireturn rfl (by decide) (by decide) (by decide) ?_
      rfl
    · have hs1 : 1 ≤ A.1 f 3 := hsz
      refine xp_iload rfl rfl ?_
      refine xp_tsw 116 rfl (by omega) (by first | rfl | (rw [if_pos (by omega)]) | (rw [if_neg (by omega)]; rfl)) (by decide) ?_
      refine xp_aload_n rfl rfl ?_
      refine xp_aload_n rfl rfl ?_
      refine xp_iload rfl rfl ?_
      refine xp_iv rfl rfl (Nat.le_of_ble_eq_true rfl) (by decide) (by decide) (by decide) (Nat.le_of_ble_eq_true rfl) rfl (xrcv1 (by decide) (by first | assumption | exact hL.t rfl)) (c40 hL hF hs1 k6 (hk.c (by omega))) rfl ?_
      refine xp_ireturn rfl (by decide) (by decide) (by decide) ?_
      rfl
    · skip
      refine xp_iload rfl rfl ?_
      refine xp_tsw 148 rfl (by omega) (by first | rfl | (rw [if_pos (by omega)]) | (rw [if_neg (by omega)]; rfl)) (by decide) ?_
      refine xp_aload_n rfl rfl ?_
      refine xp_aload_n rfl rfl ?_
      refine xp_aload_n rfl rfl ?_
      refine xp_iload rfl rfl ?_
      refine xp_iload rfl rfl ?_
      refine xp_iload rfl rfl ?_
      refine xp_iv rfl rfl (Nat.le_of_ble_eq_true rfl) (by decide) (by decide) (by decide) (Nat.le_of_ble_eq_true rfl) rfl (xrcv1 (by decide) (by first | assumption | exact hL.t rfl)) (c35_16 hL hF hk h.2.1 hc24) rfl ?_
      refine xp_is rfl rfl rfl (Nat.le_of_ble_eq_true rfl) (by decide) (by decide) (by decide) (Nat.le_of_ble_eq_true rfl) rfl (xrcv0 (by decide) _ _) (c33 hF (by have := aOnObj_lt w A f 16 (A.1 5 i) (A.1 6 i); omega)) rfl ?_
      refine xp_ireturn rfl (by decide) (by decide) (by decide) ?_
      rfl
    · have hs1 : 1 ≤ A.1 f 3 := hsz
      refine xp_iload rfl rfl ?_
      refine xp_tsw 148 rfl (by omega) (by first | rfl | (rw [if_pos (by omega)]) | (rw [if_neg (by omega)]; rfl)) (by decide) ?_
      refine xp_aload_n rfl rfl ?_
      refine xp_aload_n rfl rfl ?_
      refine xp_aload_n rfl rfl ?_
      refine xp_iload rfl rfl ?_
      refine xp_iload rfl rfl ?_
      refine xp_iload rfl rfl ?_
      refine xp_iv rfl rfl (Nat.le_of_ble_eq_true rfl) (by decide) (by decide) (by decide) (Nat.le_of_ble_eq_true rfl) rfl (xrcv1 (by decide) (by first | assumption | exact hL.t rfl)) (c35_17 hL hF hk h.2.1 hs1 (i2 (Or.inl rfl))) rfl ?_
      refine xp_is rfl rfl rfl (Nat.le_of_ble_eq_true rfl) (by decide) (by decide) (by decide) (Nat.le_of_ble_eq_true rfl) rfl (xrcv0 (by decide) _ _) (c33 hF (by have := aOnObj_lt w A f 17 (A.1 5 i) (A.1 6 i); omega)) rfl ?_
      refine xp_ireturn rfl (by decide) (by decide) (by decide) ?_
      rfl
    · have hs1 : 2 ≤ A.1 f 3 := hsz
      refine xp_iload rfl rfl ?_
      refine xp_tsw 148 rfl (by omega) (by first | rfl | (rw [if_pos (by omega)]) | (rw [if_neg (by omega)]; rfl)) (by decide) ?_
      refine xp_aload_n rfl rfl ?_
      refine xp_aload_n rfl rfl ?_
      refine xp_aload_n rfl rfl ?_
      refine xp_iload rfl rfl ?_
      refine xp_iload rfl rfl ?_
      refine xp_iload rfl rfl ?_
      refine xp_iv rfl rfl (Nat.le_of_ble_eq_true rfl) (by decide) (by decide) (by decide) (Nat.le_of_ble_eq_true rfl) rfl (xrcv1 (by decide) (by first | assumption | exact hL.t rfl)) (c35_18 hL hF hk h.2.1 hs1 (i2 (Or.inr rfl))) rfl ?_
      refine xp_is rfl rfl rfl (Nat.le_of_ble_eq_true rfl) (by decide) (by decide) (by decide) (Nat.le_of_ble_eq_true rfl) rfl (xrcv0 (by decide) _ _) (c33 hF (by have := aOnObj_lt w A f 18 (A.1 5 i) (A.1 6 i); omega)) rfl ?_
      refine xp_ireturn rfl (by decide) (by decide) (by decide) ?_
      rfl
    · have hs1 : A.1 6 i ≤ A.1 f 3 := hsz
      refine xp_iload rfl rfl ?_
      refine xp_tsw 148 rfl (by omega) (by first | rfl | (rw [if_pos (by omega)]) | (rw [if_neg (by omega)]; rfl)) (by decide) ?_
      refine xp_aload_n rfl rfl ?_
      refine xp_aload_n rfl rfl ?_
      refine xp_aload_n rfl rfl ?_
      refine xp_iload rfl rfl ?_
      refine xp_iload rfl rfl ?_
      refine xp_iload rfl rfl ?_
      refine xp_iv rfl rfl (Nat.le_of_ble_eq_true rfl) (by decide) (by decide) (by decide) (Nat.le_of_ble_eq_true rfl) rfl (xrcv1 (by decide) (by first | assumption | exact hL.t rfl)) (c35_19 hL hF hk h.2.1 hc24 hs1 (i6 rfl)) rfl ?_
      refine xp_is rfl rfl rfl (Nat.le_of_ble_eq_true rfl) (by decide) (by decide) (by decide) (Nat.le_of_ble_eq_true rfl) rfl (xrcv0 (by decide) _ _) (c33 hF (by have := aOnObj_lt w A f 19 (A.1 5 i) (A.1 6 i); omega)) rfl ?_
      refine xp_ireturn rfl (by decide) (by decide) (by decide) ?_
      rfl
    · skip
      refine xp_iload rfl rfl ?_
      refine xp_tsw 148 rfl (by omega) (by first | rfl | (rw [if_pos (by omega)]) | (rw [if_neg (by omega)]; rfl)) (by decide) ?_
      refine xp_aload_n rfl rfl ?_
      refine xp_aload_n rfl rfl ?_
      refine xp_aload_n rfl rfl ?_
      refine xp_iload rfl rfl ?_
      refine xp_iload rfl rfl ?_
      refine xp_iload rfl rfl ?_
      refine xp_iv rfl rfl (Nat.le_of_ble_eq_true rfl) (by decide) (by decide) (by decide) (Nat.le_of_ble_eq_true rfl) rfl (xrcv1 (by decide) (by first | assumption | exact hL.t rfl)) (c35_20 hL hF hk h.2.1 (i4 rfl)) rfl ?_
      refine xp_is rfl rfl rfl (Nat.le_of_ble_eq_true rfl) (by decide) (by decide) (by decide) (Nat.le_of_ble_eq_true rfl) rfl (xrcv0 (by decide) _ _) (c33 hF (by have := aOnObj_lt w A f 20 (A.1 5 i) (A.1 6 i); omega)) rfl ?_
      refine xp_ireturn rfl (by decide) (by decide) (by decide) ?_
      rfl
    · have hs1 : A.1 2 (A.1 5 i) ≤ A.1 f 3 := hsz
      have ha5 : A.1 5 i < 6 := by have := i3 (by omega); omega
      refine xp_iload rfl rfl ?_
      refine xp_tsw 124 rfl (by omega) (by first | rfl | (rw [if_pos (by omega)]) | (rw [if_neg (by omega)]; rfl)) (by decide) ?_
      refine xp_aload_n rfl rfl ?_
      refine xp_aload_n rfl rfl ?_
      refine xp_aload_n rfl rfl ?_
      refine xp_iload rfl rfl ?_
      refine xp_iconst (n := 0) rfl (by decide) ?_
      refine xp_iv rfl rfl (Nat.le_of_ble_eq_true rfl) (by decide) (by decide) (by decide) (Nat.le_of_ble_eq_true rfl) rfl (xrcv1 (by decide) (by first | assumption | exact hL.t rfl)) (c50 hL hS hF q2 hfs k6 (by omega) ha5 (hn _ ha5)) rfl ?_
      refine xp_ireturn rfl (by decide) (by decide) (by decide) ?_
      rfl
    · have hs1 : 1 ≤ A.1 f 3 := hsz
      refine xp_iload rfl rfl ?_
      refine xp_tsw 134 rfl (by omega) (by first | rfl | (rw [if_pos (by omega)]) | (rw [if_neg (by omega)]; rfl)) (by decide) ?_
      refine xp_aload_n rfl rfl ?_
      refine xp_aload_n rfl rfl ?_
      refine xp_aload_n rfl rfl ?_
      refine xp_iv rfl rfl (Nat.le_of_ble_eq_true rfl) (by decide) (by decide) (by decide) (Nat.le_of_ble_eq_true rfl) rfl (xrcv1 (by decide) (by first | assumption | exact hL.t rfl)) (c51 hL hS hF q2 hfs hs1 k6 (hk.c (by omega)) (fun q => ⟨(hk.o (by omega) (by omega)).1, ((hO _ (hk.o (by omega) (by omega)).1).2.2.1 (by rw [(hk.o (by omega) (by omega)).2]; exact q)).1⟩) hn) rfl ?_
      refine xp_ireturn rfl (by decide) (by decide) (by decide) ?_
      rfl
    · have hs1 : 1 ≤ A.1 f 3 := hsz
      refine xp_iload rfl rfl ?_
      refine xp_tsw 141 rfl (by omega) (by first | rfl | (rw [if_pos (by omega)]) | (rw [if_neg (by omega)]; rfl)) (by decide) ?_
      refine xp_aload_n rfl rfl ?_
      refine xp_aload_n rfl rfl ?_
      refine xp_aload_n rfl rfl ?_
      refine xp_iv rfl rfl (Nat.le_of_ble_eq_true rfl) (by decide) (by decide) (by decide) (Nat.le_of_ble_eq_true rfl) rfl (xrcv1 (by decide) (by first | assumption | exact hL.t rfl)) (c52 hL hS hF hd1 q2 hfs hs1 k6 (fun q => kb (A.1 s 3 - 2) (by omega))) rfl ?_
      refine xp_ireturn rfl (by decide) (by decide) (by decide) ?_
      rfl
    · have hs1 : 1 ≤ A.1 f 3 := hsz
      refine xp_iload rfl rfl ?_
      refine xp_tsw 164 rfl (by omega) (by first | rfl | (rw [if_pos (by omega)]) | (rw [if_neg (by omega)]; rfl)) (by decide) ?_
      refine xp_aload_n rfl rfl ?_
      refine xp_aload_n rfl rfl ?_
      refine xp_aload_n rfl rfl ?_
      refine xp_iload rfl rfl ?_
      refine xp_iload rfl rfl ?_
      refine xp_iload rfl rfl ?_
      refine xp_iv rfl rfl (Nat.le_of_ble_eq_true rfl) (by decide) (by decide) (by decide) (Nat.le_of_ble_eq_true rfl) rfl (xrcv1 (by decide) (by first | assumption | exact hL.t rfl)) (c34_24 hL hF hk hs1) rfl ?_
      refine xp_is rfl rfl rfl (Nat.le_of_ble_eq_true rfl) (by decide) (by decide) (by decide) (Nat.le_of_ble_eq_true rfl) rfl (xrcv0 (by decide) _ _) (c33 hF (by have := aInLine_lt w A f 24 (A.1 5 i) (A.1 6 i); omega)) rfl ?_
      refine xp_ireturn rfl (by decide) (by decide) (by decide) ?_
      rfl
    · have hs1 : 1 ≤ A.1 f 3 := hsz
      refine xp_iload rfl rfl ?_
      refine xp_tsw 164 rfl (by omega) (by first | rfl | (rw [if_pos (by omega)]) | (rw [if_neg (by omega)]; rfl)) (by decide) ?_
      refine xp_aload_n rfl rfl ?_
      refine xp_aload_n rfl rfl ?_
      refine xp_aload_n rfl rfl ?_
      refine xp_iload rfl rfl ?_
      refine xp_iload rfl rfl ?_
      refine xp_iload rfl rfl ?_
      refine xp_iv rfl rfl (Nat.le_of_ble_eq_true rfl) (by decide) (by decide) (by decide) (Nat.le_of_ble_eq_true rfl) rfl (xrcv1 (by decide) (by first | assumption | exact hL.t rfl)) (c34_25 hL hF hk hs1 hsd) rfl ?_
      refine xp_is rfl rfl rfl (Nat.le_of_ble_eq_true rfl) (by decide) (by decide) (by decide) (Nat.le_of_ble_eq_true rfl) rfl (xrcv0 (by decide) _ _) (c33 hF (by have := aInLine_lt w A f 25 (A.1 5 i) (A.1 6 i); omega)) rfl ?_
      refine xp_ireturn rfl (by decide) (by decide) (by decide) ?_
      rfl
    · have hs1 : A.1 2 (A.1 5 i) ≤ A.1 f 3 := hsz
      have ha5 : A.1 5 i < 6 := by have := i3 (by omega); omega
      refine xp_iload rfl rfl ?_
      refine xp_tsw 164 rfl (by omega) (by first | rfl | (rw [if_pos (by omega)]) | (rw [if_neg (by omega)]; rfl)) (by decide) ?_
      refine xp_aload_n rfl rfl ?_
      refine xp_aload_n rfl rfl ?_
      refine xp_aload_n rfl rfl ?_
      refine xp_iload rfl rfl ?_
      refine xp_iload rfl rfl ?_
      refine xp_iload rfl rfl ?_
      refine xp_iv rfl rfl (Nat.le_of_ble_eq_true rfl) (by decide) (by decide) (by decide) (Nat.le_of_ble_eq_true rfl) rfl (xrcv1 (by decide) (by first | assumption | exact hL.t rfl)) (c34_26 hL hF hk hc3 (by omega) (by omega) ha5 (hn _ ha5) hs1) rfl ?_
      refine xp_is rfl rfl rfl (Nat.le_of_ble_eq_true rfl) (by decide) (by decide) (by decide) (Nat.le_of_ble_eq_true rfl) rfl (xrcv0 (by decide) _ _) (c33 hF (by have := aInLine_lt w A f 26 (A.1 5 i) (A.1 6 i); omega)) rfl ?_
      refine xp_ireturn rfl (by decide) (by decide) (by decide) ?_
      rfl
    · skip
      refine xp_iload rfl rfl ?_
      refine xp_tsw 164 rfl (by omega) (by first | rfl | (rw [if_pos (by omega)]) | (rw [if_neg (by omega)]; rfl)) (by decide) ?_
      refine xp_aload_n rfl rfl ?_
      refine xp_aload_n rfl rfl ?_
      refine xp_aload_n rfl rfl ?_
      refine xp_iload rfl rfl ?_
      refine xp_iload rfl rfl ?_
      refine xp_iload rfl rfl ?_
      refine xp_iv rfl rfl (Nat.le_of_ble_eq_true rfl) (by decide) (by decide) (by decide) (Nat.le_of_ble_eq_true rfl) rfl (xrcv1 (by decide) (by first | assumption | exact hL.t rfl)) (c34_27 hL hF hk) rfl ?_
      refine xp_is rfl rfl rfl (Nat.le_of_ble_eq_true rfl) (by decide) (by decide) (by decide) (Nat.le_of_ble_eq_true rfl) rfl (xrcv0 (by decide) _ _) (c33 hF (by have := aInLine_lt w A f 27 (A.1 5 i) (A.1 6 i); omega)) rfl ?_
      refine xp_ireturn rfl (by decide) (by decide) (by decide) ?_
      rfl
  · skip
    rw [if_pos (by omega)]
    refine xp_bipush (n := 6) rfl (by decide) ?_
    refine xp_ireturn rfl (by decide) (by decide) (by decide) ?_
    rfl
theorem l31 {z : Nat} {T : Nat → Option xT} {R : Nat → Nat → Option Nat} {A : xQ} {s e w : Nat} (hL : xLay T R w) (hS : xSt0 T R s) (h5 : A.1 s 3 ≤ 5) (hP : POk A) (hF : ∀ k, k < A.1 s 3 → A.1 (s + 5 + 4 * k) 1 < 6 ∧ A.1 (s + 5 + 4 * k) 2 ≤ 31) (he : e < 32) : ∀ d, d ≤ A.1 s 3 → xP 31 5 [(0, .ref 11), (1, .ref s), (2, .int (nI e)), (3, .int (nI d))] [] 0 0 (xm z T R A) (fun r => r = (.inr none, xm z T R (aRaise A s e d))) := by
  have hS0 := hS
  obtain ⟨s1, s2, s3, s4, s5, s6⟩ := hS
  intro d
  induction d with
  | zero =>
    intro hd
    refine xp_iload_n rfl rfl ?_
    refine xp_ifle 78 rfl (by decide) (by omega) (fun h6 => ?_) (fun h6 => ?_)
    · skip
      refine xp_aload_n rfl rfl ?_
      refine xp_iconst (n := 2) rfl (by decide) ?_
      refine xp_iload_n rfl rfl ?_
      refine xp_iv rfl rfl (Nat.le_of_ble_eq_true rfl) (by decide) (by decide) (by decide) (Nat.le_of_ble_eq_true rfl) rfl (xrcv1 (by decide) (by first | assumption | exact hL.t rfl)) (c94 hS0) rfl ?_
      refine xp_return rfl (by decide) (by decide) (by decide) ?_
      rfl
    · exfalso; omega
  | succ d ih =>
    intro hd
    obtain ⟨g1, g2⟩ := hF d (by omega)
    obtain ⟨x1, x2⟩ := s6 d (by omega)
    obtain ⟨p1, p2, p3, p4, p5⟩ := hP _ g1
    have x3 := x2.1
    have hb := hP.hnd g1 (A.1 (s + 5 + 4 * d) 2)
    unfold aRaise
    refine xp_iload_n rfl rfl ?_
    refine xp_ifle 78 rfl (by decide) (by omega) (fun h6 => ?_) (fun h6 => ?_)
    · exfalso; omega
    · skip
      refine xp_aload_n rfl rfl ?_
      refine xp_gfa rfl rfl (by decide) (by decide) (by first | assumption | exact hL.t rfl) (by first | assumption | exact hL.r rfl | exact hL.2.2.2.2.2) ?_
      refine xp_iload_n rfl rfl ?_
      refine xp_iconst (n := 1) rfl (by decide) ?_
      refine xp_isub rfl (by omega) ?_
      rw [Nat.add_sub_cancel]
      refine xp_aald rfl (by first | assumption | exact hL.t rfl) (by decide) (by decide) (by omega) (by omega) (by first | assumption | exact hL.r rfl | exact hL.2.2.2.2.2) ?_
      refine xp_astore rfl (by decide) ?_
      refine xp_aload_n rfl rfl ?_
      refine xp_gfa rfl rfl (by decide) (by decide) (by first | assumption | exact hL.t rfl) (by first | assumption | exact hL.r rfl | exact hL.2.2.2.2.2) ?_
      refine xp_aload rfl rfl ?_
      refine xp_gfi rfl rfl (by decide) (by decide) (by first | assumption | exact hL.t rfl) ?_
      refine xp_aload rfl rfl ?_
      refine xp_gfi rfl rfl (by decide) (by decide) (by first | assumption | exact hL.t rfl) ?_
      refine xp_iv rfl rfl (Nat.le_of_ble_eq_true rfl) (by decide) (by decide) (by decide) (Nat.le_of_ble_eq_true rfl) rfl (xrcv1 (by decide) (by first | assumption | exact hL.t rfl)) (c75 hL g1 (by omega) p3 p5) rfl ?_
      refine xp_istore rfl (by decide) ?_
      refine xp_iload rfl rfl ?_
      refine xp_iconst (n := 4294967295) rfl (by decide) ?_
      refine xp_iceq 72 rfl (by decide) (by omega) (by omega) (fun h41 => ?_) (fun h41 => ?_)
      · skip
        refine xp_iinc rfl rfl (by decide) (nI_dec (by omega)) ?_
        refine xp_goto 5 rfl (by decide) ?_
        rw [if_pos h41]
        refine xp_weak [(0, .ref 11), (1, .ref s), (2, .int (nI e)), (3, .int (nI d))] (xle_cons rfl (xle_cons rfl (xle_cons rfl (xle_cons rfl (xle_nil _))))) (by simp [xnd]) ?_
        exact ih (by omega)
      · skip
        rw [if_neg h41]
        refine xp_aload_n rfl rfl ?_
        refine xp_iload_n rfl rfl ?_
        refine xp_pfi rfl rfl (by decide) (by decide) (by decide) (by first | assumption | exact hL.t rfl) ?_
        refine xp_aload rfl rfl ?_
        refine xp_iload rfl rfl ?_
        refine xp_pfi rfl rfl (by decide) (by decide) (by decide) (by first | assumption | exact hL.t rfl) ?_
        refine xp_aload rfl rfl ?_
        refine xp_iconst (n := 0) rfl (by decide) ?_
        refine xp_pfi rfl rfl (by decide) (by decide) (by decide) (by first | assumption | exact hL.t rfl) ?_
        refine xp_aload rfl rfl ?_
        refine xp_iconst (n := 1) rfl (by decide) ?_
        refine xp_iload_n rfl rfl ?_
        refine xp_i2l rfl ?_
        rw [nI_l (by omega)]
        refine xp_iv rfl rfl (Nat.le_of_ble_eq_true rfl) (by decide) (by decide) (by decide) (Nat.le_of_ble_eq_true rfl) rfl (xrcv1 (by decide) (by first | assumption | exact hL.t rfl)) (c55 x2 (by rw [xsI_eq]; omega)) rfl ?_
        refine xp_pop rfl rfl ?_
        refine xp_return rfl (by decide) (by decide) (by decide) ?_
        rfl
theorem c31 {z : Nat} {T : Nat → Option xT} {R : Nat → Nat → Option Nat} {A : xQ} {s e w : Nat} (hL : xLay T R w) (hS : xSt0 T R s) (h5 : A.1 s 3 ≤ 5) (hP : POk A) (hF : ∀ k, k < A.1 s 3 → A.1 (s + 5 + 4 * k) 1 < 6 ∧ A.1 (s + 5 + 4 * k) 2 ≤ 31) (he : e < 32) : xF 31 [.ref 11, .ref s, .int (nI e)] (xm z T R A) (.inr none, xm z T R (aRaise A s e (A.1 s 3))) := by
  have s1 := hS.1
  refine xF_eq (xF_p (Nat.le_of_ble_eq_true rfl) ?_)
  refine xp_aload_n rfl rfl ?_
  refine xp_gfi rfl rfl (by decide) (by decide) (by first | assumption | exact hL.t rfl) ?_
  refine xp_istore_n rfl (by decide) ?_
  refine xp_weak [(0, .ref 11), (1, .ref s), (2, .int (nI e)), (3, .int (nI (A.1 s 3)))] (xle_cons rfl (xle_cons rfl (xle_cons rfl (xle_cons rfl (xle_nil _))))) (by simp [xnd]) ?_
  exact l31 hL hS h5 hP hF he _ (Nat.le_refl _)
def aTick (w : Nat) (A : xQ) : xQ := xsI (xsI A 11 4 (A.1 11 4 + 1)) w 4 (A.1 w 4 + 1)
def aFin (w s i : Nat) (A : xQ) : xQ := if (i ≠ 4294967295 ∧ A.1 4 i = 27) ∨ 4 ≤ A.1 w 4 + 1 ∨ A.1 s 2 ≠ 0 then aPass w (aTick w A) else aTick w A
def aSt (w : Nat) (A : xQ) : Nat := w + 11 + 25 * A.1 w 3
def aFr (w : Nat) (A : xQ) : Nat := aSt w A + 5 + 4 * (A.1 (aSt w A) 3 - 1)
def aIx (w : Nat) (A : xQ) : Nat := aAt A (A.1 (aFr w A) 1) (A.1 (aFr w A) 2)
def aRs (w : Nat) (A : xQ) : Nat × xQ := if aIx w A = 4294967295 then (7, A) else aPerf w A (aSt w A) (aFr w A) (aIx w A)
def aErr (s : Nat) (r : Nat × xQ) : xQ := if r.1 = 0 then r.2 else aRaise r.2 s r.1 (r.2.1 s 3)
def aStep (w : Nat) (A : xQ) : xQ := aFin w (aSt w A) (aIx w A) (aErr (aSt w A) (aRs w A))
theorem aTick_r (w : Nat) (A : xQ) (hw : w = 12 ∨ w = 103) : (∀ a j, (a ≠ 11 ∨ j ≠ 4) → (a ≠ w ∨ j ≠ 4) → (aTick w A).1 a j = A.1 a j) ∧ (aTick w A).2 = A.2 ∧ (aTick w A).1 11 4 = A.1 11 4 + 1 ∧ (aTick w A).1 w 4 = A.1 w 4 + 1 := by
  unfold aTick
  refine ⟨fun a j h1 h2 => by rw [xsI_ne h2, xsI_ne h1], rfl, ?_, xsI_eq⟩
  rw [xsI_ne (Or.inl (by omega)), xsI_eq]
theorem l30 {z : Nat} {T : Nat → Option xT} {R : Nat → Nat → Option Nat} {A : xQ} {s i t w : Nat} (hL : xLay T R w) (h : COk w A) (ht : t < A.1 w 2) (hs : s = w + 11 + 25 * t) (hi : i = 4294967295 ∨ i < 180) (ho : i < 180 → A.1 4 i ≤ 27) (hd : A.1 w 4 ≤ 3) : xP 30 68 [(0, .ref 11), (1, .ref s), (3, .int (nI i))] [] 0 0 (xm z T R A) (fun r => r = (.inr none, xm z T R (aFin w s i A))) := by
  have h0 := h.1
  have hW := hL.w hL.1
  have hc3 := h.cnt
  have w1 := hW.1
  obtain ⟨r1, hS⟩ := hW.2.2.2.2.2 t (by omega)
  rw [← hs] at r1 hS
  have s1 := hS.1
  have hsx := (h.st ht).1
  rw [← hs] at hsx
  obtain ⟨k1, k2, k3, k4⟩ := aTick_r w A h0
  have kd : (xsI A 11 4 (A.1 11 4 + 1)).1 w 4 = A.1 w 4 := xsI_ne (Or.inl (by omega))
  have ko : (aTick w A).1 4 i = A.1 4 i := k1 _ _ (by omega) (by omega)
  have ks : (aTick w A).1 s 2 = A.1 s 2 := k1 _ _ (by omega) (by omega)
  have kst : ∀ t, t < (aTick w A).1 w 2 → (aTick w A).1 (w + 11 + 25 * t) 2 < 2 ^ 31 := by
    intro t ht
    rw [k1 w 2 (by omega) (by omega)] at ht
    rw [k1 _ _ (by omega) (by omega)]
    have := (h.st ht).1
    omega
  have hps := c100 (z := z) (A := aTick w A) hW (by rw [k1 w 2 (by omega) (by omega)]; exact hc3) (by rw [k1 w 3 (by omega) (by omega)]; exact h.2.2.2.2.2) kst
  unfold aFin
  refine xp_aload_n rfl rfl ?_
  refine xp_dup rfl rfl ?_
  refine xp_gfi rfl rfl (by decide) (by decide) (by first | assumption | exact hL.t rfl) ?_
  refine xp_iconst (n := 1) rfl (by decide) ?_
  refine xp_iadd rfl ?_
  refine xp_pfi rfl rfl (by decide) (by decide) (by decide) (by first | assumption | exact hL.t rfl) ?_
  refine xp_aload_n rfl rfl ?_
  refine xp_gfa rfl rfl (by decide) (by decide) (by first | assumption | exact hL.t rfl) (by first | assumption | exact hL.r rfl | exact hL.2.2.2.2.2) ?_
  refine xp_dup rfl rfl ?_
  refine xp_gfi rfl rfl (by decide) (by decide) (by first | assumption | exact hL.t rfl) ?_
  refine xp_iconst (n := 1) rfl (by decide) ?_
  refine xp_iadd rfl ?_
  refine xp_pfi rfl rfl (by decide) (by decide) (by decide) (by first | assumption | exact hL.t rfl) ?_
  rw [kd]
  show xP _ _ _ _ _ _ (xm _ _ _ (aTick w A)) _
  refine xp_iload_n rfl rfl ?_
  refine xp_iconst (n := 4294967295) rfl (by decide) ?_
  refine xp_iceq 114 rfl (by decide) (by omega) (by omega) (fun h93 => ?_) (fun h93 => ?_)
  · skip
    refine xp_iconst (n := 0) rfl (by decide) ?_
    refine xp_istore rfl (by decide) ?_
    refine xp_iload rfl rfl ?_
    refine xp_ifne 140 rfl (by decide) (by omega) (fun h119 => ?_) (fun h119 => ?_)
    · skip
      refine xp_aload_n rfl rfl ?_
      refine xp_gfa rfl rfl (by decide) (by decide) (by first | assumption | exact hL.t rfl) (by first | assumption | exact hL.r rfl | exact hL.2.2.2.2.2) ?_
      refine xp_iv rfl rfl (Nat.le_of_ble_eq_true rfl) (by decide) (by decide) (by decide) (Nat.le_of_ble_eq_true rfl) rfl (xrcv1 (by decide) (by first | assumption | exact hL.t rfl)) (hps) rfl ?_
      refine xp_return rfl (by decide) (by decide) (by decide) ?_
      first | (exfalso; omega) | (rw [if_pos (by omega)]) | (rw [if_neg (by omega)])
    · skip
      refine xp_aload_n rfl rfl ?_
      refine xp_gfa rfl rfl (by decide) (by decide) (by first | assumption | exact hL.t rfl) (by first | assumption | exact hL.r rfl | exact hL.2.2.2.2.2) ?_
      refine xp_gfi rfl rfl (by decide) (by decide) (by first | assumption | exact hL.t rfl) ?_
      refine xp_iconst (n := 4) rfl (by decide) ?_
      refine xp_icge 140 rfl (by decide) (by first | omega | (rw [k4]; omega)) (by first | omega | (rw [k4]; omega)) (fun h130 => ?_) (fun h130 => ?_)
      · skip
        rw [k4] at h130
        refine xp_aload_n rfl rfl ?_
        refine xp_gfa rfl rfl (by decide) (by decide) (by first | assumption | exact hL.t rfl) (by first | assumption | exact hL.r rfl | exact hL.2.2.2.2.2) ?_
        refine xp_iv rfl rfl (Nat.le_of_ble_eq_true rfl) (by decide) (by decide) (by decide) (Nat.le_of_ble_eq_true rfl) rfl (xrcv1 (by decide) (by first | assumption | exact hL.t rfl)) (hps) rfl ?_
        refine xp_return rfl (by decide) (by decide) (by decide) ?_
        first | (exfalso; omega) | (rw [if_pos (by omega)]) | (rw [if_neg (by omega)])
      · skip
        rw [k4] at h130
        refine xp_aload_n rfl rfl ?_
        refine xp_gfi rfl rfl (by decide) (by decide) (by first | assumption | exact hL.t rfl) ?_
        refine xp_ifeq 147 rfl (by decide) (by rw [ks]; omega) (fun h137 => ?_) (fun h137 => ?_)
        · skip
          rw [ks] at h137
          refine xp_return rfl (by decide) (by decide) (by decide) ?_
          first | (exfalso; omega) | (rw [if_pos (by omega)]) | (rw [if_neg (by omega)])
        · skip
          rw [ks] at h137
          refine xp_aload_n rfl rfl ?_
          refine xp_gfa rfl rfl (by decide) (by decide) (by first | assumption | exact hL.t rfl) (by first | assumption | exact hL.r rfl | exact hL.2.2.2.2.2) ?_
          refine xp_iv rfl rfl (Nat.le_of_ble_eq_true rfl) (by decide) (by decide) (by decide) (Nat.le_of_ble_eq_true rfl) rfl (xrcv1 (by decide) (by first | assumption | exact hL.t rfl)) (hps) rfl ?_
          refine xp_return rfl (by decide) (by decide) (by decide) ?_
          first | (exfalso; omega) | (rw [if_pos (by omega)]) | (rw [if_neg (by omega)])
  · skip
    refine xp_aload_n rfl rfl ?_
    refine xp_gfa rfl rfl (by decide) (by decide) (by first | assumption | exact hL.t rfl) (by first | assumption | exact hL.r rfl | exact hL.2.2.2.2.2) ?_
    refine xp_gfa rfl rfl (by decide) (by decide) (by first | assumption | exact hL.t rfl) (by first | assumption | exact hL.r rfl | exact hL.2.2.2.2.2) ?_
    refine xp_iload_n rfl rfl ?_
    refine xp_iald rfl (by first | assumption | exact hL.t rfl) (by omega) (by omega) ?_
    rw [ko]
    refine xp_bipush (n := 27) rfl (by decide) ?_
    refine xp_icne 114 rfl (by decide) (by omega) (by omega) (fun h107 => ?_) (fun h107 => ?_)
    · skip
      refine xp_iconst (n := 0) rfl (by decide) ?_
      refine xp_istore rfl (by decide) ?_
      refine xp_iload rfl rfl ?_
      refine xp_ifne 140 rfl (by decide) (by omega) (fun h119 => ?_) (fun h119 => ?_)
      · skip
        refine xp_aload_n rfl rfl ?_
        refine xp_gfa rfl rfl (by decide) (by decide) (by first | assumption | exact hL.t rfl) (by first | assumption | exact hL.r rfl | exact hL.2.2.2.2.2) ?_
        refine xp_iv rfl rfl (Nat.le_of_ble_eq_true rfl) (by decide) (by decide) (by decide) (Nat.le_of_ble_eq_true rfl) rfl (xrcv1 (by decide) (by first | assumption | exact hL.t rfl)) (hps) rfl ?_
        refine xp_return rfl (by decide) (by decide) (by decide) ?_
        first | (exfalso; omega) | (rw [if_pos (by omega)]) | (rw [if_neg (by omega)])
      · skip
        refine xp_aload_n rfl rfl ?_
        refine xp_gfa rfl rfl (by decide) (by decide) (by first | assumption | exact hL.t rfl) (by first | assumption | exact hL.r rfl | exact hL.2.2.2.2.2) ?_
        refine xp_gfi rfl rfl (by decide) (by decide) (by first | assumption | exact hL.t rfl) ?_
        refine xp_iconst (n := 4) rfl (by decide) ?_
        refine xp_icge 140 rfl (by decide) (by first | omega | (rw [k4]; omega)) (by first | omega | (rw [k4]; omega)) (fun h130 => ?_) (fun h130 => ?_)
        · skip
          rw [k4] at h130
          refine xp_aload_n rfl rfl ?_
          refine xp_gfa rfl rfl (by decide) (by decide) (by first | assumption | exact hL.t rfl) (by first | assumption | exact hL.r rfl | exact hL.2.2.2.2.2) ?_
          refine xp_iv rfl rfl (Nat.le_of_ble_eq_true rfl) (by decide) (by decide) (by decide) (Nat.le_of_ble_eq_true rfl) rfl (xrcv1 (by decide) (by first | assumption | exact hL.t rfl)) (hps) rfl ?_
          refine xp_return rfl (by decide) (by decide) (by decide) ?_
          first | (exfalso; omega) | (rw [if_pos (by omega)]) | (rw [if_neg (by omega)])
        · skip
          rw [k4] at h130
          refine xp_aload_n rfl rfl ?_
          refine xp_gfi rfl rfl (by decide) (by decide) (by first | assumption | exact hL.t rfl) ?_
          refine xp_ifeq 147 rfl (by decide) (by rw [ks]; omega) (fun h137 => ?_) (fun h137 => ?_)
          · skip
            rw [ks] at h137
            refine xp_return rfl (by decide) (by decide) (by decide) ?_
            first | (exfalso; omega) | (rw [if_pos (by omega)]) | (rw [if_neg (by omega)])
          · skip
            rw [ks] at h137
            refine xp_aload_n rfl rfl ?_
            refine xp_gfa rfl rfl (by decide) (by decide) (by first | assumption | exact hL.t rfl) (by first | assumption | exact hL.r rfl | exact hL.2.2.2.2.2) ?_
            refine xp_iv rfl rfl (Nat.le_of_ble_eq_true rfl) (by decide) (by decide) (by decide) (Nat.le_of_ble_eq_true rfl) rfl (xrcv1 (by decide) (by first | assumption | exact hL.t rfl)) (hps) rfl ?_
            refine xp_return rfl (by decide) (by decide) (by decide) ?_
            first | (exfalso; omega) | (rw [if_pos (by omega)]) | (rw [if_neg (by omega)])
    · skip
      refine xp_iconst (n := 1) rfl (by decide) ?_
      refine xp_goto 115 rfl (by decide) ?_
      refine xp_istore rfl (by decide) ?_
      refine xp_iload rfl rfl ?_
      refine xp_ifne 140 rfl (by decide) (by omega) (fun h119 => ?_) (fun h119 => ?_)
      · skip
        refine xp_aload_n rfl rfl ?_
        refine xp_gfa rfl rfl (by decide) (by decide) (by first | assumption | exact hL.t rfl) (by first | assumption | exact hL.r rfl | exact hL.2.2.2.2.2) ?_
        refine xp_iv rfl rfl (Nat.le_of_ble_eq_true rfl) (by decide) (by decide) (by decide) (Nat.le_of_ble_eq_true rfl) rfl (xrcv1 (by decide) (by first | assumption | exact hL.t rfl)) (hps) rfl ?_
        refine xp_return rfl (by decide) (by decide) (by decide) ?_
        first | (exfalso; omega) | (rw [if_pos (by omega)]) | (rw [if_neg (by omega)])
      · skip
        refine xp_aload_n rfl rfl ?_
        refine xp_gfa rfl rfl (by decide) (by decide) (by first | assumption | exact hL.t rfl) (by first | assumption | exact hL.r rfl | exact hL.2.2.2.2.2) ?_
        refine xp_gfi rfl rfl (by decide) (by decide) (by first | assumption | exact hL.t rfl) ?_
        refine xp_iconst (n := 4) rfl (by decide) ?_
        refine xp_icge 140 rfl (by decide) (by first | omega | (rw [k4]; omega)) (by first | omega | (rw [k4]; omega)) (fun h130 => ?_) (fun h130 => ?_)
        · skip
          rw [k4] at h130
          refine xp_aload_n rfl rfl ?_
          refine xp_gfa rfl rfl (by decide) (by decide) (by first | assumption | exact hL.t rfl) (by first | assumption | exact hL.r rfl | exact hL.2.2.2.2.2) ?_
          refine xp_iv rfl rfl (Nat.le_of_ble_eq_true rfl) (by decide) (by decide) (by decide) (Nat.le_of_ble_eq_true rfl) rfl (xrcv1 (by decide) (by first | assumption | exact hL.t rfl)) (hps) rfl ?_
          refine xp_return rfl (by decide) (by decide) (by decide) ?_
          first | (exfalso; omega) | (rw [if_pos (by omega)]) | (rw [if_neg (by omega)])
        · skip
          rw [k4] at h130
          refine xp_aload_n rfl rfl ?_
          refine xp_gfi rfl rfl (by decide) (by decide) (by first | assumption | exact hL.t rfl) ?_
          refine xp_ifeq 147 rfl (by decide) (by rw [ks]; omega) (fun h137 => ?_) (fun h137 => ?_)
          · skip
            rw [ks] at h137
            refine xp_return rfl (by decide) (by decide) (by decide) ?_
            first | (exfalso; omega) | (rw [if_pos (by omega)]) | (rw [if_neg (by omega)])
          · skip
            rw [ks] at h137
            refine xp_aload_n rfl rfl ?_
            refine xp_gfa rfl rfl (by decide) (by decide) (by first | assumption | exact hL.t rfl) (by first | assumption | exact hL.r rfl | exact hL.2.2.2.2.2) ?_
            refine xp_iv rfl rfl (Nat.le_of_ble_eq_true rfl) (by decide) (by decide) (by decide) (Nat.le_of_ble_eq_true rfl) rfl (xrcv1 (by decide) (by first | assumption | exact hL.t rfl)) (hps) rfl ?_
            refine xp_return rfl (by decide) (by decide) (by decide) ?_
            first | (exfalso; omega) | (rw [if_pos (by omega)]) | (rw [if_neg (by omega)])
theorem c30 {z : Nat} {T : Nat → Option xT} {R : Nat → Nat → Option Nat} {A : xQ} {w : Nat} (hL : xLay T R w) (h : COk w A) (ht : A.1 w 3 < A.1 w 2) (hst : A.1 (aSt w A) 2 = 0) (hd : A.1 w 4 ≤ 3) (hsd : A.1 11 3 < 2 ^ 31) : xF 30 [.ref 11] (xm z T R A) (.inr none, xm z T R (aStep w A)) := by
  have h0 := h.1
  have hW := hL.w hL.1
  have hc3 := h.cnt
  have w1 := hW.1
  have w2 := hW.2.1
  have w4 := hW.2.2.2.1
  obtain ⟨r1, hS⟩ := hW.2.2.2.2.2 (A.1 w 3) (by omega)
  have hs : aSt w A = w + 11 + 25 * A.1 w 3 := rfl
  rw [← hs] at r1 hS
  have s1 := hS.1
  have hSk := h.st ht
  rw [← hs] at hSk
  obtain ⟨q1, q2, q3, q4, q5, q6, q7⟩ := hSk
  have hd1 := q3 hst
  have hff : aFr w A = aSt w A + 5 + 4 * (A.1 (aSt w A) 3 - 1) := rfl
  have hfs : aFr w A + 4 = aSt w A + 5 + 4 * A.1 (aSt w A) 3 := by omega
  have hk := q7 (A.1 (aSt w A) 3 - 1) (by omega)
  rw [← hff] at hk
  have hF := (hS.2.2.2.2.2 (A.1 (aSt w A) 3 - 1) (by omega)).2
  rw [← hff] at hF
  have f1 := hF.1
  obtain ⟨p1, p2, p3, p4, p5⟩ := h.2.2.1 _ hk.1
  have kp := hk.2.1
  have hix : aIx w A = aAt A (A.1 (aFr w A) 1) (A.1 (aFr w A) 2) := rfl
  unfold aStep
  by_cases hi : aIx w A = 4294967295
  · have er : aRs w A = (7, A) := by unfold aRs; rw [if_pos hi]
    have ee : aErr (aSt w A) (aRs w A) = aRaise A (aSt w A) 7 (A.1 (aSt w A) 3) := by rw [er]; rfl
    rw [ee]
    obtain ⟨g1, g2⟩ := h.raise (e := 7) ht hs (by omega) (Or.inl hst) _ (Nat.le_refl _)
    have gc := g2.ch h0 (by omega)
    refine xF_eq (xF_p (Nat.le_of_ble_eq_true rfl) ?_)
    refine xp_aload_n rfl rfl ?_
    refine xp_gfa rfl rfl (by decide) (by decide) (by first | assumption | exact hL.t rfl) (by first | assumption | exact hL.r rfl | exact hL.2.2.2.2.2) ?_
    refine xp_gfa rfl rfl (by decide) (by decide) (by first | assumption | exact hL.t rfl) (by first | assumption | exact hL.r rfl | exact hL.2.2.2.2.2) ?_
    refine xp_aload_n rfl rfl ?_
    refine xp_gfa rfl rfl (by decide) (by decide) (by first | assumption | exact hL.t rfl) (by first | assumption | exact hL.r rfl | exact hL.2.2.2.2.2) ?_
    refine xp_gfi rfl rfl (by decide) (by decide) (by first | assumption | exact hL.t rfl) ?_
    refine xp_aald rfl (by first | assumption | exact hL.t rfl) (by decide) (by decide) (by omega) (by omega) (by first | assumption | exact hL.r rfl | exact hL.2.2.2.2.2) ?_
    refine xp_astore_n rfl (by decide) ?_
    refine xp_aload_n rfl rfl ?_
    refine xp_iv rfl rfl (Nat.le_of_ble_eq_true rfl) (by decide) (by decide) (by decide) (Nat.le_of_ble_eq_true rfl) rfl (xrcv1 (by decide) (by first | assumption | exact hL.t rfl)) (c96 hS hd1 q2) rfl ?_
    rw [← hff]
    refine xp_astore_n rfl (by decide) ?_
    refine xp_aload_n rfl rfl ?_
    refine xp_gfa rfl rfl (by decide) (by decide) (by first | assumption | exact hL.t rfl) (by first | assumption | exact hL.r rfl | exact hL.2.2.2.2.2) ?_
    refine xp_aload_n rfl rfl ?_
    refine xp_gfi rfl rfl (by decide) (by decide) (by first | assumption | exact hL.t rfl) ?_
    refine xp_aload_n rfl rfl ?_
    refine xp_gfi rfl rfl (by decide) (by decide) (by first | assumption | exact hL.t rfl) ?_
    refine xp_iv rfl rfl (Nat.le_of_ble_eq_true rfl) (by decide) (by decide) (by decide) (Nat.le_of_ble_eq_true rfl) rfl (xrcv1 (by decide) (by first | assumption | exact hL.t rfl)) (c74 hL hk.1 (by omega) (by omega)) rfl ?_
    rw [← hix]
    refine xp_istore_n rfl (by decide) ?_
    refine xp_iload_n rfl rfl ?_
    refine xp_iconst (n := 4294967295) rfl (by decide) ?_
    refine xp_icne 47 rfl (by decide) (by omega) (by omega) (fun h39 => ?_) (fun h39 => ?_)
    · exact absurd hi h39
    · skip
      refine xp_bipush (n := 7) rfl (by decide) ?_
      refine xp_goto 54 rfl (by decide) ?_
      refine xp_istore rfl (by decide) ?_
      refine xp_iload rfl rfl ?_
      refine xp_ifeq 68 rfl (by decide) (by omega) (fun h58 => ?_) (fun h58 => ?_)
      · exfalso; omega
      · skip
        refine xp_aload_n rfl rfl ?_
        refine xp_aload_n rfl rfl ?_
        refine xp_iload rfl rfl ?_
        refine xp_iv rfl rfl (Nat.le_of_ble_eq_true rfl) (by decide) (by decide) (by decide) (Nat.le_of_ble_eq_true rfl) rfl (xrcv1 (by decide) (by first | assumption | exact hL.t rfl)) (c31 hL hS q2 h.2.2.1 (fun k hk => ⟨(q7 k hk).1, (q7 k hk).2.1⟩) (by omega)) rfl ?_
        refine xp_weak [(0, .ref 11), (1, .ref (aSt w A)), (3, .int (nI (aIx w A)))] (xle_cons rfl (xle_cons rfl (xle_cons rfl (xle_nil _)))) (by simp [xnd]) ?_
        exact l30 hL g1 (Nat.lt_of_lt_of_le ht gc.2.2.2.2.1) hs (Or.inl hi) (fun z => by omega) (by rw [gc.2.1]; exact hd)
  · have hpl : A.1 (aFr w A) 2 < A.1 3 (A.1 (aFr w A) 1) := by
      by_cases q : A.1 (aFr w A) 2 < A.1 3 (A.1 (aFr w A) 1)
      · exact q
      · exact absurd (by rw [hix]; unfold aAt; rw [if_neg q]) hi
    have hix2 : aIx w A = A.1 (aFr w A) 1 * 30 + A.1 (aFr w A) 2 := by rw [hix]; unfold aAt; rw [if_pos hpl]
    have hk1 := hk.1
    have hi180 : aIx w A < 180 := by omega
    have hI := p4 _ hpl
    rw [← hix2] at hI
    have er : aRs w A = aPerf w A (aSt w A) (aFr w A) (aIx w A) := by unfold aRs; rw [if_neg hi]
    have hlt : (aPerf w A (aSt w A) (aFr w A) (aIx w A)).1 < 32 := by
      unfold aPerf
      split
      · show 6 < 32; omega
      · exact aDo_lt _ _ _ _ _ _ _
    have hco : COk w (aPerf w A (aSt w A) (aFr w A) (aIx w A)).2 ∧ Ch w 1 A (aPerf w A (aSt w A) (aFr w A) (aIx w A)).2 := by
      unfold aPerf
      split
      · exact ⟨h, (Ch.refl w A).le (by omega)⟩
      · exact h.do hW ht hs hst hfs (by omega) hI (by omega)
    rw [er]
    have cp := c32 (z := z) hL h ht hs hst hfs hi180 hI hsd
    generalize aPerf w A (aSt w A) (aFr w A) (aIx w A) = r at hlt hco cp
    obtain ⟨g1, gc⟩ := hco
    have ht2 : A.1 w 3 < r.2.1 w 2 := Nat.lt_of_lt_of_le ht gc.2.2.2.2.1
    have hSr := g1.st ht2
    rw [← hs] at hSr
    have hop : r.2.1 4 (aIx w A) ≤ 27 := by rw [gc.2.2.2.2.2 _ _ (by omega) (by omega)]; exact hI.1
    by_cases he : r.1 = 0
    · have ee : aErr (aSt w A) r = r.2 := by unfold aErr; rw [if_pos he]
      rw [ee]
      refine xF_eq (xF_p (Nat.le_of_ble_eq_true rfl) ?_)
      refine xp_aload_n rfl rfl ?_
      refine xp_gfa rfl rfl (by decide) (by decide) (by first | assumption | exact hL.t rfl) (by first | assumption | exact hL.r rfl | exact hL.2.2.2.2.2) ?_
      refine xp_gfa rfl rfl (by decide) (by decide) (by first | assumption | exact hL.t rfl) (by first | assumption | exact hL.r rfl | exact hL.2.2.2.2.2) ?_
      refine xp_aload_n rfl rfl ?_
      refine xp_gfa rfl rfl (by decide) (by decide) (by first | assumption | exact hL.t rfl) (by first | assumption | exact hL.r rfl | exact hL.2.2.2.2.2) ?_
      refine xp_gfi rfl rfl (by decide) (by decide) (by first | assumption | exact hL.t rfl) ?_
      refine xp_aald rfl (by first | assumption | exact hL.t rfl) (by decide) (by decide) (by omega) (by omega) (by first | assumption | exact hL.r rfl | exact hL.2.2.2.2.2) ?_
      refine xp_astore_n rfl (by decide) ?_
      refine xp_aload_n rfl rfl ?_
      refine xp_iv rfl rfl (Nat.le_of_ble_eq_true rfl) (by decide) (by decide) (by decide) (Nat.le_of_ble_eq_true rfl) rfl (xrcv1 (by decide) (by first | assumption | exact hL.t rfl)) (c96 hS hd1 q2) rfl ?_
      rw [← hff]
      refine xp_astore_n rfl (by decide) ?_
      refine xp_aload_n rfl rfl ?_
      refine xp_gfa rfl rfl (by decide) (by decide) (by first | assumption | exact hL.t rfl) (by first | assumption | exact hL.r rfl | exact hL.2.2.2.2.2) ?_
      refine xp_aload_n rfl rfl ?_
      refine xp_gfi rfl rfl (by decide) (by decide) (by first | assumption | exact hL.t rfl) ?_
      refine xp_aload_n rfl rfl ?_
      refine xp_gfi rfl rfl (by decide) (by decide) (by first | assumption | exact hL.t rfl) ?_
      refine xp_iv rfl rfl (Nat.le_of_ble_eq_true rfl) (by decide) (by decide) (by decide) (Nat.le_of_ble_eq_true rfl) rfl (xrcv1 (by decide) (by first | assumption | exact hL.t rfl)) (c74 hL hk.1 (by omega) (by omega)) rfl ?_
      rw [← hix]
      refine xp_istore_n rfl (by decide) ?_
      refine xp_iload_n rfl rfl ?_
      refine xp_iconst (n := 4294967295) rfl (by decide) ?_
      refine xp_icne 47 rfl (by decide) (by omega) (by omega) (fun h39 => ?_) (fun h39 => ?_)
      · skip
        refine xp_aload_n rfl rfl ?_
        refine xp_aload_n rfl rfl ?_
        refine xp_aload_n rfl rfl ?_
        refine xp_iload_n rfl rfl ?_
        refine xp_iv rfl rfl (Nat.le_of_ble_eq_true rfl) (by decide) (by decide) (by decide) (Nat.le_of_ble_eq_true rfl) rfl (xrcv1 (by decide) (by first | assumption | exact hL.t rfl)) (cp) rfl ?_
        refine xp_istore rfl (by decide) ?_
        refine xp_iload rfl rfl ?_
        refine xp_ifeq 68 rfl (by decide) (by omega) (fun h58 => ?_) (fun h58 => ?_)
        · skip
          refine xp_weak [(0, .ref 11), (1, .ref (aSt w A)), (3, .int (nI (aIx w A)))] (xle_cons rfl (xle_cons rfl (xle_cons rfl (xle_nil _)))) (by simp [xnd]) ?_
          exact l30 hL g1 ht2 hs (Or.inr hi180) (fun _ => hop) (by rw [gc.2.1]; exact hd)
        · exact absurd he h58
      · exact absurd h39 hi
    · have ee : aErr (aSt w A) r = aRaise r.2 (aSt w A) r.1 (r.2.1 (aSt w A) 3) := by unfold aErr; rw [if_neg he]
      rw [ee]
      obtain ⟨v1, v2⟩ := g1.raise (e := r.1) ht2 hs hlt (by have := hSr.2.2.2.1; omega) _ (Nat.le_refl _)
      have vc := v2.ch h0 (by omega)
      refine xF_eq (xF_p (Nat.le_of_ble_eq_true rfl) ?_)
      refine xp_aload_n rfl rfl ?_
      refine xp_gfa rfl rfl (by decide) (by decide) (by first | assumption | exact hL.t rfl) (by first | assumption | exact hL.r rfl | exact hL.2.2.2.2.2) ?_
      refine xp_gfa rfl rfl (by decide) (by decide) (by first | assumption | exact hL.t rfl) (by first | assumption | exact hL.r rfl | exact hL.2.2.2.2.2) ?_
      refine xp_aload_n rfl rfl ?_
      refine xp_gfa rfl rfl (by decide) (by decide) (by first | assumption | exact hL.t rfl) (by first | assumption | exact hL.r rfl | exact hL.2.2.2.2.2) ?_
      refine xp_gfi rfl rfl (by decide) (by decide) (by first | assumption | exact hL.t rfl) ?_
      refine xp_aald rfl (by first | assumption | exact hL.t rfl) (by decide) (by decide) (by omega) (by omega) (by first | assumption | exact hL.r rfl | exact hL.2.2.2.2.2) ?_
      refine xp_astore_n rfl (by decide) ?_
      refine xp_aload_n rfl rfl ?_
      refine xp_iv rfl rfl (Nat.le_of_ble_eq_true rfl) (by decide) (by decide) (by decide) (Nat.le_of_ble_eq_true rfl) rfl (xrcv1 (by decide) (by first | assumption | exact hL.t rfl)) (c96 hS hd1 q2) rfl ?_
      rw [← hff]
      refine xp_astore_n rfl (by decide) ?_
      refine xp_aload_n rfl rfl ?_
      refine xp_gfa rfl rfl (by decide) (by decide) (by first | assumption | exact hL.t rfl) (by first | assumption | exact hL.r rfl | exact hL.2.2.2.2.2) ?_
      refine xp_aload_n rfl rfl ?_
      refine xp_gfi rfl rfl (by decide) (by decide) (by first | assumption | exact hL.t rfl) ?_
      refine xp_aload_n rfl rfl ?_
      refine xp_gfi rfl rfl (by decide) (by decide) (by first | assumption | exact hL.t rfl) ?_
      refine xp_iv rfl rfl (Nat.le_of_ble_eq_true rfl) (by decide) (by decide) (by decide) (Nat.le_of_ble_eq_true rfl) rfl (xrcv1 (by decide) (by first | assumption | exact hL.t rfl)) (c74 hL hk.1 (by omega) (by omega)) rfl ?_
      rw [← hix]
      refine xp_istore_n rfl (by decide) ?_
      refine xp_iload_n rfl rfl ?_
      refine xp_iconst (n := 4294967295) rfl (by decide) ?_
      refine xp_icne 47 rfl (by decide) (by omega) (by omega) (fun h39 => ?_) (fun h39 => ?_)
      · skip
        refine xp_aload_n rfl rfl ?_
        refine xp_aload_n rfl rfl ?_
        refine xp_aload_n rfl rfl ?_
        refine xp_iload_n rfl rfl ?_
        refine xp_iv rfl rfl (Nat.le_of_ble_eq_true rfl) (by decide) (by decide) (by decide) (Nat.le_of_ble_eq_true rfl) rfl (xrcv1 (by decide) (by first | assumption | exact hL.t rfl)) (cp) rfl ?_
        refine xp_istore rfl (by decide) ?_
        refine xp_iload rfl rfl ?_
        refine xp_ifeq 68 rfl (by decide) (by omega) (fun h58 => ?_) (fun h58 => ?_)
        · exact absurd h58 he
        · skip
          refine xp_aload_n rfl rfl ?_
          refine xp_aload_n rfl rfl ?_
          refine xp_iload rfl rfl ?_
          refine xp_iv rfl rfl (Nat.le_of_ble_eq_true rfl) (by decide) (by decide) (by decide) (Nat.le_of_ble_eq_true rfl) rfl (xrcv1 (by decide) (by first | assumption | exact hL.t rfl)) (c31 hL hS hSr.2.1 g1.2.2.1 (fun k hk => ⟨(hSr.2.2.2.2.2.2 k hk).1, (hSr.2.2.2.2.2.2 k hk).2.1⟩) hlt) rfl ?_
          refine xp_weak [(0, .ref 11), (1, .ref (aSt w A)), (3, .int (nI (aIx w A)))] (xle_cons rfl (xle_cons rfl (xle_cons rfl (xle_nil _)))) (by simp [xnd]) ?_
          exact l30 hL v1 (Nat.lt_of_lt_of_le ht2 vc.2.2.2.2.1) hs (Or.inr hi180) (fun _ => by rw [vc.2.2.2.2.2 _ _ (by omega) (by omega)]; exact hop) (by rw [vc.2.1, gc.2.1]; exact hd)
      · exact absurd h39 hi
