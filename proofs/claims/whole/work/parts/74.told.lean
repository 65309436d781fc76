-- told
def aTo0 (w : Nat) (A : xQ) (k : Nat) : Nat := match k with
  | 0 => A.1 w 2
  | 1 => A.1 w 3
  | 2 => A.1 w 4
  | 3 => A.1 (w + 2) 4
  | 4 => A.1 11 4
  | _ => A.1 11 3
def aTo1 (A : xQ) (s g : Nat) : Nat := match g with
  | 1 => A.1 s 2
  | 2 => A.1 s 3
  | 3 => A.1 s 4
  | 4 => if A.1 s 2 = 0 then A.1 (s + 5 + 4 * (A.1 s 3 - 1)) 3 else 4294967295
  | 5 => if A.1 s 2 = 0 then A.1 (s + 5 + 4 * (A.1 s 3 - 1)) 2 else 4294967295
  | _ => if A.1 s 2 = 0 then A.1 (s + 5 + 4 * (A.1 s 3 - 1)) 1 else 4294967295
theorem c19 {z : Nat} {T : Nat → Option xT} {R : Nat → Nat → Option Nat} {A : xQ} {w k : Nat} (hL : xLay T R w) (hk : k ≤ 5) : xF 19 [.ref 0, .int (nI k)] (xm z T R A) (.inr (some (.int (nI (aTo0 w A k)))), xm z T R A) := by
  have hW := hL.w hL.1
  have w1 := hW.1
  have w3 := hW.2.2.1
  have hh1 := hW.2.2.2.2.1.1
  have hk6 : k = 0 ∨ k = 1 ∨ k = 2 ∨ k = 3 ∨ k = 4 ∨ k = 5 := by omega
  rcases hk6 with rfl | rfl | rfl | rfl | rfl | rfl
  · skip
    refine xF_eq (xF_p (Nat.le_of_ble_eq_true rfl) ?_)
    refine xp_iload_n rfl rfl ?_
    refine xp_tsw 36 rfl (by omega) (by first | rfl | (rw [if_pos (by omega)]) | (rw [if_neg (by omega)]; rfl)) (by decide) ?_
    refine xp_aload_n rfl rfl ?_
    refine xp_gfa rfl rfl (by decide) (by decide) (by first | assumption | exact hL.t rfl) (by first | assumption | exact hL.r rfl | exact hL.2.2.2.2.2) ?_
    refine xp_gfa rfl rfl (by decide) (by decide) (by first | assumption | exact hL.t rfl) (by first | assumption | exact hL.r rfl | exact hL.2.2.2.2.2) ?_
    refine xp_gfi rfl rfl (by decide) (by decide) (by first | assumption | exact hL.t rfl) ?_
    refine xp_ireturn rfl (by decide) (by decide) (by decide) ?_
    rfl
  · skip
    refine xF_eq (xF_p (Nat.le_of_ble_eq_true rfl) ?_)
    refine xp_iload_n rfl rfl ?_
    refine xp_tsw 47 rfl (by omega) (by first | rfl | (rw [if_pos (by omega)]) | (rw [if_neg (by omega)]; rfl)) (by decide) ?_
    refine xp_aload_n rfl rfl ?_
    refine xp_gfa rfl rfl (by decide) (by decide) (by first | assumption | exact hL.t rfl) (by first | assumption | exact hL.r rfl | exact hL.2.2.2.2.2) ?_
    refine xp_gfa rfl rfl (by decide) (by decide) (by first | assumption | exact hL.t rfl) (by first | assumption | exact hL.r rfl | exact hL.2.2.2.2.2) ?_
    refine xp_gfi rfl rfl (by decide) (by decide) (by first | assumption | exact hL.t rfl) ?_
    refine xp_ireturn rfl (by decide) (by decide) (by decide) ?_
    rfl
  · skip
    refine xF_eq (xF_p (Nat.le_of_ble_eq_true rfl) ?_)
    refine xp_iload_n rfl rfl ?_
    refine xp_tsw 58 rfl (by omega) (by first | rfl | (rw [if_pos (by omega)]) | (rw [if_neg (by omega)]; rfl)) (by decide) ?_
    refine xp_aload_n rfl rfl ?_
    refine xp_gfa rfl rfl (by decide) (by decide) (by first | assumption | exact hL.t rfl) (by first | assumption | exact hL.r rfl | exact hL.2.2.2.2.2) ?_
    refine xp_gfa rfl rfl (by decide) (by decide) (by first | assumption | exact hL.t rfl) (by first | assumption | exact hL.r rfl | exact hL.2.2.2.2.2) ?_
    refine xp_gfi rfl rfl (by decide) (by decide) (by first | assumption | exact hL.t rfl) ?_
    refine xp_ireturn rfl (by decide) (by decide) (by decide) ?_
    rfl
  · skip
    refine xF_eq (xF_p (Nat.le_of_ble_eq_true rfl) ?_)
    refine xp_iload_n rfl rfl ?_
    refine xp_tsw 69 rfl (by omega) (by first | rfl | (rw [if_pos (by omega)]) | (rw [if_neg (by omega)]; rfl)) (by decide) ?_
    refine xp_aload_n rfl rfl ?_
    refine xp_gfa rfl rfl (by decide) (by decide) (by first | assumption | exact hL.t rfl) (by first | assumption | exact hL.r rfl | exact hL.2.2.2.2.2) ?_
    refine xp_gfa rfl rfl (by decide) (by decide) (by first | assumption | exact hL.t rfl) (by first | assumption | exact hL.r rfl | exact hL.2.2.2.2.2) ?_
    refine xp_gfa rfl rfl (by decide) (by decide) (by first | assumption | exact hL.t rfl) (by first | assumption | exact hL.r rfl | exact hL.2.2.2.2.2) ?_
    refine xp_gfi rfl rfl (by decide) (by decide) (by first | assumption | exact hL.t rfl) ?_
    refine xp_ireturn rfl (by decide) (by decide) (by decide) ?_
    rfl
  · skip
    refine xF_eq (xF_p (Nat.le_of_ble_eq_true rfl) ?_)
    refine xp_iload_n rfl rfl ?_
    refine xp_tsw 83 rfl (by omega) (by first | rfl | (rw [if_pos (by omega)]) | (rw [if_neg (by omega)]; rfl)) (by decide) ?_
    refine xp_aload_n rfl rfl ?_
    refine xp_gfa rfl rfl (by decide) (by decide) (by first | assumption | exact hL.t rfl) (by first | assumption | exact hL.r rfl | exact hL.2.2.2.2.2) ?_
    refine xp_gfi rfl rfl (by decide) (by decide) (by first | assumption | exact hL.t rfl) ?_
    refine xp_ireturn rfl (by decide) (by decide) (by decide) ?_
    rfl
  · skip
    refine xF_eq (xF_p (Nat.le_of_ble_eq_true rfl) ?_)
    refine xp_iload_n rfl rfl ?_
    refine xp_tsw 91 rfl (by omega) (by first | rfl | (rw [if_pos (by omega)]) | (rw [if_neg (by omega)]; rfl)) (by decide) ?_
    refine xp_aload_n rfl rfl ?_
    refine xp_gfa rfl rfl (by decide) (by decide) (by first | assumption | exact hL.t rfl) (by first | assumption | exact hL.r rfl | exact hL.2.2.2.2.2) ?_
    refine xp_gfi rfl rfl (by decide) (by decide) (by first | assumption | exact hL.t rfl) ?_
    refine xp_ireturn rfl (by decide) (by decide) (by decide) ?_
    rfl
theorem c21_4 {z : Nat} {T : Nat → Option xT} {R : Nat → Nat → Option Nat} {A : xQ} {f : Nat} (hF : xF0 T R f) : xF 21 [.ref f, .int (nI 4)] (xm z T R A) (.inr (some (.int (nI (A.1 f 3)))), xm z T R A) := by
  obtain ⟨f1, f2, hC⟩ := hF
  refine xF_eq (xF_p (Nat.le_of_ble_eq_true rfl) ?_)
  refine xp_iload_n rfl rfl ?_
  refine xp_lsw 28 rfl (by omega) rfl rfl (by decide) ?_
  refine xp_aload_n rfl rfl ?_
  refine xp_gfi rfl rfl (by decide) (by decide) (by assumption) ?_
  refine xp_ireturn rfl (by decide) (by decide) (by decide) ?_
  rfl
theorem c21_5 {z : Nat} {T : Nat → Option xT} {R : Nat → Nat → Option Nat} {A : xQ} {f : Nat} (hF : xF0 T R f) : xF 21 [.ref f, .int (nI 5)] (xm z T R A) (.inr (some (.int (nI (A.1 f 2)))), xm z T R A) := by
  obtain ⟨f1, f2, hC⟩ := hF
  refine xF_eq (xF_p (Nat.le_of_ble_eq_true rfl) ?_)
  refine xp_iload_n rfl rfl ?_
  refine xp_lsw 33 rfl (by omega) rfl rfl (by decide) ?_
  refine xp_aload_n rfl rfl ?_
  refine xp_gfi rfl rfl (by decide) (by decide) (by assumption) ?_
  refine xp_ireturn rfl (by decide) (by decide) (by decide) ?_
  rfl
theorem c21_6 {z : Nat} {T : Nat → Option xT} {R : Nat → Nat → Option Nat} {A : xQ} {f : Nat} (hF : xF0 T R f) : xF 21 [.ref f, .int (nI 6)] (xm z T R A) (.inr (some (.int (nI (A.1 f 1)))), xm z T R A) := by
  obtain ⟨f1, f2, hC⟩ := hF
  refine xF_eq (xF_p (Nat.le_of_ble_eq_true rfl) ?_)
  refine xp_iload_n rfl rfl ?_
  refine xp_lsw 38 rfl (by omega) rfl rfl (by decide) ?_
  refine xp_aload_n rfl rfl ?_
  refine xp_gfi rfl rfl (by decide) (by decide) (by assumption) ?_
  refine xp_ireturn rfl (by decide) (by decide) (by decide) ?_
  rfl
theorem c20_1 {z : Nat} {T : Nat → Option xT} {R : Nat → Nat → Option Nat} {A : xQ} {s : Nat} (hS : xSt0 T R s) (h1 : A.1 s 2 = 0 → 1 ≤ A.1 s 3) (h5 : A.1 s 3 ≤ 5) (h2 : A.1 s 2 ≤ 2) : xF 20 [.ref s, .int (nI 1)] (xm z T R A) (.inr (some (.int (nI (aTo1 A s 1)))), xm z T R A) := by
  have hS0 := hS
  obtain ⟨s1, s2, s3, s4, s5, s6⟩ := hS
  refine xF_eq (xF_p (Nat.le_of_ble_eq_true rfl) ?_)
  refine xp_iload_n rfl rfl ?_
  refine xp_tsw 28 rfl (by omega) (by first | rfl | (rw [if_pos (by omega)]) | (rw [if_neg (by omega)]; rfl)) (by decide) ?_
  refine xp_aload_n rfl rfl ?_
  refine xp_gfi rfl rfl (by decide) (by decide) (by assumption) ?_
  refine xp_ireturn rfl (by decide) (by decide) (by decide) ?_
  rfl
theorem c20_2 {z : Nat} {T : Nat → Option xT} {R : Nat → Nat → Option Nat} {A : xQ} {s : Nat} (hS : xSt0 T R s) (h1 : A.1 s 2 = 0 → 1 ≤ A.1 s 3) (h5 : A.1 s 3 ≤ 5) (h2 : A.1 s 2 ≤ 2) : xF 20 [.ref s, .int (nI 2)] (xm z T R A) (.inr (some (.int (nI (aTo1 A s 2)))), xm z T R A) := by
  have hS0 := hS
  obtain ⟨s1, s2, s3, s4, s5, s6⟩ := hS
  refine xF_eq (xF_p (Nat.le_of_ble_eq_true rfl) ?_)
  refine xp_iload_n rfl rfl ?_
  refine xp_tsw 33 rfl (by omega) (by first | rfl | (rw [if_pos (by omega)]) | (rw [if_neg (by omega)]; rfl)) (by decide) ?_
  refine xp_aload_n rfl rfl ?_
  refine xp_gfi rfl rfl (by decide) (by decide) (by assumption) ?_
  refine xp_ireturn rfl (by decide) (by decide) (by decide) ?_
  rfl
theorem c20_3 {z : Nat} {T : Nat → Option xT} {R : Nat → Nat → Option Nat} {A : xQ} {s : Nat} (hS : xSt0 T R s) (h1 : A.1 s 2 = 0 → 1 ≤ A.1 s 3) (h5 : A.1 s 3 ≤ 5) (h2 : A.1 s 2 ≤ 2) : xF 20 [.ref s, .int (nI 3)] (xm z T R A) (.inr (some (.int (nI (aTo1 A s 3)))), xm z T R A) := by
  have hS0 := hS
  obtain ⟨s1, s2, s3, s4, s5, s6⟩ := hS
  refine xF_eq (xF_p (Nat.le_of_ble_eq_true rfl) ?_)
  refine xp_iload_n rfl rfl ?_
  refine xp_tsw 38 rfl (by omega) (by first | rfl | (rw [if_pos (by omega)]) | (rw [if_neg (by omega)]; rfl)) (by decide) ?_
  refine xp_aload_n rfl rfl ?_
  refine xp_gfi rfl rfl (by decide) (by decide) (by assumption) ?_
  refine xp_ireturn rfl (by decide) (by decide) (by decide) ?_
  rfl
theorem c20_4 {z : Nat} {T : Nat → Option xT} {R : Nat → Nat → Option Nat} {A : xQ} {s : Nat} (hS : xSt0 T R s) (h1 : A.1 s 2 = 0 → 1 ≤ A.1 s 3) (h5 : A.1 s 3 ≤ 5) (h2 : A.1 s 2 ≤ 2) : xF 20 [.ref s, .int (nI 4)] (xm z T R A) (.inr (some (.int (nI (aTo1 A s 4)))), xm z T R A) := by
  have hS0 := hS
  obtain ⟨s1, s2, s3, s4, s5, s6⟩ := hS
  show xF 20 _ _ (.inr (some (.int (nI (if A.1 s 2 = 0 then A.1 (s + 5 + 4 * (A.1 s 3 - 1)) 3 else 4294967295)))), _)
  by_cases hq : A.1 s 2 = 0
  · rw [if_pos hq]
    have hg := (s6 (A.1 s 3 - 1) (by have := h1 hq; omega)).2
    refine xF_eq (xF_p (Nat.le_of_ble_eq_true rfl) ?_)
    refine xp_iload_n rfl rfl ?_
    refine xp_tsw 43 rfl (by omega) (by first | rfl | (rw [if_pos (by omega)]) | (rw [if_neg (by omega)]; rfl)) (by decide) ?_
    refine xp_aload_n rfl rfl ?_
    refine xp_gfi rfl rfl (by decide) (by decide) (by assumption) ?_
    refine xp_ifne 61 rfl (by decide) (by omega) (fun h47 => ?_) (fun h47 => ?_)
    · exact absurd hq h47
    · skip
      refine xp_aload_n rfl rfl ?_
      refine xp_iv rfl rfl (Nat.le_of_ble_eq_true rfl) (by decide) (by decide) (by decide) (Nat.le_of_ble_eq_true rfl) rfl (xrcv1 (by decide) (by assumption)) (c96 hS0 (h1 hq) h5) rfl ?_
      refine xp_iload_n rfl rfl ?_
      refine xp_is rfl rfl rfl (Nat.le_of_ble_eq_true rfl) (by decide) (by decide) (by decide) (Nat.le_of_ble_eq_true rfl) rfl (xrcv0 (by decide) _ _) (c21_4 hg) rfl ?_
      refine xp_goto 62 rfl (by decide) ?_
      refine xp_ireturn rfl (by decide) (by decide) (by decide) ?_
      rfl
  · rw [if_neg hq]
    refine xF_eq (xF_p (Nat.le_of_ble_eq_true rfl) ?_)
    refine xp_iload_n rfl rfl ?_
    refine xp_tsw 43 rfl (by omega) (by first | rfl | (rw [if_pos (by omega)]) | (rw [if_neg (by omega)]; rfl)) (by decide) ?_
    refine xp_aload_n rfl rfl ?_
    refine xp_gfi rfl rfl (by decide) (by decide) (by assumption) ?_
    refine xp_ifne 61 rfl (by decide) (by omega) (fun h47 => ?_) (fun h47 => ?_)
    · skip
      refine xp_iconst (n := 4294967295) rfl (by decide) ?_
      refine xp_ireturn rfl (by decide) (by decide) (by decide) ?_
      rfl
    · exact absurd h47 hq
theorem c20_5 {z : Nat} {T : Nat → Option xT} {R : Nat → Nat → Option Nat} {A : xQ} {s : Nat} (hS : xSt0 T R s) (h1 : A.1 s 2 = 0 → 1 ≤ A.1 s 3) (h5 : A.1 s 3 ≤ 5) (h2 : A.1 s 2 ≤ 2) : xF 20 [.ref s, .int (nI 5)] (xm z T R A) (.inr (some (.int (nI (aTo1 A s 5)))), xm z T R A) := by
  have hS0 := hS
  obtain ⟨s1, s2, s3, s4, s5, s6⟩ := hS
  show xF 20 _ _ (.inr (some (.int (nI (if A.1 s 2 = 0 then A.1 (s + 5 + 4 * (A.1 s 3 - 1)) 2 else 4294967295)))), _)
  by_cases hq : A.1 s 2 = 0
  · rw [if_pos hq]
    have hg := (s6 (A.1 s 3 - 1) (by have := h1 hq; omega)).2
    refine xF_eq (xF_p (Nat.le_of_ble_eq_true rfl) ?_)
    refine xp_iload_n rfl rfl ?_
    refine xp_tsw 43 rfl (by omega) (by first | rfl | (rw [if_pos (by omega)]) | (rw [if_neg (by omega)]; rfl)) (by decide) ?_
    refine xp_aload_n rfl rfl ?_
    refine xp_gfi rfl rfl (by decide) (by decide) (by assumption) ?_
    refine xp_ifne 61 rfl (by decide) (by omega) (fun h47 => ?_) (fun h47 => ?_)
    · exact absurd hq h47
    · skip
      refine xp_aload_n rfl rfl ?_
      refine xp_iv rfl rfl (Nat.le_of_ble_eq_true rfl) (by decide) (by decide) (by decide) (Nat.le_of_ble_eq_true rfl) rfl (xrcv1 (by decide) (by assumption)) (c96 hS0 (h1 hq) h5) rfl ?_
      refine xp_iload_n rfl rfl ?_
      refine xp_is rfl rfl rfl (Nat.le_of_ble_eq_true rfl) (by decide) (by decide) (by decide) (Nat.le_of_ble_eq_true rfl) rfl (xrcv0 (by decide) _ _) (c21_5 hg) rfl ?_
      refine xp_goto 62 rfl (by decide) ?_
      refine xp_ireturn rfl (by decide) (by decide) (by decide) ?_
      rfl
  · rw [if_neg hq]
    refine xF_eq (xF_p (Nat.le_of_ble_eq_true rfl) ?_)
    refine xp_iload_n rfl rfl ?_
    refine xp_tsw 43 rfl (by omega) (by first | rfl | (rw [if_pos (by omega)]) | (rw [if_neg (by omega)]; rfl)) (by decide) ?_
    refine xp_aload_n rfl rfl ?_
    refine xp_gfi rfl rfl (by decide) (by decide) (by assumption) ?_
    refine xp_ifne 61 rfl (by decide) (by omega) (fun h47 => ?_) (fun h47 => ?_)
    · skip
      refine xp_iconst (n := 4294967295) rfl (by decide) ?_
      refine xp_ireturn rfl (by decide) (by decide) (by decide) ?_
      rfl
    · exact absurd h47 hq
theorem c20_6 {z : Nat} {T : Nat → Option xT} {R : Nat → Nat → Option Nat} {A : xQ} {s : Nat} (hS : xSt0 T R s) (h1 : A.1 s 2 = 0 → 1 ≤ A.1 s 3) (h5 : A.1 s 3 ≤ 5) (h2 : A.1 s 2 ≤ 2) : xF 20 [.ref s, .int (nI 6)] (xm z T R A) (.inr (some (.int (nI (aTo1 A s 6)))), xm z T R A) := by
  have hS0 := hS
  obtain ⟨s1, s2, s3, s4, s5, s6⟩ := hS
  show xF 20 _ _ (.inr (some (.int (nI (if A.1 s 2 = 0 then A.1 (s + 5 + 4 * (A.1 s 3 - 1)) 1 else 4294967295)))), _)
  by_cases hq : A.1 s 2 = 0
  · rw [if_pos hq]
    have hg := (s6 (A.1 s 3 - 1) (by have := h1 hq; omega)).2
    refine xF_eq (xF_p (Nat.le_of_ble_eq_true rfl) ?_)
    refine xp_iload_n rfl rfl ?_
    refine xp_tsw 43 rfl (by omega) (by first | rfl | (rw [if_pos (by omega)]) | (rw [if_neg (by omega)]; rfl)) (by decide) ?_
    refine xp_aload_n rfl rfl ?_
    refine xp_gfi rfl rfl (by decide) (by decide) (by assumption) ?_
    refine xp_ifne 61 rfl (by decide) (by omega) (fun h47 => ?_) (fun h47 => ?_)
    · exact absurd hq h47
    · skip
      refine xp_aload_n rfl rfl ?_
      refine xp_iv rfl rfl (Nat.le_of_ble_eq_true rfl) (by decide) (by decide) (by decide) (Nat.le_of_ble_eq_true rfl) rfl (xrcv1 (by decide) (by assumption)) (c96 hS0 (h1 hq) h5) rfl ?_
      refine xp_iload_n rfl rfl ?_
      refine xp_is rfl rfl rfl (Nat.le_of_ble_eq_true rfl) (by decide) (by decide) (by decide) (Nat.le_of_ble_eq_true rfl) rfl (xrcv0 (by decide) _ _) (c21_6 hg) rfl ?_
      refine xp_goto 62 rfl (by decide) ?_
      refine xp_ireturn rfl (by decide) (by decide) (by decide) ?_
      rfl
  · rw [if_neg hq]
    refine xF_eq (xF_p (Nat.le_of_ble_eq_true rfl) ?_)
    refine xp_iload_n rfl rfl ?_
    refine xp_tsw 43 rfl (by omega) (by first | rfl | (rw [if_pos (by omega)]) | (rw [if_neg (by omega)]; rfl)) (by decide) ?_
    refine xp_aload_n rfl rfl ?_
    refine xp_gfi rfl rfl (by decide) (by decide) (by assumption) ?_
    refine xp_ifne 61 rfl (by decide) (by omega) (fun h47 => ?_) (fun h47 => ?_)
    · skip
      refine xp_iconst (n := 4294967295) rfl (by decide) ?_
      refine xp_ireturn rfl (by decide) (by decide) (by decide) ?_
      rfl
    · exact absurd h47 hq
theorem c8 {z : Nat} {T : Nat → Option xT} {R : Nat → Nat → Option Nat} {A : xQ} {w k : Nat} (hL : xLay T R w) (hk : k ≤ 5) : xF 8 [.ref 0, .int (nI k)] (xm z T R A) (.inr (some (.int (nI (aTo0 w A k)))), xm z T R A) := by
  refine xF_eq (xF_p (Nat.le_of_ble_eq_true rfl) ?_)
  refine xp_iload_n rfl rfl ?_
  refine xp_iflt 15 rfl (by decide) (by omega) (fun h1 => ?_) (fun h1 => ?_)
  · exfalso; omega
  · skip
    refine xp_iload_n rfl rfl ?_
    refine xp_iconst (n := 5) rfl (by decide) ?_
    refine xp_icgt 15 rfl (by decide) (by omega) (by omega) (fun h6 => ?_) (fun h6 => ?_)
    · exfalso; omega
    · skip
      refine xp_aload_n rfl rfl ?_
      refine xp_iload_n rfl rfl ?_
      refine xp_iv rfl rfl (Nat.le_of_ble_eq_true rfl) (by decide) (by decide) (by decide) (Nat.le_of_ble_eq_true rfl) rfl (xrcv1 (by decide) (by first | assumption | exact hL.t rfl)) (c19 hL hk) rfl ?_
      refine xp_ireturn rfl (by decide) (by decide) (by decide) ?_
      rfl
theorem c8m {z : Nat} {T : Nat → Option xT} {R : Nat → Nat → Option Nat} {A : xQ} {w k : Nat} (hL : xLay T R w) (hk : 10 ≤ k) (hk2 : k < 70) (ht : k % 10 < 3) (hc : A.1 w 2 ≤ 3) (hq : ¬ k % 10 < A.1 w 2) : xF 8 [.ref 0, .int (nI k)] (xm z T R A) (.inr (some (.int (nI 4294967295))), xm z T R A) := by
  have hW := hL.w hL.1
  have w1 := hW.1
  have w2 := hW.2.1
  have w4 := hW.2.2.2.1
  have er := nI_rem (m := k) (n := 10) (by omega) (by omega) (by omega)
  have ed := nI_div (m := k) (n := 10) (by omega) (by omega) (by omega)
  refine xF_eq (xF_p (Nat.le_of_ble_eq_true rfl) ?_)
  refine xp_iload_n rfl rfl ?_
  refine xp_iflt 15 rfl (by decide) (by omega) (fun h1 => ?_) (fun h1 => ?_)
  · exfalso; omega
  · skip
    refine xp_iload_n rfl rfl ?_
    refine xp_iconst (n := 5) rfl (by decide) ?_
    refine xp_icgt 15 rfl (by decide) (by omega) (by omega) (fun h6 => ?_) (fun h6 => ?_)
    · skip
      refine xp_iload_n rfl rfl ?_
      refine xp_bipush (n := 10) rfl (by decide) ?_
      refine xp_irem rfl (by decide) ?_
      rw [er]
      refine xp_istore_n rfl (by decide) ?_
      refine xp_iload_n rfl rfl ?_
      refine xp_bipush (n := 10) rfl (by decide) ?_
      refine xp_iclt 37 rfl (by decide) (by omega) (by omega) (fun h23 => ?_) (fun h23 => ?_)
      · exfalso; omega
      · skip
        refine xp_iload_n rfl rfl ?_
        refine xp_bipush (n := 70) rfl (by decide) ?_
        refine xp_icge 37 rfl (by decide) (by omega) (by omega) (fun h29 => ?_) (fun h29 => ?_)
        · exfalso; omega
        · skip
          refine xp_iload_n rfl rfl ?_
          refine xp_iconst (n := 3) rfl (by decide) ?_
          refine xp_iclt 45 rfl (by decide) (by omega) (by omega) (fun h34 => ?_) (fun h34 => ?_)
          · skip
            refine xp_iload_n rfl rfl ?_
            refine xp_aload_n rfl rfl ?_
            refine xp_gfa rfl rfl (by decide) (by decide) (by first | assumption | exact hL.t rfl) (by first | assumption | exact hL.r rfl | exact hL.2.2.2.2.2) ?_
            refine xp_gfa rfl rfl (by decide) (by decide) (by first | assumption | exact hL.t rfl) (by first | assumption | exact hL.r rfl | exact hL.2.2.2.2.2) ?_
            refine xp_gfi rfl rfl (by decide) (by decide) (by first | assumption | exact hL.t rfl) ?_
            refine xp_iclt 61 rfl (by decide) (by omega) (by omega) (fun h56 => ?_) (fun h56 => ?_)
            · exfalso; omega
            · skip
              refine xp_iconst (n := 4294967295) rfl (by decide) ?_
              refine xp_ireturn rfl (by decide) (by decide) (by decide) ?_
              rfl
          · exfalso; omega
    · exfalso; omega
theorem c8s {z : Nat} {T : Nat → Option xT} {R : Nat → Nat → Option Nat} {A : xQ} {w k : Nat} (hL : xLay T R w) (hk : 10 ≤ k) (hk2 : k < 70) (ht : k % 10 < 3) (hc : A.1 w 2 ≤ 3) (hq : k % 10 < A.1 w 2) (hp1 : A.1 (w + 11 + 25 * (k % 10)) 2 = 0 → 1 ≤ A.1 (w + 11 + 25 * (k % 10)) 3) (hp5 : A.1 (w + 11 + 25 * (k % 10)) 3 ≤ 5) (hp2 : A.1 (w + 11 + 25 * (k % 10)) 2 ≤ 2) : xF 8 [.ref 0, .int (nI k)] (xm z T R A) (.inr (some (.int (nI (aTo1 A (w + 11 + 25 * (k % 10)) (k / 10))))), xm z T R A) := by
  have hW := hL.w hL.1
  have w1 := hW.1
  have w2 := hW.2.1
  have w4 := hW.2.2.2.1
  have er := nI_rem (m := k) (n := 10) (by omega) (by omega) (by omega)
  have ed := nI_div (m := k) (n := 10) (by omega) (by omega) (by omega)
  obtain ⟨r1, hS⟩ := hW.2.2.2.2.2 (k % 10) (by omega)
  have hg : k / 10 = 1 ∨ k / 10 = 2 ∨ k / 10 = 3 ∨ k / 10 = 4 ∨ k / 10 = 5 ∨ k / 10 = 6 := by omega
  rcases hg with hg | hg | hg | hg | hg | hg
  · rw [hg] at ed ⊢
    refine xF_eq (xF_p (Nat.le_of_ble_eq_true rfl) ?_)
    refine xp_iload_n rfl rfl ?_
    refine xp_iflt 15 rfl (by decide) (by omega) (fun h1 => ?_) (fun h1 => ?_)
    · exfalso; omega
    · skip
      refine xp_iload_n rfl rfl ?_
      refine xp_iconst (n := 5) rfl (by decide) ?_
      refine xp_icgt 15 rfl (by decide) (by omega) (by omega) (fun h6 => ?_) (fun h6 => ?_)
      · skip
        refine xp_iload_n rfl rfl ?_
        refine xp_bipush (n := 10) rfl (by decide) ?_
        refine xp_irem rfl (by decide) ?_
        rw [er]
        refine xp_istore_n rfl (by decide) ?_
        refine xp_iload_n rfl rfl ?_
        refine xp_bipush (n := 10) rfl (by decide) ?_
        refine xp_iclt 37 rfl (by decide) (by omega) (by omega) (fun h23 => ?_) (fun h23 => ?_)
        · exfalso; omega
        · skip
          refine xp_iload_n rfl rfl ?_
          refine xp_bipush (n := 70) rfl (by decide) ?_
          refine xp_icge 37 rfl (by decide) (by omega) (by omega) (fun h29 => ?_) (fun h29 => ?_)
          · exfalso; omega
          · skip
            refine xp_iload_n rfl rfl ?_
            refine xp_iconst (n := 3) rfl (by decide) ?_
            refine xp_iclt 45 rfl (by decide) (by omega) (by omega) (fun h34 => ?_) (fun h34 => ?_)
            · skip
              refine xp_iload_n rfl rfl ?_
              refine xp_aload_n rfl rfl ?_
              refine xp_gfa rfl rfl (by decide) (by decide) (by first | assumption | exact hL.t rfl) (by first | assumption | exact hL.r rfl | exact hL.2.2.2.2.2) ?_
              refine xp_gfa rfl rfl (by decide) (by decide) (by first | assumption | exact hL.t rfl) (by first | assumption | exact hL.r rfl | exact hL.2.2.2.2.2) ?_
              refine xp_gfi rfl rfl (by decide) (by decide) (by first | assumption | exact hL.t rfl) ?_
              refine xp_iclt 61 rfl (by decide) (by omega) (by omega) (fun h56 => ?_) (fun h56 => ?_)
              · skip
                refine xp_aload_n rfl rfl ?_
                refine xp_gfa rfl rfl (by decide) (by decide) (by first | assumption | exact hL.t rfl) (by first | assumption | exact hL.r rfl | exact hL.2.2.2.2.2) ?_
                refine xp_gfa rfl rfl (by decide) (by decide) (by first | assumption | exact hL.t rfl) (by first | assumption | exact hL.r rfl | exact hL.2.2.2.2.2) ?_
                refine xp_gfa rfl rfl (by decide) (by decide) (by first | assumption | exact hL.t rfl) (by first | assumption | exact hL.r rfl | exact hL.2.2.2.2.2) ?_
                refine xp_iload_n rfl rfl ?_
                refine xp_aald rfl (by first | assumption | exact hL.t rfl) (by decide) (by decide) (by omega) (by omega) (by first | assumption | exact hL.r rfl | exact hL.2.2.2.2.2) ?_
                refine xp_iload_n rfl rfl ?_
                refine xp_bipush (n := 10) rfl (by decide) ?_
                refine xp_idiv rfl (by decide) ?_
                rw [ed]
                refine xp_is rfl rfl rfl (Nat.le_of_ble_eq_true rfl) (by decide) (by decide) (by decide) (Nat.le_of_ble_eq_true rfl) rfl (xrcv0 (by decide) _ _) (c20_1 hS hp1 hp5 hp2) rfl ?_
                refine xp_ireturn rfl (by decide) (by decide) (by decide) ?_
                rfl
              · exfalso; omega
            · exfalso; omega
      · exfalso; omega
  · rw [hg] at ed ⊢
    refine xF_eq (xF_p (Nat.le_of_ble_eq_true rfl) ?_)
    refine xp_iload_n rfl rfl ?_
    refine xp_iflt 15 rfl (by decide) (by omega) (fun h1 => ?_) (fun h1 => ?_)
    · exfalso; omega
    · skip
      refine xp_iload_n rfl rfl ?_
      refine xp_iconst (n := 5) rfl (by decide) ?_
      refine xp_icgt 15 rfl (by decide) (by omega) (by omega) (fun h6 => ?_) (fun h6 => ?_)
      · skip
        refine xp_iload_n rfl rfl ?_
        refine xp_bipush (n := 10) rfl (by decide) ?_
        refine xp_irem rfl (by decide) ?_
        rw [er]
        refine xp_istore_n rfl (by decide) ?_
        refine xp_iload_n rfl rfl ?_
        refine xp_bipush (n := 10) rfl (by decide) ?_
        refine xp_iclt 37 rfl (by decide) (by omega) (by omega) (fun h23 => ?_) (fun h23 => ?_)
        · exfalso; omega
        · skip
          refine xp_iload_n rfl rfl ?_
          refine xp_bipush (n := 70) rfl (by decide) ?_
          refine xp_icge 37 rfl (by decide) (by omega) (by omega) (fun h29 => ?_) (fun h29 => ?_)
          · exfalso; omega
          · skip
            refine xp_iload_n rfl rfl ?_
            refine xp_iconst (n := 3) rfl (by decide) ?_
            refine xp_iclt 45 rfl (by decide) (by omega) (by omega) (fun h34 => ?_) (fun h34 => ?_)
            · skip
              refine xp_iload_n rfl rfl ?_
              refine xp_aload_n rfl rfl ?_
              refine xp_gfa rfl rfl (by decide) (by decide) (by first | assumption | exact hL.t rfl) (by first | assumption | exact hL.r rfl | exact hL.2.2.2.2.2) ?_
              refine xp_gfa rfl rfl (by decide) (by decide) (by first | assumption | exact hL.t rfl) (by first | assumption | exact hL.r rfl | exact hL.2.2.2.2.2) ?_
              refine xp_gfi rfl rfl (by decide) (by decide) (by first | assumption | exact hL.t rfl) ?_
              refine xp_iclt 61 rfl (by decide) (by omega) (by omega) (fun h56 => ?_) (fun h56 => ?_)
              · skip
                refine xp_aload_n rfl rfl ?_
                refine xp_gfa rfl rfl (by decide) (by decide) (by first | assumption | exact hL.t rfl) (by first | assumption | exact hL.r rfl | exact hL.2.2.2.2.2) ?_
                refine xp_gfa rfl rfl (by decide) (by decide) (by first | assumption | exact hL.t rfl) (by first | assumption | exact hL.r rfl | exact hL.2.2.2.2.2) ?_
                refine xp_gfa rfl rfl (by decide) (by decide) (by first | assumption | exact hL.t rfl) (by first | assumption | exact hL.r rfl | exact hL.2.2.2.2.2) ?_
                refine xp_iload_n rfl rfl ?_
                refine xp_aald rfl (by first | assumption | exact hL.t rfl) (by decide) (by decide) (by omega) (by omega) (by first | assumption | exact hL.r rfl | exact hL.2.2.2.2.2) ?_
                refine xp_iload_n rfl rfl ?_
                refine xp_bipush (n := 10) rfl (by decide) ?_
                refine xp_idiv rfl (by decide) ?_
                rw [ed]
                refine xp_is rfl rfl rfl (Nat.le_of_ble_eq_true rfl) (by decide) (by decide) (by decide) (Nat.le_of_ble_eq_true rfl) rfl (xrcv0 (by decide) _ _) (c20_2 hS hp1 hp5 hp2) rfl ?_
                refine xp_ireturn rfl (by decide) (by decide) (by decide) ?_
                rfl
              · exfalso; omega
            · exfalso; omega
      · exfalso; omega
  · rw [hg] at ed ⊢
    refine xF_eq (xF_p (Nat.le_of_ble_eq_true rfl) ?_)
    refine xp_iload_n rfl rfl ?_
    refine xp_iflt 15 rfl (by decide) (by omega) (fun h1 => ?_) (fun h1 => ?_)
    · exfalso; omega
    · skip
      refine xp_iload_n rfl rfl ?_
      refine xp_iconst (n := 5) rfl (by decide) ?_
      refine xp_icgt 15 rfl (by decide) (by omega) (by omega) (fun h6 => ?_) (fun h6 => ?_)
      · skip
        refine xp_iload_n rfl rfl ?_
        refine xp_bipush (n := 10) rfl (by decide) ?_
        refine xp_irem rfl (by decide) ?_
        rw [er]
        refine xp_istore_n rfl (by decide) ?_
        refine xp_iload_n rfl rfl ?_
        refine xp_bipush (n := 10) rfl (by decide) ?_
        refine xp_iclt 37 rfl (by decide) (by omega) (by omega) (fun h23 => ?_) (fun h23 => ?_)
        · exfalso; omega
        · skip
          refine xp_iload_n rfl rfl ?_
          refine xp_bipush (n := 70) rfl (by decide) ?_
          refine xp_icge 37 rfl (by decide) (by omega) (by omega) (fun h29 => ?_) (fun h29 => ?_)
          · exfalso; omega
          · skip
            refine xp_iload_n rfl rfl ?_
            refine xp_iconst (n := 3) rfl (by decide) ?_
            refine xp_iclt 45 rfl (by decide) (by omega) (by omega) (fun h34 => ?_) (fun h34 => ?_)
            · skip
              refine xp_iload_n rfl rfl ?_
              refine xp_aload_n rfl rfl ?_
              refine xp_gfa rfl rfl (by decide) (by decide) (by first | assumption | exact hL.t rfl) (by first | assumption | exact hL.r rfl | exact hL.2.2.2.2.2) ?_
              refine xp_gfa rfl rfl (by decide) (by decide) (by first | assumption | exact hL.t rfl) (by first | assumption | exact hL.r rfl | exact hL.2.2.2.2.2) ?_
              refine xp_gfi rfl rfl (by decide) (by decide) (by first | assumption | exact hL.t rfl) ?_
              refine xp_iclt 61 rfl (by decide) (by omega) (by omega) (fun h56 => ?_) (fun h56 => ?_)
              · skip
                refine xp_aload_n rfl rfl ?_
                refine xp_gfa rfl rfl (by decide) (by decide) (by first | assumption | exact hL.t rfl) (by first | assumption | exact hL.r rfl | exact hL.2.2.2.2.2) ?_
                refine xp_gfa rfl rfl (by decide) (by decide) (by first | assumption | exact hL.t rfl) (by first | assumption | exact hL.r rfl | exact hL.2.2.2.2.2) ?_
                refine xp_gfa rfl rfl (by decide) (by decide) (by first | assumption | exact hL.t rfl) (by first | assumption | exact hL.r rfl | exact hL.2.2.2.2.2) ?_
                refine xp_iload_n rfl rfl ?_
                refine xp_aald rfl (by first | assumption | exact hL.t rfl) (by decide) (by decide) (by omega) (by omega) (by first | assumption | exact hL.r rfl | exact hL.2.2.2.2.2) ?_
                refine xp_iload_n rfl rfl ?_
                refine xp_bipush (n := 10) rfl (by decide) ?_
                refine xp_idiv rfl (by decide) ?_
                rw [ed]
                refine xp_is rfl rfl rfl (Nat.le_of_ble_eq_true rfl) (by decide) (by decide) (by decide) (Nat.le_of_ble_eq_true rfl) rfl (xrcv0 (by decide) _ _) (c20_3 hS hp1 hp5 hp2) rfl ?_
                refine xp_ireturn rfl (by decide) (by decide) (by decide) ?_
                rfl
              · exfalso; omega
            · exfalso; omega
      · exfalso; omega
  · rw [hg] at ed ⊢
    refine xF_eq (xF_p (Nat.le_of_ble_eq_true rfl) ?_)
    refine xp_iload_n rfl rfl ?_
    refine xp_iflt 15 rfl (by decide) (by omega) (fun h1 => ?_) (fun h1 => ?_)
    · exfalso; omega
    · skip
      refine xp_iload_n rfl rfl ?_
      refine xp_iconst (n := 5) rfl (by decide) ?_
      refine xp_icgt 15 rfl (by decide) (by omega) (by omega) (fun h6 => ?_) (fun h6 => ?_)
      · skip
        refine xp_iload_n rfl rfl ?_
        refine xp_bipush (n := 10) rfl (by decide) ?_
        refine xp_irem rfl (by decide) ?_
        rw [er]
        refine xp_istore_n rfl (by decide) ?_
        refine xp_iload_n rfl rfl ?_
        refine xp_bipush (n := 10) rfl (by decide) ?_
        refine xp_iclt 37 rfl (by decide) (by omega) (by omega) (fun h23 => ?_) (fun h23 => ?_)
        · exfalso; omega
        · skip
          refine xp_iload_n rfl rfl ?_
          refine xp_bipush (n := 70) rfl (by decide) ?_
          refine xp_icge 37 rfl (by decide) (by omega) (by omega) (fun h29 => ?_) (fun h29 => ?_)
          · exfalso; omega
          · skip
            refine xp_iload_n rfl rfl ?_
            refine xp_iconst (n := 3) rfl (by decide) ?_
            refine xp_iclt 45 rfl (by decide) (by omega) (by omega) (fun h34 => ?_) (fun h34 => ?_)
            · skip
              refine xp_iload_n rfl rfl ?_
              refine xp_aload_n rfl rfl ?_
              refine xp_gfa rfl rfl (by decide) (by decide) (by first | assumption | exact hL.t rfl) (by first | assumption | exact hL.r rfl | exact hL.2.2.2.2.2) ?_
              refine xp_gfa rfl rfl (by decide) (by decide) (by first | assumption | exact hL.t rfl) (by first | assumption | exact hL.r rfl | exact hL.2.2.2.2.2) ?_
              refine xp_gfi rfl rfl (by decide) (by decide) (by first | assumption | exact hL.t rfl) ?_
              refine xp_iclt 61 rfl (by decide) (by omega) (by omega) (fun h56 => ?_) (fun h56 => ?_)
              · skip
                refine xp_aload_n rfl rfl ?_
                refine xp_gfa rfl rfl (by decide) (by decide) (by first | assumption | exact hL.t rfl) (by first | assumption | exact hL.r rfl | exact hL.2.2.2.2.2) ?_
                refine xp_gfa rfl rfl (by decide) (by decide) (by first | assumption | exact hL.t rfl) (by first | assumption | exact hL.r rfl | exact hL.2.2.2.2.2) ?_
                refine xp_gfa rfl rfl (by decide) (by decide) (by first | assumption | exact hL.t rfl) (by first | assumption | exact hL.r rfl | exact hL.2.2.2.2.2) ?_
                refine xp_iload_n rfl rfl ?_
                refine xp_aald rfl (by first | assumption | exact hL.t rfl) (by decide) (by decide) (by omega) (by omega) (by first | assumption | exact hL.r rfl | exact hL.2.2.2.2.2) ?_
                refine xp_iload_n rfl rfl ?_
                refine xp_bipush (n := 10) rfl (by decide) ?_
                refine xp_idiv rfl (by decide) ?_
                rw [ed]
                refine xp_is rfl rfl rfl (Nat.le_of_ble_eq_true rfl) (by decide) (by decide) (by decide) (Nat.le_of_ble_eq_true rfl) rfl (xrcv0 (by decide) _ _) (c20_4 hS hp1 hp5 hp2) rfl ?_
                refine xp_ireturn rfl (by decide) (by decide) (by decide) ?_
                rfl
              · exfalso; omega
            · exfalso; omega
      · exfalso; omega
  · rw [hg] at ed ⊢
    refine xF_eq (xF_p (Nat.le_of_ble_eq_true rfl) ?_)
    refine xp_iload_n rfl rfl ?_
    refine xp_iflt 15 rfl (by decide) (by omega) (fun h1 => ?_) (fun h1 => ?_)
    · exfalso; omega
    · skip
      refine xp_iload_n rfl rfl ?_
      refine xp_iconst (n := 5) rfl (by decide) ?_
      refine xp_icgt 15 rfl (by decide) (by omega) (by omega) (fun h6 => ?_) (fun h6 => ?_)
      · skip
        refine xp_iload_n rfl rfl ?_
        refine xp_bipush (n := 10) rfl (by decide) ?_
        refine xp_irem rfl (by decide) ?_
        rw [er]
        refine xp_istore_n rfl (by decide) ?_
        refine xp_iload_n rfl rfl ?_
        refine xp_bipush (n := 10) rfl (by decide) ?_
        refine xp_iclt 37 rfl (by decide) (by omega) (by omega) (fun h23 => ?_) (fun h23 => ?_)
        · exfalso; omega
        · skip
          refine xp_iload_n rfl rfl ?_
          refine xp_bipush (n := 70) rfl (by decide) ?_
          refine xp_icge 37 rfl (by decide) (by omega) (by omega) (fun h29 => ?_) (fun h29 => ?_)
          · exfalso; omega
          · skip
            refine xp_iload_n rfl rfl ?_
            refine xp_iconst (n := 3) rfl (by decide) ?_
            refine xp_iclt 45 rfl (by decide) (by omega) (by omega) (fun h34 => ?_) (fun h34 => ?_)
            · skip
              refine xp_iload_n rfl rfl ?_
              refine xp_aload_n rfl rfl ?_
              refine xp_gfa rfl rfl (by decide) (by decide) (by first | assumption | exact hL.t rfl) (by first | assumption | exact hL.r rfl | exact hL.2.2.2.2.2) ?_
              refine xp_gfa rfl rfl (by decide) (by decide) (by first | assumption | exact hL.t rfl) (by first | assumption | exact hL.r rfl | exact hL.2.2.2.2.2) ?_
              refine xp_gfi rfl rfl (by decide) (by decide) (by first | assumption | exact hL.t rfl) ?_
              refine xp_iclt 61 rfl (by decide) (by omega) (by omega) (fun h56 => ?_) (fun h56 => ?_)
              · skip
                refine xp_aload_n rfl rfl ?_
                refine xp_gfa rfl rfl (by decide) (by decide) (by first | assumption | exact hL.t rfl) (by first | assumption | exact hL.r rfl | exact hL.2.2.2.2.2) ?_
                refine xp_gfa rfl rfl (by decide) (by decide) (by first | assumption | exact hL.t rfl) (by first | assumption | exact hL.r rfl | exact hL.2.2.2.2.2) ?_
                refine xp_gfa rfl rfl (by decide) (by decide) (by first | assumption | exact hL.t rfl) (by first | assumption | exact hL.r rfl | exact hL.2.2.2.2.2) ?_
                refine xp_iload_n rfl rfl ?_
                refine xp_aald rfl (by first | assumption | exact hL.t rfl) (by decide) (by decide) (by omega) (by omega) (by first | assumption | exact hL.r rfl | exact hL.2.2.2.2.2) ?_
                refine xp_iload_n rfl rfl ?_
                refine xp_bipush (n := 10) rfl (by decide) ?_
                refine xp_idiv rfl (by decide) ?_
                rw [ed]
                refine xp_is rfl rfl rfl (Nat.le_of_ble_eq_true rfl) (by decide) (by decide) (by decide) (Nat.le_of_ble_eq_true rfl) rfl (xrcv0 (by decide) _ _) (c20_5 hS hp1 hp5 hp2) rfl ?_
                refine xp_ireturn rfl (by decide) (by decide) (by decide) ?_
                rfl
              · exfalso; omega
            · exfalso; omega
      · exfalso; omega
  · rw [hg] at ed ⊢
    refine xF_eq (xF_p (Nat.le_of_ble_eq_true rfl) ?_)
    refine xp_iload_n rfl rfl ?_
    refine xp_iflt 15 rfl (by decide) (by omega) (fun h1 => ?_) (fun h1 => ?_)
    · exfalso; omega
    · skip
      refine xp_iload_n rfl rfl ?_
      refine xp_iconst (n := 5) rfl (by decide) ?_
      refine xp_icgt 15 rfl (by decide) (by omega) (by omega) (fun h6 => ?_) (fun h6 => ?_)
      · skip
        refine xp_iload_n rfl rfl ?_
        refine xp_bipush (n := 10) rfl (by decide) ?_
        refine xp_irem rfl (by decide) ?_
        rw [er]
        refine xp_istore_n rfl (by decide) ?_
        refine xp_iload_n rfl rfl ?_
        refine xp_bipush (n := 10) rfl (by decide) ?_
        refine xp_iclt 37 rfl (by decide) (by omega) (by omega) (fun h23 => ?_) (fun h23 => ?_)
        · exfalso; omega
        · skip
          refine xp_iload_n rfl rfl ?_
          refine xp_bipush (n := 70) rfl (by decide) ?_
          refine xp_icge 37 rfl (by decide) (by omega) (by omega) (fun h29 => ?_) (fun h29 => ?_)
          · exfalso; omega
          · skip
            refine xp_iload_n rfl rfl ?_
            refine xp_iconst (n := 3) rfl (by decide) ?_
            refine xp_iclt 45 rfl (by decide) (by omega) (by omega) (fun h34 => ?_) (fun h34 => ?_)
            · skip
              refine xp_iload_n rfl rfl ?_
              refine xp_aload_n rfl rfl ?_
              refine xp_gfa rfl rfl (by decide) (by decide) (by first | assumption | exact hL.t rfl) (by first | assumption | exact hL.r rfl | exact hL.2.2.2.2.2) ?_
              refine xp_gfa rfl rfl (by decide) (by decide) (by first | assumption | exact hL.t rfl) (by first | assumption | exact hL.r rfl | exact hL.2.2.2.2.2) ?_
              refine xp_gfi rfl rfl (by decide) (by decide) (by first | assumption | exact hL.t rfl) ?_
              refine xp_iclt 61 rfl (by decide) (by omega) (by omega) (fun h56 => ?_) (fun h56 => ?_)
              · skip
                refine xp_aload_n rfl rfl ?_
                refine xp_gfa rfl rfl (by decide) (by decide) (by first | assumption | exact hL.t rfl) (by first | assumption | exact hL.r rfl | exact hL.2.2.2.2.2) ?_
                refine xp_gfa rfl rfl (by decide) (by decide) (by first | assumption | exact hL.t rfl) (by first | assumption | exact hL.r rfl | exact hL.2.2.2.2.2) ?_
                refine xp_gfa rfl rfl (by decide) (by decide) (by first | assumption | exact hL.t rfl) (by first | assumption | exact hL.r rfl | exact hL.2.2.2.2.2) ?_
                refine xp_iload_n rfl rfl ?_
                refine xp_aald rfl (by first | assumption | exact hL.t rfl) (by decide) (by decide) (by omega) (by omega) (by first | assumption | exact hL.r rfl | exact hL.2.2.2.2.2) ?_
                refine xp_iload_n rfl rfl ?_
                refine xp_bipush (n := 10) rfl (by decide) ?_
                refine xp_idiv rfl (by decide) ?_
                rw [ed]
                refine xp_is rfl rfl rfl (Nat.le_of_ble_eq_true rfl) (by decide) (by decide) (by decide) (Nat.le_of_ble_eq_true rfl) rfl (xrcv0 (by decide) _ _) (c20_6 hS hp1 hp5 hp2) rfl ?_
                refine xp_ireturn rfl (by decide) (by decide) (by decide) ?_
                rfl
              · exfalso; omega
            · exfalso; omega
      · exfalso; omega
theorem c8a {z : Nat} {T : Nat → Option xT} {R : Nat → Nat → Option Nat} {A : xQ} {w k : Nat} (hL : xLay T R w) (hk0 : ¬ k ≤ 5) (hk : k < 2 ^ 31) (hq : ¬ (10 ≤ k ∧ k < 70 ∧ k % 10 < 3)) : xF 8 [.ref 0, .int (nI k)] (xm z T R A) (.inl 0, xm (z + 1) T R A) := by
  have er := nI_rem (m := k) (n := 10) (by omega) (by omega) (by omega)
  refine xF_eq (xF_p (Nat.le_of_ble_eq_true rfl) ?_)
  refine xp_iload_n rfl rfl ?_
  refine xp_iflt 15 rfl (by decide) (by omega) (fun h1 => ?_) (fun h1 => ?_)
  · exfalso; omega
  · skip
    refine xp_iload_n rfl rfl ?_
    refine xp_iconst (n := 5) rfl (by decide) ?_
    refine xp_icgt 15 rfl (by decide) (by omega) (by omega) (fun h6 => ?_) (fun h6 => ?_)
    · skip
      refine xp_iload_n rfl rfl ?_
      refine xp_bipush (n := 10) rfl (by decide) ?_
      refine xp_irem rfl (by decide) ?_
      rw [er]
      refine xp_istore_n rfl (by decide) ?_
      refine xp_iload_n rfl rfl ?_
      refine xp_bipush (n := 10) rfl (by decide) ?_
      refine xp_iclt 37 rfl (by decide) (by omega) (by omega) (fun h23 => ?_) (fun h23 => ?_)
      · skip
        refine xp_throw rfl rfl (Nat.le_of_ble_eq_true rfl) (by decide) (by decide) (by decide) ?_
        rfl
      · skip
        refine xp_iload_n rfl rfl ?_
        refine xp_bipush (n := 70) rfl (by decide) ?_
        refine xp_icge 37 rfl (by decide) (by omega) (by omega) (fun h29 => ?_) (fun h29 => ?_)
        · skip
          refine xp_throw rfl rfl (Nat.le_of_ble_eq_true rfl) (by decide) (by decide) (by decide) ?_
          rfl
        · skip
          refine xp_iload_n rfl rfl ?_
          refine xp_iconst (n := 3) rfl (by decide) ?_
          refine xp_iclt 45 rfl (by decide) (by omega) (by omega) (fun h34 => ?_) (fun h34 => ?_)
          · exfalso; omega
          · skip
            refine xp_throw rfl rfl (Nat.le_of_ble_eq_true rfl) (by decide) (by decide) (by decide) ?_
            rfl
    · exfalso; omega
theorem c8n {z : Nat} {T : Nat → Option xT} {R : Nat → Nat → Option Nat} {A : xQ} {w k : Nat} (hL : xLay T R w) (hk : 2 ^ 31 ≤ k) (hk2 : k < 2 ^ 32) : xF 8 [.ref 0, .int (nI k)] (xm z T R A) (.inl 0, xm (z + 1) T R A) := by
  have s1 := sg_n (n := k) hk
  have s2 := sg_p (n := 10) (by omega)
  refine xF_eq (xF_p (Nat.le_of_ble_eq_true rfl) ?_)
  refine xp_iload_n rfl rfl ?_
  refine xp_iflt 15 rfl (by decide) (by omega) (fun h1 => ?_) (fun h1 => ?_)
  · skip
    refine xp_iload_n rfl rfl ?_
    refine xp_bipush (n := 10) rfl (by decide) ?_
    refine xp_irem rfl (by decide) ?_
    refine xp_istore_n rfl (by decide) ?_
    refine xp_iload_n rfl rfl ?_
    refine xp_bipush (n := 10) rfl (by decide) ?_
    refine xp_icltS 37 rfl (by decide) (by omega) (by omega) (fun h23 => ?_) (fun h23 => ?_)
    · skip
      refine xp_throw rfl rfl (Nat.le_of_ble_eq_true rfl) (by decide) (by decide) (by decide) ?_
      rfl
    · exfalso; omega
  · exfalso; omega
