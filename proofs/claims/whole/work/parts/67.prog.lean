-- function, handle, add
theorem COk.prog {w : Nat} {A A2 : xQ} (h : COk w A) (h1 : ∀ a j, 11 ≤ a → a ≤ 188 → A2.1 a j = A.1 a j) (h2 : ∀ a j, a ≤ 188 → A2.2 a j = A.2 a j) (hP : POk A2) : COk w A2 := by
  obtain ⟨h0, ⟨w1, w2, w3⟩, g2, g3, g4, g5⟩ := h
  have ehp : ∀ o, A2.1 (w + 3) o = A.1 (w + 3) o := fun o => h1 _ _ (by omega) (by omega)
  refine ⟨h0, ⟨by rw [h1 w 2 (by omega) (by omega)]; exact w1, fun u hu => ?_, fun o ho => ?_⟩, hP, g3.same (h1 _ _ (by omega) (by omega)) ehp, fun u hu i hi => ?_, by rw [h1 w 3 (by omega) (by omega)]; exact g5⟩
  · rw [h1 w 2 (by omega) (by omega)] at hu
    exact (w2 u hu).away (fun a j _ _ => h1 a j (by omega) (by omega)) (fun a j q1 q2 => h2 a j (by omega)) (fun o _ => ehp o)
  · exact (w3 o ho).same ehp (h1 _ _ (by omega) (by omega)) (h1 _ _ (by omega) (by omega)) (fun j => h1 _ _ (by omega) (by omega)) (fun j => h2 _ j (by omega))
  · rw [h1 w 2 (by omega) (by omega)] at hu
    have hu5 := (w2 u hu).2.1
    rw [h1 _ 3 (by omega) (by omega)] at hi
    rw [h1 _ 2 (by omega) (by omega)]
    exact g4 u hu i hi
theorem Rel.prog {w : Nat} {A B A2 B2 : xQ} (h : Rel w A B) (hc : COk w A) (h1 : ∀ a j, 11 ≤ a → a ≤ 188 → A2.1 a j = A.1 a j) (h2 : ∀ a j, a ≤ 188 → A2.2 a j = A.2 a j) (g1 : ∀ a j, relB a j → (a < 190 ∨ 198 < a) → B2.1 a j = B.1 a j) (g2 : ∀ a j, a = 207 ∨ a = 213 → B2.2 a j = B.2 a j) (hP : RelP A2 B2) : Rel w A2 B2 := by
  have h0 := hc.1
  have hc3 := hc.cnt
  unfold relB at g1
  obtain ⟨r1, r2, r3, r4, r5⟩ := h
  refine ⟨hP, r2.same (fun j => h1 _ _ (by omega) (by omega)) (fun j => h1 _ _ (by omega) (by omega)) (h1 _ _ (by omega) (by omega)) (g1 _ _ (by omega) (by omega)) (g1 _ _ (by omega) (by omega)) (fun j => g1 _ _ (by omega) (by omega)), r3.same (fun j => h1 _ _ (by omega) (by omega)) (h1 _ _ (by omega) (by omega)) (fun j => h1 _ _ (by omega) (by omega)) (fun j => h2 _ _ (by omega)) (fun j _ _ _ => g1 _ _ (by omega) (by omega)) (fun j => g2 _ _ (by omega)), fun u hu => ?_, fun o ho => ?_⟩
  · rw [h1 w 2 (by omega) (by omega)] at hu
    exact (r4 u hu).away (by omega) (hc.st hu) (fun a j _ _ => h1 a j (by omega) (by omega)) (fun a j _ _ => h2 a j (by omega)) (fun a _ _ => g1 a _ (by omega) (by omega)) (fun a j _ _ _ _ => g1 a j (by omega) (by omega)) (fun j _ => g1 _ j (by omega) (by omega)) (fun j _ => g2 _ j (by omega))
  · exact (r5 o ho).away (hc.2.1.2.2 o ho) (fun a _ _ => h1 a _ (by omega) (by omega)) (fun i _ => h1 _ _ (by omega) (by omega)) (fun i _ => h2 _ _ (by omega)) (fun a _ _ _ => g1 a _ (by omega) (by omega)) (fun i _ => g1 _ _ (by omega) (by omega)) (fun i _ => g2 _ _ (by omega))
theorem mIn_any {v lo hi : Nat} (h1 : v < 2 ^ 32) (h2 : lo < 2 ^ 31) (h3 : hi < 2 ^ 31) : mIn v lo hi = if lo ≤ v ∧ v ≤ hi then 1 else 0 := by
  by_cases q : v < 2 ^ 31
  · exact mIn_p q h2 h3
  · rw [mIn_n (by omega) h1 h2, if_neg (by omega)]
theorem c15 {z : Nat} {T : Nat → Option xT} {R : Nat → Nat → Option Nat} {A : xQ} {k : Nat} (hk : k < 2 ^ 32) : xF 15 [.int (nI k)] (xm z T R A) (.inr (some (.int (nI (if k < 6 then 1 else 0)))), xm z T R A) := by
  refine xF_eq (xF_p (Nat.le_of_ble_eq_true rfl) ?_)
  refine xp_iload_n rfl rfl ?_
  refine xp_iflt 14 rfl (by decide) (by omega) (fun h1 => ?_) (fun h1 => ?_)
  · skip
    refine xp_iconst (n := 0) rfl (by decide) ?_
    refine xp_zreturn rfl (by decide) (by decide) (by decide) (by omega) ?_
    first | (rw [if_pos (by omega)]) | (rw [if_neg (by omega)])
  · skip
    refine xp_iload_n rfl rfl ?_
    refine xp_bipush (n := 6) rfl (by decide) ?_
    refine xp_icge 14 rfl (by decide) (by omega) (by omega) (fun h7 => ?_) (fun h7 => ?_)
    · skip
      refine xp_iconst (n := 0) rfl (by decide) ?_
      refine xp_zreturn rfl (by decide) (by decide) (by decide) (by omega) ?_
      first | (rw [if_pos (by omega)]) | (rw [if_neg (by omega)])
    · skip
      refine xp_iconst (n := 1) rfl (by decide) ?_
      refine xp_goto 15 rfl (by decide) ?_
      refine xp_zreturn rfl (by decide) (by decide) (by decide) (by omega) ?_
      first | (rw [if_pos (by omega)]) | (rw [if_neg (by omega)])
theorem c16 {z : Nat} {T : Nat → Option xT} {R : Nat → Nat → Option Nat} {A : xQ} {k : Nat} (hk : k < 2 ^ 32) : xF 16 [.int (nI k)] (xm z T R A) (.inr (some (.int (nI (if k < 30 then 1 else 0)))), xm z T R A) := by
  refine xF_eq (xF_p (Nat.le_of_ble_eq_true rfl) ?_)
  refine xp_iload_n rfl rfl ?_
  refine xp_iflt 14 rfl (by decide) (by omega) (fun h1 => ?_) (fun h1 => ?_)
  · skip
    refine xp_iconst (n := 0) rfl (by decide) ?_
    refine xp_zreturn rfl (by decide) (by decide) (by decide) (by omega) ?_
    first | (rw [if_pos (by omega)]) | (rw [if_neg (by omega)])
  · skip
    refine xp_iload_n rfl rfl ?_
    refine xp_bipush (n := 30) rfl (by decide) ?_
    refine xp_icge 14 rfl (by decide) (by omega) (by omega) (fun h7 => ?_) (fun h7 => ?_)
    · skip
      refine xp_iconst (n := 0) rfl (by decide) ?_
      refine xp_zreturn rfl (by decide) (by decide) (by decide) (by omega) ?_
      first | (rw [if_pos (by omega)]) | (rw [if_neg (by omega)])
    · skip
      refine xp_iconst (n := 1) rfl (by decide) ?_
      refine xp_goto 15 rfl (by decide) ?_
      refine xp_zreturn rfl (by decide) (by decide) (by decide) (by omega) ?_
      first | (rw [if_pos (by omega)]) | (rw [if_neg (by omega)])
theorem c71 {z : Nat} {T : Nat → Option xT} {R : Nat → Nat → Option Nat} {A : xQ} {w f a : Nat} (hL : xLay T R w) (hf : f < 6) : xF 71 [.ref 1, .int (nI f), .int (nI a)] (xm z T R A) (.inr (none), xm z T R (xsI (xsI (xsI A 2 f a) 3 f 0) 7 f 0)) := by
  refine xF_eq (xF_p (Nat.le_of_ble_eq_true rfl) ?_)
  refine xp_aload_n rfl rfl ?_
  refine xp_gfa rfl rfl (by decide) (by decide) (by first | assumption | exact hL.t rfl) (by first | assumption | exact hL.r rfl | exact hL.2.2.2.2.2) ?_
  refine xp_iload_n rfl rfl ?_
  refine xp_iload_n rfl rfl ?_
  refine xp_iast rfl (by first | assumption | exact hL.t rfl) (by omega) (by omega) ?_
  refine xp_aload_n rfl rfl ?_
  refine xp_gfa rfl rfl (by decide) (by decide) (by first | assumption | exact hL.t rfl) (by first | assumption | exact hL.r rfl | exact hL.2.2.2.2.2) ?_
  refine xp_iload_n rfl rfl ?_
  refine xp_iconst (n := 0) rfl (by decide) ?_
  refine xp_iast rfl (by first | assumption | exact hL.t rfl) (by omega) (by omega) ?_
  refine xp_aload_n rfl rfl ?_
  refine xp_gfa rfl rfl (by decide) (by decide) (by first | assumption | exact hL.t rfl) (by first | assumption | exact hL.r rfl | exact hL.2.2.2.2.2) ?_
  refine xp_iload_n rfl rfl ?_
  refine xp_iconst (n := 0) rfl (by decide) ?_
  refine xp_iast rfl (by first | assumption | exact hL.t rfl) (by omega) (by omega) ?_
  refine xp_return rfl (by decide) (by decide) (by decide) ?_
  rfl
theorem c1 {z : Nat} {T : Nat → Option xT} {R : Nat → Nat → Option Nat} {A : xQ} {w f a : Nat} (hL : xLay T R w) (hf : f < 6) (ha : a ≤ 2) : xF 1 [.ref 0, .int (nI f), .int (nI a)] (xm z T R A) (.inr (some (.int (nI a))), xm z T R (xsI (xsI (xsI A 2 f a) 3 f 0) 7 f 0)) := by
  have i6 : (if f < 6 then 1 else 0) = 1 := if_pos hf
  refine xF_eq (xF_p (Nat.le_of_ble_eq_true rfl) ?_)
  refine xp_iload_n rfl rfl ?_
  refine xp_is rfl rfl rfl (Nat.le_of_ble_eq_true rfl) (by decide) (by decide) (by decide) (Nat.le_of_ble_eq_true rfl) rfl (xrcv0 (by decide) _ _) (c15 (by omega)) rfl ?_
  rw [i6]
  refine xp_ifeq 16 rfl (by decide) (by omega) (fun h4 => ?_) (fun h4 => ?_)
  · exfalso; omega
  · skip
    refine xp_iload_n rfl rfl ?_
    refine xp_iflt 16 rfl (by decide) (by omega) (fun h8 => ?_) (fun h8 => ?_)
    · exfalso; omega
    · skip
      refine xp_iload_n rfl rfl ?_
      refine xp_iconst (n := 2) rfl (by decide) ?_
      refine xp_icle 24 rfl (by decide) (by omega) (by omega) (fun h13 => ?_) (fun h13 => ?_)
      · skip
        refine xp_aload_n rfl rfl ?_
        refine xp_gfa rfl rfl (by decide) (by decide) (by first | assumption | exact hL.t rfl) (by first | assumption | exact hL.r rfl | exact hL.2.2.2.2.2) ?_
        refine xp_iload_n rfl rfl ?_
        refine xp_iload_n rfl rfl ?_
        refine xp_iv rfl rfl (Nat.le_of_ble_eq_true rfl) (by decide) (by decide) (by decide) (Nat.le_of_ble_eq_true rfl) rfl (xrcv1 (by decide) (by first | assumption | exact hL.t rfl)) (c71 hL hf) rfl ?_
        refine xp_iload_n rfl rfl ?_
        refine xp_ireturn rfl (by decide) (by decide) (by decide) ?_
        rfl
      · exfalso; omega
theorem c1a {z : Nat} {T : Nat → Option xT} {R : Nat → Nat → Option Nat} {A : xQ} {w f a : Nat} (hL : xLay T R w) (hf : f < 2 ^ 32) (ha : a < 2 ^ 32) (hq : ¬ (f < 6 ∧ a ≤ 2)) : xF 1 [.ref 0, .int (nI f), .int (nI a)] (xm z T R A) (.inl 0, xm (z + 1) T R A) := by
  refine xF_eq (xF_p (Nat.le_of_ble_eq_true rfl) ?_)
  refine xp_iload_n rfl rfl ?_
  refine xp_is rfl rfl rfl (Nat.le_of_ble_eq_true rfl) (by decide) (by decide) (by decide) (Nat.le_of_ble_eq_true rfl) rfl (xrcv0 (by decide) _ _) (c15 hf) rfl ?_
  refine xp_ifeq 16 rfl (by decide) (by split <;> omega) (fun h4 => ?_) (fun h4 => ?_)
  · skip
    have hf6 : ¬ f < 6 := fun z => by rw [if_pos z] at h4; omega
    refine xp_throw rfl rfl (Nat.le_of_ble_eq_true rfl) (by decide) (by decide) (by decide) ?_
    rfl
  · skip
    have hf6 : f < 6 := by
      by_cases q : f < 6
      · exact q
      · rw [if_neg q] at h4; omega
    refine xp_iload_n rfl rfl ?_
    refine xp_iflt 16 rfl (by decide) (by omega) (fun h8 => ?_) (fun h8 => ?_)
    · skip
      refine xp_throw rfl rfl (Nat.le_of_ble_eq_true rfl) (by decide) (by decide) (by decide) ?_
      rfl
    · skip
      refine xp_iload_n rfl rfl ?_
      refine xp_iconst (n := 2) rfl (by decide) ?_
      refine xp_icle 24 rfl (by decide) (by omega) (by omega) (fun h13 => ?_) (fun h13 => ?_)
      · exfalso; omega
      · skip
        refine xp_throw rfl rfl (Nat.le_of_ble_eq_true rfl) (by decide) (by decide) (by decide) ?_
        rfl
theorem m114 {z : Nat} {T : Nat → Option xT} {R : Nat → Nat → Option Nat} {B : xQ} {w f a : Nat} (hL : xLay T R w) (hf : f < 6) (ha : a ≤ 2) : xF 114 [.ref 189, .int (nI f), .int (nI a)] (xm z T R B) (.inr (some (.int (nI a))), xm z T R (xsI (xsI (xsI (xsI B 189 14 0) 190 f a) 191 f 0) 192 f 0)) := by
  have e1 : mIn f 0 5 = 1 := by rw [mIn_any (by omega) (by omega) (by omega), if_pos (by omega)]
  have e2 : mIn a 0 2 = 1 := by rw [mIn_any (by omega) (by omega) (by omega), if_pos (by omega)]
  refine xF_eq (xF_p (Nat.le_of_ble_eq_true rfl) ?_)
  refine xp_iload_n rfl rfl ?_
  refine xp_iconst (n := 0) rfl (by decide) ?_
  refine xp_iconst (n := 5) rfl (by decide) ?_
  refine xp_is rfl rfl rfl (Nat.le_of_ble_eq_true rfl) (by decide) (by decide) (by decide) (Nat.le_of_ble_eq_true rfl) rfl (xrcv0 (by decide) _ _) (m112 (by omega) (by omega) (by omega)) rfl ?_
  rw [e1]
  refine xp_ifeq 18 rfl (by decide) (by omega) (fun h6 => ?_) (fun h6 => ?_)
  · exfalso; omega
  · skip
    refine xp_iload_n rfl rfl ?_
    refine xp_iconst (n := 0) rfl (by decide) ?_
    refine xp_iconst (n := 2) rfl (by decide) ?_
    refine xp_is rfl rfl rfl (Nat.le_of_ble_eq_true rfl) (by decide) (by decide) (by decide) (Nat.le_of_ble_eq_true rfl) rfl (xrcv0 (by decide) _ _) (m112 (by omega) (by omega) (by omega)) rfl ?_
    rw [e2]
    refine xp_ifne 24 rfl (by decide) (by omega) (fun h15 => ?_) (fun h15 => ?_)
    · skip
      refine xp_aload_n rfl rfl ?_
      refine xp_iconst (n := 0) rfl (by decide) ?_
      refine xp_pfi rfl rfl (by decide) (by decide) (by decide) (by first | assumption | exact hL.t rfl) ?_
      refine xp_aload_n rfl rfl ?_
      refine xp_gfa rfl rfl (by decide) (by decide) (by first | assumption | exact hL.t rfl) (by first | assumption | exact hL.r rfl | exact hL.2.2.2.2.2) ?_
      refine xp_iload_n rfl rfl ?_
      refine xp_iload_n rfl rfl ?_
      refine xp_iast rfl (by first | assumption | exact hL.t rfl) (by omega) (by omega) ?_
      refine xp_aload_n rfl rfl ?_
      refine xp_gfa rfl rfl (by decide) (by decide) (by first | assumption | exact hL.t rfl) (by first | assumption | exact hL.r rfl | exact hL.2.2.2.2.2) ?_
      refine xp_iload_n rfl rfl ?_
      refine xp_iconst (n := 0) rfl (by decide) ?_
      refine xp_iast rfl (by first | assumption | exact hL.t rfl) (by omega) (by omega) ?_
      refine xp_aload_n rfl rfl ?_
      refine xp_gfa rfl rfl (by decide) (by decide) (by first | assumption | exact hL.t rfl) (by first | assumption | exact hL.r rfl | exact hL.2.2.2.2.2) ?_
      refine xp_iload_n rfl rfl ?_
      refine xp_iconst (n := 0) rfl (by decide) ?_
      refine xp_iast rfl (by first | assumption | exact hL.t rfl) (by omega) (by omega) ?_
      refine xp_iload_n rfl rfl ?_
      refine xp_ireturn rfl (by decide) (by decide) (by decide) ?_
      rfl
    · exfalso; omega
theorem m114a {z : Nat} {T : Nat → Option xT} {R : Nat → Nat → Option Nat} {B : xQ} {w f a : Nat} (hL : xLay T R w) (hf : f < 2 ^ 32) (ha : a < 2 ^ 32) (hq : ¬ (f < 6 ∧ a ≤ 2)) : xF 114 [.ref 189, .int (nI f), .int (nI a)] (xm z T R B) (.inr (some (.int (nI 0))), xm z T R (xsI B 189 14 1)) := by
  have e1 := mIn_any (v := f) (lo := 0) (hi := 5) hf (by omega) (by omega)
  have e2 := mIn_any (v := a) (lo := 0) (hi := 2) ha (by omega) (by omega)
  have l1 := mIn_le f 0 5
  have l2 := mIn_le a 0 2
  have n12 : ¬ (mIn f 0 5 = 1 ∧ mIn a 0 2 = 1) := fun ⟨x, y⟩ => by
    rw [e1] at x
    rw [e2] at y
    by_cases q1 : 0 ≤ f ∧ f ≤ 5
    · by_cases q2 : 0 ≤ a ∧ a ≤ 2
      · exact hq ⟨by omega, by omega⟩
      · rw [if_neg q2] at y; omega
    · rw [if_neg q1] at x; omega
  refine xF_eq (xF_p (Nat.le_of_ble_eq_true rfl) ?_)
  refine xp_iload_n rfl rfl ?_
  refine xp_iconst (n := 0) rfl (by decide) ?_
  refine xp_iconst (n := 5) rfl (by decide) ?_
  refine xp_is rfl rfl rfl (Nat.le_of_ble_eq_true rfl) (by decide) (by decide) (by decide) (Nat.le_of_ble_eq_true rfl) rfl (xrcv0 (by decide) _ _) (m112 hf (by omega) (by omega)) rfl ?_
  refine xp_ifeq 18 rfl (by decide) (by omega) (fun h6 => ?_) (fun h6 => ?_)
  · skip
    refine xp_aload_n rfl rfl ?_
    refine xp_iconst (n := 1) rfl (by decide) ?_
    refine xp_iv rfl rfl (Nat.le_of_ble_eq_true rfl) (by decide) (by decide) (by decide) (Nat.le_of_ble_eq_true rfl) rfl (xrcv1 (by decide) (by first | assumption | exact hL.t rfl)) (m113 hL) rfl ?_
    refine xp_ireturn rfl (by decide) (by decide) (by decide) ?_
    rfl
  · skip
    refine xp_iload_n rfl rfl ?_
    refine xp_iconst (n := 0) rfl (by decide) ?_
    refine xp_iconst (n := 2) rfl (by decide) ?_
    refine xp_is rfl rfl rfl (Nat.le_of_ble_eq_true rfl) (by decide) (by decide) (by decide) (Nat.le_of_ble_eq_true rfl) rfl (xrcv0 (by decide) _ _) (m112 ha (by omega) (by omega)) rfl ?_
    refine xp_ifne 24 rfl (by decide) (by omega) (fun h15 => ?_) (fun h15 => ?_)
    · exfalso; omega
    · skip
      refine xp_aload_n rfl rfl ?_
      refine xp_iconst (n := 1) rfl (by decide) ?_
      refine xp_iv rfl rfl (Nat.le_of_ble_eq_true rfl) (by decide) (by decide) (by decide) (Nat.le_of_ble_eq_true rfl) rfl (xrcv1 (by decide) (by first | assumption | exact hL.t rfl)) (m113 hL) rfl ?_
      refine xp_ireturn rfl (by decide) (by decide) (by decide) ?_
      rfl
theorem pub_function (f a : Nat) (hf : f < 2 ^ 32) (ha : a < 2 ^ 32) : Pub 1 114 (mpO [(0, 1)]) [.int (nI f), .int (nI a)] := by
  refine Pub.mk rfl rfl gC2 gM2 (fun z T R w n A hn hI => ?_)
  obtain ⟨hL, hr, hc, hT, hR, h3, h4⟩ := hI
  have h0 := hc.1
  by_cases hq : f < 6 ∧ a ≤ 2
  · have a1 : ∀ b j, (b ≠ 2 ∧ b ≠ 3 ∧ b ≠ 7) ∨ j ≠ f → (xsI (xsI (xsI A 2 f a) 3 f 0) 7 f 0).1 b j = A.1 b j := fun b j q => by rw [xsI_ne (by omega), xsI_ne (by omega), xsI_ne (by omega)]
    have a2 : (xsI (xsI (xsI A 2 f a) 3 f 0) 7 f 0).1 2 f = a := by rw [xsI_ne (by omega), xsI_ne (by omega), xsI_eq]
    have a3 : (xsI (xsI (xsI A 2 f a) 3 f 0) 7 f 0).1 3 f = 0 := by rw [xsI_ne (by omega), xsI_eq]
    have a7 : (xsI (xsI (xsI A 2 f a) 3 f 0) 7 f 0).1 7 f = 0 := xsI_eq
    have hcl := c1 (z := z) (A := A) hL hq.1 hq.2
    have hj : (xsI (xsI (xsI A 2 f a) 3 f 0) 7 f 0).2 = A.2 := rfl
    generalize xsI (xsI (xsI A 2 f a) 3 f 0) 7 f 0 = A1 at a1 a2 a3 a7 hcl hj
    have hP : POk A1 := fun g hg => by
      by_cases e : g = f
      · subst e
        rw [a2, a3, a7]
        exact ⟨hq.2, by omega, by omega, fun j hj => by omega, fun j hj => by omega⟩
      · obtain ⟨q1, q2, q3, q4, q5⟩ := hc.2.2.1 g hg
        rw [a1 2 g (by omega), a1 3 g (by omega), a1 7 g (by omega)]
        refine ⟨q1, q2, q3, fun j hj => ?_, fun j hj => ?_⟩
        · rw [a1 4 _ (by omega), a1 5 _ (by omega), a1 6 _ (by omega)]; exact q4 j hj
        · rw [a1 8 _ (by omega), a1 9 _ (by omega), a1 10 _ (by omega)]; exact q5 j hj
    refine Or.inr ⟨_, A1, ⟨_, Or.inl rfl⟩, hcl, hc.prog (fun b j _ _ => a1 b j (by omega)) (fun b j _ => by rw [hj]) hP, hT.oth hc.cnt hc.2.2.2.2.2 (fun b j q => a1 b j (by omega)), by rw [a1 11 3 (by omega)]; omega, by rw [a1 11 4 (by omega)]; omega, fun B hB => ?_⟩
    have m := m114 (z := z) (B := B) hL hq.1 hq.2
    have b1 : ∀ b j, ((b ≠ 190 ∧ b ≠ 191 ∧ b ≠ 192) ∨ j ≠ f) → (b ≠ 189 ∨ j ≠ 14) → (xsI (xsI (xsI (xsI B 189 14 0) 190 f a) 191 f 0) 192 f 0).1 b j = B.1 b j := fun b j q q2 => by rw [xsI_ne (by omega), xsI_ne (by omega), xsI_ne (by omega), xsI_ne q2]
    have b14 : (xsI (xsI (xsI (xsI B 189 14 0) 190 f a) 191 f 0) 192 f 0).1 189 14 = 0 := by rw [xsI_ne (by omega), xsI_ne (by omega), xsI_ne (by omega), xsI_eq]
    have b2 : (xsI (xsI (xsI (xsI B 189 14 0) 190 f a) 191 f 0) 192 f 0).1 190 f = a := by rw [xsI_ne (by omega), xsI_ne (by omega), xsI_eq]
    have b3 : (xsI (xsI (xsI (xsI B 189 14 0) 190 f a) 191 f 0) 192 f 0).1 191 f = 0 := by rw [xsI_ne (by omega), xsI_eq]
    have b7 : (xsI (xsI (xsI (xsI B 189 14 0) 190 f a) 191 f 0) 192 f 0).1 192 f = 0 := xsI_eq
    have bj : (xsI (xsI (xsI (xsI B 189 14 0) 190 f a) 191 f 0) 192 f 0).2 = B.2 := rfl
    generalize xsI (xsI (xsI (xsI B 189 14 0) 190 f a) 191 f 0) 192 f 0 = B1 at m b1 b14 b2 b3 b7 bj
    refine ⟨B1, m, by rw [b14], hB.prog hc (fun b j _ _ => a1 b j (by omega)) (fun b j _ => by rw [hj]) (fun b j q q2 => by unfold relB at q; exact b1 b j (by omega) (by omega)) (fun b j _ => by rw [bj]) (fun g hg => ?_)⟩
    by_cases e : g = f
    · subst e
      rw [a2, a3, a7, b2, b3, b7]
      exact ⟨rfl, rfl, rfl, fun j hj => by omega, fun j hj => by omega⟩
    · obtain ⟨q1, q2, q3, q4, q5⟩ := hB.1 g hg
      rw [a1 2 g (by omega), a1 3 g (by omega), a1 7 g (by omega), b1 190 g (by omega) (by omega), b1 191 g (by omega) (by omega), b1 192 g (by omega) (by omega)]
      refine ⟨q1, q2, q3, fun j hj => ?_, fun j hj => ?_⟩
      · rw [a1 4 _ (by omega), a1 5 _ (by omega), a1 6 _ (by omega), b1 193 _ (by omega) (by omega), b1 194 _ (by omega) (by omega), b1 195 _ (by omega) (by omega)]; exact q4 j hj
      · rw [a1 8 _ (by omega), a1 9 _ (by omega), a1 10 _ (by omega), b1 196 _ (by omega) (by omega), b1 197 _ (by omega) (by omega), b1 198 _ (by omega) (by omega)]; exact q5 j hj
  · exact Or.inl ⟨0, by decide, c1a hL hf ha hq, fun B hB => ⟨_, _, m114a hL hf ha hq, by rw [xsI_eq]; rfl, hB.thr hc⟩⟩
