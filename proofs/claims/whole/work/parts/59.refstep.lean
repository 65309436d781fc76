-- THE REFERENCE: plain instructions, a step
theorem m144_0 {z : Nat} {T : Nat → Option xT} {R : Nat → Nat → Option Nat} {A B : xQ} {w t k f m a b : Nat} (hL : xLay T R w) (hc : COk w A) (hR : Rel w A B) (hT : Top w A t k f m) : ∃ B2, xF 144 [.ref 189, .int (nI m), .int (nI 0), .int (nI a), .int (nI b)] (xm z T R B) (.inr (some (.int (nI (aPl w A f 0 a b).1))), xm z T R B2) ∧ Rel w (aPl w A f 0 a b).2 B2 := by
  obtain ⟨b1, b2, b3, b4, b5, b6, b7⟩ := hT.b hc
  have hk := hT.ok hc
  have hd := (hT.g hR).2.2.1
  refine xF_x (xF_p (Nat.le_of_ble_eq_true rfl) ?_)
  refine xp_aload_n rfl rfl ?_
  refine xp_iload_n rfl rfl ?_
  refine xp_iconst (n := 0) rfl (by decide) ?_
  refine xp_iv rfl rfl (Nat.le_of_ble_eq_true rfl) (by decide) (by decide) (by decide) (Nat.le_of_ble_eq_true rfl) rfl (xrcv1 (by decide) (by first | assumption | exact hL.t rfl)) (m123 hL b3 (by omega)) rfl ?_
  refine xp_istore rfl (by decide) ?_
  refine xp_aload_n rfl rfl ?_
  refine xp_iload_n rfl rfl ?_
  refine xp_iconst (n := 1) rfl (by decide) ?_
  refine xp_iv rfl rfl (Nat.le_of_ble_eq_true rfl) (by decide) (by decide) (by decide) (Nat.le_of_ble_eq_true rfl) rfl (xrcv1 (by decide) (by first | assumption | exact hL.t rfl)) (m123 hL b3 (by omega)) rfl ?_
  refine xp_istore rfl (by decide) ?_
  refine xp_iload_n rfl rfl ?_
  refine xp_tsw 366 rfl (by omega) (by first | rfl | (rw [if_pos (by omega)]) | (rw [if_neg (by omega)]; rfl)) (by decide) ?_
  refine xp_iconst (n := 0) rfl (by decide) ?_
  refine xp_ireturn rfl (by decide) (by decide) (by decide) ?_
  exact ⟨_, rfl, hR⟩
theorem m144_1 {z : Nat} {T : Nat → Option xT} {R : Nat → Nat → Option Nat} {A B : xQ} {w t k f m a b : Nat} (hL : xLay T R w) (hc : COk w A) (hR : Rel w A B) (hT : Top w A t k f m) : ∃ B2, xF 144 [.ref 189, .int (nI m), .int (nI 1), .int (nI a), .int (nI b)] (xm z T R B) (.inr (some (.int (nI (aPl w A f 1 a b).1))), xm z T R B2) ∧ Rel w (aPl w A f 1 a b).2 B2 := by
  obtain ⟨b1, b2, b3, b4, b5, b6, b7⟩ := hT.b hc
  have hk := hT.ok hc
  have hd := (hT.g hR).2.2.1
  obtain ⟨B2, g1, g2⟩ := m142_1 (z := z) (a := a) (b := b) hL hc hR hT
  refine xF_x (xF_p (Nat.le_of_ble_eq_true rfl) ?_)
  refine xp_aload_n rfl rfl ?_
  refine xp_iload_n rfl rfl ?_
  refine xp_iconst (n := 0) rfl (by decide) ?_
  refine xp_iv rfl rfl (Nat.le_of_ble_eq_true rfl) (by decide) (by decide) (by decide) (Nat.le_of_ble_eq_true rfl) rfl (xrcv1 (by decide) (by first | assumption | exact hL.t rfl)) (m123 hL b3 (by omega)) rfl ?_
  refine xp_istore rfl (by decide) ?_
  refine xp_aload_n rfl rfl ?_
  refine xp_iload_n rfl rfl ?_
  refine xp_iconst (n := 1) rfl (by decide) ?_
  refine xp_iv rfl rfl (Nat.le_of_ble_eq_true rfl) (by decide) (by decide) (by decide) (Nat.le_of_ble_eq_true rfl) rfl (xrcv1 (by decide) (by first | assumption | exact hL.t rfl)) (m123 hL b3 (by omega)) rfl ?_
  refine xp_istore rfl (by decide) ?_
  refine xp_iload_n rfl rfl ?_
  refine xp_tsw 368 rfl (by omega) (by first | rfl | (rw [if_pos (by omega)]) | (rw [if_neg (by omega)]; rfl)) (by decide) ?_
  refine xp_aload_n rfl rfl ?_
  refine xp_iload_n rfl rfl ?_
  refine xp_iload_n rfl rfl ?_
  refine xp_iload_n rfl rfl ?_
  refine xp_iload rfl rfl ?_
  refine xp_iv rfl rfl (Nat.le_of_ble_eq_true rfl) (by decide) (by decide) (by decide) (Nat.le_of_ble_eq_true rfl) rfl (xrcv1 (by decide) (by first | assumption | exact hL.t rfl)) (g1) rfl ?_
  refine xp_ireturn rfl (by decide) (by decide) (by decide) ?_
  exact ⟨_, rfl, g2⟩
theorem m144_2 {z : Nat} {T : Nat → Option xT} {R : Nat → Nat → Option Nat} {A B : xQ} {w t k f m a b : Nat} (hL : xLay T R w) (hc : COk w A) (hR : Rel w A B) (hT : Top w A t k f m) : ∃ B2, xF 144 [.ref 189, .int (nI m), .int (nI 2), .int (nI a), .int (nI b)] (xm z T R B) (.inr (some (.int (nI (aPl w A f 2 a b).1))), xm z T R B2) ∧ Rel w (aPl w A f 2 a b).2 B2 := by
  obtain ⟨b1, b2, b3, b4, b5, b6, b7⟩ := hT.b hc
  have hk := hT.ok hc
  have hd := (hT.g hR).2.2.1
  obtain ⟨B2, g1, g2⟩ := m142_2 (z := z) (a := a) (b := b) hL hc hR hT
  refine xF_x (xF_p (Nat.le_of_ble_eq_true rfl) ?_)
  refine xp_aload_n rfl rfl ?_
  refine xp_iload_n rfl rfl ?_
  refine xp_iconst (n := 0) rfl (by decide) ?_
  refine xp_iv rfl rfl (Nat.le_of_ble_eq_true rfl) (by decide) (by decide) (by decide) (Nat.le_of_ble_eq_true rfl) rfl (xrcv1 (by decide) (by first | assumption | exact hL.t rfl)) (m123 hL b3 (by omega)) rfl ?_
  refine xp_istore rfl (by decide) ?_
  refine xp_aload_n rfl rfl ?_
  refine xp_iload_n rfl rfl ?_
  refine xp_iconst (n := 1) rfl (by decide) ?_
  refine xp_iv rfl rfl (Nat.le_of_ble_eq_true rfl) (by decide) (by decide) (by decide) (Nat.le_of_ble_eq_true rfl) rfl (xrcv1 (by decide) (by first | assumption | exact hL.t rfl)) (m123 hL b3 (by omega)) rfl ?_
  refine xp_istore rfl (by decide) ?_
  refine xp_iload_n rfl rfl ?_
  refine xp_tsw 368 rfl (by omega) (by first | rfl | (rw [if_pos (by omega)]) | (rw [if_neg (by omega)]; rfl)) (by decide) ?_
  refine xp_aload_n rfl rfl ?_
  refine xp_iload_n rfl rfl ?_
  refine xp_iload_n rfl rfl ?_
  refine xp_iload_n rfl rfl ?_
  refine xp_iload rfl rfl ?_
  refine xp_iv rfl rfl (Nat.le_of_ble_eq_true rfl) (by decide) (by decide) (by decide) (Nat.le_of_ble_eq_true rfl) rfl (xrcv1 (by decide) (by first | assumption | exact hL.t rfl)) (g1) rfl ?_
  refine xp_ireturn rfl (by decide) (by decide) (by decide) ?_
  exact ⟨_, rfl, g2⟩
theorem m144_3 {z : Nat} {T : Nat → Option xT} {R : Nat → Nat → Option Nat} {A B : xQ} {w t k f m a b : Nat} (hL : xLay T R w) (hc : COk w A) (hR : Rel w A B) (hT : Top w A t k f m) : ∃ B2, xF 144 [.ref 189, .int (nI m), .int (nI 3), .int (nI a), .int (nI b)] (xm z T R B) (.inr (some (.int (nI (aPl w A f 3 a b).1))), xm z T R B2) ∧ Rel w (aPl w A f 3 a b).2 B2 := by
  obtain ⟨b1, b2, b3, b4, b5, b6, b7⟩ := hT.b hc
  have hk := hT.ok hc
  have hd := (hT.g hR).2.2.1
  obtain ⟨B2, g1, g2⟩ := m142_3 (z := z) (a := a) (b := b) hL hc hR hT
  refine xF_x (xF_p (Nat.le_of_ble_eq_true rfl) ?_)
  refine xp_aload_n rfl rfl ?_
  refine xp_iload_n rfl rfl ?_
  refine xp_iconst (n := 0) rfl (by decide) ?_
  refine xp_iv rfl rfl (Nat.le_of_ble_eq_true rfl) (by decide) (by decide) (by decide) (Nat.le_of_ble_eq_true rfl) rfl (xrcv1 (by decide) (by first | assumption | exact hL.t rfl)) (m123 hL b3 (by omega)) rfl ?_
  refine xp_istore rfl (by decide) ?_
  refine xp_aload_n rfl rfl ?_
  refine xp_iload_n rfl rfl ?_
  refine xp_iconst (n := 1) rfl (by decide) ?_
  refine xp_iv rfl rfl (Nat.le_of_ble_eq_true rfl) (by decide) (by decide) (by decide) (Nat.le_of_ble_eq_true rfl) rfl (xrcv1 (by decide) (by first | assumption | exact hL.t rfl)) (m123 hL b3 (by omega)) rfl ?_
  refine xp_istore rfl (by decide) ?_
  refine xp_iload_n rfl rfl ?_
  refine xp_tsw 368 rfl (by omega) (by first | rfl | (rw [if_pos (by omega)]) | (rw [if_neg (by omega)]; rfl)) (by decide) ?_
  refine xp_aload_n rfl rfl ?_
  refine xp_iload_n rfl rfl ?_
  refine xp_iload_n rfl rfl ?_
  refine xp_iload_n rfl rfl ?_
  refine xp_iload rfl rfl ?_
  refine xp_iv rfl rfl (Nat.le_of_ble_eq_true rfl) (by decide) (by decide) (by decide) (Nat.le_of_ble_eq_true rfl) rfl (xrcv1 (by decide) (by first | assumption | exact hL.t rfl)) (g1) rfl ?_
  refine xp_ireturn rfl (by decide) (by decide) (by decide) ?_
  exact ⟨_, rfl, g2⟩
theorem m144_4 {z : Nat} {T : Nat → Option xT} {R : Nat → Nat → Option Nat} {A B : xQ} {w t k f m a b : Nat} (hL : xLay T R w) (hc : COk w A) (hR : Rel w A B) (hT : Top w A t k f m) (ha : a ≤ 3) : ∃ B2, xF 144 [.ref 189, .int (nI m), .int (nI 4), .int (nI a), .int (nI b)] (xm z T R B) (.inr (some (.int (nI (aPl w A f 4 a b).1))), xm z T R B2) ∧ Rel w (aPl w A f 4 a b).2 B2 := by
  obtain ⟨b1, b2, b3, b4, b5, b6, b7⟩ := hT.b hc
  have hk := hT.ok hc
  have hd := (hT.g hR).2.2.1
  obtain ⟨B2, g1, g2⟩ := m142_4 (z := z) (a := a) (b := b) hL hc hR hT ha
  refine xF_x (xF_p (Nat.le_of_ble_eq_true rfl) ?_)
  refine xp_aload_n rfl rfl ?_
  refine xp_iload_n rfl rfl ?_
  refine xp_iconst (n := 0) rfl (by decide) ?_
  refine xp_iv rfl rfl (Nat.le_of_ble_eq_true rfl) (by decide) (by decide) (by decide) (Nat.le_of_ble_eq_true rfl) rfl (xrcv1 (by decide) (by first | assumption | exact hL.t rfl)) (m123 hL b3 (by omega)) rfl ?_
  refine xp_istore rfl (by decide) ?_
  refine xp_aload_n rfl rfl ?_
  refine xp_iload_n rfl rfl ?_
  refine xp_iconst (n := 1) rfl (by decide) ?_
  refine xp_iv rfl rfl (Nat.le_of_ble_eq_true rfl) (by decide) (by decide) (by decide) (Nat.le_of_ble_eq_true rfl) rfl (xrcv1 (by decide) (by first | assumption | exact hL.t rfl)) (m123 hL b3 (by omega)) rfl ?_
  refine xp_istore rfl (by decide) ?_
  refine xp_iload_n rfl rfl ?_
  refine xp_tsw 368 rfl (by omega) (by first | rfl | (rw [if_pos (by omega)]) | (rw [if_neg (by omega)]; rfl)) (by decide) ?_
  refine xp_aload_n rfl rfl ?_
  refine xp_iload_n rfl rfl ?_
  refine xp_iload_n rfl rfl ?_
  refine xp_iload_n rfl rfl ?_
  refine xp_iload rfl rfl ?_
  refine xp_iv rfl rfl (Nat.le_of_ble_eq_true rfl) (by decide) (by decide) (by decide) (Nat.le_of_ble_eq_true rfl) rfl (xrcv1 (by decide) (by first | assumption | exact hL.t rfl)) (g1) rfl ?_
  refine xp_ireturn rfl (by decide) (by decide) (by decide) ?_
  exact ⟨_, rfl, g2⟩
theorem m144_5 {z : Nat} {T : Nat → Option xT} {R : Nat → Nat → Option Nat} {A B : xQ} {w t k f m a b : Nat} (hL : xLay T R w) (hc : COk w A) (hR : Rel w A B) (hT : Top w A t k f m) (hs1 : 1 ≤ A.1 f 3) (ha : a ≤ 3) : ∃ B2, xF 144 [.ref 189, .int (nI m), .int (nI 5), .int (nI a), .int (nI b)] (xm z T R B) (.inr (some (.int (nI (aPl w A f 5 a b).1))), xm z T R B2) ∧ Rel w (aPl w A f 5 a b).2 B2 := by
  obtain ⟨b1, b2, b3, b4, b5, b6, b7⟩ := hT.b hc
  have hk := hT.ok hc
  have hd := (hT.g hR).2.2.1
  obtain ⟨d0, y1, y2⟩ := hT.y hR hs1
  have h1 := hR.cell (c := a) (q := A.1 (f + 2) (4 + A.1 f 3)) (v := A.2 (f + 3) (4 + A.1 f 3)) hc hT (by omega)
  obtain ⟨r1, r2, r3, r4⟩ := cell_r A f (1 + a) (A.1 (f + 2) (4 + A.1 f 3)) (A.2 (f + 3) (4 + A.1 f 3))
  obtain ⟨hC1, _, hd2⟩ := hc.opf (r := (0, xsJ (xsI A (f + 2) (1 + a) (A.1 (f + 2) (4 + A.1 f 3))) (f + 3) (1 + a) (A.2 (f + 3) (4 + A.1 f 3)))) hT.1 hT.2.1 hT.2.2.1 ⟨r4, hk.cell (by omega) (Or.inl (by omega)) (hk.v (by omega))⟩
  have hT1 : Top w (xsJ (xsI A (f + 2) (1 + a) (A.1 (f + 2) (4 + A.1 f 3))) (f + 3) (1 + a) (A.2 (f + 3) (4 + A.1 f 3))) t k f m := ⟨by rw [r4.1 _ _ (by omega) (by omega)]; exact hT.1, by rw [hd2]; exact hT.2.1, hT.2.2⟩
  have hfin := h1.pop (n := 1) hC1 hT1
  refine xF_x (xF_p (Nat.le_of_ble_eq_true rfl) ?_)
  refine xp_aload_n rfl rfl ?_
  refine xp_iload_n rfl rfl ?_
  refine xp_iconst (n := 0) rfl (by decide) ?_
  refine xp_iv rfl rfl (Nat.le_of_ble_eq_true rfl) (by decide) (by decide) (by decide) (Nat.le_of_ble_eq_true rfl) rfl (xrcv1 (by decide) (by first | assumption | exact hL.t rfl)) (m123 hL b3 (by omega)) rfl ?_
  refine xp_istore rfl (by decide) ?_
  refine xp_aload_n rfl rfl ?_
  refine xp_iload_n rfl rfl ?_
  refine xp_iconst (n := 1) rfl (by decide) ?_
  refine xp_iv rfl rfl (Nat.le_of_ble_eq_true rfl) (by decide) (by decide) (by decide) (Nat.le_of_ble_eq_true rfl) rfl (xrcv1 (by decide) (by first | assumption | exact hL.t rfl)) (m123 hL b3 (by omega)) rfl ?_
  refine xp_istore rfl (by decide) ?_
  refine xp_iload_n rfl rfl ?_
  refine xp_tsw 144 rfl (by omega) (by first | rfl | (rw [if_pos (by omega)]) | (rw [if_neg (by omega)]; rfl)) (by decide) ?_
  refine xp_aload_n rfl rfl ?_
  refine xp_bipush (n := 10) rfl (by decide) ?_
  refine xp_iload_n rfl rfl ?_
  refine xp_imul rfl ?_
  refine xp_iload_n rfl rfl ?_
  refine xp_iadd rfl ?_
  refine xp_iload rfl rfl ?_
  refine xp_iv rfl rfl (Nat.le_of_ble_eq_true rfl) (by decide) (by decide) (by decide) (Nat.le_of_ble_eq_true rfl) rfl (xrcv1 (by decide) (by first | assumption | exact hL.t rfl)) (m121 hL (by omega) (by omega)) rfl ?_
  rw [y1, y2]
  refine xp_aload_n rfl rfl ?_
  refine xp_gfa rfl rfl (by decide) (by decide) (by first | assumption | exact hL.t rfl) (by first | assumption | exact hL.r rfl | exact hL.2.2.2.2.2) ?_
  refine xp_iload_n rfl rfl ?_
  refine xp_dup2 rfl rfl rfl ?_
  refine xp_iald rfl (by first | assumption | exact hL.t rfl) (by omega) (by omega) ?_
  refine xp_iconst (n := 1) rfl (by decide) ?_
  refine xp_isub rfl (by rw [mSet_1 (by omega)]; omega) ?_
  refine xp_iast rfl (by first | assumption | exact hL.t rfl) (by omega) (by omega) ?_
  refine xp_iconst (n := 0) rfl (by decide) ?_
  refine xp_ireturn rfl (by decide) (by decide) (by decide) ?_
  exact ⟨_, rfl, hfin⟩
theorem m144_6 {z : Nat} {T : Nat → Option xT} {R : Nat → Nat → Option Nat} {A B : xQ} {w t k f m a b : Nat} (hL : xLay T R w) (hc : COk w A) (hR : Rel w A B) (hT : Top w A t k f m) (hs1 : 1 ≤ A.1 f 3) : ∃ B2, xF 144 [.ref 189, .int (nI m), .int (nI 6), .int (nI a), .int (nI b)] (xm z T R B) (.inr (some (.int (nI (aPl w A f 6 a b).1))), xm z T R B2) ∧ Rel w (aPl w A f 6 a b).2 B2 := by
  obtain ⟨b1, b2, b3, b4, b5, b6, b7⟩ := hT.b hc
  have hk := hT.ok hc
  have hd := (hT.g hR).2.2.1
  have hfin := hR.pop (n := 1) hc hT
  refine xF_x (xF_p (Nat.le_of_ble_eq_true rfl) ?_)
  refine xp_aload_n rfl rfl ?_
  refine xp_iload_n rfl rfl ?_
  refine xp_iconst (n := 0) rfl (by decide) ?_
  refine xp_iv rfl rfl (Nat.le_of_ble_eq_true rfl) (by decide) (by decide) (by decide) (Nat.le_of_ble_eq_true rfl) rfl (xrcv1 (by decide) (by first | assumption | exact hL.t rfl)) (m123 hL b3 (by omega)) rfl ?_
  refine xp_istore rfl (by decide) ?_
  refine xp_aload_n rfl rfl ?_
  refine xp_iload_n rfl rfl ?_
  refine xp_iconst (n := 1) rfl (by decide) ?_
  refine xp_iv rfl rfl (Nat.le_of_ble_eq_true rfl) (by decide) (by decide) (by decide) (Nat.le_of_ble_eq_true rfl) rfl (xrcv1 (by decide) (by first | assumption | exact hL.t rfl)) (m123 hL b3 (by omega)) rfl ?_
  refine xp_istore rfl (by decide) ?_
  refine xp_iload_n rfl rfl ?_
  refine xp_tsw 168 rfl (by omega) (by first | rfl | (rw [if_pos (by omega)]) | (rw [if_neg (by omega)]; rfl)) (by decide) ?_
  refine xp_aload_n rfl rfl ?_
  refine xp_gfa rfl rfl (by decide) (by decide) (by first | assumption | exact hL.t rfl) (by first | assumption | exact hL.r rfl | exact hL.2.2.2.2.2) ?_
  refine xp_iload_n rfl rfl ?_
  refine xp_dup2 rfl rfl rfl ?_
  refine xp_iald rfl (by first | assumption | exact hL.t rfl) (by omega) (by omega) ?_
  refine xp_iconst (n := 1) rfl (by decide) ?_
  refine xp_isub rfl (by omega) ?_
  refine xp_iast rfl (by first | assumption | exact hL.t rfl) (by omega) (by omega) ?_
  refine xp_iconst (n := 0) rfl (by decide) ?_
  refine xp_ireturn rfl (by decide) (by decide) (by decide) ?_
  exact ⟨_, rfl, hfin⟩
theorem m144_7 {z : Nat} {T : Nat → Option xT} {R : Nat → Nat → Option Nat} {A B : xQ} {w t k f m a b : Nat} (hL : xLay T R w) (hc : COk w A) (hR : Rel w A B) (hT : Top w A t k f m) (hs1 : 1 ≤ A.1 f 3) : ∃ B2, xF 144 [.ref 189, .int (nI m), .int (nI 7), .int (nI a), .int (nI b)] (xm z T R B) (.inr (some (.int (nI (aPl w A f 7 a b).1))), xm z T R B2) ∧ Rel w (aPl w A f 7 a b).2 B2 := by
  obtain ⟨b1, b2, b3, b4, b5, b6, b7⟩ := hT.b hc
  have hk := hT.ok hc
  have hd := (hT.g hR).2.2.1
  obtain ⟨B2, g1, g2⟩ := m142_7 (z := z) (a := a) (b := b) hL hc hR hT hs1
  refine xF_x (xF_p (Nat.le_of_ble_eq_true rfl) ?_)
  refine xp_aload_n rfl rfl ?_
  refine xp_iload_n rfl rfl ?_
  refine xp_iconst (n := 0) rfl (by decide) ?_
  refine xp_iv rfl rfl (Nat.le_of_ble_eq_true rfl) (by decide) (by decide) (by decide) (Nat.le_of_ble_eq_true rfl) rfl (xrcv1 (by decide) (by first | assumption | exact hL.t rfl)) (m123 hL b3 (by omega)) rfl ?_
  refine xp_istore rfl (by decide) ?_
  refine xp_aload_n rfl rfl ?_
  refine xp_iload_n rfl rfl ?_
  refine xp_iconst (n := 1) rfl (by decide) ?_
  refine xp_iv rfl rfl (Nat.le_of_ble_eq_true rfl) (by decide) (by decide) (by decide) (Nat.le_of_ble_eq_true rfl) rfl (xrcv1 (by decide) (by first | assumption | exact hL.t rfl)) (m123 hL b3 (by omega)) rfl ?_
  refine xp_istore rfl (by decide) ?_
  refine xp_iload_n rfl rfl ?_
  refine xp_tsw 368 rfl (by omega) (by first | rfl | (rw [if_pos (by omega)]) | (rw [if_neg (by omega)]; rfl)) (by decide) ?_
  refine xp_aload_n rfl rfl ?_
  refine xp_iload_n rfl rfl ?_
  refine xp_iload_n rfl rfl ?_
  refine xp_iload_n rfl rfl ?_
  refine xp_iload rfl rfl ?_
  refine xp_iv rfl rfl (Nat.le_of_ble_eq_true rfl) (by decide) (by decide) (by decide) (Nat.le_of_ble_eq_true rfl) rfl (xrcv1 (by decide) (by first | assumption | exact hL.t rfl)) (g1) rfl ?_
  refine xp_ireturn rfl (by decide) (by decide) (by decide) ?_
  exact ⟨_, rfl, g2⟩
theorem m144_8 {z : Nat} {T : Nat → Option xT} {R : Nat → Nat → Option Nat} {A B : xQ} {w t k f m a b : Nat} (hL : xLay T R w) (hc : COk w A) (hR : Rel w A B) (hT : Top w A t k f m) (hs1 : 2 ≤ A.1 f 3) : ∃ B2, xF 144 [.ref 189, .int (nI m), .int (nI 8), .int (nI a), .int (nI b)] (xm z T R B) (.inr (some (.int (nI (aPl w A f 8 a b).1))), xm z T R B2) ∧ Rel w (aPl w A f 8 a b).2 B2 := by
  obtain ⟨b1, b2, b3, b4, b5, b6, b7⟩ := hT.b hc
  have hk := hT.ok hc
  have hd := (hT.g hR).2.2.1
  obtain ⟨B2, g1, g2⟩ := m134_8 (z := z) hL hc hR hT hs1
  refine xF_x (xF_p (Nat.le_of_ble_eq_true rfl) ?_)
  refine xp_aload_n rfl rfl ?_
  refine xp_iload_n rfl rfl ?_
  refine xp_iconst (n := 0) rfl (by decide) ?_
  refine xp_iv rfl rfl (Nat.le_of_ble_eq_true rfl) (by decide) (by decide) (by decide) (Nat.le_of_ble_eq_true rfl) rfl (xrcv1 (by decide) (by first | assumption | exact hL.t rfl)) (m123 hL b3 (by omega)) rfl ?_
  refine xp_istore rfl (by decide) ?_
  refine xp_aload_n rfl rfl ?_
  refine xp_iload_n rfl rfl ?_
  refine xp_iconst (n := 1) rfl (by decide) ?_
  refine xp_iv rfl rfl (Nat.le_of_ble_eq_true rfl) (by decide) (by decide) (by decide) (Nat.le_of_ble_eq_true rfl) rfl (xrcv1 (by decide) (by first | assumption | exact hL.t rfl)) (m123 hL b3 (by omega)) rfl ?_
  refine xp_istore rfl (by decide) ?_
  refine xp_iload_n rfl rfl ?_
  refine xp_tsw 180 rfl (by omega) (by first | rfl | (rw [if_pos (by omega)]) | (rw [if_neg (by omega)]; rfl)) (by decide) ?_
  refine xp_aload_n rfl rfl ?_
  refine xp_iload_n rfl rfl ?_
  refine xp_iload_n rfl rfl ?_
  refine xp_iv rfl rfl (Nat.le_of_ble_eq_true rfl) (by decide) (by decide) (by decide) (Nat.le_of_ble_eq_true rfl) rfl (xrcv1 (by decide) (by first | assumption | exact hL.t rfl)) (g1) rfl ?_
  refine xp_ireturn rfl (by decide) (by decide) (by decide) ?_
  exact ⟨_, rfl, g2⟩
theorem m144_9 {z : Nat} {T : Nat → Option xT} {R : Nat → Nat → Option Nat} {A B : xQ} {w t k f m a b : Nat} (hL : xLay T R w) (hc : COk w A) (hR : Rel w A B) (hT : Top w A t k f m) (hs1 : 2 ≤ A.1 f 3) : ∃ B2, xF 144 [.ref 189, .int (nI m), .int (nI 9), .int (nI a), .int (nI b)] (xm z T R B) (.inr (some (.int (nI (aPl w A f 9 a b).1))), xm z T R B2) ∧ Rel w (aPl w A f 9 a b).2 B2 := by
  obtain ⟨b1, b2, b3, b4, b5, b6, b7⟩ := hT.b hc
  have hk := hT.ok hc
  have hd := (hT.g hR).2.2.1
  obtain ⟨B2, g1, g2⟩ := m134_9 (z := z) hL hc hR hT hs1
  refine xF_x (xF_p (Nat.le_of_ble_eq_true rfl) ?_)
  refine xp_aload_n rfl rfl ?_
  refine xp_iload_n rfl rfl ?_
  refine xp_iconst (n := 0) rfl (by decide) ?_
  refine xp_iv rfl rfl (Nat.le_of_ble_eq_true rfl) (by decide) (by decide) (by decide) (Nat.le_of_ble_eq_true rfl) rfl (xrcv1 (by decide) (by first | assumption | exact hL.t rfl)) (m123 hL b3 (by omega)) rfl ?_
  refine xp_istore rfl (by decide) ?_
  refine xp_aload_n rfl rfl ?_
  refine xp_iload_n rfl rfl ?_
  refine xp_iconst (n := 1) rfl (by decide) ?_
  refine xp_iv rfl rfl (Nat.le_of_ble_eq_true rfl) (by decide) (by decide) (by decide) (Nat.le_of_ble_eq_true rfl) rfl (xrcv1 (by decide) (by first | assumption | exact hL.t rfl)) (m123 hL b3 (by omega)) rfl ?_
  refine xp_istore rfl (by decide) ?_
  refine xp_iload_n rfl rfl ?_
  refine xp_tsw 180 rfl (by omega) (by first | rfl | (rw [if_pos (by omega)]) | (rw [if_neg (by omega)]; rfl)) (by decide) ?_
  refine xp_aload_n rfl rfl ?_
  refine xp_iload_n rfl rfl ?_
  refine xp_iload_n rfl rfl ?_
  refine xp_iv rfl rfl (Nat.le_of_ble_eq_true rfl) (by decide) (by decide) (by decide) (Nat.le_of_ble_eq_true rfl) rfl (xrcv1 (by decide) (by first | assumption | exact hL.t rfl)) (g1) rfl ?_
  refine xp_ireturn rfl (by decide) (by decide) (by decide) ?_
  exact ⟨_, rfl, g2⟩
theorem m144_10 {z : Nat} {T : Nat → Option xT} {R : Nat → Nat → Option Nat} {A B : xQ} {w t k f m a b : Nat} (hL : xLay T R w) (hc : COk w A) (hR : Rel w A B) (hT : Top w A t k f m) (hs1 : 2 ≤ A.1 f 3) : ∃ B2, xF 144 [.ref 189, .int (nI m), .int (nI 10), .int (nI a), .int (nI b)] (xm z T R B) (.inr (some (.int (nI (aPl w A f 10 a b).1))), xm z T R B2) ∧ Rel w (aPl w A f 10 a b).2 B2 := by
  obtain ⟨b1, b2, b3, b4, b5, b6, b7⟩ := hT.b hc
  have hk := hT.ok hc
  have hd := (hT.g hR).2.2.1
  obtain ⟨B2, g1, g2⟩ := m134_10 (z := z) hL hc hR hT hs1
  refine xF_x (xF_p (Nat.le_of_ble_eq_true rfl) ?_)
  refine xp_aload_n rfl rfl ?_
  refine xp_iload_n rfl rfl ?_
  refine xp_iconst (n := 0) rfl (by decide) ?_
  refine xp_iv rfl rfl (Nat.le_of_ble_eq_true rfl) (by decide) (by decide) (by decide) (Nat.le_of_ble_eq_true rfl) rfl (xrcv1 (by decide) (by first | assumption | exact hL.t rfl)) (m123 hL b3 (by omega)) rfl ?_
  refine xp_istore rfl (by decide) ?_
  refine xp_aload_n rfl rfl ?_
  refine xp_iload_n rfl rfl ?_
  refine xp_iconst (n := 1) rfl (by decide) ?_
  refine xp_iv rfl rfl (Nat.le_of_ble_eq_true rfl) (by decide) (by decide) (by decide) (Nat.le_of_ble_eq_true rfl) rfl (xrcv1 (by decide) (by first | assumption | exact hL.t rfl)) (m123 hL b3 (by omega)) rfl ?_
  refine xp_istore rfl (by decide) ?_
  refine xp_iload_n rfl rfl ?_
  refine xp_tsw 180 rfl (by omega) (by first | rfl | (rw [if_pos (by omega)]) | (rw [if_neg (by omega)]; rfl)) (by decide) ?_
  refine xp_aload_n rfl rfl ?_
  refine xp_iload_n rfl rfl ?_
  refine xp_iload_n rfl rfl ?_
  refine xp_iv rfl rfl (Nat.le_of_ble_eq_true rfl) (by decide) (by decide) (by decide) (Nat.le_of_ble_eq_true rfl) rfl (xrcv1 (by decide) (by first | assumption | exact hL.t rfl)) (g1) rfl ?_
  refine xp_ireturn rfl (by decide) (by decide) (by decide) ?_
  exact ⟨_, rfl, g2⟩
theorem m144_11 {z : Nat} {T : Nat → Option xT} {R : Nat → Nat → Option Nat} {A B : xQ} {w t k f m a b : Nat} (hL : xLay T R w) (hc : COk w A) (hR : Rel w A B) (hT : Top w A t k f m) (hs1 : 2 ≤ A.1 f 3) : ∃ B2, xF 144 [.ref 189, .int (nI m), .int (nI 11), .int (nI a), .int (nI b)] (xm z T R B) (.inr (some (.int (nI (aPl w A f 11 a b).1))), xm z T R B2) ∧ Rel w (aPl w A f 11 a b).2 B2 := by
  obtain ⟨b1, b2, b3, b4, b5, b6, b7⟩ := hT.b hc
  have hk := hT.ok hc
  have hd := (hT.g hR).2.2.1
  obtain ⟨B2, g1, g2⟩ := m134_11 (z := z) hL hc hR hT hs1
  refine xF_x (xF_p (Nat.le_of_ble_eq_true rfl) ?_)
  refine xp_aload_n rfl rfl ?_
  refine xp_iload_n rfl rfl ?_
  refine xp_iconst (n := 0) rfl (by decide) ?_
  refine xp_iv rfl rfl (Nat.le_of_ble_eq_true rfl) (by decide) (by decide) (by decide) (Nat.le_of_ble_eq_true rfl) rfl (xrcv1 (by decide) (by first | assumption | exact hL.t rfl)) (m123 hL b3 (by omega)) rfl ?_
  refine xp_istore rfl (by decide) ?_
  refine xp_aload_n rfl rfl ?_
  refine xp_iload_n rfl rfl ?_
  refine xp_iconst (n := 1) rfl (by decide) ?_
  refine xp_iv rfl rfl (Nat.le_of_ble_eq_true rfl) (by decide) (by decide) (by decide) (Nat.le_of_ble_eq_true rfl) rfl (xrcv1 (by decide) (by first | assumption | exact hL.t rfl)) (m123 hL b3 (by omega)) rfl ?_
  refine xp_istore rfl (by decide) ?_
  refine xp_iload_n rfl rfl ?_
  refine xp_tsw 180 rfl (by omega) (by first | rfl | (rw [if_pos (by omega)]) | (rw [if_neg (by omega)]; rfl)) (by decide) ?_
  refine xp_aload_n rfl rfl ?_
  refine xp_iload_n rfl rfl ?_
  refine xp_iload_n rfl rfl ?_
  refine xp_iv rfl rfl (Nat.le_of_ble_eq_true rfl) (by decide) (by decide) (by decide) (Nat.le_of_ble_eq_true rfl) rfl (xrcv1 (by decide) (by first | assumption | exact hL.t rfl)) (g1) rfl ?_
  refine xp_ireturn rfl (by decide) (by decide) (by decide) ?_
  exact ⟨_, rfl, g2⟩
theorem m144_12 {z : Nat} {T : Nat → Option xT} {R : Nat → Nat → Option Nat} {A B : xQ} {w t k f m a b : Nat} (hL : xLay T R w) (hc : COk w A) (hR : Rel w A B) (hT : Top w A t k f m) (hs1 : 2 ≤ A.1 f 3) : ∃ B2, xF 144 [.ref 189, .int (nI m), .int (nI 12), .int (nI a), .int (nI b)] (xm z T R B) (.inr (some (.int (nI (aPl w A f 12 a b).1))), xm z T R B2) ∧ Rel w (aPl w A f 12 a b).2 B2 := by
  obtain ⟨b1, b2, b3, b4, b5, b6, b7⟩ := hT.b hc
  have hk := hT.ok hc
  have hd := (hT.g hR).2.2.1
  obtain ⟨B2, g1, g2⟩ := m134_12 (z := z) hL hc hR hT hs1
  refine xF_x (xF_p (Nat.le_of_ble_eq_true rfl) ?_)
  refine xp_aload_n rfl rfl ?_
  refine xp_iload_n rfl rfl ?_
  refine xp_iconst (n := 0) rfl (by decide) ?_
  refine xp_iv rfl rfl (Nat.le_of_ble_eq_true rfl) (by decide) (by decide) (by decide) (Nat.le_of_ble_eq_true rfl) rfl (xrcv1 (by decide) (by first | assumption | exact hL.t rfl)) (m123 hL b3 (by omega)) rfl ?_
  refine xp_istore rfl (by decide) ?_
  refine xp_aload_n rfl rfl ?_
  refine xp_iload_n rfl rfl ?_
  refine xp_iconst (n := 1) rfl (by decide) ?_
  refine xp_iv rfl rfl (Nat.le_of_ble_eq_true rfl) (by decide) (by decide) (by decide) (Nat.le_of_ble_eq_true rfl) rfl (xrcv1 (by decide) (by first | assumption | exact hL.t rfl)) (m123 hL b3 (by omega)) rfl ?_
  refine xp_istore rfl (by decide) ?_
  refine xp_iload_n rfl rfl ?_
  refine xp_tsw 180 rfl (by omega) (by first | rfl | (rw [if_pos (by omega)]) | (rw [if_neg (by omega)]; rfl)) (by decide) ?_
  refine xp_aload_n rfl rfl ?_
  refine xp_iload_n rfl rfl ?_
  refine xp_iload_n rfl rfl ?_
  refine xp_iv rfl rfl (Nat.le_of_ble_eq_true rfl) (by decide) (by decide) (by decide) (Nat.le_of_ble_eq_true rfl) rfl (xrcv1 (by decide) (by first | assumption | exact hL.t rfl)) (g1) rfl ?_
  refine xp_ireturn rfl (by decide) (by decide) (by decide) ?_
  exact ⟨_, rfl, g2⟩
theorem m144_13 {z : Nat} {T : Nat → Option xT} {R : Nat → Nat → Option Nat} {A B : xQ} {w t k f m a b : Nat} (hL : xLay T R w) (hc : COk w A) (hR : Rel w A B) (hT : Top w A t k f m) (hs1 : 2 ≤ A.1 f 3) : ∃ B2, xF 144 [.ref 189, .int (nI m), .int (nI 13), .int (nI a), .int (nI b)] (xm z T R B) (.inr (some (.int (nI (aPl w A f 13 a b).1))), xm z T R B2) ∧ Rel w (aPl w A f 13 a b).2 B2 := by
  obtain ⟨b1, b2, b3, b4, b5, b6, b7⟩ := hT.b hc
  have hk := hT.ok hc
  have hd := (hT.g hR).2.2.1
  obtain ⟨d0, x1, x2⟩ := hT.x hR hs1
  obtain ⟨_, y1, y2⟩ := hT.y hR (by omega)
  have kx := hk.c (c := 3 + A.1 f 3) (by omega)
  have ky := hk.c (c := 4 + A.1 f 3) (by omega)
  have hbo : ∀ v, (aPush (aPop A f 2) f 1 v).1 = 0 ∧ Rel w (aPush (aPop A f 2) f 1 v).2 (xsI (mSet B (10 * m + 3 + B.1 205 m - 1) 1 v) 205 m (B.1 205 m - 1)) := fun v => by rw [mSet_comm]; exact hR.binop hc hT hs1
  show ∃ B2, xF 144 _ _ (.inr (some (.int (nI (aAnswer A f _).1))), _) ∧ Rel w (aAnswer A f _).2 B2
  unfold aAnswer
  by_cases hq : A.1 (f + 2) (3 + A.1 f 3) = A.1 (f + 2) (4 + A.1 f 3) ∧ A.2 (f + 3) (3 + A.1 f 3) = A.2 (f + 3) (4 + A.1 f 3)
  · rw [if_pos hq, if_neg (by omega)]
    obtain ⟨g1, g2⟩ := hbo 1
    rw [g1]
    refine xF_x (xF_p (Nat.le_of_ble_eq_true rfl) ?_)
    refine xp_aload_n rfl rfl ?_
    refine xp_iload_n rfl rfl ?_
    refine xp_iconst (n := 0) rfl (by decide) ?_
    refine xp_iv rfl rfl (Nat.le_of_ble_eq_true rfl) (by decide) (by decide) (by decide) (Nat.le_of_ble_eq_true rfl) rfl (xrcv1 (by decide) (by first | assumption | exact hL.t rfl)) (m123 hL b3 (by omega)) rfl ?_
    refine xp_istore rfl (by decide) ?_
    refine xp_aload_n rfl rfl ?_
    refine xp_iload_n rfl rfl ?_
    refine xp_iconst (n := 1) rfl (by decide) ?_
    refine xp_iv rfl rfl (Nat.le_of_ble_eq_true rfl) (by decide) (by decide) (by decide) (Nat.le_of_ble_eq_true rfl) rfl (xrcv1 (by decide) (by first | assumption | exact hL.t rfl)) (m123 hL b3 (by omega)) rfl ?_
    refine xp_istore rfl (by decide) ?_
    refine xp_iload_n rfl rfl ?_
    refine xp_tsw 187 rfl (by omega) (by first | rfl | (rw [if_pos (by omega)]) | (rw [if_neg (by omega)]; rfl)) (by decide) ?_
    refine xp_aload_n rfl rfl ?_
    refine xp_iload rfl rfl ?_
    refine xp_iconst (n := 1) rfl (by decide) ?_
    refine xp_aload_n rfl rfl ?_
    refine xp_gfa rfl rfl (by decide) (by decide) (by first | assumption | exact hL.t rfl) (by first | assumption | exact hL.r rfl | exact hL.2.2.2.2.2) ?_
    refine xp_iload rfl rfl ?_
    refine xp_iald rfl (by first | assumption | exact hL.t rfl) (by omega) (by omega) ?_
    refine xp_aload_n rfl rfl ?_
    refine xp_gfa rfl rfl (by decide) (by decide) (by first | assumption | exact hL.t rfl) (by first | assumption | exact hL.r rfl | exact hL.2.2.2.2.2) ?_
    refine xp_iload rfl rfl ?_
    refine xp_iald rfl (by first | assumption | exact hL.t rfl) (by omega) (by omega) ?_
    rw [y1, x1]
    refine xp_icne 230 rfl (by decide) (by omega) (by omega) (fun h205 => ?_) (fun h205 => ?_)
    · exact absurd hq.1.symm h205
    · skip
      refine xp_aload_n rfl rfl ?_
      refine xp_gfa rfl rfl (by decide) (by decide) (by first | assumption | exact hL.t rfl) (by first | assumption | exact hL.r rfl | exact hL.2.2.2.2.2) ?_
      refine xp_iload rfl rfl ?_
      refine xp_lald rfl (by first | assumption | exact hL.t rfl) (by omega) (by omega) ?_
      refine xp_aload_n rfl rfl ?_
      refine xp_gfa rfl rfl (by decide) (by decide) (by first | assumption | exact hL.t rfl) (by first | assumption | exact hL.r rfl | exact hL.2.2.2.2.2) ?_
      refine xp_iload rfl rfl ?_
      refine xp_lald rfl (by first | assumption | exact hL.t rfl) (by omega) (by omega) ?_
      rw [y2, x2]
      refine xp_lcne 230 rfl rfl (by decide) (fun h222 => ?_) (fun h222 => ?_)
      · exact absurd hq.2.symm h222
      · skip
        refine xp_lconst rfl rfl ?_
        refine xp_goto 231 rfl (by decide) ?_
        refine xp_iv rfl rfl (Nat.le_of_ble_eq_true rfl) (by decide) (by decide) (by decide) (Nat.le_of_ble_eq_true rfl) rfl (xrcv1 (by decide) (by first | assumption | exact hL.t rfl)) (m120 hL (by omega)) rfl ?_
        refine xp_aload_n rfl rfl ?_
        refine xp_gfa rfl rfl (by decide) (by decide) (by first | assumption | exact hL.t rfl) (by first | assumption | exact hL.r rfl | exact hL.2.2.2.2.2) ?_
        refine xp_iload_n rfl rfl ?_
        refine xp_dup2 rfl rfl rfl ?_
        refine xp_iald rfl (by first | assumption | exact hL.t rfl) (by omega) (by omega) ?_
        refine xp_iconst (n := 1) rfl (by decide) ?_
        refine xp_isub rfl (by rw [mSet_1 (by omega)]; omega) ?_
        rw [mSet_1 (by omega)]
        refine xp_iast rfl (by first | assumption | exact hL.t rfl) (by omega) (by omega) ?_
        refine xp_iconst (n := 0) rfl (by decide) ?_
        refine xp_ireturn rfl (by decide) (by decide) (by decide) ?_
        exact ⟨_, rfl, g2⟩
  · rw [if_neg hq, if_pos rfl]
    obtain ⟨g1, g2⟩ := hbo 0
    rw [g1]
    refine xF_x (xF_p (Nat.le_of_ble_eq_true rfl) ?_)
    refine xp_aload_n rfl rfl ?_
    refine xp_iload_n rfl rfl ?_
    refine xp_iconst (n := 0) rfl (by decide) ?_
    refine xp_iv rfl rfl (Nat.le_of_ble_eq_true rfl) (by decide) (by decide) (by decide) (Nat.le_of_ble_eq_true rfl) rfl (xrcv1 (by decide) (by first | assumption | exact hL.t rfl)) (m123 hL b3 (by omega)) rfl ?_
    refine xp_istore rfl (by decide) ?_
    refine xp_aload_n rfl rfl ?_
    refine xp_iload_n rfl rfl ?_
    refine xp_iconst (n := 1) rfl (by decide) ?_
    refine xp_iv rfl rfl (Nat.le_of_ble_eq_true rfl) (by decide) (by decide) (by decide) (Nat.le_of_ble_eq_true rfl) rfl (xrcv1 (by decide) (by first | assumption | exact hL.t rfl)) (m123 hL b3 (by omega)) rfl ?_
    refine xp_istore rfl (by decide) ?_
    refine xp_iload_n rfl rfl ?_
    refine xp_tsw 187 rfl (by omega) (by first | rfl | (rw [if_pos (by omega)]) | (rw [if_neg (by omega)]; rfl)) (by decide) ?_
    refine xp_aload_n rfl rfl ?_
    refine xp_iload rfl rfl ?_
    refine xp_iconst (n := 1) rfl (by decide) ?_
    refine xp_aload_n rfl rfl ?_
    refine xp_gfa rfl rfl (by decide) (by decide) (by first | assumption | exact hL.t rfl) (by first | assumption | exact hL.r rfl | exact hL.2.2.2.2.2) ?_
    refine xp_iload rfl rfl ?_
    refine xp_iald rfl (by first | assumption | exact hL.t rfl) (by omega) (by omega) ?_
    refine xp_aload_n rfl rfl ?_
    refine xp_gfa rfl rfl (by decide) (by decide) (by first | assumption | exact hL.t rfl) (by first | assumption | exact hL.r rfl | exact hL.2.2.2.2.2) ?_
    refine xp_iload rfl rfl ?_
    refine xp_iald rfl (by first | assumption | exact hL.t rfl) (by omega) (by omega) ?_
    rw [y1, x1]
    refine xp_icne 230 rfl (by decide) (by omega) (by omega) (fun h205 => ?_) (fun h205 => ?_)
    · skip
      refine xp_lconst rfl rfl ?_
      refine xp_iv rfl rfl (Nat.le_of_ble_eq_true rfl) (by decide) (by decide) (by decide) (Nat.le_of_ble_eq_true rfl) rfl (xrcv1 (by decide) (by first | assumption | exact hL.t rfl)) (m120 hL (by omega)) rfl ?_
      refine xp_aload_n rfl rfl ?_
      refine xp_gfa rfl rfl (by decide) (by decide) (by first | assumption | exact hL.t rfl) (by first | assumption | exact hL.r rfl | exact hL.2.2.2.2.2) ?_
      refine xp_iload_n rfl rfl ?_
      refine xp_dup2 rfl rfl rfl ?_
      refine xp_iald rfl (by first | assumption | exact hL.t rfl) (by omega) (by omega) ?_
      refine xp_iconst (n := 1) rfl (by decide) ?_
      refine xp_isub rfl (by rw [mSet_1 (by omega)]; omega) ?_
      rw [mSet_1 (by omega)]
      refine xp_iast rfl (by first | assumption | exact hL.t rfl) (by omega) (by omega) ?_
      refine xp_iconst (n := 0) rfl (by decide) ?_
      refine xp_ireturn rfl (by decide) (by decide) (by decide) ?_
      exact ⟨_, rfl, g2⟩
    · skip
      refine xp_aload_n rfl rfl ?_
      refine xp_gfa rfl rfl (by decide) (by decide) (by first | assumption | exact hL.t rfl) (by first | assumption | exact hL.r rfl | exact hL.2.2.2.2.2) ?_
      refine xp_iload rfl rfl ?_
      refine xp_lald rfl (by first | assumption | exact hL.t rfl) (by omega) (by omega) ?_
      refine xp_aload_n rfl rfl ?_
      refine xp_gfa rfl rfl (by decide) (by decide) (by first | assumption | exact hL.t rfl) (by first | assumption | exact hL.r rfl | exact hL.2.2.2.2.2) ?_
      refine xp_iload rfl rfl ?_
      refine xp_lald rfl (by first | assumption | exact hL.t rfl) (by omega) (by omega) ?_
      rw [y2, x2]
      refine xp_lcne 230 rfl rfl (by decide) (fun h222 => ?_) (fun h222 => ?_)
      · skip
        refine xp_lconst rfl rfl ?_
        refine xp_iv rfl rfl (Nat.le_of_ble_eq_true rfl) (by decide) (by decide) (by decide) (Nat.le_of_ble_eq_true rfl) rfl (xrcv1 (by decide) (by first | assumption | exact hL.t rfl)) (m120 hL (by omega)) rfl ?_
        refine xp_aload_n rfl rfl ?_
        refine xp_gfa rfl rfl (by decide) (by decide) (by first | assumption | exact hL.t rfl) (by first | assumption | exact hL.r rfl | exact hL.2.2.2.2.2) ?_
        refine xp_iload_n rfl rfl ?_
        refine xp_dup2 rfl rfl rfl ?_
        refine xp_iald rfl (by first | assumption | exact hL.t rfl) (by omega) (by omega) ?_
        refine xp_iconst (n := 1) rfl (by decide) ?_
        refine xp_isub rfl (by rw [mSet_1 (by omega)]; omega) ?_
        rw [mSet_1 (by omega)]
        refine xp_iast rfl (by first | assumption | exact hL.t rfl) (by omega) (by omega) ?_
        refine xp_iconst (n := 0) rfl (by decide) ?_
        refine xp_ireturn rfl (by decide) (by decide) (by decide) ?_
        exact ⟨_, rfl, g2⟩
      · exact absurd ⟨h205.symm, h222.symm⟩ hq
theorem m144_16 {z : Nat} {T : Nat → Option xT} {R : Nat → Nat → Option Nat} {A B : xQ} {w t k f m a b : Nat} (hL : xLay T R w) (hc : COk w A) (hR : Rel w A B) (hT : Top w A t k f m) : ∃ B2, xF 144 [.ref 189, .int (nI m), .int (nI 16), .int (nI a), .int (nI b)] (xm z T R B) (.inr (some (.int (nI (aPl w A f 16 a b).1))), xm z T R B2) ∧ Rel w (aPl w A f 16 a b).2 B2 := by
  obtain ⟨b1, b2, b3, b4, b5, b6, b7⟩ := hT.b hc
  have hk := hT.ok hc
  have hd := (hT.g hR).2.2.1
  obtain ⟨B2, g1, g2⟩ := m142_16 (z := z) (a := a) (b := b) hL hc hR hT
  refine xF_x (xF_p (Nat.le_of_ble_eq_true rfl) ?_)
  refine xp_aload_n rfl rfl ?_
  refine xp_iload_n rfl rfl ?_
  refine xp_iconst (n := 0) rfl (by decide) ?_
  refine xp_iv rfl rfl (Nat.le_of_ble_eq_true rfl) (by decide) (by decide) (by decide) (Nat.le_of_ble_eq_true rfl) rfl (xrcv1 (by decide) (by first | assumption | exact hL.t rfl)) (m123 hL b3 (by omega)) rfl ?_
  refine xp_istore rfl (by decide) ?_
  refine xp_aload_n rfl rfl ?_
  refine xp_iload_n rfl rfl ?_
  refine xp_iconst (n := 1) rfl (by decide) ?_
  refine xp_iv rfl rfl (Nat.le_of_ble_eq_true rfl) (by decide) (by decide) (by decide) (Nat.le_of_ble_eq_true rfl) rfl (xrcv1 (by decide) (by first | assumption | exact hL.t rfl)) (m123 hL b3 (by omega)) rfl ?_
  refine xp_istore rfl (by decide) ?_
  refine xp_iload_n rfl rfl ?_
  refine xp_tsw 368 rfl (by omega) (by first | rfl | (rw [if_pos (by omega)]) | (rw [if_neg (by omega)]; rfl)) (by decide) ?_
  refine xp_aload_n rfl rfl ?_
  refine xp_iload_n rfl rfl ?_
  refine xp_iload_n rfl rfl ?_
  refine xp_iload_n rfl rfl ?_
  refine xp_iload rfl rfl ?_
  refine xp_iv rfl rfl (Nat.le_of_ble_eq_true rfl) (by decide) (by decide) (by decide) (Nat.le_of_ble_eq_true rfl) rfl (xrcv1 (by decide) (by first | assumption | exact hL.t rfl)) (g1) rfl ?_
  refine xp_ireturn rfl (by decide) (by decide) (by decide) ?_
  exact ⟨_, rfl, g2⟩
theorem m144_17 {z : Nat} {T : Nat → Option xT} {R : Nat → Nat → Option Nat} {A B : xQ} {w t k f m a b : Nat} (hL : xLay T R w) (hc : COk w A) (hR : Rel w A B) (hT : Top w A t k f m) (hs1 : 1 ≤ A.1 f 3) (ha : a ≤ 2) : ∃ B2, xF 144 [.ref 189, .int (nI m), .int (nI 17), .int (nI a), .int (nI b)] (xm z T R B) (.inr (some (.int (nI (aPl w A f 17 a b).1))), xm z T R B2) ∧ Rel w (aPl w A f 17 a b).2 B2 := by
  obtain ⟨b1, b2, b3, b4, b5, b6, b7⟩ := hT.b hc
  have hk := hT.ok hc
  have hd := (hT.g hR).2.2.1
  obtain ⟨B2, g1, g2⟩ := m135_17 (z := z) hL hc hR hT hs1 ha
  refine xF_x (xF_p (Nat.le_of_ble_eq_true rfl) ?_)
  refine xp_aload_n rfl rfl ?_
  refine xp_iload_n rfl rfl ?_
  refine xp_iconst (n := 0) rfl (by decide) ?_
  refine xp_iv rfl rfl (Nat.le_of_ble_eq_true rfl) (by decide) (by decide) (by decide) (Nat.le_of_ble_eq_true rfl) rfl (xrcv1 (by decide) (by first | assumption | exact hL.t rfl)) (m123 hL b3 (by omega)) rfl ?_
  refine xp_istore rfl (by decide) ?_
  refine xp_aload_n rfl rfl ?_
  refine xp_iload_n rfl rfl ?_
  refine xp_iconst (n := 1) rfl (by decide) ?_
  refine xp_iv rfl rfl (Nat.le_of_ble_eq_true rfl) (by decide) (by decide) (by decide) (Nat.le_of_ble_eq_true rfl) rfl (xrcv1 (by decide) (by first | assumption | exact hL.t rfl)) (m123 hL b3 (by omega)) rfl ?_
  refine xp_istore rfl (by decide) ?_
  refine xp_iload_n rfl rfl ?_
  refine xp_tsw 305 rfl (by omega) (by first | rfl | (rw [if_pos (by omega)]) | (rw [if_neg (by omega)]; rfl)) (by decide) ?_
  refine xp_aload_n rfl rfl ?_
  refine xp_iload_n rfl rfl ?_
  refine xp_iload_n rfl rfl ?_
  refine xp_iload_n rfl rfl ?_
  refine xp_iv rfl rfl (Nat.le_of_ble_eq_true rfl) (by decide) (by decide) (by decide) (Nat.le_of_ble_eq_true rfl) rfl (xrcv1 (by decide) (by first | assumption | exact hL.t rfl)) (g1) rfl ?_
  refine xp_ireturn rfl (by decide) (by decide) (by decide) ?_
  exact ⟨_, rfl, g2⟩
theorem m144_18 {z : Nat} {T : Nat → Option xT} {R : Nat → Nat → Option Nat} {A B : xQ} {w t k f m a b : Nat} (hL : xLay T R w) (hc : COk w A) (hR : Rel w A B) (hT : Top w A t k f m) (hs1 : 2 ≤ A.1 f 3) (ha : a ≤ 2) : ∃ B2, xF 144 [.ref 189, .int (nI m), .int (nI 18), .int (nI a), .int (nI b)] (xm z T R B) (.inr (some (.int (nI (aPl w A f 18 a b).1))), xm z T R B2) ∧ Rel w (aPl w A f 18 a b).2 B2 := by
  obtain ⟨b1, b2, b3, b4, b5, b6, b7⟩ := hT.b hc
  have hk := hT.ok hc
  have hd := (hT.g hR).2.2.1
  obtain ⟨B2, g1, g2⟩ := m135_18 (z := z) hL hc hR hT hs1 ha
  refine xF_x (xF_p (Nat.le_of_ble_eq_true rfl) ?_)
  refine xp_aload_n rfl rfl ?_
  refine xp_iload_n rfl rfl ?_
  refine xp_iconst (n := 0) rfl (by decide) ?_
  refine xp_iv rfl rfl (Nat.le_of_ble_eq_true rfl) (by decide) (by decide) (by decide) (Nat.le_of_ble_eq_true rfl) rfl (xrcv1 (by decide) (by first | assumption | exact hL.t rfl)) (m123 hL b3 (by omega)) rfl ?_
  refine xp_istore rfl (by decide) ?_
  refine xp_aload_n rfl rfl ?_
  refine xp_iload_n rfl rfl ?_
  refine xp_iconst (n := 1) rfl (by decide) ?_
  refine xp_iv rfl rfl (Nat.le_of_ble_eq_true rfl) (by decide) (by decide) (by decide) (Nat.le_of_ble_eq_true rfl) rfl (xrcv1 (by decide) (by first | assumption | exact hL.t rfl)) (m123 hL b3 (by omega)) rfl ?_
  refine xp_istore rfl (by decide) ?_
  refine xp_iload_n rfl rfl ?_
  refine xp_tsw 305 rfl (by omega) (by first | rfl | (rw [if_pos (by omega)]) | (rw [if_neg (by omega)]; rfl)) (by decide) ?_
  refine xp_aload_n rfl rfl ?_
  refine xp_iload_n rfl rfl ?_
  refine xp_iload_n rfl rfl ?_
  refine xp_iload_n rfl rfl ?_
  refine xp_iv rfl rfl (Nat.le_of_ble_eq_true rfl) (by decide) (by decide) (by decide) (Nat.le_of_ble_eq_true rfl) rfl (xrcv1 (by decide) (by first | assumption | exact hL.t rfl)) (g1) rfl ?_
  refine xp_ireturn rfl (by decide) (by decide) (by decide) ?_
  exact ⟨_, rfl, g2⟩
theorem m144_19 {z : Nat} {T : Nat → Option xT} {R : Nat → Nat → Option Nat} {A B : xQ} {w t k f m a b : Nat} (hL : xLay T R w) (hc : COk w A) (hR : Rel w A B) (hT : Top w A t k f m) (ha : a < 6) (hb : b ≤ 2) (hs1 : b ≤ A.1 f 3) : ∃ B2, xF 144 [.ref 189, .int (nI m), .int (nI 19), .int (nI a), .int (nI b)] (xm z T R B) (.inr (some (.int (nI (aPl w A f 19 a b).1))), xm z T R B2) ∧ Rel w (aPl w A f 19 a b).2 B2 := by
  obtain ⟨b1, b2, b3, b4, b5, b6, b7⟩ := hT.b hc
  have hk := hT.ok hc
  have hd := (hT.g hR).2.2.1
  obtain ⟨B2, g1, g2⟩ := m136 (z := z) hL hc hR hT ha hb hs1
  refine xF_x (xF_p (Nat.le_of_ble_eq_true rfl) ?_)
  refine xp_aload_n rfl rfl ?_
  refine xp_iload_n rfl rfl ?_
  refine xp_iconst (n := 0) rfl (by decide) ?_
  refine xp_iv rfl rfl (Nat.le_of_ble_eq_true rfl) (by decide) (by decide) (by decide) (Nat.le_of_ble_eq_true rfl) rfl (xrcv1 (by decide) (by first | assumption | exact hL.t rfl)) (m123 hL b3 (by omega)) rfl ?_
  refine xp_istore rfl (by decide) ?_
  refine xp_aload_n rfl rfl ?_
  refine xp_iload_n rfl rfl ?_
  refine xp_iconst (n := 1) rfl (by decide) ?_
  refine xp_iv rfl rfl (Nat.le_of_ble_eq_true rfl) (by decide) (by decide) (by decide) (Nat.le_of_ble_eq_true rfl) rfl (xrcv1 (by decide) (by first | assumption | exact hL.t rfl)) (m123 hL b3 (by omega)) rfl ?_
  refine xp_istore rfl (by decide) ?_
  refine xp_iload_n rfl rfl ?_
  refine xp_tsw 313 rfl (by omega) (by first | rfl | (rw [if_pos (by omega)]) | (rw [if_neg (by omega)]; rfl)) (by decide) ?_
  refine xp_aload_n rfl rfl ?_
  refine xp_iload_n rfl rfl ?_
  refine xp_iload_n rfl rfl ?_
  refine xp_iload rfl rfl ?_
  refine xp_iv rfl rfl (Nat.le_of_ble_eq_true rfl) (by decide) (by decide) (by decide) (Nat.le_of_ble_eq_true rfl) rfl (xrcv1 (by decide) (by first | assumption | exact hL.t rfl)) (g1) rfl ?_
  refine xp_ireturn rfl (by decide) (by decide) (by decide) ?_
  exact ⟨_, rfl, g2⟩
theorem m144_20 {z : Nat} {T : Nat → Option xT} {R : Nat → Nat → Option Nat} {A B : xQ} {w t k f m a b : Nat} (hL : xLay T R w) (hc : COk w A) (hR : Rel w A B) (hT : Top w A t k f m) (ha : a ≤ 1) : ∃ B2, xF 144 [.ref 189, .int (nI m), .int (nI 20), .int (nI a), .int (nI b)] (xm z T R B) (.inr (some (.int (nI (aPl w A f 20 a b).1))), xm z T R B2) ∧ Rel w (aPl w A f 20 a b).2 B2 := by
  obtain ⟨b1, b2, b3, b4, b5, b6, b7⟩ := hT.b hc
  have hk := hT.ok hc
  have hd := (hT.g hR).2.2.1
  obtain ⟨B2, g1, g2⟩ := m142_20 (z := z) (a := a) (b := b) hL hc hR hT ha
  refine xF_x (xF_p (Nat.le_of_ble_eq_true rfl) ?_)
  refine xp_aload_n rfl rfl ?_
  refine xp_iload_n rfl rfl ?_
  refine xp_iconst (n := 0) rfl (by decide) ?_
  refine xp_iv rfl rfl (Nat.le_of_ble_eq_true rfl) (by decide) (by decide) (by decide) (Nat.le_of_ble_eq_true rfl) rfl (xrcv1 (by decide) (by first | assumption | exact hL.t rfl)) (m123 hL b3 (by omega)) rfl ?_
  refine xp_istore rfl (by decide) ?_
  refine xp_aload_n rfl rfl ?_
  refine xp_iload_n rfl rfl ?_
  refine xp_iconst (n := 1) rfl (by decide) ?_
  refine xp_iv rfl rfl (Nat.le_of_ble_eq_true rfl) (by decide) (by decide) (by decide) (Nat.le_of_ble_eq_true rfl) rfl (xrcv1 (by decide) (by first | assumption | exact hL.t rfl)) (m123 hL b3 (by omega)) rfl ?_
  refine xp_istore rfl (by decide) ?_
  refine xp_iload_n rfl rfl ?_
  refine xp_tsw 368 rfl (by omega) (by first | rfl | (rw [if_pos (by omega)]) | (rw [if_neg (by omega)]; rfl)) (by decide) ?_
  refine xp_aload_n rfl rfl ?_
  refine xp_iload_n rfl rfl ?_
  refine xp_iload_n rfl rfl ?_
  refine xp_iload_n rfl rfl ?_
  refine xp_iload rfl rfl ?_
  refine xp_iv rfl rfl (Nat.le_of_ble_eq_true rfl) (by decide) (by decide) (by decide) (Nat.le_of_ble_eq_true rfl) rfl (xrcv1 (by decide) (by first | assumption | exact hL.t rfl)) (g1) rfl ?_
  refine xp_ireturn rfl (by decide) (by decide) (by decide) ?_
  exact ⟨_, rfl, g2⟩
theorem m144_24 {z : Nat} {T : Nat → Option xT} {R : Nat → Nat → Option Nat} {A B : xQ} {w t k f m a b : Nat} (hL : xLay T R w) (hc : COk w A) (hR : Rel w A B) (hT : Top w A t k f m) (hs1 : 1 ≤ A.1 f 3) : ∃ B2, xF 144 [.ref 189, .int (nI m), .int (nI 24), .int (nI a), .int (nI b)] (xm z T R B) (.inr (some (.int (nI (aPl w A f 24 a b).1))), xm z T R B2) ∧ Rel w (aPl w A f 24 a b).2 B2 := by
  obtain ⟨b1, b2, b3, b4, b5, b6, b7⟩ := hT.b hc
  have hk := hT.ok hc
  have hd := (hT.g hR).2.2.1
  obtain ⟨d0, y1, y2⟩ := hT.y hR hs1
  have ky := hk.c (c := 4 + A.1 f 3) (by omega)
  show ∃ B2, xF 144 _ _ (.inr (some (.int (nI (aThrow A f).1))), _) ∧ Rel w (aThrow A f).2 B2
  unfold aThrow
  by_cases hq : A.1 (f + 2) (4 + A.1 f 3) = 1
  · rw [if_pos hq]
    refine xF_x (xF_p (Nat.le_of_ble_eq_true rfl) ?_)
    refine xp_aload_n rfl rfl ?_
    refine xp_iload_n rfl rfl ?_
    refine xp_iconst (n := 0) rfl (by decide) ?_
    refine xp_iv rfl rfl (Nat.le_of_ble_eq_true rfl) (by decide) (by decide) (by decide) (Nat.le_of_ble_eq_true rfl) rfl (xrcv1 (by decide) (by first | assumption | exact hL.t rfl)) (m123 hL b3 (by omega)) rfl ?_
    refine xp_istore rfl (by decide) ?_
    refine xp_aload_n rfl rfl ?_
    refine xp_iload_n rfl rfl ?_
    refine xp_iconst (n := 1) rfl (by decide) ?_
    refine xp_iv rfl rfl (Nat.le_of_ble_eq_true rfl) (by decide) (by decide) (by decide) (Nat.le_of_ble_eq_true rfl) rfl (xrcv1 (by decide) (by first | assumption | exact hL.t rfl)) (m123 hL b3 (by omega)) rfl ?_
    refine xp_istore rfl (by decide) ?_
    refine xp_iload_n rfl rfl ?_
    refine xp_tsw 322 rfl (by omega) (by first | rfl | (rw [if_pos (by omega)]) | (rw [if_neg (by omega)]; rfl)) (by decide) ?_
    refine xp_aload_n rfl rfl ?_
    refine xp_gfa rfl rfl (by decide) (by decide) (by first | assumption | exact hL.t rfl) (by first | assumption | exact hL.r rfl | exact hL.2.2.2.2.2) ?_
    refine xp_iload rfl rfl ?_
    refine xp_iald rfl (by first | assumption | exact hL.t rfl) (by omega) (by omega) ?_
    refine xp_iconst (n := 1) rfl (by decide) ?_
    rw [y1]
    refine xp_iceq 337 rfl (by decide) (by omega) (by omega) (fun h330 => ?_) (fun h330 => ?_)
    · skip
      refine xp_bipush (n := 16) rfl (by decide) ?_
      refine xp_aload_n rfl rfl ?_
      refine xp_gfa rfl rfl (by decide) (by decide) (by first | assumption | exact hL.t rfl) (by first | assumption | exact hL.r rfl | exact hL.2.2.2.2.2) ?_
      refine xp_iload rfl rfl ?_
      refine xp_lald rfl (by first | assumption | exact hL.t rfl) (by omega) (by omega) ?_
      rw [y2]
      refine xp_ldc2 rfl rfl ?_
      refine xp_land rfl ?_
      refine xp_l2i rfl ?_
      rw [oN_i]
      refine xp_iadd rfl ?_
      refine xp_ireturn rfl (by decide) (by decide) (by decide) ?_
      exact ⟨_, rfl, hR⟩
    · exact absurd hq h330
  · rw [if_neg hq]
    refine xF_x (xF_p (Nat.le_of_ble_eq_true rfl) ?_)
    refine xp_aload_n rfl rfl ?_
    refine xp_iload_n rfl rfl ?_
    refine xp_iconst (n := 0) rfl (by decide) ?_
    refine xp_iv rfl rfl (Nat.le_of_ble_eq_true rfl) (by decide) (by decide) (by decide) (Nat.le_of_ble_eq_true rfl) rfl (xrcv1 (by decide) (by first | assumption | exact hL.t rfl)) (m123 hL b3 (by omega)) rfl ?_
    refine xp_istore rfl (by decide) ?_
    refine xp_aload_n rfl rfl ?_
    refine xp_iload_n rfl rfl ?_
    refine xp_iconst (n := 1) rfl (by decide) ?_
    refine xp_iv rfl rfl (Nat.le_of_ble_eq_true rfl) (by decide) (by decide) (by decide) (Nat.le_of_ble_eq_true rfl) rfl (xrcv1 (by decide) (by first | assumption | exact hL.t rfl)) (m123 hL b3 (by omega)) rfl ?_
    refine xp_istore rfl (by decide) ?_
    refine xp_iload_n rfl rfl ?_
    refine xp_tsw 322 rfl (by omega) (by first | rfl | (rw [if_pos (by omega)]) | (rw [if_neg (by omega)]; rfl)) (by decide) ?_
    refine xp_aload_n rfl rfl ?_
    refine xp_gfa rfl rfl (by decide) (by decide) (by first | assumption | exact hL.t rfl) (by first | assumption | exact hL.r rfl | exact hL.2.2.2.2.2) ?_
    refine xp_iload rfl rfl ?_
    refine xp_iald rfl (by first | assumption | exact hL.t rfl) (by omega) (by omega) ?_
    refine xp_iconst (n := 1) rfl (by decide) ?_
    rw [y1]
    refine xp_iceq 337 rfl (by decide) (by omega) (by omega) (fun h330 => ?_) (fun h330 => ?_)
    · exact absurd h330 hq
    · skip
      refine xp_iconst (n := 2) rfl (by decide) ?_
      refine xp_goto 352 rfl (by decide) ?_
      refine xp_ireturn rfl (by decide) (by decide) (by decide) ?_
      exact ⟨_, rfl, hR⟩
theorem m144_25 {z : Nat} {T : Nat → Option xT} {R : Nat → Nat → Option Nat} {A B : xQ} {w t k f m a b : Nat} (hL : xLay T R w) (hc : COk w A) (hR : Rel w A B) (hT : Top w A t k f m) (hs1 : 1 ≤ A.1 f 3) (hsd : A.1 11 3 < 2 ^ 31) : ∃ B2, xF 144 [.ref 189, .int (nI m), .int (nI 25), .int (nI a), .int (nI b)] (xm z T R B) (.inr (some (.int (nI (aPl w A f 25 a b).1))), xm z T R B2) ∧ Rel w (aPl w A f 25 a b).2 B2 := by
  obtain ⟨b1, b2, b3, b4, b5, b6, b7⟩ := hT.b hc
  have hk := hT.ok hc
  have hd := (hT.g hR).2.2.1
  obtain ⟨B2, g1, g2⟩ := m143 (z := z) hL hc hR hT hs1 hsd
  refine xF_x (xF_p (Nat.le_of_ble_eq_true rfl) ?_)
  refine xp_aload_n rfl rfl ?_
  refine xp_iload_n rfl rfl ?_
  refine xp_iconst (n := 0) rfl (by decide) ?_
  refine xp_iv rfl rfl (Nat.le_of_ble_eq_true rfl) (by decide) (by decide) (by decide) (Nat.le_of_ble_eq_true rfl) rfl (xrcv1 (by decide) (by first | assumption | exact hL.t rfl)) (m123 hL b3 (by omega)) rfl ?_
  refine xp_istore rfl (by decide) ?_
  refine xp_aload_n rfl rfl ?_
  refine xp_iload_n rfl rfl ?_
  refine xp_iconst (n := 1) rfl (by decide) ?_
  refine xp_iv rfl rfl (Nat.le_of_ble_eq_true rfl) (by decide) (by decide) (by decide) (Nat.le_of_ble_eq_true rfl) rfl (xrcv1 (by decide) (by first | assumption | exact hL.t rfl)) (m123 hL b3 (by omega)) rfl ?_
  refine xp_istore rfl (by decide) ?_
  refine xp_iload_n rfl rfl ?_
  refine xp_tsw 353 rfl (by omega) (by first | rfl | (rw [if_pos (by omega)]) | (rw [if_neg (by omega)]; rfl)) (by decide) ?_
  refine xp_aload_n rfl rfl ?_
  refine xp_iload_n rfl rfl ?_
  refine xp_iv rfl rfl (Nat.le_of_ble_eq_true rfl) (by decide) (by decide) (by decide) (Nat.le_of_ble_eq_true rfl) rfl (xrcv1 (by decide) (by first | assumption | exact hL.t rfl)) (g1) rfl ?_
  refine xp_ireturn rfl (by decide) (by decide) (by decide) ?_
  exact ⟨_, rfl, g2⟩
theorem m144_26 {z : Nat} {T : Nat → Option xT} {R : Nat → Nat → Option Nat} {A B : xQ} {w t k f m a b : Nat} (hL : xLay T R w) (hc : COk w A) (hR : Rel w A B) (hT : Top w A t k f m) (ha : a < 6) (hs1 : A.1 2 a ≤ A.1 f 3) : ∃ B2, xF 144 [.ref 189, .int (nI m), .int (nI 26), .int (nI a), .int (nI b)] (xm z T R B) (.inr (some (.int (nI (aPl w A f 26 a b).1))), xm z T R B2) ∧ Rel w (aPl w A f 26 a b).2 B2 := by
  obtain ⟨b1, b2, b3, b4, b5, b6, b7⟩ := hT.b hc
  have hk := hT.ok hc
  have hd := (hT.g hR).2.2.1
  obtain ⟨B2, g1, g2⟩ := m139 (z := z) hL hc hR hT ha hs1
  refine xF_x (xF_p (Nat.le_of_ble_eq_true rfl) ?_)
  refine xp_aload_n rfl rfl ?_
  refine xp_iload_n rfl rfl ?_
  refine xp_iconst (n := 0) rfl (by decide) ?_
  refine xp_iv rfl rfl (Nat.le_of_ble_eq_true rfl) (by decide) (by decide) (by decide) (Nat.le_of_ble_eq_true rfl) rfl (xrcv1 (by decide) (by first | assumption | exact hL.t rfl)) (m123 hL b3 (by omega)) rfl ?_
  refine xp_istore rfl (by decide) ?_
  refine xp_aload_n rfl rfl ?_
  refine xp_iload_n rfl rfl ?_
  refine xp_iconst (n := 1) rfl (by decide) ?_
  refine xp_iv rfl rfl (Nat.le_of_ble_eq_true rfl) (by decide) (by decide) (by decide) (Nat.le_of_ble_eq_true rfl) rfl (xrcv1 (by decide) (by first | assumption | exact hL.t rfl)) (m123 hL b3 (by omega)) rfl ?_
  refine xp_istore rfl (by decide) ?_
  refine xp_iload_n rfl rfl ?_
  refine xp_tsw 359 rfl (by omega) (by first | rfl | (rw [if_pos (by omega)]) | (rw [if_neg (by omega)]; rfl)) (by decide) ?_
  refine xp_aload_n rfl rfl ?_
  refine xp_iload_n rfl rfl ?_
  refine xp_iload_n rfl rfl ?_
  refine xp_iv rfl rfl (Nat.le_of_ble_eq_true rfl) (by decide) (by decide) (by decide) (Nat.le_of_ble_eq_true rfl) rfl (xrcv1 (by decide) (by first | assumption | exact hL.t rfl)) (g1) rfl ?_
  refine xp_ireturn rfl (by decide) (by decide) (by decide) ?_
  exact ⟨_, rfl, g2⟩
theorem m144_27 {z : Nat} {T : Nat → Option xT} {R : Nat → Nat → Option Nat} {A B : xQ} {w t k f m a b : Nat} (hL : xLay T R w) (hc : COk w A) (hR : Rel w A B) (hT : Top w A t k f m) : ∃ B2, xF 144 [.ref 189, .int (nI m), .int (nI 27), .int (nI a), .int (nI b)] (xm z T R B) (.inr (some (.int (nI (aPl w A f 27 a b).1))), xm z T R B2) ∧ Rel w (aPl w A f 27 a b).2 B2 := by
  obtain ⟨b1, b2, b3, b4, b5, b6, b7⟩ := hT.b hc
  have hk := hT.ok hc
  have hd := (hT.g hR).2.2.1
  refine xF_x (xF_p (Nat.le_of_ble_eq_true rfl) ?_)
  refine xp_aload_n rfl rfl ?_
  refine xp_iload_n rfl rfl ?_
  refine xp_iconst (n := 0) rfl (by decide) ?_
  refine xp_iv rfl rfl (Nat.le_of_ble_eq_true rfl) (by decide) (by decide) (by decide) (Nat.le_of_ble_eq_true rfl) rfl (xrcv1 (by decide) (by first | assumption | exact hL.t rfl)) (m123 hL b3 (by omega)) rfl ?_
  refine xp_istore rfl (by decide) ?_
  refine xp_aload_n rfl rfl ?_
  refine xp_iload_n rfl rfl ?_
  refine xp_iconst (n := 1) rfl (by decide) ?_
  refine xp_iv rfl rfl (Nat.le_of_ble_eq_true rfl) (by decide) (by decide) (by decide) (Nat.le_of_ble_eq_true rfl) rfl (xrcv1 (by decide) (by first | assumption | exact hL.t rfl)) (m123 hL b3 (by omega)) rfl ?_
  refine xp_istore rfl (by decide) ?_
  refine xp_iload_n rfl rfl ?_
  refine xp_tsw 366 rfl (by omega) (by first | rfl | (rw [if_pos (by omega)]) | (rw [if_neg (by omega)]; rfl)) (by decide) ?_
  refine xp_iconst (n := 0) rfl (by decide) ?_
  refine xp_ireturn rfl (by decide) (by decide) (by decide) ?_
  exact ⟨_, rfl, hR⟩
theorem nI_subm (b : Nat) : nI b - nI 1 = nI (b + 4294967295) := by
  rw [← nI_add, Int32.sub_eq_add_neg]
  congr 1
theorem m144_14 {z : Nat} {T : Nat → Option xT} {R : Nat → Nat → Option Nat} {B : xQ} {w m a b : Nat} (hL : xLay T R w) (b3 : m < 15) : xF 144 [.ref 189, .int (nI m), .int (nI 14), .int (nI a), .int (nI b)] (xm z T R B) (.inr (some (.int (nI 0))), xm z T R (xsI B 203 m (b + 4294967295))) := by
  refine xF_eq (xF_p (Nat.le_of_ble_eq_true rfl) ?_)
  refine xp_aload_n rfl rfl ?_
  refine xp_iload_n rfl rfl ?_
  refine xp_iconst (n := 0) rfl (by decide) ?_
  refine xp_iv rfl rfl (Nat.le_of_ble_eq_true rfl) (by decide) (by decide) (by decide) (Nat.le_of_ble_eq_true rfl) rfl (xrcv1 (by decide) (by first | assumption | exact hL.t rfl)) (m123 hL b3 (by omega)) rfl ?_
  refine xp_istore rfl (by decide) ?_
  refine xp_aload_n rfl rfl ?_
  refine xp_iload_n rfl rfl ?_
  refine xp_iconst (n := 1) rfl (by decide) ?_
  refine xp_iv rfl rfl (Nat.le_of_ble_eq_true rfl) (by decide) (by decide) (by decide) (Nat.le_of_ble_eq_true rfl) rfl (xrcv1 (by decide) (by first | assumption | exact hL.t rfl)) (m123 hL b3 (by omega)) rfl ?_
  refine xp_istore rfl (by decide) ?_
  refine xp_iload_n rfl rfl ?_
  refine xp_tsw 246 rfl (by omega) (by first | rfl | (rw [if_pos (by omega)]) | (rw [if_neg (by omega)]; rfl)) (by decide) ?_
  refine xp_aload_n rfl rfl ?_
  refine xp_gfa rfl rfl (by decide) (by decide) (by first | assumption | exact hL.t rfl) (by first | assumption | exact hL.r rfl | exact hL.2.2.2.2.2) ?_
  refine xp_iload_n rfl rfl ?_
  refine xp_iload rfl rfl ?_
  refine xp_iconst (n := 1) rfl (by decide) ?_
  refine xp_isubR rfl ?_
  rw [nI_subm b]
  refine xp_iast rfl (by first | assumption | exact hL.t rfl) (by omega) (by omega) ?_
  refine xp_iconst (n := 0) rfl (by decide) ?_
  refine xp_ireturn rfl (by decide) (by decide) (by decide) ?_
  rfl
theorem m144_15e {z : Nat} {T : Nat → Option xT} {R : Nat → Nat → Option Nat} {B : xQ} {w m a b : Nat} (hL : xLay T R w) (b3 : m < 15) (hb : B.1 206 (10 * m + 3 + B.1 205 m - 0) < 2 ^ 32) (hd : B.1 205 m ≤ 6) (hq : B.1 206 (10 * m + 3 + B.1 205 m - 0) ≠ 1) : xF 144 [.ref 189, .int (nI m), .int (nI 15), .int (nI a), .int (nI b)] (xm z T R B) (.inr (some (.int (nI 2))), xm z T R B) := by
  refine xF_eq (xF_p (Nat.le_of_ble_eq_true rfl) ?_)
  refine xp_aload_n rfl rfl ?_
  refine xp_iload_n rfl rfl ?_
  refine xp_iconst (n := 0) rfl (by decide) ?_
  refine xp_iv rfl rfl (Nat.le_of_ble_eq_true rfl) (by decide) (by decide) (by decide) (Nat.le_of_ble_eq_true rfl) rfl (xrcv1 (by decide) (by first | assumption | exact hL.t rfl)) (m123 hL b3 (by omega)) rfl ?_
  refine xp_istore rfl (by decide) ?_
  refine xp_aload_n rfl rfl ?_
  refine xp_iload_n rfl rfl ?_
  refine xp_iconst (n := 1) rfl (by decide) ?_
  refine xp_iv rfl rfl (Nat.le_of_ble_eq_true rfl) (by decide) (by decide) (by decide) (Nat.le_of_ble_eq_true rfl) rfl (xrcv1 (by decide) (by first | assumption | exact hL.t rfl)) (m123 hL b3 (by omega)) rfl ?_
  refine xp_istore rfl (by decide) ?_
  refine xp_iload_n rfl rfl ?_
  refine xp_tsw 258 rfl (by omega) (by first | rfl | (rw [if_pos (by omega)]) | (rw [if_neg (by omega)]; rfl)) (by decide) ?_
  refine xp_aload_n rfl rfl ?_
  refine xp_gfa rfl rfl (by decide) (by decide) (by first | assumption | exact hL.t rfl) (by first | assumption | exact hL.r rfl | exact hL.2.2.2.2.2) ?_
  refine xp_iload rfl rfl ?_
  refine xp_iald rfl (by first | assumption | exact hL.t rfl) (by omega) (by omega) ?_
  refine xp_iconst (n := 1) rfl (by decide) ?_
  refine xp_iceq 271 rfl (by decide) (by omega) (by omega) (fun h266 => ?_) (fun h266 => ?_)
  · exact absurd h266 hq
  · skip
    refine xp_iconst (n := 2) rfl (by decide) ?_
    refine xp_ireturn rfl (by decide) (by decide) (by decide) ?_
    rfl
theorem m144_15n {z : Nat} {T : Nat → Option xT} {R : Nat → Nat → Option Nat} {B : xQ} {w m a b : Nat} (hL : xLay T R w) (b3 : m < 15) (hd : B.1 205 m ≤ 6) (hd1 : 1 ≤ B.1 205 m) (hq : B.1 206 (10 * m + 3 + B.1 205 m - 0) = 1) (hz : B.2 207 (10 * m + 3 + B.1 205 m - 0) = 0) : xF 144 [.ref 189, .int (nI m), .int (nI 15), .int (nI a), .int (nI b)] (xm z T R B) (.inr (some (.int (nI 0))), xm z T R (xsI B 205 m (B.1 205 m - 1))) := by
  refine xF_eq (xF_p (Nat.le_of_ble_eq_true rfl) ?_)
  refine xp_aload_n rfl rfl ?_
  refine xp_iload_n rfl rfl ?_
  refine xp_iconst (n := 0) rfl (by decide) ?_
  refine xp_iv rfl rfl (Nat.le_of_ble_eq_true rfl) (by decide) (by decide) (by decide) (Nat.le_of_ble_eq_true rfl) rfl (xrcv1 (by decide) (by first | assumption | exact hL.t rfl)) (m123 hL b3 (by omega)) rfl ?_
  refine xp_istore rfl (by decide) ?_
  refine xp_aload_n rfl rfl ?_
  refine xp_iload_n rfl rfl ?_
  refine xp_iconst (n := 1) rfl (by decide) ?_
  refine xp_iv rfl rfl (Nat.le_of_ble_eq_true rfl) (by decide) (by decide) (by decide) (Nat.le_of_ble_eq_true rfl) rfl (xrcv1 (by decide) (by first | assumption | exact hL.t rfl)) (m123 hL b3 (by omega)) rfl ?_
  refine xp_istore rfl (by decide) ?_
  refine xp_iload_n rfl rfl ?_
  refine xp_tsw 258 rfl (by omega) (by first | rfl | (rw [if_pos (by omega)]) | (rw [if_neg (by omega)]; rfl)) (by decide) ?_
  refine xp_aload_n rfl rfl ?_
  refine xp_gfa rfl rfl (by decide) (by decide) (by first | assumption | exact hL.t rfl) (by first | assumption | exact hL.r rfl | exact hL.2.2.2.2.2) ?_
  refine xp_iload rfl rfl ?_
  refine xp_iald rfl (by first | assumption | exact hL.t rfl) (by omega) (by omega) ?_
  refine xp_iconst (n := 1) rfl (by decide) ?_
  refine xp_iceq 271 rfl (by decide) (by omega) (by omega) (fun h266 => ?_) (fun h266 => ?_)
  · skip
    refine xp_aload_n rfl rfl ?_
    refine xp_gfa rfl rfl (by decide) (by decide) (by first | assumption | exact hL.t rfl) (by first | assumption | exact hL.r rfl | exact hL.2.2.2.2.2) ?_
    refine xp_iload rfl rfl ?_
    refine xp_lald rfl (by first | assumption | exact hL.t rfl) (by omega) (by omega) ?_
    refine xp_lconst rfl rfl ?_
    refine xp_lceq 293 rfl rfl (by decide) (fun h279 => ?_) (fun h279 => ?_)
    · skip
      refine xp_aload_n rfl rfl ?_
      refine xp_gfa rfl rfl (by decide) (by decide) (by first | assumption | exact hL.t rfl) (by first | assumption | exact hL.r rfl | exact hL.2.2.2.2.2) ?_
      refine xp_iload_n rfl rfl ?_
      refine xp_dup2 rfl rfl rfl ?_
      refine xp_iald rfl (by first | assumption | exact hL.t rfl) (by omega) (by omega) ?_
      refine xp_iconst (n := 1) rfl (by decide) ?_
      refine xp_isub rfl (by omega) ?_
      refine xp_iast rfl (by first | assumption | exact hL.t rfl) (by omega) (by omega) ?_
      refine xp_iconst (n := 0) rfl (by decide) ?_
      refine xp_ireturn rfl (by decide) (by decide) (by decide) ?_
      rfl
    · exact absurd hz h279
  · exact absurd hq h266
theorem m144_15y {z : Nat} {T : Nat → Option xT} {R : Nat → Nat → Option Nat} {B : xQ} {w m a b : Nat} (hL : xLay T R w) (b3 : m < 15) (hd : B.1 205 m ≤ 6) (hd1 : 1 ≤ B.1 205 m) (hq : B.1 206 (10 * m + 3 + B.1 205 m - 0) = 1) (hz : B.2 207 (10 * m + 3 + B.1 205 m - 0) ≠ 0) : xF 144 [.ref 189, .int (nI m), .int (nI 15), .int (nI a), .int (nI b)] (xm z T R B) (.inr (some (.int (nI 0))), xm z T R (xsI (xsI B 203 m (b + 4294967295)) 205 m (B.1 205 m - 1))) := by
  have e5 : (xsI B 203 m (b + 4294967295)).1 205 m = B.1 205 m := xsI_ne (by omega)
  refine xF_eq (xF_p (Nat.le_of_ble_eq_true rfl) ?_)
  refine xp_aload_n rfl rfl ?_
  refine xp_iload_n rfl rfl ?_
  refine xp_iconst (n := 0) rfl (by decide) ?_
  refine xp_iv rfl rfl (Nat.le_of_ble_eq_true rfl) (by decide) (by decide) (by decide) (Nat.le_of_ble_eq_true rfl) rfl (xrcv1 (by decide) (by first | assumption | exact hL.t rfl)) (m123 hL b3 (by omega)) rfl ?_
  refine xp_istore rfl (by decide) ?_
  refine xp_aload_n rfl rfl ?_
  refine xp_iload_n rfl rfl ?_
  refine xp_iconst (n := 1) rfl (by decide) ?_
  refine xp_iv rfl rfl (Nat.le_of_ble_eq_true rfl) (by decide) (by decide) (by decide) (Nat.le_of_ble_eq_true rfl) rfl (xrcv1 (by decide) (by first | assumption | exact hL.t rfl)) (m123 hL b3 (by omega)) rfl ?_
  refine xp_istore rfl (by decide) ?_
  refine xp_iload_n rfl rfl ?_
  refine xp_tsw 258 rfl (by omega) (by first | rfl | (rw [if_pos (by omega)]) | (rw [if_neg (by omega)]; rfl)) (by decide) ?_
  refine xp_aload_n rfl rfl ?_
  refine xp_gfa rfl rfl (by decide) (by decide) (by first | assumption | exact hL.t rfl) (by first | assumption | exact hL.r rfl | exact hL.2.2.2.2.2) ?_
  refine xp_iload rfl rfl ?_
  refine xp_iald rfl (by first | assumption | exact hL.t rfl) (by omega) (by omega) ?_
  refine xp_iconst (n := 1) rfl (by decide) ?_
  refine xp_iceq 271 rfl (by decide) (by omega) (by omega) (fun h266 => ?_) (fun h266 => ?_)
  · skip
    refine xp_aload_n rfl rfl ?_
    refine xp_gfa rfl rfl (by decide) (by decide) (by first | assumption | exact hL.t rfl) (by first | assumption | exact hL.r rfl | exact hL.2.2.2.2.2) ?_
    refine xp_iload rfl rfl ?_
    refine xp_lald rfl (by first | assumption | exact hL.t rfl) (by omega) (by omega) ?_
    refine xp_lconst rfl rfl ?_
    refine xp_lceq 293 rfl rfl (by decide) (fun h279 => ?_) (fun h279 => ?_)
    · exact absurd h279 hz
    · skip
      refine xp_aload_n rfl rfl ?_
      refine xp_gfa rfl rfl (by decide) (by decide) (by first | assumption | exact hL.t rfl) (by first | assumption | exact hL.r rfl | exact hL.2.2.2.2.2) ?_
      refine xp_iload_n rfl rfl ?_
      refine xp_iload rfl rfl ?_
      refine xp_iconst (n := 1) rfl (by decide) ?_
      refine xp_isubR rfl ?_
      rw [nI_subm b]
      refine xp_iast rfl (by first | assumption | exact hL.t rfl) (by omega) (by omega) ?_
      refine xp_aload_n rfl rfl ?_
      refine xp_gfa rfl rfl (by decide) (by decide) (by first | assumption | exact hL.t rfl) (by first | assumption | exact hL.r rfl | exact hL.2.2.2.2.2) ?_
      refine xp_iload_n rfl rfl ?_
      refine xp_dup2 rfl rfl rfl ?_
      refine xp_iald rfl (by first | assumption | exact hL.t rfl) (by omega) (by omega) ?_
      refine xp_iconst (n := 1) rfl (by decide) ?_
      refine xp_isub rfl (by rw [e5]; exact hd1) ?_
      rw [e5]
      refine xp_iast rfl (by first | assumption | exact hL.t rfl) (by omega) (by omega) ?_
      refine xp_iconst (n := 0) rfl (by decide) ?_
      refine xp_ireturn rfl (by decide) (by decide) (by decide) ?_
      rfl
  · exact absurd hq h266
def mTaken (x n b : Nat) : Nat := if x = 21 ∨ x = 26 then n else if x = 19 then b else if (8 ≤ x ∧ x ≤ 13) ∨ x = 18 then 2 else if x = 5 ∨ x = 6 ∨ x = 7 ∨ x = 15 ∨ x = 17 ∨ (22 ≤ x ∧ x ≤ 25) then 1 else 0
theorem m141 {z : Nat} {T : Nat → Option xT} {R : Nat → Nat → Option Nat} {B : xQ} {x n b : Nat} (h1 : x < 2 ^ 31) : xF 141 [.int (nI x), .int (nI n), .int (nI b)] (xm z T R B) (.inr (some (.int (nI (mTaken x n b)))), xm z T R B) := by
  refine xF_eq (xF_p (Nat.le_of_ble_eq_true rfl) ?_)
  refine xp_iload_n rfl rfl ?_
  refine xp_bipush (n := 21) rfl (by decide) ?_
  refine xp_iceq 12 rfl (by decide) (by omega) (by omega) (fun h3 => ?_) (fun h3 => ?_)
  · skip
    refine xp_iload_n rfl rfl ?_
    refine xp_goto 94 rfl (by decide) ?_
    refine xp_ireturn rfl (by decide) (by decide) (by decide) ?_
    first | (exfalso; omega) | (unfold mTaken; repeat (first | rw [if_pos (by omega)] | rw [if_neg (by omega)]))
  · skip
    refine xp_iload_n rfl rfl ?_
    refine xp_bipush (n := 26) rfl (by decide) ?_
    refine xp_icne 16 rfl (by decide) (by omega) (by omega) (fun h9 => ?_) (fun h9 => ?_)
    · skip
      refine xp_iload_n rfl rfl ?_
      refine xp_bipush (n := 19) rfl (by decide) ?_
      refine xp_icne 26 rfl (by decide) (by omega) (by omega) (fun h19 => ?_) (fun h19 => ?_)
      · skip
        refine xp_iload_n rfl rfl ?_
        refine xp_bipush (n := 8) rfl (by decide) ?_
        refine xp_iclt 38 rfl (by decide) (by omega) (by omega) (fun h29 => ?_) (fun h29 => ?_)
        · skip
          refine xp_iload_n rfl rfl ?_
          refine xp_bipush (n := 18) rfl (by decide) ?_
          refine xp_icne 48 rfl (by decide) (by omega) (by omega) (fun h41 => ?_) (fun h41 => ?_)
          · skip
            refine xp_iload_n rfl rfl ?_
            refine xp_iconst (n := 5) rfl (by decide) ?_
            refine xp_iceq 89 rfl (by decide) (by omega) (by omega) (fun h50 => ?_) (fun h50 => ?_)
            · skip
              refine xp_iconst (n := 1) rfl (by decide) ?_
              refine xp_goto 94 rfl (by decide) ?_
              refine xp_ireturn rfl (by decide) (by decide) (by decide) ?_
              first | (exfalso; omega) | (unfold mTaken; repeat (first | rw [if_pos (by omega)] | rw [if_neg (by omega)]))
            · skip
              refine xp_iload_n rfl rfl ?_
              refine xp_bipush (n := 6) rfl (by decide) ?_
              refine xp_iceq 89 rfl (by decide) (by omega) (by omega) (fun h56 => ?_) (fun h56 => ?_)
              · skip
                refine xp_iconst (n := 1) rfl (by decide) ?_
                refine xp_goto 94 rfl (by decide) ?_
                refine xp_ireturn rfl (by decide) (by decide) (by decide) ?_
                first | (exfalso; omega) | (unfold mTaken; repeat (first | rw [if_pos (by omega)] | rw [if_neg (by omega)]))
              · skip
                refine xp_iload_n rfl rfl ?_
                refine xp_bipush (n := 7) rfl (by decide) ?_
                refine xp_iceq 89 rfl (by decide) (by omega) (by omega) (fun h62 => ?_) (fun h62 => ?_)
                · skip
                  refine xp_iconst (n := 1) rfl (by decide) ?_
                  refine xp_goto 94 rfl (by decide) ?_
                  refine xp_ireturn rfl (by decide) (by decide) (by decide) ?_
                  first | (exfalso; omega) | (unfold mTaken; repeat (first | rw [if_pos (by omega)] | rw [if_neg (by omega)]))
                · skip
                  refine xp_iload_n rfl rfl ?_
                  refine xp_bipush (n := 15) rfl (by decide) ?_
                  refine xp_iceq 89 rfl (by decide) (by omega) (by omega) (fun h68 => ?_) (fun h68 => ?_)
                  · skip
                    refine xp_iconst (n := 1) rfl (by decide) ?_
                    refine xp_goto 94 rfl (by decide) ?_
                    refine xp_ireturn rfl (by decide) (by decide) (by decide) ?_
                    first | (exfalso; omega) | (unfold mTaken; repeat (first | rw [if_pos (by omega)] | rw [if_neg (by omega)]))
                  · skip
                    refine xp_iload_n rfl rfl ?_
                    refine xp_bipush (n := 17) rfl (by decide) ?_
                    refine xp_iceq 89 rfl (by decide) (by omega) (by omega) (fun h74 => ?_) (fun h74 => ?_)
                    · skip
                      refine xp_iconst (n := 1) rfl (by decide) ?_
                      refine xp_goto 94 rfl (by decide) ?_
                      refine xp_ireturn rfl (by decide) (by decide) (by decide) ?_
                      first | (exfalso; omega) | (unfold mTaken; repeat (first | rw [if_pos (by omega)] | rw [if_neg (by omega)]))
                    · skip
                      refine xp_iload_n rfl rfl ?_
                      refine xp_bipush (n := 22) rfl (by decide) ?_
                      refine xp_iclt 93 rfl (by decide) (by omega) (by omega) (fun h80 => ?_) (fun h80 => ?_)
                      · skip
                        refine xp_iconst (n := 0) rfl (by decide) ?_
                        refine xp_ireturn rfl (by decide) (by decide) (by decide) ?_
                        first | (exfalso; omega) | (unfold mTaken; repeat (first | rw [if_pos (by omega)] | rw [if_neg (by omega)]))
                      · skip
                        refine xp_iload_n rfl rfl ?_
                        refine xp_bipush (n := 25) rfl (by decide) ?_
                        refine xp_icgt 93 rfl (by decide) (by omega) (by omega) (fun h86 => ?_) (fun h86 => ?_)
                        · skip
                          refine xp_iconst (n := 0) rfl (by decide) ?_
                          refine xp_ireturn rfl (by decide) (by decide) (by decide) ?_
                          first | (exfalso; omega) | (unfold mTaken; repeat (first | rw [if_pos (by omega)] | rw [if_neg (by omega)]))
                        · skip
                          refine xp_iconst (n := 1) rfl (by decide) ?_
                          refine xp_goto 94 rfl (by decide) ?_
                          refine xp_ireturn rfl (by decide) (by decide) (by decide) ?_
                          first | (exfalso; omega) | (unfold mTaken; repeat (first | rw [if_pos (by omega)] | rw [if_neg (by omega)]))
          · skip
            refine xp_iconst (n := 2) rfl (by decide) ?_
            refine xp_goto 94 rfl (by decide) ?_
            refine xp_ireturn rfl (by decide) (by decide) (by decide) ?_
            first | (exfalso; omega) | (unfold mTaken; repeat (first | rw [if_pos (by omega)] | rw [if_neg (by omega)]))
        · skip
          refine xp_iload_n rfl rfl ?_
          refine xp_bipush (n := 13) rfl (by decide) ?_
          refine xp_icle 44 rfl (by decide) (by omega) (by omega) (fun h35 => ?_) (fun h35 => ?_)
          · skip
            refine xp_iconst (n := 2) rfl (by decide) ?_
            refine xp_goto 94 rfl (by decide) ?_
            refine xp_ireturn rfl (by decide) (by decide) (by decide) ?_
            first | (exfalso; omega) | (unfold mTaken; repeat (first | rw [if_pos (by omega)] | rw [if_neg (by omega)]))
          · skip
            refine xp_iload_n rfl rfl ?_
            refine xp_bipush (n := 18) rfl (by decide) ?_
            refine xp_icne 48 rfl (by decide) (by omega) (by omega) (fun h41 => ?_) (fun h41 => ?_)
            · skip
              refine xp_iload_n rfl rfl ?_
              refine xp_iconst (n := 5) rfl (by decide) ?_
              refine xp_iceq 89 rfl (by decide) (by omega) (by omega) (fun h50 => ?_) (fun h50 => ?_)
              · skip
                refine xp_iconst (n := 1) rfl (by decide) ?_
                refine xp_goto 94 rfl (by decide) ?_
                refine xp_ireturn rfl (by decide) (by decide) (by decide) ?_
                first | (exfalso; omega) | (unfold mTaken; repeat (first | rw [if_pos (by omega)] | rw [if_neg (by omega)]))
              · skip
                refine xp_iload_n rfl rfl ?_
                refine xp_bipush (n := 6) rfl (by decide) ?_
                refine xp_iceq 89 rfl (by decide) (by omega) (by omega) (fun h56 => ?_) (fun h56 => ?_)
                · skip
                  refine xp_iconst (n := 1) rfl (by decide) ?_
                  refine xp_goto 94 rfl (by decide) ?_
                  refine xp_ireturn rfl (by decide) (by decide) (by decide) ?_
                  first | (exfalso; omega) | (unfold mTaken; repeat (first | rw [if_pos (by omega)] | rw [if_neg (by omega)]))
                · skip
                  refine xp_iload_n rfl rfl ?_
                  refine xp_bipush (n := 7) rfl (by decide) ?_
                  refine xp_iceq 89 rfl (by decide) (by omega) (by omega) (fun h62 => ?_) (fun h62 => ?_)
                  · skip
                    refine xp_iconst (n := 1) rfl (by decide) ?_
                    refine xp_goto 94 rfl (by decide) ?_
                    refine xp_ireturn rfl (by decide) (by decide) (by decide) ?_
                    first | (exfalso; omega) | (unfold mTaken; repeat (first | rw [if_pos (by omega)] | rw [if_neg (by omega)]))
                  · skip
                    refine xp_iload_n rfl rfl ?_
                    refine xp_bipush (n := 15) rfl (by decide) ?_
                    refine xp_iceq 89 rfl (by decide) (by omega) (by omega) (fun h68 => ?_) (fun h68 => ?_)
                    · skip
                      refine xp_iconst (n := 1) rfl (by decide) ?_
                      refine xp_goto 94 rfl (by decide) ?_
                      refine xp_ireturn rfl (by decide) (by decide) (by decide) ?_
                      first | (exfalso; omega) | (unfold mTaken; repeat (first | rw [if_pos (by omega)] | rw [if_neg (by omega)]))
                    · skip
                      refine xp_iload_n rfl rfl ?_
                      refine xp_bipush (n := 17) rfl (by decide) ?_
                      refine xp_iceq 89 rfl (by decide) (by omega) (by omega) (fun h74 => ?_) (fun h74 => ?_)
                      · skip
                        refine xp_iconst (n := 1) rfl (by decide) ?_
                        refine xp_goto 94 rfl (by decide) ?_
                        refine xp_ireturn rfl (by decide) (by decide) (by decide) ?_
                        first | (exfalso; omega) | (unfold mTaken; repeat (first | rw [if_pos (by omega)] | rw [if_neg (by omega)]))
                      · skip
                        refine xp_iload_n rfl rfl ?_
                        refine xp_bipush (n := 22) rfl (by decide) ?_
                        refine xp_iclt 93 rfl (by decide) (by omega) (by omega) (fun h80 => ?_) (fun h80 => ?_)
                        · skip
                          refine xp_iconst (n := 0) rfl (by decide) ?_
                          refine xp_ireturn rfl (by decide) (by decide) (by decide) ?_
                          first | (exfalso; omega) | (unfold mTaken; repeat (first | rw [if_pos (by omega)] | rw [if_neg (by omega)]))
                        · skip
                          refine xp_iload_n rfl rfl ?_
                          refine xp_bipush (n := 25) rfl (by decide) ?_
                          refine xp_icgt 93 rfl (by decide) (by omega) (by omega) (fun h86 => ?_) (fun h86 => ?_)
                          · skip
                            refine xp_iconst (n := 0) rfl (by decide) ?_
                            refine xp_ireturn rfl (by decide) (by decide) (by decide) ?_
                            first | (exfalso; omega) | (unfold mTaken; repeat (first | rw [if_pos (by omega)] | rw [if_neg (by omega)]))
                          · skip
                            refine xp_iconst (n := 1) rfl (by decide) ?_
                            refine xp_goto 94 rfl (by decide) ?_
                            refine xp_ireturn rfl (by decide) (by decide) (by decide) ?_
                            first | (exfalso; omega) | (unfold mTaken; repeat (first | rw [if_pos (by omega)] | rw [if_neg (by omega)]))
            · skip
              refine xp_iconst (n := 2) rfl (by decide) ?_
              refine xp_goto 94 rfl (by decide) ?_
              refine xp_ireturn rfl (by decide) (by decide) (by decide) ?_
              first | (exfalso; omega) | (unfold mTaken; repeat (first | rw [if_pos (by omega)] | rw [if_neg (by omega)]))
      · skip
        refine xp_iload_n rfl rfl ?_
        refine xp_goto 94 rfl (by decide) ?_
        refine xp_ireturn rfl (by decide) (by decide) (by decide) ?_
        first | (exfalso; omega) | (unfold mTaken; repeat (first | rw [if_pos (by omega)] | rw [if_neg (by omega)]))
    · skip
      refine xp_iload_n rfl rfl ?_
      refine xp_goto 94 rfl (by decide) ?_
      refine xp_ireturn rfl (by decide) (by decide) (by decide) ?_
      first | (exfalso; omega) | (unfold mTaken; repeat (first | rw [if_pos (by omega)] | rw [if_neg (by omega)]))
theorem Top.st {w t k f m : Nat} {A : xQ} (hT : Top w A t k f m) (h3 : A.1 w 3 = t) : aSt w A = w + 11 + 25 * t ∧ aFr w A = f := by
  obtain ⟨h1, h2, h4, h5⟩ := hT
  have e : aSt w A = w + 11 + 25 * t := by unfold aSt; rw [h3]
  refine ⟨e, ?_⟩
  unfold aFr
  rw [e, ← h2, h4]
  omega
theorem mTaken_need {A : xQ} {x n a b : Nat} (hx : x ≤ 27) (hn : x = 21 ∨ x = 26 → n = A.1 2 a) : mTaken x n b = aNeed A x a b := by
  rcases op28 hx with rfl | rfl | rfl | rfl | rfl | rfl | rfl | rfl | rfl | rfl | rfl | rfl | rfl | rfl | rfl | rfl | rfl | rfl | rfl | rfl | rfl | rfl | rfl | rfl | rfl | rfl | rfl | rfl
  all_goals first | rfl | (exact hn (by omega))
theorem l145 {z : Nat} {T : Nat → Option xT} {R : Nat → Nat → Option Nat} {A B : xQ} {w m x a b fn pl sz : Nat} {P : xR → Prop} (hL : xLay T R w) (b3 : m < 15) (q1 : B.1 202 m = fn) (q2 : B.1 203 m = pl) (hd : B.1 205 m = sz) (hfn : fn < 6) (g2 : pl < B.1 191 fn) (g30 : B.1 191 fn ≤ 30) (h6 : sz ≤ 6) (x1 : B.1 193 (30 * fn + pl) = x) (x2 : B.1 194 (30 * fn + pl) = a) (x3 : B.1 195 (30 * fn + pl) = b) (hx : x ≤ 27) (hb : x = 19 → b ≤ 2) (ha : x = 21 ∨ x = 26 → a < 6 ∧ B.1 190 a = A.1 2 a ∧ A.1 2 a ≤ 2) (h1 : aNeed A x a b ≤ sz → xP 145 104 [(0, .ref 189), (1, .int (nI m)), (3, .int (nI x)), (4, .int (nI a)), (5, .int (nI b))] [] 0 0 (xm z T R B) P) (h2 : sz < aNeed A x a b → P (.inr (some (.int (nI 6))), xm z T R B)) : xP 145 0 [(0, .ref 189), (1, .int (nI m))] [] 0 0 (xm z T R B) P := by
  have hnd : aNeed A x a b < 2 ^ 31 := by
    rcases op28 hx with rfl | rfl | rfl | rfl | rfl | rfl | rfl | rfl | rfl | rfl | rfl | rfl | rfl | rfl | rfl | rfl | rfl | rfl | rfl | rfl | rfl | rfl | rfl | rfl | rfl | rfl | rfl | rfl
    · show (0 : Nat) < _; omega
    · show (0 : Nat) < _; omega
    · show (0 : Nat) < _; omega
    · show (0 : Nat) < _; omega
    · show (0 : Nat) < _; omega
    · show (1 : Nat) < _; omega
    · show (1 : Nat) < _; omega
    · show (1 : Nat) < _; omega
    · show (2 : Nat) < _; omega
    · show (2 : Nat) < _; omega
    · show (2 : Nat) < _; omega
    · show (2 : Nat) < _; omega
    · show (2 : Nat) < _; omega
    · show (2 : Nat) < _; omega
    · show (0 : Nat) < _; omega
    · show (1 : Nat) < _; omega
    · show (0 : Nat) < _; omega
    · show (1 : Nat) < _; omega
    · show (2 : Nat) < _; omega
    · show b < _; have := hb rfl; omega
    · show (0 : Nat) < _; omega
    · show A.1 2 a < _; have := (ha (by omega)).2.2; omega
    · show (1 : Nat) < _; omega
    · show (1 : Nat) < _; omega
    · show (1 : Nat) < _; omega
    · show (1 : Nat) < _; omega
    · show A.1 2 a < _; have := (ha (by omega)).2.2; omega
    · show (0 : Nat) < _; omega
  by_cases h21 : x = 21 ∨ x = 26
  · obtain ⟨a1, a2, a3⟩ := ha h21
    have et := mTaken_need (A := A) (x := x) (n := A.1 2 a) (a := a) (b := b) hx (fun _ => rfl)
    refine xp_aload_n rfl rfl ?_
    refine xp_gfa rfl rfl (by decide) (by decide) (by first | assumption | exact hL.t rfl) (by first | assumption | exact hL.r rfl | exact hL.2.2.2.2.2) ?_
    refine xp_iload_n rfl rfl ?_
    refine xp_iald rfl (by first | assumption | exact hL.t rfl) (by omega) (by omega) ?_
    rw [q2]
    refine xp_aload_n rfl rfl ?_
    refine xp_gfa rfl rfl (by decide) (by decide) (by first | assumption | exact hL.t rfl) (by first | assumption | exact hL.r rfl | exact hL.2.2.2.2.2) ?_
    refine xp_aload_n rfl rfl ?_
    refine xp_gfa rfl rfl (by decide) (by decide) (by first | assumption | exact hL.t rfl) (by first | assumption | exact hL.r rfl | exact hL.2.2.2.2.2) ?_
    refine xp_iload_n rfl rfl ?_
    refine xp_iald rfl (by first | assumption | exact hL.t rfl) (by omega) (by omega) ?_
    rw [q1]
    refine xp_iald rfl (by first | assumption | exact hL.t rfl) (by omega) (by omega) ?_
    refine xp_iclt 23 rfl (by decide) (by omega) (by omega) (fun h17 => ?_) (fun h17 => ?_)
    · skip
      refine xp_bipush (n := 30) rfl (by decide) ?_
      refine xp_aload_n rfl rfl ?_
      refine xp_gfa rfl rfl (by decide) (by decide) (by first | assumption | exact hL.t rfl) (by first | assumption | exact hL.r rfl | exact hL.2.2.2.2.2) ?_
      refine xp_iload_n rfl rfl ?_
      refine xp_iald rfl (by first | assumption | exact hL.t rfl) (by omega) (by omega) ?_
      rw [q1]
      refine xp_imul rfl ?_
      refine xp_aload_n rfl rfl ?_
      refine xp_gfa rfl rfl (by decide) (by decide) (by first | assumption | exact hL.t rfl) (by first | assumption | exact hL.r rfl | exact hL.2.2.2.2.2) ?_
      refine xp_iload_n rfl rfl ?_
      refine xp_iald rfl (by first | assumption | exact hL.t rfl) (by omega) (by omega) ?_
      rw [q2]
      refine xp_iadd rfl ?_
      refine xp_istore_n rfl (by decide) ?_
      refine xp_aload_n rfl rfl ?_
      refine xp_gfa rfl rfl (by decide) (by decide) (by first | assumption | exact hL.t rfl) (by first | assumption | exact hL.r rfl | exact hL.2.2.2.2.2) ?_
      refine xp_iload_n rfl rfl ?_
      refine xp_iald rfl (by first | assumption | exact hL.t rfl) (by omega) (by omega) ?_
      rw [x1]
      refine xp_istore_n rfl (by decide) ?_
      refine xp_aload_n rfl rfl ?_
      refine xp_gfa rfl rfl (by decide) (by decide) (by first | assumption | exact hL.t rfl) (by first | assumption | exact hL.r rfl | exact hL.2.2.2.2.2) ?_
      refine xp_iload_n rfl rfl ?_
      refine xp_iald rfl (by first | assumption | exact hL.t rfl) (by omega) (by omega) ?_
      rw [x2]
      refine xp_istore rfl (by decide) ?_
      refine xp_aload_n rfl rfl ?_
      refine xp_gfa rfl rfl (by decide) (by decide) (by first | assumption | exact hL.t rfl) (by first | assumption | exact hL.r rfl | exact hL.2.2.2.2.2) ?_
      refine xp_iload_n rfl rfl ?_
      refine xp_iald rfl (by first | assumption | exact hL.t rfl) (by omega) (by omega) ?_
      rw [x3]
      refine xp_istore rfl (by decide) ?_
      refine xp_aload_n rfl rfl ?_
      refine xp_gfa rfl rfl (by decide) (by decide) (by first | assumption | exact hL.t rfl) (by first | assumption | exact hL.r rfl | exact hL.2.2.2.2.2) ?_
      refine xp_iload_n rfl rfl ?_
      refine xp_iald rfl (by first | assumption | exact hL.t rfl) (by omega) (by omega) ?_
      rw [hd]
      refine xp_iload_n rfl rfl ?_
      refine xp_iload_n rfl rfl ?_
      refine xp_bipush (n := 21) rfl (by decide) ?_
      refine xp_iceq 82 rfl (by decide) (by omega) (by omega) (fun h73 => ?_) (fun h73 => ?_)
      · skip
        refine xp_aload_n rfl rfl ?_
        refine xp_gfa rfl rfl (by decide) (by decide) (by first | assumption | exact hL.t rfl) (by first | assumption | exact hL.r rfl | exact hL.2.2.2.2.2) ?_
        refine xp_iload rfl rfl ?_
        refine xp_iald rfl (by first | assumption | exact hL.t rfl) (by omega) (by omega) ?_
        rw [a2]
        refine xp_goto 93 rfl (by decide) ?_
        refine xp_iload rfl rfl ?_
        refine xp_is rfl rfl rfl (Nat.le_of_ble_eq_true rfl) (by decide) (by decide) (by decide) (Nat.le_of_ble_eq_true rfl) rfl (xrcv0 (by decide) _ _) (m141 (n := A.1 2 a) (by omega)) rfl ?_
        rw [et]
        refine xp_icge 104 rfl (by decide) (by omega) (by omega) (fun h98 => ?_) (fun h98 => ?_)
        · skip
          refine xp_weak [(0, .ref 189), (1, .int (nI m)), (3, .int (nI x)), (4, .int (nI a)), (5, .int (nI b))] (xle_cons rfl (xle_cons rfl (xle_cons rfl (xle_cons rfl (xle_cons rfl (xle_nil _)))))) (by simp [xnd]) ?_
          exact h1 (by omega)
        · skip
          refine xp_bipush (n := 6) rfl (by decide) ?_
          refine xp_ireturn rfl (by decide) (by decide) (by decide) ?_
          exact h2 (by omega)
      · skip
        refine xp_iload_n rfl rfl ?_
        refine xp_bipush (n := 26) rfl (by decide) ?_
        refine xp_icne 92 rfl (by decide) (by omega) (by omega) (fun h79 => ?_) (fun h79 => ?_)
        · exfalso; omega
        · skip
          refine xp_aload_n rfl rfl ?_
          refine xp_gfa rfl rfl (by decide) (by decide) (by first | assumption | exact hL.t rfl) (by first | assumption | exact hL.r rfl | exact hL.2.2.2.2.2) ?_
          refine xp_iload rfl rfl ?_
          refine xp_iald rfl (by first | assumption | exact hL.t rfl) (by omega) (by omega) ?_
          rw [a2]
          refine xp_goto 93 rfl (by decide) ?_
          refine xp_iload rfl rfl ?_
          refine xp_is rfl rfl rfl (Nat.le_of_ble_eq_true rfl) (by decide) (by decide) (by decide) (Nat.le_of_ble_eq_true rfl) rfl (xrcv0 (by decide) _ _) (m141 (n := A.1 2 a) (by omega)) rfl ?_
          rw [et]
          refine xp_icge 104 rfl (by decide) (by omega) (by omega) (fun h98 => ?_) (fun h98 => ?_)
          · skip
            refine xp_weak [(0, .ref 189), (1, .int (nI m)), (3, .int (nI x)), (4, .int (nI a)), (5, .int (nI b))] (xle_cons rfl (xle_cons rfl (xle_cons rfl (xle_cons rfl (xle_cons rfl (xle_nil _)))))) (by simp [xnd]) ?_
            exact h1 (by omega)
          · skip
            refine xp_bipush (n := 6) rfl (by decide) ?_
            refine xp_ireturn rfl (by decide) (by decide) (by decide) ?_
            exact h2 (by omega)
    · exfalso; omega
  · have et := mTaken_need (A := A) (x := x) (n := 0) (a := a) (b := b) hx (fun z => absurd z h21)
    refine xp_aload_n rfl rfl ?_
    refine xp_gfa rfl rfl (by decide) (by decide) (by first | assumption | exact hL.t rfl) (by first | assumption | exact hL.r rfl | exact hL.2.2.2.2.2) ?_
    refine xp_iload_n rfl rfl ?_
    refine xp_iald rfl (by first | assumption | exact hL.t rfl) (by omega) (by omega) ?_
    rw [q2]
    refine xp_aload_n rfl rfl ?_
    refine xp_gfa rfl rfl (by decide) (by decide) (by first | assumption | exact hL.t rfl) (by first | assumption | exact hL.r rfl | exact hL.2.2.2.2.2) ?_
    refine xp_aload_n rfl rfl ?_
    refine xp_gfa rfl rfl (by decide) (by decide) (by first | assumption | exact hL.t rfl) (by first | assumption | exact hL.r rfl | exact hL.2.2.2.2.2) ?_
    refine xp_iload_n rfl rfl ?_
    refine xp_iald rfl (by first | assumption | exact hL.t rfl) (by omega) (by omega) ?_
    rw [q1]
    refine xp_iald rfl (by first | assumption | exact hL.t rfl) (by omega) (by omega) ?_
    refine xp_iclt 23 rfl (by decide) (by omega) (by omega) (fun h17 => ?_) (fun h17 => ?_)
    · skip
      refine xp_bipush (n := 30) rfl (by decide) ?_
      refine xp_aload_n rfl rfl ?_
      refine xp_gfa rfl rfl (by decide) (by decide) (by first | assumption | exact hL.t rfl) (by first | assumption | exact hL.r rfl | exact hL.2.2.2.2.2) ?_
      refine xp_iload_n rfl rfl ?_
      refine xp_iald rfl (by first | assumption | exact hL.t rfl) (by omega) (by omega) ?_
      rw [q1]
      refine xp_imul rfl ?_
      refine xp_aload_n rfl rfl ?_
      refine xp_gfa rfl rfl (by decide) (by decide) (by first | assumption | exact hL.t rfl) (by first | assumption | exact hL.r rfl | exact hL.2.2.2.2.2) ?_
      refine xp_iload_n rfl rfl ?_
      refine xp_iald rfl (by first | assumption | exact hL.t rfl) (by omega) (by omega) ?_
      rw [q2]
      refine xp_iadd rfl ?_
      refine xp_istore_n rfl (by decide) ?_
      refine xp_aload_n rfl rfl ?_
      refine xp_gfa rfl rfl (by decide) (by decide) (by first | assumption | exact hL.t rfl) (by first | assumption | exact hL.r rfl | exact hL.2.2.2.2.2) ?_
      refine xp_iload_n rfl rfl ?_
      refine xp_iald rfl (by first | assumption | exact hL.t rfl) (by omega) (by omega) ?_
      rw [x1]
      refine xp_istore_n rfl (by decide) ?_
      refine xp_aload_n rfl rfl ?_
      refine xp_gfa rfl rfl (by decide) (by decide) (by first | assumption | exact hL.t rfl) (by first | assumption | exact hL.r rfl | exact hL.2.2.2.2.2) ?_
      refine xp_iload_n rfl rfl ?_
      refine xp_iald rfl (by first | assumption | exact hL.t rfl) (by omega) (by omega) ?_
      rw [x2]
      refine xp_istore rfl (by decide) ?_
      refine xp_aload_n rfl rfl ?_
      refine xp_gfa rfl rfl (by decide) (by decide) (by first | assumption | exact hL.t rfl) (by first | assumption | exact hL.r rfl | exact hL.2.2.2.2.2) ?_
      refine xp_iload_n rfl rfl ?_
      refine xp_iald rfl (by first | assumption | exact hL.t rfl) (by omega) (by omega) ?_
      rw [x3]
      refine xp_istore rfl (by decide) ?_
      refine xp_aload_n rfl rfl ?_
      refine xp_gfa rfl rfl (by decide) (by decide) (by first | assumption | exact hL.t rfl) (by first | assumption | exact hL.r rfl | exact hL.2.2.2.2.2) ?_
      refine xp_iload_n rfl rfl ?_
      refine xp_iald rfl (by first | assumption | exact hL.t rfl) (by omega) (by omega) ?_
      rw [hd]
      refine xp_iload_n rfl rfl ?_
      refine xp_iload_n rfl rfl ?_
      refine xp_bipush (n := 21) rfl (by decide) ?_
      refine xp_iceq 82 rfl (by decide) (by omega) (by omega) (fun h73 => ?_) (fun h73 => ?_)
      · exfalso; omega
      · skip
        refine xp_iload_n rfl rfl ?_
        refine xp_bipush (n := 26) rfl (by decide) ?_
        refine xp_icne 92 rfl (by decide) (by omega) (by omega) (fun h79 => ?_) (fun h79 => ?_)
        · skip
          refine xp_iconst (n := 0) rfl (by decide) ?_
          refine xp_iload rfl rfl ?_
          refine xp_is rfl rfl rfl (Nat.le_of_ble_eq_true rfl) (by decide) (by decide) (by decide) (Nat.le_of_ble_eq_true rfl) rfl (xrcv0 (by decide) _ _) (m141 (n := 0) (by omega)) rfl ?_
          rw [et]
          refine xp_icge 104 rfl (by decide) (by omega) (by omega) (fun h98 => ?_) (fun h98 => ?_)
          · skip
            refine xp_weak [(0, .ref 189), (1, .int (nI m)), (3, .int (nI x)), (4, .int (nI a)), (5, .int (nI b))] (xle_cons rfl (xle_cons rfl (xle_cons rfl (xle_cons rfl (xle_cons rfl (xle_nil _)))))) (by simp [xnd]) ?_
            exact h1 (by omega)
          · skip
            refine xp_bipush (n := 6) rfl (by decide) ?_
            refine xp_ireturn rfl (by decide) (by decide) (by decide) ?_
            exact h2 (by omega)
        · exfalso; omega
    · exfalso; omega
theorem nI_wrap (b : Nat) : nI (b + 4294967295 + 1) = nI b := by
  have h : (b + 4294967295 + 1) % 2 ^ 32 = b % 2 ^ 32 := by omega
  rw [← nI_mod (b + 4294967295 + 1), h, nI_mod]
theorem xsI_swap {B : xQ} {m p q u : Nat} : xsI (xsI (xsI B 203 m p) 205 m u) 203 m q = xsI (xsI B 203 m q) 205 m u := by
  unfold xsI x2
  congr 1
  funext b j
  dsimp only
  by_cases h1 : b = 203 <;> by_cases h2 : b = 205 <;> by_cases h3 : j = m <;> simp_all
theorem xsI_swap2 {B : xQ} {m q u : Nat} : xsI (xsI B 205 m u) 203 m q = xsI (xsI B 203 m q) 205 m u := by
  unfold xsI x2
  congr 1
  funext b j
  dsimp only
  by_cases h1 : b = 203 <;> by_cases h2 : b = 205 <;> by_cases h3 : j = m <;> simp_all
theorem m145 {z : Nat} {T : Nat → Option xT} {R : Nat → Nat → Option Nat} {A B : xQ} {w t k f m s : Nat} (hL : xLay T R w) (hc : COk w A) (hR : Rel w A B) (hT : Top w A t k f m) (h3 : A.1 w 3 = t) (hs : s = w + 11 + 25 * t) (hst : A.1 s 2 = 0) (hsd : A.1 11 3 < 2 ^ 31) : ∃ B2, xF 145 [.ref 189, .int (nI m)] (xm z T R B) (.inr (some (.int (nI (aRs w A).1))), xm z T R B2) ∧ Rel w (aRs w A).2 B2 := by
  obtain ⟨b1, b2, b3, b4, b5, b6, b7⟩ := hT.b hc
  have hk := hT.ok hc
  have hd := (hT.g hR).2.2.1
  have hW := hL.w hL.1
  obtain ⟨es, ef⟩ := hT.st h3
  rw [← hs] at es
  have h0 := hc.1
  have hg := hT.g hR
  obtain ⟨q1, q2, q3, q4, q5⟩ := hg
  have h10 : B.1 189 10 = t := by rw [hR.2.2.1.2.1, h3]
  have hRS := hR.2.2.2.1 t hT.1
  have hSo := hc.st hT.1
  rw [← hs] at hRS hSo
  have e201 := hRS.2.2.1
  have hd5 := hSo.2.1
  obtain ⟨ht, hkk, hff, hmm⟩ := id hT
  rw [← hs] at hkk hff
  have hfs : f + 4 = s + 5 + 4 * A.1 s 3 := by omega
  obtain ⟨c1, c2, c3, c4, c5⟩ := hc.2.2.1 _ b7
  obtain ⟨g1, g2, g3, g4, g5⟩ := hR.1 _ b7
  have hp31 := hk.2.1
  unfold aRs aIx
  rw [es, ef]
  unfold aAt
  have base5 := hc.2.2.1
  have baseR := hR.1
  by_cases hpl : A.1 f 2 < A.1 3 (A.1 f 1)
  · rw [if_pos hpl]
    have hi180 : A.1 f 1 * 30 + A.1 f 2 < 180 := by omega
    rw [if_neg (by omega)]
    obtain ⟨x1, x2, x3⟩ := g4 _ hpl
    have hI := c4 _ hpl
    unfold aPerf
    obtain ⟨op, hop⟩ : ∃ op, A.1 4 (A.1 f 1 * 30 + A.1 f 2) = op := ⟨_, rfl⟩
    obtain ⟨a, ha⟩ : ∃ a, A.1 5 (A.1 f 1 * 30 + A.1 f 2) = a := ⟨_, rfl⟩
    obtain ⟨b, hb⟩ : ∃ b, A.1 6 (A.1 f 1 * 30 + A.1 f 2) = b := ⟨_, rfl⟩
    rw [hop] at x1
    rw [ha] at x2
    rw [hb] at x3
    rw [hop, ha, hb] at hI
    rw [hop, ha, hb]
    have hI0 := hI
    obtain ⟨hop0, i1, i2, i3, i4, i5, i6⟩ := hI
    have hpc := fun hsz hne => hc.pl hW ht hs hst hfs hI0 hsz hne
    have go : ∀ (r : Nat × xQ) (B2 : xQ), COk w r.2 ∧ Ch w 1 A r.2 ∧ r.2.1 f 2 = A.1 f 2 ∧ r.2.1 (w + 11 + 25 * t) 3 = A.1 (w + 11 + 25 * t) 3 → Rel w r.2 B2 → B2.1 203 m = A.1 f 2 ∧ Rel w (xsI r.2 f 2 (r.2.1 f 2 + 1)) (xsI B2 203 m (A.1 f 2 + 1)) := by
      intro r B2 ⟨z1, z2, z3, z4⟩ hr
      have hTr : Top w r.2 t k f m := ⟨Nat.lt_of_lt_of_le ht z2.2.2.2.2.1, by rw [z4]; exact hT.2.1, hT.2.2⟩
      have := (hTr.g hr).2.1
      rw [z3] at this
      refine ⟨this, ?_⟩
      rw [z3]
      exact hr.place z1 hTr
    have hta : op = 21 ∨ op = 26 → a < 6 ∧ B.1 190 a = A.1 2 a ∧ A.1 2 a ≤ 2 := fun z => by
      have h6 : a < 6 := by have := i3 (by omega); omega
      exact ⟨h6, (baseR a h6).1, (base5 a h6).1⟩
    clear hop ha hb hI0
    rcases op28 hop0 with rfl | rfl | rfl | rfl | rfl | rfl | rfl | rfl | rfl | rfl | rfl | rfl | rfl | rfl | rfl | rfl | rfl | rfl | rfl | rfl | rfl | rfl | rfl | rfl | rfl | rfl | rfl | rfl
    · have hnd : aNeed A 0 a b = 0 := rfl
      · have hsz : ¬ A.1 f 3 < aNeed A 0 a b := by rw [hnd]; omega
        rw [if_neg hsz]
        have hsz0 : aNeed A 0 a b ≤ A.1 f 3 := by omega
        rw [hnd] at hsz
        obtain ⟨B2, z1, z2⟩ := m144_0 (z := z) (a := a) (b := b) hL hc hR hT
        obtain ⟨u1, u2⟩ := go _ _ (hpc hsz0 (by omega)) z2
        have hlt := aPl_lt w A f 0 a b
        show ∃ B2, xF 145 _ _ (.inr (some (.int (nI (aGoOn f (aPl w A f 0 a b)).1))), _) ∧ Rel w (aGoOn f (aPl w A f 0 a b)).2 B2
        generalize aPl w A f 0 a b = r at z1 z2 u1 u2 hlt
        unfold aGoOn
        by_cases hr0 : r.1 = 0
        · rw [if_pos hr0]
          refine xF_x (xF_p (Nat.le_of_ble_eq_true rfl) ?_)
          refine l145 (A := A) hL b3 q1 q2 hd b7 (by rw [g2]; exact hpl) (by rw [g2]; exact c2) b6 x1 x2 x3 (by omega) i6 hta (fun hz1 => ?_) (fun hz2 => ?_)
          · skip
            refine xp_iload_n rfl rfl ?_
            refine xp_bipush (n := 21) rfl (by decide) ?_
            refine xp_icne 119 rfl (by decide) (by omega) (by omega) (fun h107 => ?_) (fun h107 => ?_)
            · skip
              refine xp_iload_n rfl rfl ?_
              refine xp_bipush (n := 22) rfl (by decide) ?_
              refine xp_icne 131 rfl (by decide) (by omega) (by omega) (fun h122 => ?_) (fun h122 => ?_)
              · skip
                refine xp_iload_n rfl rfl ?_
                refine xp_bipush (n := 23) rfl (by decide) ?_
                refine xp_icne 143 rfl (by decide) (by omega) (by omega) (fun h134 => ?_) (fun h134 => ?_)
                · skip
                  refine xp_aload_n rfl rfl ?_
                  refine xp_iload_n rfl rfl ?_
                  refine xp_iload_n rfl rfl ?_
                  refine xp_iload rfl rfl ?_
                  refine xp_iload rfl rfl ?_
                  refine xp_iv rfl rfl (Nat.le_of_ble_eq_true rfl) (by decide) (by decide) (by decide) (Nat.le_of_ble_eq_true rfl) rfl (xrcv1 (by decide) (by first | assumption | exact hL.t rfl)) (z1) rfl ?_
                  refine xp_istore rfl (by decide) ?_
                  refine xp_iload rfl rfl ?_
                  refine xp_ifne 170 rfl (by decide) (by omega) (fun h157 => ?_) (fun h157 => ?_)
                  · exact absurd hr0 h157
                  · skip
                    refine xp_aload_n rfl rfl ?_
                    refine xp_gfa rfl rfl (by decide) (by decide) (by first | assumption | exact hL.t rfl) (by first | assumption | exact hL.r rfl | exact hL.2.2.2.2.2) ?_
                    refine xp_iload_n rfl rfl ?_
                    refine xp_dup2 rfl rfl rfl ?_
                    refine xp_iald rfl (by first | assumption | exact hL.t rfl) (by omega) (by omega) ?_
                    rw [u1]
                    refine xp_iconst (n := 1) rfl (by decide) ?_
                    refine xp_iadd rfl ?_
                    refine xp_iast rfl (by first | assumption | exact hL.t rfl) (by omega) (by omega) ?_
                    refine xp_iload rfl rfl ?_
                    refine xp_ireturn rfl (by decide) (by decide) (by decide) ?_
                    exact ⟨_, rfl, u2⟩
                · exfalso; omega
              · exfalso; omega
            · exfalso; omega
          · omega
        · rw [if_neg hr0]
          refine xF_x (xF_p (Nat.le_of_ble_eq_true rfl) ?_)
          refine l145 (A := A) hL b3 q1 q2 hd b7 (by rw [g2]; exact hpl) (by rw [g2]; exact c2) b6 x1 x2 x3 (by omega) i6 hta (fun hz1 => ?_) (fun hz2 => ?_)
          · skip
            refine xp_iload_n rfl rfl ?_
            refine xp_bipush (n := 21) rfl (by decide) ?_
            refine xp_icne 119 rfl (by decide) (by omega) (by omega) (fun h107 => ?_) (fun h107 => ?_)
            · skip
              refine xp_iload_n rfl rfl ?_
              refine xp_bipush (n := 22) rfl (by decide) ?_
              refine xp_icne 131 rfl (by decide) (by omega) (by omega) (fun h122 => ?_) (fun h122 => ?_)
              · skip
                refine xp_iload_n rfl rfl ?_
                refine xp_bipush (n := 23) rfl (by decide) ?_
                refine xp_icne 143 rfl (by decide) (by omega) (by omega) (fun h134 => ?_) (fun h134 => ?_)
                · skip
                  refine xp_aload_n rfl rfl ?_
                  refine xp_iload_n rfl rfl ?_
                  refine xp_iload_n rfl rfl ?_
                  refine xp_iload rfl rfl ?_
                  refine xp_iload rfl rfl ?_
                  refine xp_iv rfl rfl (Nat.le_of_ble_eq_true rfl) (by decide) (by decide) (by decide) (Nat.le_of_ble_eq_true rfl) rfl (xrcv1 (by decide) (by first | assumption | exact hL.t rfl)) (z1) rfl ?_
                  refine xp_istore rfl (by decide) ?_
                  refine xp_iload rfl rfl ?_
                  refine xp_ifne 170 rfl (by decide) (by omega) (fun h157 => ?_) (fun h157 => ?_)
                  · skip
                    refine xp_iload rfl rfl ?_
                    refine xp_ireturn rfl (by decide) (by decide) (by decide) ?_
                    exact ⟨_, rfl, z2⟩
                  · exact absurd h157 hr0
                · exfalso; omega
              · exfalso; omega
            · exfalso; omega
          · omega
    · have hnd : aNeed A 1 a b = 0 := rfl
      · have hsz : ¬ A.1 f 3 < aNeed A 1 a b := by rw [hnd]; omega
        rw [if_neg hsz]
        have hsz0 : aNeed A 1 a b ≤ A.1 f 3 := by omega
        rw [hnd] at hsz
        obtain ⟨B2, z1, z2⟩ := m144_1 (z := z) (a := a) (b := b) hL hc hR hT
        obtain ⟨u1, u2⟩ := go _ _ (hpc hsz0 (by omega)) z2
        have hlt := aPl_lt w A f 1 a b
        show ∃ B2, xF 145 _ _ (.inr (some (.int (nI (aGoOn f (aPl w A f 1 a b)).1))), _) ∧ Rel w (aGoOn f (aPl w A f 1 a b)).2 B2
        generalize aPl w A f 1 a b = r at z1 z2 u1 u2 hlt
        unfold aGoOn
        by_cases hr0 : r.1 = 0
        · rw [if_pos hr0]
          refine xF_x (xF_p (Nat.le_of_ble_eq_true rfl) ?_)
          refine l145 (A := A) hL b3 q1 q2 hd b7 (by rw [g2]; exact hpl) (by rw [g2]; exact c2) b6 x1 x2 x3 (by omega) i6 hta (fun hz1 => ?_) (fun hz2 => ?_)
          · skip
            refine xp_iload_n rfl rfl ?_
            refine xp_bipush (n := 21) rfl (by decide) ?_
            refine xp_icne 119 rfl (by decide) (by omega) (by omega) (fun h107 => ?_) (fun h107 => ?_)
            · skip
              refine xp_iload_n rfl rfl ?_
              refine xp_bipush (n := 22) rfl (by decide) ?_
              refine xp_icne 131 rfl (by decide) (by omega) (by omega) (fun h122 => ?_) (fun h122 => ?_)
              · skip
                refine xp_iload_n rfl rfl ?_
                refine xp_bipush (n := 23) rfl (by decide) ?_
                refine xp_icne 143 rfl (by decide) (by omega) (by omega) (fun h134 => ?_) (fun h134 => ?_)
                · skip
                  refine xp_aload_n rfl rfl ?_
                  refine xp_iload_n rfl rfl ?_
                  refine xp_iload_n rfl rfl ?_
                  refine xp_iload rfl rfl ?_
                  refine xp_iload rfl rfl ?_
                  refine xp_iv rfl rfl (Nat.le_of_ble_eq_true rfl) (by decide) (by decide) (by decide) (Nat.le_of_ble_eq_true rfl) rfl (xrcv1 (by decide) (by first | assumption | exact hL.t rfl)) (z1) rfl ?_
                  refine xp_istore rfl (by decide) ?_
                  refine xp_iload rfl rfl ?_
                  refine xp_ifne 170 rfl (by decide) (by omega) (fun h157 => ?_) (fun h157 => ?_)
                  · exact absurd hr0 h157
                  · skip
                    refine xp_aload_n rfl rfl ?_
                    refine xp_gfa rfl rfl (by decide) (by decide) (by first | assumption | exact hL.t rfl) (by first | assumption | exact hL.r rfl | exact hL.2.2.2.2.2) ?_
                    refine xp_iload_n rfl rfl ?_
                    refine xp_dup2 rfl rfl rfl ?_
                    refine xp_iald rfl (by first | assumption | exact hL.t rfl) (by omega) (by omega) ?_
                    rw [u1]
                    refine xp_iconst (n := 1) rfl (by decide) ?_
                    refine xp_iadd rfl ?_
                    refine xp_iast rfl (by first | assumption | exact hL.t rfl) (by omega) (by omega) ?_
                    refine xp_iload rfl rfl ?_
                    refine xp_ireturn rfl (by decide) (by decide) (by decide) ?_
                    exact ⟨_, rfl, u2⟩
                · exfalso; omega
              · exfalso; omega
            · exfalso; omega
          · omega
        · rw [if_neg hr0]
          refine xF_x (xF_p (Nat.le_of_ble_eq_true rfl) ?_)
          refine l145 (A := A) hL b3 q1 q2 hd b7 (by rw [g2]; exact hpl) (by rw [g2]; exact c2) b6 x1 x2 x3 (by omega) i6 hta (fun hz1 => ?_) (fun hz2 => ?_)
          · skip
            refine xp_iload_n rfl rfl ?_
            refine xp_bipush (n := 21) rfl (by decide) ?_
            refine xp_icne 119 rfl (by decide) (by omega) (by omega) (fun h107 => ?_) (fun h107 => ?_)
            · skip
              refine xp_iload_n rfl rfl ?_
              refine xp_bipush (n := 22) rfl (by decide) ?_
              refine xp_icne 131 rfl (by decide) (by omega) (by omega) (fun h122 => ?_) (fun h122 => ?_)
              · skip
                refine xp_iload_n rfl rfl ?_
                refine xp_bipush (n := 23) rfl (by decide) ?_
                refine xp_icne 143 rfl (by decide) (by omega) (by omega) (fun h134 => ?_) (fun h134 => ?_)
                · skip
                  refine xp_aload_n rfl rfl ?_
                  refine xp_iload_n rfl rfl ?_
                  refine xp_iload_n rfl rfl ?_
                  refine xp_iload rfl rfl ?_
                  refine xp_iload rfl rfl ?_
                  refine xp_iv rfl rfl (Nat.le_of_ble_eq_true rfl) (by decide) (by decide) (by decide) (Nat.le_of_ble_eq_true rfl) rfl (xrcv1 (by decide) (by first | assumption | exact hL.t rfl)) (z1) rfl ?_
                  refine xp_istore rfl (by decide) ?_
                  refine xp_iload rfl rfl ?_
                  refine xp_ifne 170 rfl (by decide) (by omega) (fun h157 => ?_) (fun h157 => ?_)
                  · skip
                    refine xp_iload rfl rfl ?_
                    refine xp_ireturn rfl (by decide) (by decide) (by decide) ?_
                    exact ⟨_, rfl, z2⟩
                  · exact absurd h157 hr0
                · exfalso; omega
              · exfalso; omega
            · exfalso; omega
          · omega
    · have hnd : aNeed A 2 a b = 0 := rfl
      · have hsz : ¬ A.1 f 3 < aNeed A 2 a b := by rw [hnd]; omega
        rw [if_neg hsz]
        have hsz0 : aNeed A 2 a b ≤ A.1 f 3 := by omega
        rw [hnd] at hsz
        obtain ⟨B2, z1, z2⟩ := m144_2 (z := z) (a := a) (b := b) hL hc hR hT
        obtain ⟨u1, u2⟩ := go _ _ (hpc hsz0 (by omega)) z2
        have hlt := aPl_lt w A f 2 a b
        show ∃ B2, xF 145 _ _ (.inr (some (.int (nI (aGoOn f (aPl w A f 2 a b)).1))), _) ∧ Rel w (aGoOn f (aPl w A f 2 a b)).2 B2
        generalize aPl w A f 2 a b = r at z1 z2 u1 u2 hlt
        unfold aGoOn
        by_cases hr0 : r.1 = 0
        · rw [if_pos hr0]
          refine xF_x (xF_p (Nat.le_of_ble_eq_true rfl) ?_)
          refine l145 (A := A) hL b3 q1 q2 hd b7 (by rw [g2]; exact hpl) (by rw [g2]; exact c2) b6 x1 x2 x3 (by omega) i6 hta (fun hz1 => ?_) (fun hz2 => ?_)
          · skip
            refine xp_iload_n rfl rfl ?_
            refine xp_bipush (n := 21) rfl (by decide) ?_
            refine xp_icne 119 rfl (by decide) (by omega) (by omega) (fun h107 => ?_) (fun h107 => ?_)
            · skip
              refine xp_iload_n rfl rfl ?_
              refine xp_bipush (n := 22) rfl (by decide) ?_
              refine xp_icne 131 rfl (by decide) (by omega) (by omega) (fun h122 => ?_) (fun h122 => ?_)
              · skip
                refine xp_iload_n rfl rfl ?_
                refine xp_bipush (n := 23) rfl (by decide) ?_
                refine xp_icne 143 rfl (by decide) (by omega) (by omega) (fun h134 => ?_) (fun h134 => ?_)
                · skip
                  refine xp_aload_n rfl rfl ?_
                  refine xp_iload_n rfl rfl ?_
                  refine xp_iload_n rfl rfl ?_
                  refine xp_iload rfl rfl ?_
                  refine xp_iload rfl rfl ?_
                  refine xp_iv rfl rfl (Nat.le_of_ble_eq_true rfl) (by decide) (by decide) (by decide) (Nat.le_of_ble_eq_true rfl) rfl (xrcv1 (by decide) (by first | assumption | exact hL.t rfl)) (z1) rfl ?_
                  refine xp_istore rfl (by decide) ?_
                  refine xp_iload rfl rfl ?_
                  refine xp_ifne 170 rfl (by decide) (by omega) (fun h157 => ?_) (fun h157 => ?_)
                  · exact absurd hr0 h157
                  · skip
                    refine xp_aload_n rfl rfl ?_
                    refine xp_gfa rfl rfl (by decide) (by decide) (by first | assumption | exact hL.t rfl) (by first | assumption | exact hL.r rfl | exact hL.2.2.2.2.2) ?_
                    refine xp_iload_n rfl rfl ?_
                    refine xp_dup2 rfl rfl rfl ?_
                    refine xp_iald rfl (by first | assumption | exact hL.t rfl) (by omega) (by omega) ?_
                    rw [u1]
                    refine xp_iconst (n := 1) rfl (by decide) ?_
                    refine xp_iadd rfl ?_
                    refine xp_iast rfl (by first | assumption | exact hL.t rfl) (by omega) (by omega) ?_
                    refine xp_iload rfl rfl ?_
                    refine xp_ireturn rfl (by decide) (by decide) (by decide) ?_
                    exact ⟨_, rfl, u2⟩
                · exfalso; omega
              · exfalso; omega
            · exfalso; omega
          · omega
        · rw [if_neg hr0]
          refine xF_x (xF_p (Nat.le_of_ble_eq_true rfl) ?_)
          refine l145 (A := A) hL b3 q1 q2 hd b7 (by rw [g2]; exact hpl) (by rw [g2]; exact c2) b6 x1 x2 x3 (by omega) i6 hta (fun hz1 => ?_) (fun hz2 => ?_)
          · skip
            refine xp_iload_n rfl rfl ?_
            refine xp_bipush (n := 21) rfl (by decide) ?_
            refine xp_icne 119 rfl (by decide) (by omega) (by omega) (fun h107 => ?_) (fun h107 => ?_)
            · skip
              refine xp_iload_n rfl rfl ?_
              refine xp_bipush (n := 22) rfl (by decide) ?_
              refine xp_icne 131 rfl (by decide) (by omega) (by omega) (fun h122 => ?_) (fun h122 => ?_)
              · skip
                refine xp_iload_n rfl rfl ?_
                refine xp_bipush (n := 23) rfl (by decide) ?_
                refine xp_icne 143 rfl (by decide) (by omega) (by omega) (fun h134 => ?_) (fun h134 => ?_)
                · skip
                  refine xp_aload_n rfl rfl ?_
                  refine xp_iload_n rfl rfl ?_
                  refine xp_iload_n rfl rfl ?_
                  refine xp_iload rfl rfl ?_
                  refine xp_iload rfl rfl ?_
                  refine xp_iv rfl rfl (Nat.le_of_ble_eq_true rfl) (by decide) (by decide) (by decide) (Nat.le_of_ble_eq_true rfl) rfl (xrcv1 (by decide) (by first | assumption | exact hL.t rfl)) (z1) rfl ?_
                  refine xp_istore rfl (by decide) ?_
                  refine xp_iload rfl rfl ?_
                  refine xp_ifne 170 rfl (by decide) (by omega) (fun h157 => ?_) (fun h157 => ?_)
                  · skip
                    refine xp_iload rfl rfl ?_
                    refine xp_ireturn rfl (by decide) (by decide) (by decide) ?_
                    exact ⟨_, rfl, z2⟩
                  · exact absurd h157 hr0
                · exfalso; omega
              · exfalso; omega
            · exfalso; omega
          · omega
    · have hnd : aNeed A 3 a b = 0 := rfl
      · have hsz : ¬ A.1 f 3 < aNeed A 3 a b := by rw [hnd]; omega
        rw [if_neg hsz]
        have hsz0 : aNeed A 3 a b ≤ A.1 f 3 := by omega
        rw [hnd] at hsz
        obtain ⟨B2, z1, z2⟩ := m144_3 (z := z) (a := a) (b := b) hL hc hR hT
        obtain ⟨u1, u2⟩ := go _ _ (hpc hsz0 (by omega)) z2
        have hlt := aPl_lt w A f 3 a b
        show ∃ B2, xF 145 _ _ (.inr (some (.int (nI (aGoOn f (aPl w A f 3 a b)).1))), _) ∧ Rel w (aGoOn f (aPl w A f 3 a b)).2 B2
        generalize aPl w A f 3 a b = r at z1 z2 u1 u2 hlt
        unfold aGoOn
        by_cases hr0 : r.1 = 0
        · rw [if_pos hr0]
          refine xF_x (xF_p (Nat.le_of_ble_eq_true rfl) ?_)
          refine l145 (A := A) hL b3 q1 q2 hd b7 (by rw [g2]; exact hpl) (by rw [g2]; exact c2) b6 x1 x2 x3 (by omega) i6 hta (fun hz1 => ?_) (fun hz2 => ?_)
          · skip
            refine xp_iload_n rfl rfl ?_
            refine xp_bipush (n := 21) rfl (by decide) ?_
            refine xp_icne 119 rfl (by decide) (by omega) (by omega) (fun h107 => ?_) (fun h107 => ?_)
            · skip
              refine xp_iload_n rfl rfl ?_
              refine xp_bipush (n := 22) rfl (by decide) ?_
              refine xp_icne 131 rfl (by decide) (by omega) (by omega) (fun h122 => ?_) (fun h122 => ?_)
              · skip
                refine xp_iload_n rfl rfl ?_
                refine xp_bipush (n := 23) rfl (by decide) ?_
                refine xp_icne 143 rfl (by decide) (by omega) (by omega) (fun h134 => ?_) (fun h134 => ?_)
                · skip
                  refine xp_aload_n rfl rfl ?_
                  refine xp_iload_n rfl rfl ?_
                  refine xp_iload_n rfl rfl ?_
                  refine xp_iload rfl rfl ?_
                  refine xp_iload rfl rfl ?_
                  refine xp_iv rfl rfl (Nat.le_of_ble_eq_true rfl) (by decide) (by decide) (by decide) (Nat.le_of_ble_eq_true rfl) rfl (xrcv1 (by decide) (by first | assumption | exact hL.t rfl)) (z1) rfl ?_
                  refine xp_istore rfl (by decide) ?_
                  refine xp_iload rfl rfl ?_
                  refine xp_ifne 170 rfl (by decide) (by omega) (fun h157 => ?_) (fun h157 => ?_)
                  · exact absurd hr0 h157
                  · skip
                    refine xp_aload_n rfl rfl ?_
                    refine xp_gfa rfl rfl (by decide) (by decide) (by first | assumption | exact hL.t rfl) (by first | assumption | exact hL.r rfl | exact hL.2.2.2.2.2) ?_
                    refine xp_iload_n rfl rfl ?_
                    refine xp_dup2 rfl rfl rfl ?_
                    refine xp_iald rfl (by first | assumption | exact hL.t rfl) (by omega) (by omega) ?_
                    rw [u1]
                    refine xp_iconst (n := 1) rfl (by decide) ?_
                    refine xp_iadd rfl ?_
                    refine xp_iast rfl (by first | assumption | exact hL.t rfl) (by omega) (by omega) ?_
                    refine xp_iload rfl rfl ?_
                    refine xp_ireturn rfl (by decide) (by decide) (by decide) ?_
                    exact ⟨_, rfl, u2⟩
                · exfalso; omega
              · exfalso; omega
            · exfalso; omega
          · omega
        · rw [if_neg hr0]
          refine xF_x (xF_p (Nat.le_of_ble_eq_true rfl) ?_)
          refine l145 (A := A) hL b3 q1 q2 hd b7 (by rw [g2]; exact hpl) (by rw [g2]; exact c2) b6 x1 x2 x3 (by omega) i6 hta (fun hz1 => ?_) (fun hz2 => ?_)
          · skip
            refine xp_iload_n rfl rfl ?_
            refine xp_bipush (n := 21) rfl (by decide) ?_
            refine xp_icne 119 rfl (by decide) (by omega) (by omega) (fun h107 => ?_) (fun h107 => ?_)
            · skip
              refine xp_iload_n rfl rfl ?_
              refine xp_bipush (n := 22) rfl (by decide) ?_
              refine xp_icne 131 rfl (by decide) (by omega) (by omega) (fun h122 => ?_) (fun h122 => ?_)
              · skip
                refine xp_iload_n rfl rfl ?_
                refine xp_bipush (n := 23) rfl (by decide) ?_
                refine xp_icne 143 rfl (by decide) (by omega) (by omega) (fun h134 => ?_) (fun h134 => ?_)
                · skip
                  refine xp_aload_n rfl rfl ?_
                  refine xp_iload_n rfl rfl ?_
                  refine xp_iload_n rfl rfl ?_
                  refine xp_iload rfl rfl ?_
                  refine xp_iload rfl rfl ?_
                  refine xp_iv rfl rfl (Nat.le_of_ble_eq_true rfl) (by decide) (by decide) (by decide) (Nat.le_of_ble_eq_true rfl) rfl (xrcv1 (by decide) (by first | assumption | exact hL.t rfl)) (z1) rfl ?_
                  refine xp_istore rfl (by decide) ?_
                  refine xp_iload rfl rfl ?_
                  refine xp_ifne 170 rfl (by decide) (by omega) (fun h157 => ?_) (fun h157 => ?_)
                  · skip
                    refine xp_iload rfl rfl ?_
                    refine xp_ireturn rfl (by decide) (by decide) (by decide) ?_
                    exact ⟨_, rfl, z2⟩
                  · exact absurd h157 hr0
                · exfalso; omega
              · exfalso; omega
            · exfalso; omega
          · omega
    · have hnd : aNeed A 4 a b = 0 := rfl
      · have hsz : ¬ A.1 f 3 < aNeed A 4 a b := by rw [hnd]; omega
        rw [if_neg hsz]
        have hsz0 : aNeed A 4 a b ≤ A.1 f 3 := by omega
        rw [hnd] at hsz
        obtain ⟨B2, z1, z2⟩ := m144_4 (z := z) (a := a) (b := b) hL hc hR hT (i1 (by omega))
        obtain ⟨u1, u2⟩ := go _ _ (hpc hsz0 (by omega)) z2
        have hlt := aPl_lt w A f 4 a b
        show ∃ B2, xF 145 _ _ (.inr (some (.int (nI (aGoOn f (aPl w A f 4 a b)).1))), _) ∧ Rel w (aGoOn f (aPl w A f 4 a b)).2 B2
        generalize aPl w A f 4 a b = r at z1 z2 u1 u2 hlt
        unfold aGoOn
        by_cases hr0 : r.1 = 0
        · rw [if_pos hr0]
          refine xF_x (xF_p (Nat.le_of_ble_eq_true rfl) ?_)
          refine l145 (A := A) hL b3 q1 q2 hd b7 (by rw [g2]; exact hpl) (by rw [g2]; exact c2) b6 x1 x2 x3 (by omega) i6 hta (fun hz1 => ?_) (fun hz2 => ?_)
          · skip
            refine xp_iload_n rfl rfl ?_
            refine xp_bipush (n := 21) rfl (by decide) ?_
            refine xp_icne 119 rfl (by decide) (by omega) (by omega) (fun h107 => ?_) (fun h107 => ?_)
            · skip
              refine xp_iload_n rfl rfl ?_
              refine xp_bipush (n := 22) rfl (by decide) ?_
              refine xp_icne 131 rfl (by decide) (by omega) (by omega) (fun h122 => ?_) (fun h122 => ?_)
              · skip
                refine xp_iload_n rfl rfl ?_
                refine xp_bipush (n := 23) rfl (by decide) ?_
                refine xp_icne 143 rfl (by decide) (by omega) (by omega) (fun h134 => ?_) (fun h134 => ?_)
                · skip
                  refine xp_aload_n rfl rfl ?_
                  refine xp_iload_n rfl rfl ?_
                  refine xp_iload_n rfl rfl ?_
                  refine xp_iload rfl rfl ?_
                  refine xp_iload rfl rfl ?_
                  refine xp_iv rfl rfl (Nat.le_of_ble_eq_true rfl) (by decide) (by decide) (by decide) (Nat.le_of_ble_eq_true rfl) rfl (xrcv1 (by decide) (by first | assumption | exact hL.t rfl)) (z1) rfl ?_
                  refine xp_istore rfl (by decide) ?_
                  refine xp_iload rfl rfl ?_
                  refine xp_ifne 170 rfl (by decide) (by omega) (fun h157 => ?_) (fun h157 => ?_)
                  · exact absurd hr0 h157
                  · skip
                    refine xp_aload_n rfl rfl ?_
                    refine xp_gfa rfl rfl (by decide) (by decide) (by first | assumption | exact hL.t rfl) (by first | assumption | exact hL.r rfl | exact hL.2.2.2.2.2) ?_
                    refine xp_iload_n rfl rfl ?_
                    refine xp_dup2 rfl rfl rfl ?_
                    refine xp_iald rfl (by first | assumption | exact hL.t rfl) (by omega) (by omega) ?_
                    rw [u1]
                    refine xp_iconst (n := 1) rfl (by decide) ?_
                    refine xp_iadd rfl ?_
                    refine xp_iast rfl (by first | assumption | exact hL.t rfl) (by omega) (by omega) ?_
                    refine xp_iload rfl rfl ?_
                    refine xp_ireturn rfl (by decide) (by decide) (by decide) ?_
                    exact ⟨_, rfl, u2⟩
                · exfalso; omega
              · exfalso; omega
            · exfalso; omega
          · omega
        · rw [if_neg hr0]
          refine xF_x (xF_p (Nat.le_of_ble_eq_true rfl) ?_)
          refine l145 (A := A) hL b3 q1 q2 hd b7 (by rw [g2]; exact hpl) (by rw [g2]; exact c2) b6 x1 x2 x3 (by omega) i6 hta (fun hz1 => ?_) (fun hz2 => ?_)
          · skip
            refine xp_iload_n rfl rfl ?_
            refine xp_bipush (n := 21) rfl (by decide) ?_
            refine xp_icne 119 rfl (by decide) (by omega) (by omega) (fun h107 => ?_) (fun h107 => ?_)
            · skip
              refine xp_iload_n rfl rfl ?_
              refine xp_bipush (n := 22) rfl (by decide) ?_
              refine xp_icne 131 rfl (by decide) (by omega) (by omega) (fun h122 => ?_) (fun h122 => ?_)
              · skip
                refine xp_iload_n rfl rfl ?_
                refine xp_bipush (n := 23) rfl (by decide) ?_
                refine xp_icne 143 rfl (by decide) (by omega) (by omega) (fun h134 => ?_) (fun h134 => ?_)
                · skip
                  refine xp_aload_n rfl rfl ?_
                  refine xp_iload_n rfl rfl ?_
                  refine xp_iload_n rfl rfl ?_
                  refine xp_iload rfl rfl ?_
                  refine xp_iload rfl rfl ?_
                  refine xp_iv rfl rfl (Nat.le_of_ble_eq_true rfl) (by decide) (by decide) (by decide) (Nat.le_of_ble_eq_true rfl) rfl (xrcv1 (by decide) (by first | assumption | exact hL.t rfl)) (z1) rfl ?_
                  refine xp_istore rfl (by decide) ?_
                  refine xp_iload rfl rfl ?_
                  refine xp_ifne 170 rfl (by decide) (by omega) (fun h157 => ?_) (fun h157 => ?_)
                  · skip
                    refine xp_iload rfl rfl ?_
                    refine xp_ireturn rfl (by decide) (by decide) (by decide) ?_
                    exact ⟨_, rfl, z2⟩
                  · exact absurd h157 hr0
                · exfalso; omega
              · exfalso; omega
            · exfalso; omega
          · omega
    · have hnd : aNeed A 5 a b = 1 := rfl
      by_cases hsz : A.1 f 3 < aNeed A 5 a b
      · rw [if_pos hsz]
        rw [hnd] at hsz
        refine xF_x (xF_p (Nat.le_of_ble_eq_true rfl) ?_)
        refine l145 (A := A) hL b3 q1 q2 hd b7 (by rw [g2]; exact hpl) (by rw [g2]; exact c2) b6 x1 x2 x3 (by omega) i6 hta (fun hz1 => ?_) (fun hz2 => ?_)
        · omega
        · exact ⟨_, rfl, hR⟩
      · rw [if_neg hsz]
        have hsz0 : aNeed A 5 a b ≤ A.1 f 3 := by omega
        rw [hnd] at hsz
        obtain ⟨B2, z1, z2⟩ := m144_5 (z := z) (a := a) (b := b) hL hc hR hT (by omega) (i1 (by omega))
        obtain ⟨u1, u2⟩ := go _ _ (hpc hsz0 (by omega)) z2
        have hlt := aPl_lt w A f 5 a b
        show ∃ B2, xF 145 _ _ (.inr (some (.int (nI (aGoOn f (aPl w A f 5 a b)).1))), _) ∧ Rel w (aGoOn f (aPl w A f 5 a b)).2 B2
        generalize aPl w A f 5 a b = r at z1 z2 u1 u2 hlt
        unfold aGoOn
        by_cases hr0 : r.1 = 0
        · rw [if_pos hr0]
          refine xF_x (xF_p (Nat.le_of_ble_eq_true rfl) ?_)
          refine l145 (A := A) hL b3 q1 q2 hd b7 (by rw [g2]; exact hpl) (by rw [g2]; exact c2) b6 x1 x2 x3 (by omega) i6 hta (fun hz1 => ?_) (fun hz2 => ?_)
          · skip
            refine xp_iload_n rfl rfl ?_
            refine xp_bipush (n := 21) rfl (by decide) ?_
            refine xp_icne 119 rfl (by decide) (by omega) (by omega) (fun h107 => ?_) (fun h107 => ?_)
            · skip
              refine xp_iload_n rfl rfl ?_
              refine xp_bipush (n := 22) rfl (by decide) ?_
              refine xp_icne 131 rfl (by decide) (by omega) (by omega) (fun h122 => ?_) (fun h122 => ?_)
              · skip
                refine xp_iload_n rfl rfl ?_
                refine xp_bipush (n := 23) rfl (by decide) ?_
                refine xp_icne 143 rfl (by decide) (by omega) (by omega) (fun h134 => ?_) (fun h134 => ?_)
                · skip
                  refine xp_aload_n rfl rfl ?_
                  refine xp_iload_n rfl rfl ?_
                  refine xp_iload_n rfl rfl ?_
                  refine xp_iload rfl rfl ?_
                  refine xp_iload rfl rfl ?_
                  refine xp_iv rfl rfl (Nat.le_of_ble_eq_true rfl) (by decide) (by decide) (by decide) (Nat.le_of_ble_eq_true rfl) rfl (xrcv1 (by decide) (by first | assumption | exact hL.t rfl)) (z1) rfl ?_
                  refine xp_istore rfl (by decide) ?_
                  refine xp_iload rfl rfl ?_
                  refine xp_ifne 170 rfl (by decide) (by omega) (fun h157 => ?_) (fun h157 => ?_)
                  · exact absurd hr0 h157
                  · skip
                    refine xp_aload_n rfl rfl ?_
                    refine xp_gfa rfl rfl (by decide) (by decide) (by first | assumption | exact hL.t rfl) (by first | assumption | exact hL.r rfl | exact hL.2.2.2.2.2) ?_
                    refine xp_iload_n rfl rfl ?_
                    refine xp_dup2 rfl rfl rfl ?_
                    refine xp_iald rfl (by first | assumption | exact hL.t rfl) (by omega) (by omega) ?_
                    rw [u1]
                    refine xp_iconst (n := 1) rfl (by decide) ?_
                    refine xp_iadd rfl ?_
                    refine xp_iast rfl (by first | assumption | exact hL.t rfl) (by omega) (by omega) ?_
                    refine xp_iload rfl rfl ?_
                    refine xp_ireturn rfl (by decide) (by decide) (by decide) ?_
                    exact ⟨_, rfl, u2⟩
                · exfalso; omega
              · exfalso; omega
            · exfalso; omega
          · omega
        · rw [if_neg hr0]
          refine xF_x (xF_p (Nat.le_of_ble_eq_true rfl) ?_)
          refine l145 (A := A) hL b3 q1 q2 hd b7 (by rw [g2]; exact hpl) (by rw [g2]; exact c2) b6 x1 x2 x3 (by omega) i6 hta (fun hz1 => ?_) (fun hz2 => ?_)
          · skip
            refine xp_iload_n rfl rfl ?_
            refine xp_bipush (n := 21) rfl (by decide) ?_
            refine xp_icne 119 rfl (by decide) (by omega) (by omega) (fun h107 => ?_) (fun h107 => ?_)
            · skip
              refine xp_iload_n rfl rfl ?_
              refine xp_bipush (n := 22) rfl (by decide) ?_
              refine xp_icne 131 rfl (by decide) (by omega) (by omega) (fun h122 => ?_) (fun h122 => ?_)
              · skip
                refine xp_iload_n rfl rfl ?_
                refine xp_bipush (n := 23) rfl (by decide) ?_
                refine xp_icne 143 rfl (by decide) (by omega) (by omega) (fun h134 => ?_) (fun h134 => ?_)
                · skip
                  refine xp_aload_n rfl rfl ?_
                  refine xp_iload_n rfl rfl ?_
                  refine xp_iload_n rfl rfl ?_
                  refine xp_iload rfl rfl ?_
                  refine xp_iload rfl rfl ?_
                  refine xp_iv rfl rfl (Nat.le_of_ble_eq_true rfl) (by decide) (by decide) (by decide) (Nat.le_of_ble_eq_true rfl) rfl (xrcv1 (by decide) (by first | assumption | exact hL.t rfl)) (z1) rfl ?_
                  refine xp_istore rfl (by decide) ?_
                  refine xp_iload rfl rfl ?_
                  refine xp_ifne 170 rfl (by decide) (by omega) (fun h157 => ?_) (fun h157 => ?_)
                  · skip
                    refine xp_iload rfl rfl ?_
                    refine xp_ireturn rfl (by decide) (by decide) (by decide) ?_
                    exact ⟨_, rfl, z2⟩
                  · exact absurd h157 hr0
                · exfalso; omega
              · exfalso; omega
            · exfalso; omega
          · omega
    · have hnd : aNeed A 6 a b = 1 := rfl
      by_cases hsz : A.1 f 3 < aNeed A 6 a b
      · rw [if_pos hsz]
        rw [hnd] at hsz
        refine xF_x (xF_p (Nat.le_of_ble_eq_true rfl) ?_)
        refine l145 (A := A) hL b3 q1 q2 hd b7 (by rw [g2]; exact hpl) (by rw [g2]; exact c2) b6 x1 x2 x3 (by omega) i6 hta (fun hz1 => ?_) (fun hz2 => ?_)
        · omega
        · exact ⟨_, rfl, hR⟩
      · rw [if_neg hsz]
        have hsz0 : aNeed A 6 a b ≤ A.1 f 3 := by omega
        rw [hnd] at hsz
        obtain ⟨B2, z1, z2⟩ := m144_6 (z := z) (a := a) (b := b) hL hc hR hT (by omega)
        obtain ⟨u1, u2⟩ := go _ _ (hpc hsz0 (by omega)) z2
        have hlt := aPl_lt w A f 6 a b
        show ∃ B2, xF 145 _ _ (.inr (some (.int (nI (aGoOn f (aPl w A f 6 a b)).1))), _) ∧ Rel w (aGoOn f (aPl w A f 6 a b)).2 B2
        generalize aPl w A f 6 a b = r at z1 z2 u1 u2 hlt
        unfold aGoOn
        by_cases hr0 : r.1 = 0
        · rw [if_pos hr0]
          refine xF_x (xF_p (Nat.le_of_ble_eq_true rfl) ?_)
          refine l145 (A := A) hL b3 q1 q2 hd b7 (by rw [g2]; exact hpl) (by rw [g2]; exact c2) b6 x1 x2 x3 (by omega) i6 hta (fun hz1 => ?_) (fun hz2 => ?_)
          · skip
            refine xp_iload_n rfl rfl ?_
            refine xp_bipush (n := 21) rfl (by decide) ?_
            refine xp_icne 119 rfl (by decide) (by omega) (by omega) (fun h107 => ?_) (fun h107 => ?_)
            · skip
              refine xp_iload_n rfl rfl ?_
              refine xp_bipush (n := 22) rfl (by decide) ?_
              refine xp_icne 131 rfl (by decide) (by omega) (by omega) (fun h122 => ?_) (fun h122 => ?_)
              · skip
                refine xp_iload_n rfl rfl ?_
                refine xp_bipush (n := 23) rfl (by decide) ?_
                refine xp_icne 143 rfl (by decide) (by omega) (by omega) (fun h134 => ?_) (fun h134 => ?_)
                · skip
                  refine xp_aload_n rfl rfl ?_
                  refine xp_iload_n rfl rfl ?_
                  refine xp_iload_n rfl rfl ?_
                  refine xp_iload rfl rfl ?_
                  refine xp_iload rfl rfl ?_
                  refine xp_iv rfl rfl (Nat.le_of_ble_eq_true rfl) (by decide) (by decide) (by decide) (Nat.le_of_ble_eq_true rfl) rfl (xrcv1 (by decide) (by first | assumption | exact hL.t rfl)) (z1) rfl ?_
                  refine xp_istore rfl (by decide) ?_
                  refine xp_iload rfl rfl ?_
                  refine xp_ifne 170 rfl (by decide) (by omega) (fun h157 => ?_) (fun h157 => ?_)
                  · exact absurd hr0 h157
                  · skip
                    refine xp_aload_n rfl rfl ?_
                    refine xp_gfa rfl rfl (by decide) (by decide) (by first | assumption | exact hL.t rfl) (by first | assumption | exact hL.r rfl | exact hL.2.2.2.2.2) ?_
                    refine xp_iload_n rfl rfl ?_
                    refine xp_dup2 rfl rfl rfl ?_
                    refine xp_iald rfl (by first | assumption | exact hL.t rfl) (by omega) (by omega) ?_
                    rw [u1]
                    refine xp_iconst (n := 1) rfl (by decide) ?_
                    refine xp_iadd rfl ?_
                    refine xp_iast rfl (by first | assumption | exact hL.t rfl) (by omega) (by omega) ?_
                    refine xp_iload rfl rfl ?_
                    refine xp_ireturn rfl (by decide) (by decide) (by decide) ?_
                    exact ⟨_, rfl, u2⟩
                · exfalso; omega
              · exfalso; omega
            · exfalso; omega
          · omega
        · rw [if_neg hr0]
          refine xF_x (xF_p (Nat.le_of_ble_eq_true rfl) ?_)
          refine l145 (A := A) hL b3 q1 q2 hd b7 (by rw [g2]; exact hpl) (by rw [g2]; exact c2) b6 x1 x2 x3 (by omega) i6 hta (fun hz1 => ?_) (fun hz2 => ?_)
          · skip
            refine xp_iload_n rfl rfl ?_
            refine xp_bipush (n := 21) rfl (by decide) ?_
            refine xp_icne 119 rfl (by decide) (by omega) (by omega) (fun h107 => ?_) (fun h107 => ?_)
            · skip
              refine xp_iload_n rfl rfl ?_
              refine xp_bipush (n := 22) rfl (by decide) ?_
              refine xp_icne 131 rfl (by decide) (by omega) (by omega) (fun h122 => ?_) (fun h122 => ?_)
              · skip
                refine xp_iload_n rfl rfl ?_
                refine xp_bipush (n := 23) rfl (by decide) ?_
                refine xp_icne 143 rfl (by decide) (by omega) (by omega) (fun h134 => ?_) (fun h134 => ?_)
                · skip
                  refine xp_aload_n rfl rfl ?_
                  refine xp_iload_n rfl rfl ?_
                  refine xp_iload_n rfl rfl ?_
                  refine xp_iload rfl rfl ?_
                  refine xp_iload rfl rfl ?_
                  refine xp_iv rfl rfl (Nat.le_of_ble_eq_true rfl) (by decide) (by decide) (by decide) (Nat.le_of_ble_eq_true rfl) rfl (xrcv1 (by decide) (by first | assumption | exact hL.t rfl)) (z1) rfl ?_
                  refine xp_istore rfl (by decide) ?_
                  refine xp_iload rfl rfl ?_
                  refine xp_ifne 170 rfl (by decide) (by omega) (fun h157 => ?_) (fun h157 => ?_)
                  · skip
                    refine xp_iload rfl rfl ?_
                    refine xp_ireturn rfl (by decide) (by decide) (by decide) ?_
                    exact ⟨_, rfl, z2⟩
                  · exact absurd h157 hr0
                · exfalso; omega
              · exfalso; omega
            · exfalso; omega
          · omega
    · have hnd : aNeed A 7 a b = 1 := rfl
      by_cases hsz : A.1 f 3 < aNeed A 7 a b
      · rw [if_pos hsz]
        rw [hnd] at hsz
        refine xF_x (xF_p (Nat.le_of_ble_eq_true rfl) ?_)
        refine l145 (A := A) hL b3 q1 q2 hd b7 (by rw [g2]; exact hpl) (by rw [g2]; exact c2) b6 x1 x2 x3 (by omega) i6 hta (fun hz1 => ?_) (fun hz2 => ?_)
        · omega
        · exact ⟨_, rfl, hR⟩
      · rw [if_neg hsz]
        have hsz0 : aNeed A 7 a b ≤ A.1 f 3 := by omega
        rw [hnd] at hsz
        obtain ⟨B2, z1, z2⟩ := m144_7 (z := z) (a := a) (b := b) hL hc hR hT (by omega)
        obtain ⟨u1, u2⟩ := go _ _ (hpc hsz0 (by omega)) z2
        have hlt := aPl_lt w A f 7 a b
        show ∃ B2, xF 145 _ _ (.inr (some (.int (nI (aGoOn f (aPl w A f 7 a b)).1))), _) ∧ Rel w (aGoOn f (aPl w A f 7 a b)).2 B2
        generalize aPl w A f 7 a b = r at z1 z2 u1 u2 hlt
        unfold aGoOn
        by_cases hr0 : r.1 = 0
        · rw [if_pos hr0]
          refine xF_x (xF_p (Nat.le_of_ble_eq_true rfl) ?_)
          refine l145 (A := A) hL b3 q1 q2 hd b7 (by rw [g2]; exact hpl) (by rw [g2]; exact c2) b6 x1 x2 x3 (by omega) i6 hta (fun hz1 => ?_) (fun hz2 => ?_)
          · skip
            refine xp_iload_n rfl rfl ?_
            refine xp_bipush (n := 21) rfl (by decide) ?_
            refine xp_icne 119 rfl (by decide) (by omega) (by omega) (fun h107 => ?_) (fun h107 => ?_)
            · skip
              refine xp_iload_n rfl rfl ?_
              refine xp_bipush (n := 22) rfl (by decide) ?_
              refine xp_icne 131 rfl (by decide) (by omega) (by omega) (fun h122 => ?_) (fun h122 => ?_)
              · skip
                refine xp_iload_n rfl rfl ?_
                refine xp_bipush (n := 23) rfl (by decide) ?_
                refine xp_icne 143 rfl (by decide) (by omega) (by omega) (fun h134 => ?_) (fun h134 => ?_)
                · skip
                  refine xp_aload_n rfl rfl ?_
                  refine xp_iload_n rfl rfl ?_
                  refine xp_iload_n rfl rfl ?_
                  refine xp_iload rfl rfl ?_
                  refine xp_iload rfl rfl ?_
                  refine xp_iv rfl rfl (Nat.le_of_ble_eq_true rfl) (by decide) (by decide) (by decide) (Nat.le_of_ble_eq_true rfl) rfl (xrcv1 (by decide) (by first | assumption | exact hL.t rfl)) (z1) rfl ?_
                  refine xp_istore rfl (by decide) ?_
                  refine xp_iload rfl rfl ?_
                  refine xp_ifne 170 rfl (by decide) (by omega) (fun h157 => ?_) (fun h157 => ?_)
                  · exact absurd hr0 h157
                  · skip
                    refine xp_aload_n rfl rfl ?_
                    refine xp_gfa rfl rfl (by decide) (by decide) (by first | assumption | exact hL.t rfl) (by first | assumption | exact hL.r rfl | exact hL.2.2.2.2.2) ?_
                    refine xp_iload_n rfl rfl ?_
                    refine xp_dup2 rfl rfl rfl ?_
                    refine xp_iald rfl (by first | assumption | exact hL.t rfl) (by omega) (by omega) ?_
                    rw [u1]
                    refine xp_iconst (n := 1) rfl (by decide) ?_
                    refine xp_iadd rfl ?_
                    refine xp_iast rfl (by first | assumption | exact hL.t rfl) (by omega) (by omega) ?_
                    refine xp_iload rfl rfl ?_
                    refine xp_ireturn rfl (by decide) (by decide) (by decide) ?_
                    exact ⟨_, rfl, u2⟩
                · exfalso; omega
              · exfalso; omega
            · exfalso; omega
          · omega
        · rw [if_neg hr0]
          refine xF_x (xF_p (Nat.le_of_ble_eq_true rfl) ?_)
          refine l145 (A := A) hL b3 q1 q2 hd b7 (by rw [g2]; exact hpl) (by rw [g2]; exact c2) b6 x1 x2 x3 (by omega) i6 hta (fun hz1 => ?_) (fun hz2 => ?_)
          · skip
            refine xp_iload_n rfl rfl ?_
            refine xp_bipush (n := 21) rfl (by decide) ?_
            refine xp_icne 119 rfl (by decide) (by omega) (by omega) (fun h107 => ?_) (fun h107 => ?_)
            · skip
              refine xp_iload_n rfl rfl ?_
              refine xp_bipush (n := 22) rfl (by decide) ?_
              refine xp_icne 131 rfl (by decide) (by omega) (by omega) (fun h122 => ?_) (fun h122 => ?_)
              · skip
                refine xp_iload_n rfl rfl ?_
                refine xp_bipush (n := 23) rfl (by decide) ?_
                refine xp_icne 143 rfl (by decide) (by omega) (by omega) (fun h134 => ?_) (fun h134 => ?_)
                · skip
                  refine xp_aload_n rfl rfl ?_
                  refine xp_iload_n rfl rfl ?_
                  refine xp_iload_n rfl rfl ?_
                  refine xp_iload rfl rfl ?_
                  refine xp_iload rfl rfl ?_
                  refine xp_iv rfl rfl (Nat.le_of_ble_eq_true rfl) (by decide) (by decide) (by decide) (Nat.le_of_ble_eq_true rfl) rfl (xrcv1 (by decide) (by first | assumption | exact hL.t rfl)) (z1) rfl ?_
                  refine xp_istore rfl (by decide) ?_
                  refine xp_iload rfl rfl ?_
                  refine xp_ifne 170 rfl (by decide) (by omega) (fun h157 => ?_) (fun h157 => ?_)
                  · skip
                    refine xp_iload rfl rfl ?_
                    refine xp_ireturn rfl (by decide) (by decide) (by decide) ?_
                    exact ⟨_, rfl, z2⟩
                  · exact absurd h157 hr0
                · exfalso; omega
              · exfalso; omega
            · exfalso; omega
          · omega
    · have hnd : aNeed A 8 a b = 2 := rfl
      by_cases hsz : A.1 f 3 < aNeed A 8 a b
      · rw [if_pos hsz]
        rw [hnd] at hsz
        refine xF_x (xF_p (Nat.le_of_ble_eq_true rfl) ?_)
        refine l145 (A := A) hL b3 q1 q2 hd b7 (by rw [g2]; exact hpl) (by rw [g2]; exact c2) b6 x1 x2 x3 (by omega) i6 hta (fun hz1 => ?_) (fun hz2 => ?_)
        · omega
        · exact ⟨_, rfl, hR⟩
      · rw [if_neg hsz]
        have hsz0 : aNeed A 8 a b ≤ A.1 f 3 := by omega
        rw [hnd] at hsz
        obtain ⟨B2, z1, z2⟩ := m144_8 (z := z) (a := a) (b := b) hL hc hR hT (by omega)
        obtain ⟨u1, u2⟩ := go _ _ (hpc hsz0 (by omega)) z2
        have hlt := aPl_lt w A f 8 a b
        show ∃ B2, xF 145 _ _ (.inr (some (.int (nI (aGoOn f (aPl w A f 8 a b)).1))), _) ∧ Rel w (aGoOn f (aPl w A f 8 a b)).2 B2
        generalize aPl w A f 8 a b = r at z1 z2 u1 u2 hlt
        unfold aGoOn
        by_cases hr0 : r.1 = 0
        · rw [if_pos hr0]
          refine xF_x (xF_p (Nat.le_of_ble_eq_true rfl) ?_)
          refine l145 (A := A) hL b3 q1 q2 hd b7 (by rw [g2]; exact hpl) (by rw [g2]; exact c2) b6 x1 x2 x3 (by omega) i6 hta (fun hz1 => ?_) (fun hz2 => ?_)
          · skip
            refine xp_iload_n rfl rfl ?_
            refine xp_bipush (n := 21) rfl (by decide) ?_
            refine xp_icne 119 rfl (by decide) (by omega) (by omega) (fun h107 => ?_) (fun h107 => ?_)
            · skip
              refine xp_iload_n rfl rfl ?_
              refine xp_bipush (n := 22) rfl (by decide) ?_
              refine xp_icne 131 rfl (by decide) (by omega) (by omega) (fun h122 => ?_) (fun h122 => ?_)
              · skip
                refine xp_iload_n rfl rfl ?_
                refine xp_bipush (n := 23) rfl (by decide) ?_
                refine xp_icne 143 rfl (by decide) (by omega) (by omega) (fun h134 => ?_) (fun h134 => ?_)
                · skip
                  refine xp_aload_n rfl rfl ?_
                  refine xp_iload_n rfl rfl ?_
                  refine xp_iload_n rfl rfl ?_
                  refine xp_iload rfl rfl ?_
                  refine xp_iload rfl rfl ?_
                  refine xp_iv rfl rfl (Nat.le_of_ble_eq_true rfl) (by decide) (by decide) (by decide) (Nat.le_of_ble_eq_true rfl) rfl (xrcv1 (by decide) (by first | assumption | exact hL.t rfl)) (z1) rfl ?_
                  refine xp_istore rfl (by decide) ?_
                  refine xp_iload rfl rfl ?_
                  refine xp_ifne 170 rfl (by decide) (by omega) (fun h157 => ?_) (fun h157 => ?_)
                  · exact absurd hr0 h157
                  · skip
                    refine xp_aload_n rfl rfl ?_
                    refine xp_gfa rfl rfl (by decide) (by decide) (by first | assumption | exact hL.t rfl) (by first | assumption | exact hL.r rfl | exact hL.2.2.2.2.2) ?_
                    refine xp_iload_n rfl rfl ?_
                    refine xp_dup2 rfl rfl rfl ?_
                    refine xp_iald rfl (by first | assumption | exact hL.t rfl) (by omega) (by omega) ?_
                    rw [u1]
                    refine xp_iconst (n := 1) rfl (by decide) ?_
                    refine xp_iadd rfl ?_
                    refine xp_iast rfl (by first | assumption | exact hL.t rfl) (by omega) (by omega) ?_
                    refine xp_iload rfl rfl ?_
                    refine xp_ireturn rfl (by decide) (by decide) (by decide) ?_
                    exact ⟨_, rfl, u2⟩
                · exfalso; omega
              · exfalso; omega
            · exfalso; omega
          · omega
        · rw [if_neg hr0]
          refine xF_x (xF_p (Nat.le_of_ble_eq_true rfl) ?_)
          refine l145 (A := A) hL b3 q1 q2 hd b7 (by rw [g2]; exact hpl) (by rw [g2]; exact c2) b6 x1 x2 x3 (by omega) i6 hta (fun hz1 => ?_) (fun hz2 => ?_)
          · skip
            refine xp_iload_n rfl rfl ?_
            refine xp_bipush (n := 21) rfl (by decide) ?_
            refine xp_icne 119 rfl (by decide) (by omega) (by omega) (fun h107 => ?_) (fun h107 => ?_)
            · skip
              refine xp_iload_n rfl rfl ?_
              refine xp_bipush (n := 22) rfl (by decide) ?_
              refine xp_icne 131 rfl (by decide) (by omega) (by omega) (fun h122 => ?_) (fun h122 => ?_)
              · skip
                refine xp_iload_n rfl rfl ?_
                refine xp_bipush (n := 23) rfl (by decide) ?_
                refine xp_icne 143 rfl (by decide) (by omega) (by omega) (fun h134 => ?_) (fun h134 => ?_)
                · skip
                  refine xp_aload_n rfl rfl ?_
                  refine xp_iload_n rfl rfl ?_
                  refine xp_iload_n rfl rfl ?_
                  refine xp_iload rfl rfl ?_
                  refine xp_iload rfl rfl ?_
                  refine xp_iv rfl rfl (Nat.le_of_ble_eq_true rfl) (by decide) (by decide) (by decide) (Nat.le_of_ble_eq_true rfl) rfl (xrcv1 (by decide) (by first | assumption | exact hL.t rfl)) (z1) rfl ?_
                  refine xp_istore rfl (by decide) ?_
                  refine xp_iload rfl rfl ?_
                  refine xp_ifne 170 rfl (by decide) (by omega) (fun h157 => ?_) (fun h157 => ?_)
                  · skip
                    refine xp_iload rfl rfl ?_
                    refine xp_ireturn rfl (by decide) (by decide) (by decide) ?_
                    exact ⟨_, rfl, z2⟩
                  · exact absurd h157 hr0
                · exfalso; omega
              · exfalso; omega
            · exfalso; omega
          · omega
    · have hnd : aNeed A 9 a b = 2 := rfl
      by_cases hsz : A.1 f 3 < aNeed A 9 a b
      · rw [if_pos hsz]
        rw [hnd] at hsz
        refine xF_x (xF_p (Nat.le_of_ble_eq_true rfl) ?_)
        refine l145 (A := A) hL b3 q1 q2 hd b7 (by rw [g2]; exact hpl) (by rw [g2]; exact c2) b6 x1 x2 x3 (by omega) i6 hta (fun hz1 => ?_) (fun hz2 => ?_)
        · omega
        · exact ⟨_, rfl, hR⟩
      · rw [if_neg hsz]
        have hsz0 : aNeed A 9 a b ≤ A.1 f 3 := by omega
        rw [hnd] at hsz
        obtain ⟨B2, z1, z2⟩ := m144_9 (z := z) (a := a) (b := b) hL hc hR hT (by omega)
        obtain ⟨u1, u2⟩ := go _ _ (hpc hsz0 (by omega)) z2
        have hlt := aPl_lt w A f 9 a b
        show ∃ B2, xF 145 _ _ (.inr (some (.int (nI (aGoOn f (aPl w A f 9 a b)).1))), _) ∧ Rel w (aGoOn f (aPl w A f 9 a b)).2 B2
        generalize aPl w A f 9 a b = r at z1 z2 u1 u2 hlt
        unfold aGoOn
        by_cases hr0 : r.1 = 0
        · rw [if_pos hr0]
          refine xF_x (xF_p (Nat.le_of_ble_eq_true rfl) ?_)
          refine l145 (A := A) hL b3 q1 q2 hd b7 (by rw [g2]; exact hpl) (by rw [g2]; exact c2) b6 x1 x2 x3 (by omega) i6 hta (fun hz1 => ?_) (fun hz2 => ?_)
          · skip
            refine xp_iload_n rfl rfl ?_
            refine xp_bipush (n := 21) rfl (by decide) ?_
            refine xp_icne 119 rfl (by decide) (by omega) (by omega) (fun h107 => ?_) (fun h107 => ?_)
            · skip
              refine xp_iload_n rfl rfl ?_
              refine xp_bipush (n := 22) rfl (by decide) ?_
              refine xp_icne 131 rfl (by decide) (by omega) (by omega) (fun h122 => ?_) (fun h122 => ?_)
              · skip
                refine xp_iload_n rfl rfl ?_
                refine xp_bipush (n := 23) rfl (by decide) ?_
                refine xp_icne 143 rfl (by decide) (by omega) (by omega) (fun h134 => ?_) (fun h134 => ?_)
                · skip
                  refine xp_aload_n rfl rfl ?_
                  refine xp_iload_n rfl rfl ?_
                  refine xp_iload_n rfl rfl ?_
                  refine xp_iload rfl rfl ?_
                  refine xp_iload rfl rfl ?_
                  refine xp_iv rfl rfl (Nat.le_of_ble_eq_true rfl) (by decide) (by decide) (by decide) (Nat.le_of_ble_eq_true rfl) rfl (xrcv1 (by decide) (by first | assumption | exact hL.t rfl)) (z1) rfl ?_
                  refine xp_istore rfl (by decide) ?_
                  refine xp_iload rfl rfl ?_
                  refine xp_ifne 170 rfl (by decide) (by omega) (fun h157 => ?_) (fun h157 => ?_)
                  · exact absurd hr0 h157
                  · skip
                    refine xp_aload_n rfl rfl ?_
                    refine xp_gfa rfl rfl (by decide) (by decide) (by first | assumption | exact hL.t rfl) (by first | assumption | exact hL.r rfl | exact hL.2.2.2.2.2) ?_
                    refine xp_iload_n rfl rfl ?_
                    refine xp_dup2 rfl rfl rfl ?_
                    refine xp_iald rfl (by first | assumption | exact hL.t rfl) (by omega) (by omega) ?_
                    rw [u1]
                    refine xp_iconst (n := 1) rfl (by decide) ?_
                    refine xp_iadd rfl ?_
                    refine xp_iast rfl (by first | assumption | exact hL.t rfl) (by omega) (by omega) ?_
                    refine xp_iload rfl rfl ?_
                    refine xp_ireturn rfl (by decide) (by decide) (by decide) ?_
                    exact ⟨_, rfl, u2⟩
                · exfalso; omega
              · exfalso; omega
            · exfalso; omega
          · omega
        · rw [if_neg hr0]
          refine xF_x (xF_p (Nat.le_of_ble_eq_true rfl) ?_)
          refine l145 (A := A) hL b3 q1 q2 hd b7 (by rw [g2]; exact hpl) (by rw [g2]; exact c2) b6 x1 x2 x3 (by omega) i6 hta (fun hz1 => ?_) (fun hz2 => ?_)
          · skip
            refine xp_iload_n rfl rfl ?_
            refine xp_bipush (n := 21) rfl (by decide) ?_
            refine xp_icne 119 rfl (by decide) (by omega) (by omega) (fun h107 => ?_) (fun h107 => ?_)
            · skip
              refine xp_iload_n rfl rfl ?_
              refine xp_bipush (n := 22) rfl (by decide) ?_
              refine xp_icne 131 rfl (by decide) (by omega) (by omega) (fun h122 => ?_) (fun h122 => ?_)
              · skip
                refine xp_iload_n rfl rfl ?_
                refine xp_bipush (n := 23) rfl (by decide) ?_
                refine xp_icne 143 rfl (by decide) (by omega) (by omega) (fun h134 => ?_) (fun h134 => ?_)
                · skip
                  refine xp_aload_n rfl rfl ?_
                  refine xp_iload_n rfl rfl ?_
                  refine xp_iload_n rfl rfl ?_
                  refine xp_iload rfl rfl ?_
                  refine xp_iload rfl rfl ?_
                  refine xp_iv rfl rfl (Nat.le_of_ble_eq_true rfl) (by decide) (by decide) (by decide) (Nat.le_of_ble_eq_true rfl) rfl (xrcv1 (by decide) (by first | assumption | exact hL.t rfl)) (z1) rfl ?_
                  refine xp_istore rfl (by decide) ?_
                  refine xp_iload rfl rfl ?_
                  refine xp_ifne 170 rfl (by decide) (by omega) (fun h157 => ?_) (fun h157 => ?_)
                  · skip
                    refine xp_iload rfl rfl ?_
                    refine xp_ireturn rfl (by decide) (by decide) (by decide) ?_
                    exact ⟨_, rfl, z2⟩
                  · exact absurd h157 hr0
                · exfalso; omega
              · exfalso; omega
            · exfalso; omega
          · omega
    · have hnd : aNeed A 10 a b = 2 := rfl
      by_cases hsz : A.1 f 3 < aNeed A 10 a b
      · rw [if_pos hsz]
        rw [hnd] at hsz
        refine xF_x (xF_p (Nat.le_of_ble_eq_true rfl) ?_)
        refine l145 (A := A) hL b3 q1 q2 hd b7 (by rw [g2]; exact hpl) (by rw [g2]; exact c2) b6 x1 x2 x3 (by omega) i6 hta (fun hz1 => ?_) (fun hz2 => ?_)
        · omega
        · exact ⟨_, rfl, hR⟩
      · rw [if_neg hsz]
        have hsz0 : aNeed A 10 a b ≤ A.1 f 3 := by omega
        rw [hnd] at hsz
        obtain ⟨B2, z1, z2⟩ := m144_10 (z := z) (a := a) (b := b) hL hc hR hT (by omega)
        obtain ⟨u1, u2⟩ := go _ _ (hpc hsz0 (by omega)) z2
        have hlt := aPl_lt w A f 10 a b
        show ∃ B2, xF 145 _ _ (.inr (some (.int (nI (aGoOn f (aPl w A f 10 a b)).1))), _) ∧ Rel w (aGoOn f (aPl w A f 10 a b)).2 B2
        generalize aPl w A f 10 a b = r at z1 z2 u1 u2 hlt
        unfold aGoOn
        by_cases hr0 : r.1 = 0
        · rw [if_pos hr0]
          refine xF_x (xF_p (Nat.le_of_ble_eq_true rfl) ?_)
          refine l145 (A := A) hL b3 q1 q2 hd b7 (by rw [g2]; exact hpl) (by rw [g2]; exact c2) b6 x1 x2 x3 (by omega) i6 hta (fun hz1 => ?_) (fun hz2 => ?_)
          · skip
            refine xp_iload_n rfl rfl ?_
            refine xp_bipush (n := 21) rfl (by decide) ?_
            refine xp_icne 119 rfl (by decide) (by omega) (by omega) (fun h107 => ?_) (fun h107 => ?_)
            · skip
              refine xp_iload_n rfl rfl ?_
              refine xp_bipush (n := 22) rfl (by decide) ?_
              refine xp_icne 131 rfl (by decide) (by omega) (by omega) (fun h122 => ?_) (fun h122 => ?_)
              · skip
                refine xp_iload_n rfl rfl ?_
                refine xp_bipush (n := 23) rfl (by decide) ?_
                refine xp_icne 143 rfl (by decide) (by omega) (by omega) (fun h134 => ?_) (fun h134 => ?_)
                · skip
                  refine xp_aload_n rfl rfl ?_
                  refine xp_iload_n rfl rfl ?_
                  refine xp_iload_n rfl rfl ?_
                  refine xp_iload rfl rfl ?_
                  refine xp_iload rfl rfl ?_
                  refine xp_iv rfl rfl (Nat.le_of_ble_eq_true rfl) (by decide) (by decide) (by decide) (Nat.le_of_ble_eq_true rfl) rfl (xrcv1 (by decide) (by first | assumption | exact hL.t rfl)) (z1) rfl ?_
                  refine xp_istore rfl (by decide) ?_
                  refine xp_iload rfl rfl ?_
                  refine xp_ifne 170 rfl (by decide) (by omega) (fun h157 => ?_) (fun h157 => ?_)
                  · exact absurd hr0 h157
                  · skip
                    refine xp_aload_n rfl rfl ?_
                    refine xp_gfa rfl rfl (by decide) (by decide) (by first | assumption | exact hL.t rfl) (by first | assumption | exact hL.r rfl | exact hL.2.2.2.2.2) ?_
                    refine xp_iload_n rfl rfl ?_
                    refine xp_dup2 rfl rfl rfl ?_
                    refine xp_iald rfl (by first | assumption | exact hL.t rfl) (by omega) (by omega) ?_
                    rw [u1]
                    refine xp_iconst (n := 1) rfl (by decide) ?_
                    refine xp_iadd rfl ?_
                    refine xp_iast rfl (by first | assumption | exact hL.t rfl) (by omega) (by omega) ?_
                    refine xp_iload rfl rfl ?_
                    refine xp_ireturn rfl (by decide) (by decide) (by decide) ?_
                    exact ⟨_, rfl, u2⟩
                · exfalso; omega
              · exfalso; omega
            · exfalso; omega
          · omega
        · rw [if_neg hr0]
          refine xF_x (xF_p (Nat.le_of_ble_eq_true rfl) ?_)
          refine l145 (A := A) hL b3 q1 q2 hd b7 (by rw [g2]; exact hpl) (by rw [g2]; exact c2) b6 x1 x2 x3 (by omega) i6 hta (fun hz1 => ?_) (fun hz2 => ?_)
          · skip
            refine xp_iload_n rfl rfl ?_
            refine xp_bipush (n := 21) rfl (by decide) ?_
            refine xp_icne 119 rfl (by decide) (by omega) (by omega) (fun h107 => ?_) (fun h107 => ?_)
            · skip
              refine xp_iload_n rfl rfl ?_
              refine xp_bipush (n := 22) rfl (by decide) ?_
              refine xp_icne 131 rfl (by decide) (by omega) (by omega) (fun h122 => ?_) (fun h122 => ?_)
              · skip
                refine xp_iload_n rfl rfl ?_
                refine xp_bipush (n := 23) rfl (by decide) ?_
                refine xp_icne 143 rfl (by decide) (by omega) (by omega) (fun h134 => ?_) (fun h134 => ?_)
                · skip
                  refine xp_aload_n rfl rfl ?_
                  refine xp_iload_n rfl rfl ?_
                  refine xp_iload_n rfl rfl ?_
                  refine xp_iload rfl rfl ?_
                  refine xp_iload rfl rfl ?_
                  refine xp_iv rfl rfl (Nat.le_of_ble_eq_true rfl) (by decide) (by decide) (by decide) (Nat.le_of_ble_eq_true rfl) rfl (xrcv1 (by decide) (by first | assumption | exact hL.t rfl)) (z1) rfl ?_
                  refine xp_istore rfl (by decide) ?_
                  refine xp_iload rfl rfl ?_
                  refine xp_ifne 170 rfl (by decide) (by omega) (fun h157 => ?_) (fun h157 => ?_)
                  · skip
                    refine xp_iload rfl rfl ?_
                    refine xp_ireturn rfl (by decide) (by decide) (by decide) ?_
                    exact ⟨_, rfl, z2⟩
                  · exact absurd h157 hr0
                · exfalso; omega
              · exfalso; omega
            · exfalso; omega
          · omega
    · have hnd : aNeed A 11 a b = 2 := rfl
      by_cases hsz : A.1 f 3 < aNeed A 11 a b
      · rw [if_pos hsz]
        rw [hnd] at hsz
        refine xF_x (xF_p (Nat.le_of_ble_eq_true rfl) ?_)
        refine l145 (A := A) hL b3 q1 q2 hd b7 (by rw [g2]; exact hpl) (by rw [g2]; exact c2) b6 x1 x2 x3 (by omega) i6 hta (fun hz1 => ?_) (fun hz2 => ?_)
        · omega
        · exact ⟨_, rfl, hR⟩
      · rw [if_neg hsz]
        have hsz0 : aNeed A 11 a b ≤ A.1 f 3 := by omega
        rw [hnd] at hsz
        obtain ⟨B2, z1, z2⟩ := m144_11 (z := z) (a := a) (b := b) hL hc hR hT (by omega)
        obtain ⟨u1, u2⟩ := go _ _ (hpc hsz0 (by omega)) z2
        have hlt := aPl_lt w A f 11 a b
        show ∃ B2, xF 145 _ _ (.inr (some (.int (nI (aGoOn f (aPl w A f 11 a b)).1))), _) ∧ Rel w (aGoOn f (aPl w A f 11 a b)).2 B2
        generalize aPl w A f 11 a b = r at z1 z2 u1 u2 hlt
        unfold aGoOn
        by_cases hr0 : r.1 = 0
        · rw [if_pos hr0]
          refine xF_x (xF_p (Nat.le_of_ble_eq_true rfl) ?_)
          refine l145 (A := A) hL b3 q1 q2 hd b7 (by rw [g2]; exact hpl) (by rw [g2]; exact c2) b6 x1 x2 x3 (by omega) i6 hta (fun hz1 => ?_) (fun hz2 => ?_)
          · skip
            refine xp_iload_n rfl rfl ?_
            refine xp_bipush (n := 21) rfl (by decide) ?_
            refine xp_icne 119 rfl (by decide) (by omega) (by omega) (fun h107 => ?_) (fun h107 => ?_)
            · skip
              refine xp_iload_n rfl rfl ?_
              refine xp_bipush (n := 22) rfl (by decide) ?_
              refine xp_icne 131 rfl (by decide) (by omega) (by omega) (fun h122 => ?_) (fun h122 => ?_)
              · skip
                refine xp_iload_n rfl rfl ?_
                refine xp_bipush (n := 23) rfl (by decide) ?_
                refine xp_icne 143 rfl (by decide) (by omega) (by omega) (fun h134 => ?_) (fun h134 => ?_)
                · skip
                  refine xp_aload_n rfl rfl ?_
                  refine xp_iload_n rfl rfl ?_
                  refine xp_iload_n rfl rfl ?_
                  refine xp_iload rfl rfl ?_
                  refine xp_iload rfl rfl ?_
                  refine xp_iv rfl rfl (Nat.le_of_ble_eq_true rfl) (by decide) (by decide) (by decide) (Nat.le_of_ble_eq_true rfl) rfl (xrcv1 (by decide) (by first | assumption | exact hL.t rfl)) (z1) rfl ?_
                  refine xp_istore rfl (by decide) ?_
                  refine xp_iload rfl rfl ?_
                  refine xp_ifne 170 rfl (by decide) (by omega) (fun h157 => ?_) (fun h157 => ?_)
                  · exact absurd hr0 h157
                  · skip
                    refine xp_aload_n rfl rfl ?_
                    refine xp_gfa rfl rfl (by decide) (by decide) (by first | assumption | exact hL.t rfl) (by first | assumption | exact hL.r rfl | exact hL.2.2.2.2.2) ?_
                    refine xp_iload_n rfl rfl ?_
                    refine xp_dup2 rfl rfl rfl ?_
                    refine xp_iald rfl (by first | assumption | exact hL.t rfl) (by omega) (by omega) ?_
                    rw [u1]
                    refine xp_iconst (n := 1) rfl (by decide) ?_
                    refine xp_iadd rfl ?_
                    refine xp_iast rfl (by first | assumption | exact hL.t rfl) (by omega) (by omega) ?_
                    refine xp_iload rfl rfl ?_
                    refine xp_ireturn rfl (by decide) (by decide) (by decide) ?_
                    exact ⟨_, rfl, u2⟩
                · exfalso; omega
              · exfalso; omega
            · exfalso; omega
          · omega
        · rw [if_neg hr0]
          refine xF_x (xF_p (Nat.le_of_ble_eq_true rfl) ?_)
          refine l145 (A := A) hL b3 q1 q2 hd b7 (by rw [g2]; exact hpl) (by rw [g2]; exact c2) b6 x1 x2 x3 (by omega) i6 hta (fun hz1 => ?_) (fun hz2 => ?_)
          · skip
            refine xp_iload_n rfl rfl ?_
            refine xp_bipush (n := 21) rfl (by decide) ?_
            refine xp_icne 119 rfl (by decide) (by omega) (by omega) (fun h107 => ?_) (fun h107 => ?_)
            · skip
              refine xp_iload_n rfl rfl ?_
              refine xp_bipush (n := 22) rfl (by decide) ?_
              refine xp_icne 131 rfl (by decide) (by omega) (by omega) (fun h122 => ?_) (fun h122 => ?_)
              · skip
                refine xp_iload_n rfl rfl ?_
                refine xp_bipush (n := 23) rfl (by decide) ?_
                refine xp_icne 143 rfl (by decide) (by omega) (by omega) (fun h134 => ?_) (fun h134 => ?_)
                · skip
                  refine xp_aload_n rfl rfl ?_
                  refine xp_iload_n rfl rfl ?_
                  refine xp_iload_n rfl rfl ?_
                  refine xp_iload rfl rfl ?_
                  refine xp_iload rfl rfl ?_
                  refine xp_iv rfl rfl (Nat.le_of_ble_eq_true rfl) (by decide) (by decide) (by decide) (Nat.le_of_ble_eq_true rfl) rfl (xrcv1 (by decide) (by first | assumption | exact hL.t rfl)) (z1) rfl ?_
                  refine xp_istore rfl (by decide) ?_
                  refine xp_iload rfl rfl ?_
                  refine xp_ifne 170 rfl (by decide) (by omega) (fun h157 => ?_) (fun h157 => ?_)
                  · skip
                    refine xp_iload rfl rfl ?_
                    refine xp_ireturn rfl (by decide) (by decide) (by decide) ?_
                    exact ⟨_, rfl, z2⟩
                  · exact absurd h157 hr0
                · exfalso; omega
              · exfalso; omega
            · exfalso; omega
          · omega
    · have hnd : aNeed A 12 a b = 2 := rfl
      by_cases hsz : A.1 f 3 < aNeed A 12 a b
      · rw [if_pos hsz]
        rw [hnd] at hsz
        refine xF_x (xF_p (Nat.le_of_ble_eq_true rfl) ?_)
        refine l145 (A := A) hL b3 q1 q2 hd b7 (by rw [g2]; exact hpl) (by rw [g2]; exact c2) b6 x1 x2 x3 (by omega) i6 hta (fun hz1 => ?_) (fun hz2 => ?_)
        · omega
        · exact ⟨_, rfl, hR⟩
      · rw [if_neg hsz]
        have hsz0 : aNeed A 12 a b ≤ A.1 f 3 := by omega
        rw [hnd] at hsz
        obtain ⟨B2, z1, z2⟩ := m144_12 (z := z) (a := a) (b := b) hL hc hR hT (by omega)
        obtain ⟨u1, u2⟩ := go _ _ (hpc hsz0 (by omega)) z2
        have hlt := aPl_lt w A f 12 a b
        show ∃ B2, xF 145 _ _ (.inr (some (.int (nI (aGoOn f (aPl w A f 12 a b)).1))), _) ∧ Rel w (aGoOn f (aPl w A f 12 a b)).2 B2
        generalize aPl w A f 12 a b = r at z1 z2 u1 u2 hlt
        unfold aGoOn
        by_cases hr0 : r.1 = 0
        · rw [if_pos hr0]
          refine xF_x (xF_p (Nat.le_of_ble_eq_true rfl) ?_)
          refine l145 (A := A) hL b3 q1 q2 hd b7 (by rw [g2]; exact hpl) (by rw [g2]; exact c2) b6 x1 x2 x3 (by omega) i6 hta (fun hz1 => ?_) (fun hz2 => ?_)
          · skip
            refine xp_iload_n rfl rfl ?_
            refine xp_bipush (n := 21) rfl (by decide) ?_
            refine xp_icne 119 rfl (by decide) (by omega) (by omega) (fun h107 => ?_) (fun h107 => ?_)
            · skip
              refine xp_iload_n rfl rfl ?_
              refine xp_bipush (n := 22) rfl (by decide) ?_
              refine xp_icne 131 rfl (by decide) (by omega) (by omega) (fun h122 => ?_) (fun h122 => ?_)
              · skip
                refine xp_iload_n rfl rfl ?_
                refine xp_bipush (n := 23) rfl (by decide) ?_
                refine xp_icne 143 rfl (by decide) (by omega) (by omega) (fun h134 => ?_) (fun h134 => ?_)
                · skip
                  refine xp_aload_n rfl rfl ?_
                  refine xp_iload_n rfl rfl ?_
                  refine xp_iload_n rfl rfl ?_
                  refine xp_iload rfl rfl ?_
                  refine xp_iload rfl rfl ?_
                  refine xp_iv rfl rfl (Nat.le_of_ble_eq_true rfl) (by decide) (by decide) (by decide) (Nat.le_of_ble_eq_true rfl) rfl (xrcv1 (by decide) (by first | assumption | exact hL.t rfl)) (z1) rfl ?_
                  refine xp_istore rfl (by decide) ?_
                  refine xp_iload rfl rfl ?_
                  refine xp_ifne 170 rfl (by decide) (by omega) (fun h157 => ?_) (fun h157 => ?_)
                  · exact absurd hr0 h157
                  · skip
                    refine xp_aload_n rfl rfl ?_
                    refine xp_gfa rfl rfl (by decide) (by decide) (by first | assumption | exact hL.t rfl) (by first | assumption | exact hL.r rfl | exact hL.2.2.2.2.2) ?_
                    refine xp_iload_n rfl rfl ?_
                    refine xp_dup2 rfl rfl rfl ?_
                    refine xp_iald rfl (by first | assumption | exact hL.t rfl) (by omega) (by omega) ?_
                    rw [u1]
                    refine xp_iconst (n := 1) rfl (by decide) ?_
                    refine xp_iadd rfl ?_
                    refine xp_iast rfl (by first | assumption | exact hL.t rfl) (by omega) (by omega) ?_
                    refine xp_iload rfl rfl ?_
                    refine xp_ireturn rfl (by decide) (by decide) (by decide) ?_
                    exact ⟨_, rfl, u2⟩
                · exfalso; omega
              · exfalso; omega
            · exfalso; omega
          · omega
        · rw [if_neg hr0]
          refine xF_x (xF_p (Nat.le_of_ble_eq_true rfl) ?_)
          refine l145 (A := A) hL b3 q1 q2 hd b7 (by rw [g2]; exact hpl) (by rw [g2]; exact c2) b6 x1 x2 x3 (by omega) i6 hta (fun hz1 => ?_) (fun hz2 => ?_)
          · skip
            refine xp_iload_n rfl rfl ?_
            refine xp_bipush (n := 21) rfl (by decide) ?_
            refine xp_icne 119 rfl (by decide) (by omega) (by omega) (fun h107 => ?_) (fun h107 => ?_)
            · skip
              refine xp_iload_n rfl rfl ?_
              refine xp_bipush (n := 22) rfl (by decide) ?_
              refine xp_icne 131 rfl (by decide) (by omega) (by omega) (fun h122 => ?_) (fun h122 => ?_)
              · skip
                refine xp_iload_n rfl rfl ?_
                refine xp_bipush (n := 23) rfl (by decide) ?_
                refine xp_icne 143 rfl (by decide) (by omega) (by omega) (fun h134 => ?_) (fun h134 => ?_)
                · skip
                  refine xp_aload_n rfl rfl ?_
                  refine xp_iload_n rfl rfl ?_
                  refine xp_iload_n rfl rfl ?_
                  refine xp_iload rfl rfl ?_
                  refine xp_iload rfl rfl ?_
                  refine xp_iv rfl rfl (Nat.le_of_ble_eq_true rfl) (by decide) (by decide) (by decide) (Nat.le_of_ble_eq_true rfl) rfl (xrcv1 (by decide) (by first | assumption | exact hL.t rfl)) (z1) rfl ?_
                  refine xp_istore rfl (by decide) ?_
                  refine xp_iload rfl rfl ?_
                  refine xp_ifne 170 rfl (by decide) (by omega) (fun h157 => ?_) (fun h157 => ?_)
                  · skip
                    refine xp_iload rfl rfl ?_
                    refine xp_ireturn rfl (by decide) (by decide) (by decide) ?_
                    exact ⟨_, rfl, z2⟩
                  · exact absurd h157 hr0
                · exfalso; omega
              · exfalso; omega
            · exfalso; omega
          · omega
    · have hnd : aNeed A 13 a b = 2 := rfl
      by_cases hsz : A.1 f 3 < aNeed A 13 a b
      · rw [if_pos hsz]
        rw [hnd] at hsz
        refine xF_x (xF_p (Nat.le_of_ble_eq_true rfl) ?_)
        refine l145 (A := A) hL b3 q1 q2 hd b7 (by rw [g2]; exact hpl) (by rw [g2]; exact c2) b6 x1 x2 x3 (by omega) i6 hta (fun hz1 => ?_) (fun hz2 => ?_)
        · omega
        · exact ⟨_, rfl, hR⟩
      · rw [if_neg hsz]
        have hsz0 : aNeed A 13 a b ≤ A.1 f 3 := by omega
        rw [hnd] at hsz
        obtain ⟨B2, z1, z2⟩ := m144_13 (z := z) (a := a) (b := b) hL hc hR hT (by omega)
        obtain ⟨u1, u2⟩ := go _ _ (hpc hsz0 (by omega)) z2
        have hlt := aPl_lt w A f 13 a b
        show ∃ B2, xF 145 _ _ (.inr (some (.int (nI (aGoOn f (aPl w A f 13 a b)).1))), _) ∧ Rel w (aGoOn f (aPl w A f 13 a b)).2 B2
        generalize aPl w A f 13 a b = r at z1 z2 u1 u2 hlt
        unfold aGoOn
        by_cases hr0 : r.1 = 0
        · rw [if_pos hr0]
          refine xF_x (xF_p (Nat.le_of_ble_eq_true rfl) ?_)
          refine l145 (A := A) hL b3 q1 q2 hd b7 (by rw [g2]; exact hpl) (by rw [g2]; exact c2) b6 x1 x2 x3 (by omega) i6 hta (fun hz1 => ?_) (fun hz2 => ?_)
          · skip
            refine xp_iload_n rfl rfl ?_
            refine xp_bipush (n := 21) rfl (by decide) ?_
            refine xp_icne 119 rfl (by decide) (by omega) (by omega) (fun h107 => ?_) (fun h107 => ?_)
            · skip
              refine xp_iload_n rfl rfl ?_
              refine xp_bipush (n := 22) rfl (by decide) ?_
              refine xp_icne 131 rfl (by decide) (by omega) (by omega) (fun h122 => ?_) (fun h122 => ?_)
              · skip
                refine xp_iload_n rfl rfl ?_
                refine xp_bipush (n := 23) rfl (by decide) ?_
                refine xp_icne 143 rfl (by decide) (by omega) (by omega) (fun h134 => ?_) (fun h134 => ?_)
                · skip
                  refine xp_aload_n rfl rfl ?_
                  refine xp_iload_n rfl rfl ?_
                  refine xp_iload_n rfl rfl ?_
                  refine xp_iload rfl rfl ?_
                  refine xp_iload rfl rfl ?_
                  refine xp_iv rfl rfl (Nat.le_of_ble_eq_true rfl) (by decide) (by decide) (by decide) (Nat.le_of_ble_eq_true rfl) rfl (xrcv1 (by decide) (by first | assumption | exact hL.t rfl)) (z1) rfl ?_
                  refine xp_istore rfl (by decide) ?_
                  refine xp_iload rfl rfl ?_
                  refine xp_ifne 170 rfl (by decide) (by omega) (fun h157 => ?_) (fun h157 => ?_)
                  · exact absurd hr0 h157
                  · skip
                    refine xp_aload_n rfl rfl ?_
                    refine xp_gfa rfl rfl (by decide) (by decide) (by first | assumption | exact hL.t rfl) (by first | assumption | exact hL.r rfl | exact hL.2.2.2.2.2) ?_
                    refine xp_iload_n rfl rfl ?_
                    refine xp_dup2 rfl rfl rfl ?_
                    refine xp_iald rfl (by first | assumption | exact hL.t rfl) (by omega) (by omega) ?_
                    rw [u1]
                    refine xp_iconst (n := 1) rfl (by decide) ?_
                    refine xp_iadd rfl ?_
                    refine xp_iast rfl (by first | assumption | exact hL.t rfl) (by omega) (by omega) ?_
                    refine xp_iload rfl rfl ?_
                    refine xp_ireturn rfl (by decide) (by decide) (by decide) ?_
                    exact ⟨_, rfl, u2⟩
                · exfalso; omega
              · exfalso; omega
            · exfalso; omega
          · omega
        · rw [if_neg hr0]
          refine xF_x (xF_p (Nat.le_of_ble_eq_true rfl) ?_)
          refine l145 (A := A) hL b3 q1 q2 hd b7 (by rw [g2]; exact hpl) (by rw [g2]; exact c2) b6 x1 x2 x3 (by omega) i6 hta (fun hz1 => ?_) (fun hz2 => ?_)
          · skip
            refine xp_iload_n rfl rfl ?_
            refine xp_bipush (n := 21) rfl (by decide) ?_
            refine xp_icne 119 rfl (by decide) (by omega) (by omega) (fun h107 => ?_) (fun h107 => ?_)
            · skip
              refine xp_iload_n rfl rfl ?_
              refine xp_bipush (n := 22) rfl (by decide) ?_
              refine xp_icne 131 rfl (by decide) (by omega) (by omega) (fun h122 => ?_) (fun h122 => ?_)
              · skip
                refine xp_iload_n rfl rfl ?_
                refine xp_bipush (n := 23) rfl (by decide) ?_
                refine xp_icne 143 rfl (by decide) (by omega) (by omega) (fun h134 => ?_) (fun h134 => ?_)
                · skip
                  refine xp_aload_n rfl rfl ?_
                  refine xp_iload_n rfl rfl ?_
                  refine xp_iload_n rfl rfl ?_
                  refine xp_iload rfl rfl ?_
                  refine xp_iload rfl rfl ?_
                  refine xp_iv rfl rfl (Nat.le_of_ble_eq_true rfl) (by decide) (by decide) (by decide) (Nat.le_of_ble_eq_true rfl) rfl (xrcv1 (by decide) (by first | assumption | exact hL.t rfl)) (z1) rfl ?_
                  refine xp_istore rfl (by decide) ?_
                  refine xp_iload rfl rfl ?_
                  refine xp_ifne 170 rfl (by decide) (by omega) (fun h157 => ?_) (fun h157 => ?_)
                  · skip
                    refine xp_iload rfl rfl ?_
                    refine xp_ireturn rfl (by decide) (by decide) (by decide) ?_
                    exact ⟨_, rfl, z2⟩
                  · exact absurd h157 hr0
                · exfalso; omega
              · exfalso; omega
            · exfalso; omega
          · omega
    · have hnd : aNeed A 14 a b = 0 := rfl
      · have hsz : ¬ A.1 f 3 < aNeed A 14 a b := by rw [hnd]; omega
        rw [if_neg hsz]
        have hsz0 : aNeed A 14 a b ≤ A.1 f 3 := by omega
        rw [hnd] at hsz
        show ∃ B2, xF 145 _ _ (.inr (some (.int (nI 0))), _) ∧ Rel w (xsI A f 2 b) B2
        have hfin := hR.place (p := b) hc hT
        have z1 := m144_14 (z := z) (B := B) (a := a) (b := b) hL b3
        have e3 : (xsI B 203 m (b + 4294967295)).1 203 m = b + 4294967295 := xsI_eq
        have e4 : nI (b + 4294967295 + 1) = nI b := nI_wrap b
        refine xF_x (xF_p (Nat.le_of_ble_eq_true rfl) ?_)
        refine l145 (A := A) hL b3 q1 q2 hd b7 (by rw [g2]; exact hpl) (by rw [g2]; exact c2) b6 x1 x2 x3 (by omega) i6 hta (fun hz1 => ?_) (fun hz2 => ?_)
        · skip
          refine xp_iload_n rfl rfl ?_
          refine xp_bipush (n := 21) rfl (by decide) ?_
          refine xp_icne 119 rfl (by decide) (by omega) (by omega) (fun h107 => ?_) (fun h107 => ?_)
          · skip
            refine xp_iload_n rfl rfl ?_
            refine xp_bipush (n := 22) rfl (by decide) ?_
            refine xp_icne 131 rfl (by decide) (by omega) (by omega) (fun h122 => ?_) (fun h122 => ?_)
            · skip
              refine xp_iload_n rfl rfl ?_
              refine xp_bipush (n := 23) rfl (by decide) ?_
              refine xp_icne 143 rfl (by decide) (by omega) (by omega) (fun h134 => ?_) (fun h134 => ?_)
              · skip
                refine xp_aload_n rfl rfl ?_
                refine xp_iload_n rfl rfl ?_
                refine xp_iload_n rfl rfl ?_
                refine xp_iload rfl rfl ?_
                refine xp_iload rfl rfl ?_
                refine xp_iv rfl rfl (Nat.le_of_ble_eq_true rfl) (by decide) (by decide) (by decide) (Nat.le_of_ble_eq_true rfl) rfl (xrcv1 (by decide) (by first | assumption | exact hL.t rfl)) (z1) rfl ?_
                refine xp_istore rfl (by decide) ?_
                refine xp_iload rfl rfl ?_
                refine xp_ifne 170 rfl (by decide) (by omega) (fun h157 => ?_) (fun h157 => ?_)
                · exfalso; omega
                · skip
                  refine xp_aload_n rfl rfl ?_
                  refine xp_gfa rfl rfl (by decide) (by decide) (by first | assumption | exact hL.t rfl) (by first | assumption | exact hL.r rfl | exact hL.2.2.2.2.2) ?_
                  refine xp_iload_n rfl rfl ?_
                  refine xp_dup2 rfl rfl rfl ?_
                  refine xp_iald rfl (by first | assumption | exact hL.t rfl) (by omega) (by omega) ?_
                  rw [e3]
                  refine xp_iconst (n := 1) rfl (by decide) ?_
                  refine xp_iadd rfl ?_
                  rw [e4]
                  refine xp_iast rfl (by first | assumption | exact hL.t rfl) (by omega) (by omega) ?_
                  rw [xsI_same]
                  refine xp_iload rfl rfl ?_
                  refine xp_ireturn rfl (by decide) (by decide) (by decide) ?_
                  exact ⟨_, rfl, hfin⟩
              · exfalso; omega
            · exfalso; omega
          · exfalso; omega
        · omega
    · have hnd : aNeed A 15 a b = 1 := rfl
      by_cases hsz : A.1 f 3 < aNeed A 15 a b
      · rw [if_pos hsz]
        rw [hnd] at hsz
        refine xF_x (xF_p (Nat.le_of_ble_eq_true rfl) ?_)
        refine l145 (A := A) hL b3 q1 q2 hd b7 (by rw [g2]; exact hpl) (by rw [g2]; exact c2) b6 x1 x2 x3 (by omega) i6 hta (fun hz1 => ?_) (fun hz2 => ?_)
        · omega
        · exact ⟨_, rfl, hR⟩
      · rw [if_neg hsz]
        have hsz0 : aNeed A 15 a b ≤ A.1 f 3 := by omega
        rw [hnd] at hsz
        obtain ⟨d0, y1, y2⟩ := hT.y hR (by omega)
        have ky := hk.c (c := 4 + A.1 f 3) (by omega)
        show ∃ B2, xF 145 _ _ (.inr (some (.int (nI (aBranch A f b).1))), _) ∧ Rel w (aBranch A f b).2 B2
        unfold aBranch
        by_cases hq : A.1 (f + 2) (4 + A.1 f 3) = 1
        · rw [if_pos hq]
          have e5 : ∀ p, (xsI B 203 m p).1 205 m = B.1 205 m := fun p => xsI_ne (by omega)
          have hplc : ∀ p, p ≤ 31 → Rel w (aPop (xsI A f 2 p) f 1) (xsI (xsI B 203 m p) 205 m (B.1 205 m - 1)) := fun p hp => by
            have u1 := hR.place (p := p) hc hT
            obtain ⟨u2, _, u3⟩ := hc.opf (r := (0, xsI A f 2 p)) ht hT.2.1 hT.2.2.1 ⟨(AgF.refl f A).i, hk.place (by omega) hp⟩
            have u4 : Top w (xsI A f 2 p) t k f m := ⟨by rw [xsI_ne (Or.inl (by omega))]; exact ht, by rw [u3]; exact hT.2.1, hT.2.2⟩
            have u5 := u1.pop (n := 1) u2 u4
            rw [e5] at u5
            exact u5
          have ecm : ∀ p q u, xsI (xsI (xsI B 203 m p) 205 m u) 203 m q = xsI (xsI B 203 m q) 205 m u := fun p q u => xsI_swap
          have ecm2 : ∀ q u, xsI (xsI B 205 m u) 203 m q = xsI (xsI B 203 m q) 205 m u := fun q u => xsI_swap2
          by_cases hz : A.2 (f + 3) (4 + A.1 f 3) = 0
          · rw [if_pos hz]
            have z1 := m144_15n (z := z) (B := B) (a := a) (b := b) hL b3 (by omega) (by omega) (by rw [y1]; exact hq) (by rw [y2]; exact hz)
            have hfin := hplc (A.1 f 2 + 1) (by omega)
            have e3 : (xsI B 205 m (B.1 205 m - 1)).1 203 m = A.1 f 2 := by rw [xsI_ne (by omega)]; exact q2
            refine xF_x (xF_p (Nat.le_of_ble_eq_true rfl) ?_)
            refine l145 (A := A) hL b3 q1 q2 hd b7 (by rw [g2]; exact hpl) (by rw [g2]; exact c2) b6 x1 x2 x3 (by omega) i6 hta (fun hz1 => ?_) (fun hz2 => ?_)
            · skip
              refine xp_iload_n rfl rfl ?_
              refine xp_bipush (n := 21) rfl (by decide) ?_
              refine xp_icne 119 rfl (by decide) (by omega) (by omega) (fun h107 => ?_) (fun h107 => ?_)
              · skip
                refine xp_iload_n rfl rfl ?_
                refine xp_bipush (n := 22) rfl (by decide) ?_
                refine xp_icne 131 rfl (by decide) (by omega) (by omega) (fun h122 => ?_) (fun h122 => ?_)
                · skip
                  refine xp_iload_n rfl rfl ?_
                  refine xp_bipush (n := 23) rfl (by decide) ?_
                  refine xp_icne 143 rfl (by decide) (by omega) (by omega) (fun h134 => ?_) (fun h134 => ?_)
                  · skip
                    refine xp_aload_n rfl rfl ?_
                    refine xp_iload_n rfl rfl ?_
                    refine xp_iload_n rfl rfl ?_
                    refine xp_iload rfl rfl ?_
                    refine xp_iload rfl rfl ?_
                    refine xp_iv rfl rfl (Nat.le_of_ble_eq_true rfl) (by decide) (by decide) (by decide) (Nat.le_of_ble_eq_true rfl) rfl (xrcv1 (by decide) (by first | assumption | exact hL.t rfl)) (z1) rfl ?_
                    refine xp_istore rfl (by decide) ?_
                    refine xp_iload rfl rfl ?_
                    refine xp_ifne 170 rfl (by decide) (by omega) (fun h157 => ?_) (fun h157 => ?_)
                    · exfalso; omega
                    · skip
                      refine xp_aload_n rfl rfl ?_
                      refine xp_gfa rfl rfl (by decide) (by decide) (by first | assumption | exact hL.t rfl) (by first | assumption | exact hL.r rfl | exact hL.2.2.2.2.2) ?_
                      refine xp_iload_n rfl rfl ?_
                      refine xp_dup2 rfl rfl rfl ?_
                      refine xp_iald rfl (by first | assumption | exact hL.t rfl) (by omega) (by omega) ?_
                      rw [e3]
                      refine xp_iconst (n := 1) rfl (by decide) ?_
                      refine xp_iadd rfl ?_
                      refine xp_iast rfl (by first | assumption | exact hL.t rfl) (by omega) (by omega) ?_
                      rw [ecm2]
                      refine xp_iload rfl rfl ?_
                      refine xp_ireturn rfl (by decide) (by decide) (by decide) ?_
                      exact ⟨_, rfl, hfin⟩
                  · exfalso; omega
                · exfalso; omega
              · exfalso; omega
            · omega
          · rw [if_neg hz]
            have z1 := m144_15y (z := z) (B := B) (a := a) (b := b) hL b3 (by omega) (by omega) (by rw [y1]; exact hq) (by rw [y2]; exact hz)
            have hfin := hplc b (by have := i5 (by omega); omega)
            have e3 : (xsI (xsI B 203 m (b + 4294967295)) 205 m (B.1 205 m - 1)).1 203 m = b + 4294967295 := by rw [xsI_ne (by omega), xsI_eq]
            have e4 : nI (b + 4294967295 + 1) = nI b := nI_wrap b
            refine xF_x (xF_p (Nat.le_of_ble_eq_true rfl) ?_)
            refine l145 (A := A) hL b3 q1 q2 hd b7 (by rw [g2]; exact hpl) (by rw [g2]; exact c2) b6 x1 x2 x3 (by omega) i6 hta (fun hz1 => ?_) (fun hz2 => ?_)
            · skip
              refine xp_iload_n rfl rfl ?_
              refine xp_bipush (n := 21) rfl (by decide) ?_
              refine xp_icne 119 rfl (by decide) (by omega) (by omega) (fun h107 => ?_) (fun h107 => ?_)
              · skip
                refine xp_iload_n rfl rfl ?_
                refine xp_bipush (n := 22) rfl (by decide) ?_
                refine xp_icne 131 rfl (by decide) (by omega) (by omega) (fun h122 => ?_) (fun h122 => ?_)
                · skip
                  refine xp_iload_n rfl rfl ?_
                  refine xp_bipush (n := 23) rfl (by decide) ?_
                  refine xp_icne 143 rfl (by decide) (by omega) (by omega) (fun h134 => ?_) (fun h134 => ?_)
                  · skip
                    refine xp_aload_n rfl rfl ?_
                    refine xp_iload_n rfl rfl ?_
                    refine xp_iload_n rfl rfl ?_
                    refine xp_iload rfl rfl ?_
                    refine xp_iload rfl rfl ?_
                    refine xp_iv rfl rfl (Nat.le_of_ble_eq_true rfl) (by decide) (by decide) (by decide) (Nat.le_of_ble_eq_true rfl) rfl (xrcv1 (by decide) (by first | assumption | exact hL.t rfl)) (z1) rfl ?_
                    refine xp_istore rfl (by decide) ?_
                    refine xp_iload rfl rfl ?_
                    refine xp_ifne 170 rfl (by decide) (by omega) (fun h157 => ?_) (fun h157 => ?_)
                    · exfalso; omega
                    · skip
                      refine xp_aload_n rfl rfl ?_
                      refine xp_gfa rfl rfl (by decide) (by decide) (by first | assumption | exact hL.t rfl) (by first | assumption | exact hL.r rfl | exact hL.2.2.2.2.2) ?_
                      refine xp_iload_n rfl rfl ?_
                      refine xp_dup2 rfl rfl rfl ?_
                      refine xp_iald rfl (by first | assumption | exact hL.t rfl) (by omega) (by omega) ?_
                      rw [e3]
                      refine xp_iconst (n := 1) rfl (by decide) ?_
                      refine xp_iadd rfl ?_
                      rw [e4]
                      refine xp_iast rfl (by first | assumption | exact hL.t rfl) (by omega) (by omega) ?_
                      rw [ecm]
                      refine xp_iload rfl rfl ?_
                      refine xp_ireturn rfl (by decide) (by decide) (by decide) ?_
                      exact ⟨_, rfl, hfin⟩
                  · exfalso; omega
                · exfalso; omega
              · exfalso; omega
            · omega
        · rw [if_neg hq]
          have z1 := m144_15e (z := z) (B := B) (a := a) (b := b) hL b3 (by rw [y1]; omega) (by omega) (by rw [y1]; exact hq)
          refine xF_x (xF_p (Nat.le_of_ble_eq_true rfl) ?_)
          refine l145 (A := A) hL b3 q1 q2 hd b7 (by rw [g2]; exact hpl) (by rw [g2]; exact c2) b6 x1 x2 x3 (by omega) i6 hta (fun hz1 => ?_) (fun hz2 => ?_)
          · skip
            refine xp_iload_n rfl rfl ?_
            refine xp_bipush (n := 21) rfl (by decide) ?_
            refine xp_icne 119 rfl (by decide) (by omega) (by omega) (fun h107 => ?_) (fun h107 => ?_)
            · skip
              refine xp_iload_n rfl rfl ?_
              refine xp_bipush (n := 22) rfl (by decide) ?_
              refine xp_icne 131 rfl (by decide) (by omega) (by omega) (fun h122 => ?_) (fun h122 => ?_)
              · skip
                refine xp_iload_n rfl rfl ?_
                refine xp_bipush (n := 23) rfl (by decide) ?_
                refine xp_icne 143 rfl (by decide) (by omega) (by omega) (fun h134 => ?_) (fun h134 => ?_)
                · skip
                  refine xp_aload_n rfl rfl ?_
                  refine xp_iload_n rfl rfl ?_
                  refine xp_iload_n rfl rfl ?_
                  refine xp_iload rfl rfl ?_
                  refine xp_iload rfl rfl ?_
                  refine xp_iv rfl rfl (Nat.le_of_ble_eq_true rfl) (by decide) (by decide) (by decide) (Nat.le_of_ble_eq_true rfl) rfl (xrcv1 (by decide) (by first | assumption | exact hL.t rfl)) (z1) rfl ?_
                  refine xp_istore rfl (by decide) ?_
                  refine xp_iload rfl rfl ?_
                  refine xp_ifne 170 rfl (by decide) (by omega) (fun h157 => ?_) (fun h157 => ?_)
                  · skip
                    refine xp_iload rfl rfl ?_
                    refine xp_ireturn rfl (by decide) (by decide) (by decide) ?_
                    exact ⟨_, rfl, hR⟩
                  · exfalso; omega
                · exfalso; omega
              · exfalso; omega
            · exfalso; omega
          · omega
    · have hnd : aNeed A 16 a b = 0 := rfl
      · have hsz : ¬ A.1 f 3 < aNeed A 16 a b := by rw [hnd]; omega
        rw [if_neg hsz]
        have hsz0 : aNeed A 16 a b ≤ A.1 f 3 := by omega
        rw [hnd] at hsz
        obtain ⟨B2, z1, z2⟩ := m144_16 (z := z) (a := a) (b := b) hL hc hR hT
        obtain ⟨u1, u2⟩ := go _ _ (hpc hsz0 (by omega)) z2
        have hlt := aPl_lt w A f 16 a b
        show ∃ B2, xF 145 _ _ (.inr (some (.int (nI (aGoOn f (aPl w A f 16 a b)).1))), _) ∧ Rel w (aGoOn f (aPl w A f 16 a b)).2 B2
        generalize aPl w A f 16 a b = r at z1 z2 u1 u2 hlt
        unfold aGoOn
        by_cases hr0 : r.1 = 0
        · rw [if_pos hr0]
          refine xF_x (xF_p (Nat.le_of_ble_eq_true rfl) ?_)
          refine l145 (A := A) hL b3 q1 q2 hd b7 (by rw [g2]; exact hpl) (by rw [g2]; exact c2) b6 x1 x2 x3 (by omega) i6 hta (fun hz1 => ?_) (fun hz2 => ?_)
          · skip
            refine xp_iload_n rfl rfl ?_
            refine xp_bipush (n := 21) rfl (by decide) ?_
            refine xp_icne 119 rfl (by decide) (by omega) (by omega) (fun h107 => ?_) (fun h107 => ?_)
            · skip
              refine xp_iload_n rfl rfl ?_
              refine xp_bipush (n := 22) rfl (by decide) ?_
              refine xp_icne 131 rfl (by decide) (by omega) (by omega) (fun h122 => ?_) (fun h122 => ?_)
              · skip
                refine xp_iload_n rfl rfl ?_
                refine xp_bipush (n := 23) rfl (by decide) ?_
                refine xp_icne 143 rfl (by decide) (by omega) (by omega) (fun h134 => ?_) (fun h134 => ?_)
                · skip
                  refine xp_aload_n rfl rfl ?_
                  refine xp_iload_n rfl rfl ?_
                  refine xp_iload_n rfl rfl ?_
                  refine xp_iload rfl rfl ?_
                  refine xp_iload rfl rfl ?_
                  refine xp_iv rfl rfl (Nat.le_of_ble_eq_true rfl) (by decide) (by decide) (by decide) (Nat.le_of_ble_eq_true rfl) rfl (xrcv1 (by decide) (by first | assumption | exact hL.t rfl)) (z1) rfl ?_
                  refine xp_istore rfl (by decide) ?_
                  refine xp_iload rfl rfl ?_
                  refine xp_ifne 170 rfl (by decide) (by omega) (fun h157 => ?_) (fun h157 => ?_)
                  · exact absurd hr0 h157
                  · skip
                    refine xp_aload_n rfl rfl ?_
                    refine xp_gfa rfl rfl (by decide) (by decide) (by first | assumption | exact hL.t rfl) (by first | assumption | exact hL.r rfl | exact hL.2.2.2.2.2) ?_
                    refine xp_iload_n rfl rfl ?_
                    refine xp_dup2 rfl rfl rfl ?_
                    refine xp_iald rfl (by first | assumption | exact hL.t rfl) (by omega) (by omega) ?_
                    rw [u1]
                    refine xp_iconst (n := 1) rfl (by decide) ?_
                    refine xp_iadd rfl ?_
                    refine xp_iast rfl (by first | assumption | exact hL.t rfl) (by omega) (by omega) ?_
                    refine xp_iload rfl rfl ?_
                    refine xp_ireturn rfl (by decide) (by decide) (by decide) ?_
                    exact ⟨_, rfl, u2⟩
                · exfalso; omega
              · exfalso; omega
            · exfalso; omega
          · omega
        · rw [if_neg hr0]
          refine xF_x (xF_p (Nat.le_of_ble_eq_true rfl) ?_)
          refine l145 (A := A) hL b3 q1 q2 hd b7 (by rw [g2]; exact hpl) (by rw [g2]; exact c2) b6 x1 x2 x3 (by omega) i6 hta (fun hz1 => ?_) (fun hz2 => ?_)
          · skip
            refine xp_iload_n rfl rfl ?_
            refine xp_bipush (n := 21) rfl (by decide) ?_
            refine xp_icne 119 rfl (by decide) (by omega) (by omega) (fun h107 => ?_) (fun h107 => ?_)
            · skip
              refine xp_iload_n rfl rfl ?_
              refine xp_bipush (n := 22) rfl (by decide) ?_
              refine xp_icne 131 rfl (by decide) (by omega) (by omega) (fun h122 => ?_) (fun h122 => ?_)
              · skip
                refine xp_iload_n rfl rfl ?_
                refine xp_bipush (n := 23) rfl (by decide) ?_
                refine xp_icne 143 rfl (by decide) (by omega) (by omega) (fun h134 => ?_) (fun h134 => ?_)
                · skip
                  refine xp_aload_n rfl rfl ?_
                  refine xp_iload_n rfl rfl ?_
                  refine xp_iload_n rfl rfl ?_
                  refine xp_iload rfl rfl ?_
                  refine xp_iload rfl rfl ?_
                  refine xp_iv rfl rfl (Nat.le_of_ble_eq_true rfl) (by decide) (by decide) (by decide) (Nat.le_of_ble_eq_true rfl) rfl (xrcv1 (by decide) (by first | assumption | exact hL.t rfl)) (z1) rfl ?_
                  refine xp_istore rfl (by decide) ?_
                  refine xp_iload rfl rfl ?_
                  refine xp_ifne 170 rfl (by decide) (by omega) (fun h157 => ?_) (fun h157 => ?_)
                  · skip
                    refine xp_iload rfl rfl ?_
                    refine xp_ireturn rfl (by decide) (by decide) (by decide) ?_
                    exact ⟨_, rfl, z2⟩
                  · exact absurd h157 hr0
                · exfalso; omega
              · exfalso; omega
            · exfalso; omega
          · omega
    · have hnd : aNeed A 17 a b = 1 := rfl
      by_cases hsz : A.1 f 3 < aNeed A 17 a b
      · rw [if_pos hsz]
        rw [hnd] at hsz
        refine xF_x (xF_p (Nat.le_of_ble_eq_true rfl) ?_)
        refine l145 (A := A) hL b3 q1 q2 hd b7 (by rw [g2]; exact hpl) (by rw [g2]; exact c2) b6 x1 x2 x3 (by omega) i6 hta (fun hz1 => ?_) (fun hz2 => ?_)
        · omega
        · exact ⟨_, rfl, hR⟩
      · rw [if_neg hsz]
        have hsz0 : aNeed A 17 a b ≤ A.1 f 3 := by omega
        rw [hnd] at hsz
        obtain ⟨B2, z1, z2⟩ := m144_17 (z := z) (a := a) (b := b) hL hc hR hT (by omega) (i2 (by omega))
        obtain ⟨u1, u2⟩ := go _ _ (hpc hsz0 (by omega)) z2
        have hlt := aPl_lt w A f 17 a b
        show ∃ B2, xF 145 _ _ (.inr (some (.int (nI (aGoOn f (aPl w A f 17 a b)).1))), _) ∧ Rel w (aGoOn f (aPl w A f 17 a b)).2 B2
        generalize aPl w A f 17 a b = r at z1 z2 u1 u2 hlt
        unfold aGoOn
        by_cases hr0 : r.1 = 0
        · rw [if_pos hr0]
          refine xF_x (xF_p (Nat.le_of_ble_eq_true rfl) ?_)
          refine l145 (A := A) hL b3 q1 q2 hd b7 (by rw [g2]; exact hpl) (by rw [g2]; exact c2) b6 x1 x2 x3 (by omega) i6 hta (fun hz1 => ?_) (fun hz2 => ?_)
          · skip
            refine xp_iload_n rfl rfl ?_
            refine xp_bipush (n := 21) rfl (by decide) ?_
            refine xp_icne 119 rfl (by decide) (by omega) (by omega) (fun h107 => ?_) (fun h107 => ?_)
            · skip
              refine xp_iload_n rfl rfl ?_
              refine xp_bipush (n := 22) rfl (by decide) ?_
              refine xp_icne 131 rfl (by decide) (by omega) (by omega) (fun h122 => ?_) (fun h122 => ?_)
              · skip
                refine xp_iload_n rfl rfl ?_
                refine xp_bipush (n := 23) rfl (by decide) ?_
                refine xp_icne 143 rfl (by decide) (by omega) (by omega) (fun h134 => ?_) (fun h134 => ?_)
                · skip
                  refine xp_aload_n rfl rfl ?_
                  refine xp_iload_n rfl rfl ?_
                  refine xp_iload_n rfl rfl ?_
                  refine xp_iload rfl rfl ?_
                  refine xp_iload rfl rfl ?_
                  refine xp_iv rfl rfl (Nat.le_of_ble_eq_true rfl) (by decide) (by decide) (by decide) (Nat.le_of_ble_eq_true rfl) rfl (xrcv1 (by decide) (by first | assumption | exact hL.t rfl)) (z1) rfl ?_
                  refine xp_istore rfl (by decide) ?_
                  refine xp_iload rfl rfl ?_
                  refine xp_ifne 170 rfl (by decide) (by omega) (fun h157 => ?_) (fun h157 => ?_)
                  · exact absurd hr0 h157
                  · skip
                    refine xp_aload_n rfl rfl ?_
                    refine xp_gfa rfl rfl (by decide) (by decide) (by first | assumption | exact hL.t rfl) (by first | assumption | exact hL.r rfl | exact hL.2.2.2.2.2) ?_
                    refine xp_iload_n rfl rfl ?_
                    refine xp_dup2 rfl rfl rfl ?_
                    refine xp_iald rfl (by first | assumption | exact hL.t rfl) (by omega) (by omega) ?_
                    rw [u1]
                    refine xp_iconst (n := 1) rfl (by decide) ?_
                    refine xp_iadd rfl ?_
                    refine xp_iast rfl (by first | assumption | exact hL.t rfl) (by omega) (by omega) ?_
                    refine xp_iload rfl rfl ?_
                    refine xp_ireturn rfl (by decide) (by decide) (by decide) ?_
                    exact ⟨_, rfl, u2⟩
                · exfalso; omega
              · exfalso; omega
            · exfalso; omega
          · omega
        · rw [if_neg hr0]
          refine xF_x (xF_p (Nat.le_of_ble_eq_true rfl) ?_)
          refine l145 (A := A) hL b3 q1 q2 hd b7 (by rw [g2]; exact hpl) (by rw [g2]; exact c2) b6 x1 x2 x3 (by omega) i6 hta (fun hz1 => ?_) (fun hz2 => ?_)
          · skip
            refine xp_iload_n rfl rfl ?_
            refine xp_bipush (n := 21) rfl (by decide) ?_
            refine xp_icne 119 rfl (by decide) (by omega) (by omega) (fun h107 => ?_) (fun h107 => ?_)
            · skip
              refine xp_iload_n rfl rfl ?_
              refine xp_bipush (n := 22) rfl (by decide) ?_
              refine xp_icne 131 rfl (by decide) (by omega) (by omega) (fun h122 => ?_) (fun h122 => ?_)
              · skip
                refine xp_iload_n rfl rfl ?_
                refine xp_bipush (n := 23) rfl (by decide) ?_
                refine xp_icne 143 rfl (by decide) (by omega) (by omega) (fun h134 => ?_) (fun h134 => ?_)
                · skip
                  refine xp_aload_n rfl rfl ?_
                  refine xp_iload_n rfl rfl ?_
                  refine xp_iload_n rfl rfl ?_
                  refine xp_iload rfl rfl ?_
                  refine xp_iload rfl rfl ?_
                  refine xp_iv rfl rfl (Nat.le_of_ble_eq_true rfl) (by decide) (by decide) (by decide) (Nat.le_of_ble_eq_true rfl) rfl (xrcv1 (by decide) (by first | assumption | exact hL.t rfl)) (z1) rfl ?_
                  refine xp_istore rfl (by decide) ?_
                  refine xp_iload rfl rfl ?_
                  refine xp_ifne 170 rfl (by decide) (by omega) (fun h157 => ?_) (fun h157 => ?_)
                  · skip
                    refine xp_iload rfl rfl ?_
                    refine xp_ireturn rfl (by decide) (by decide) (by decide) ?_
                    exact ⟨_, rfl, z2⟩
                  · exact absurd h157 hr0
                · exfalso; omega
              · exfalso; omega
            · exfalso; omega
          · omega
    · have hnd : aNeed A 18 a b = 2 := rfl
      by_cases hsz : A.1 f 3 < aNeed A 18 a b
      · rw [if_pos hsz]
        rw [hnd] at hsz
        refine xF_x (xF_p (Nat.le_of_ble_eq_true rfl) ?_)
        refine l145 (A := A) hL b3 q1 q2 hd b7 (by rw [g2]; exact hpl) (by rw [g2]; exact c2) b6 x1 x2 x3 (by omega) i6 hta (fun hz1 => ?_) (fun hz2 => ?_)
        · omega
        · exact ⟨_, rfl, hR⟩
      · rw [if_neg hsz]
        have hsz0 : aNeed A 18 a b ≤ A.1 f 3 := by omega
        rw [hnd] at hsz
        obtain ⟨B2, z1, z2⟩ := m144_18 (z := z) (a := a) (b := b) hL hc hR hT (by omega) (i2 (by omega))
        obtain ⟨u1, u2⟩ := go _ _ (hpc hsz0 (by omega)) z2
        have hlt := aPl_lt w A f 18 a b
        show ∃ B2, xF 145 _ _ (.inr (some (.int (nI (aGoOn f (aPl w A f 18 a b)).1))), _) ∧ Rel w (aGoOn f (aPl w A f 18 a b)).2 B2
        generalize aPl w A f 18 a b = r at z1 z2 u1 u2 hlt
        unfold aGoOn
        by_cases hr0 : r.1 = 0
        · rw [if_pos hr0]
          refine xF_x (xF_p (Nat.le_of_ble_eq_true rfl) ?_)
          refine l145 (A := A) hL b3 q1 q2 hd b7 (by rw [g2]; exact hpl) (by rw [g2]; exact c2) b6 x1 x2 x3 (by omega) i6 hta (fun hz1 => ?_) (fun hz2 => ?_)
          · skip
            refine xp_iload_n rfl rfl ?_
            refine xp_bipush (n := 21) rfl (by decide) ?_
            refine xp_icne 119 rfl (by decide) (by omega) (by omega) (fun h107 => ?_) (fun h107 => ?_)
            · skip
              refine xp_iload_n rfl rfl ?_
              refine xp_bipush (n := 22) rfl (by decide) ?_
              refine xp_icne 131 rfl (by decide) (by omega) (by omega) (fun h122 => ?_) (fun h122 => ?_)
              · skip
                refine xp_iload_n rfl rfl ?_
                refine xp_bipush (n := 23) rfl (by decide) ?_
                refine xp_icne 143 rfl (by decide) (by omega) (by omega) (fun h134 => ?_) (fun h134 => ?_)
                · skip
                  refine xp_aload_n rfl rfl ?_
                  refine xp_iload_n rfl rfl ?_
                  refine xp_iload_n rfl rfl ?_
                  refine xp_iload rfl rfl ?_
                  refine xp_iload rfl rfl ?_
                  refine xp_iv rfl rfl (Nat.le_of_ble_eq_true rfl) (by decide) (by decide) (by decide) (Nat.le_of_ble_eq_true rfl) rfl (xrcv1 (by decide) (by first | assumption | exact hL.t rfl)) (z1) rfl ?_
                  refine xp_istore rfl (by decide) ?_
                  refine xp_iload rfl rfl ?_
                  refine xp_ifne 170 rfl (by decide) (by omega) (fun h157 => ?_) (fun h157 => ?_)
                  · exact absurd hr0 h157
                  · skip
                    refine xp_aload_n rfl rfl ?_
                    refine xp_gfa rfl rfl (by decide) (by decide) (by first | assumption | exact hL.t rfl) (by first | assumption | exact hL.r rfl | exact hL.2.2.2.2.2) ?_
                    refine xp_iload_n rfl rfl ?_
                    refine xp_dup2 rfl rfl rfl ?_
                    refine xp_iald rfl (by first | assumption | exact hL.t rfl) (by omega) (by omega) ?_
                    rw [u1]
                    refine xp_iconst (n := 1) rfl (by decide) ?_
                    refine xp_iadd rfl ?_
                    refine xp_iast rfl (by first | assumption | exact hL.t rfl) (by omega) (by omega) ?_
                    refine xp_iload rfl rfl ?_
                    refine xp_ireturn rfl (by decide) (by decide) (by decide) ?_
                    exact ⟨_, rfl, u2⟩
                · exfalso; omega
              · exfalso; omega
            · exfalso; omega
          · omega
        · rw [if_neg hr0]
          refine xF_x (xF_p (Nat.le_of_ble_eq_true rfl) ?_)
          refine l145 (A := A) hL b3 q1 q2 hd b7 (by rw [g2]; exact hpl) (by rw [g2]; exact c2) b6 x1 x2 x3 (by omega) i6 hta (fun hz1 => ?_) (fun hz2 => ?_)
          · skip
            refine xp_iload_n rfl rfl ?_
            refine xp_bipush (n := 21) rfl (by decide) ?_
            refine xp_icne 119 rfl (by decide) (by omega) (by omega) (fun h107 => ?_) (fun h107 => ?_)
            · skip
              refine xp_iload_n rfl rfl ?_
              refine xp_bipush (n := 22) rfl (by decide) ?_
              refine xp_icne 131 rfl (by decide) (by omega) (by omega) (fun h122 => ?_) (fun h122 => ?_)
              · skip
                refine xp_iload_n rfl rfl ?_
                refine xp_bipush (n := 23) rfl (by decide) ?_
                refine xp_icne 143 rfl (by decide) (by omega) (by omega) (fun h134 => ?_) (fun h134 => ?_)
                · skip
                  refine xp_aload_n rfl rfl ?_
                  refine xp_iload_n rfl rfl ?_
                  refine xp_iload_n rfl rfl ?_
                  refine xp_iload rfl rfl ?_
                  refine xp_iload rfl rfl ?_
                  refine xp_iv rfl rfl (Nat.le_of_ble_eq_true rfl) (by decide) (by decide) (by decide) (Nat.le_of_ble_eq_true rfl) rfl (xrcv1 (by decide) (by first | assumption | exact hL.t rfl)) (z1) rfl ?_
                  refine xp_istore rfl (by decide) ?_
                  refine xp_iload rfl rfl ?_
                  refine xp_ifne 170 rfl (by decide) (by omega) (fun h157 => ?_) (fun h157 => ?_)
                  · skip
                    refine xp_iload rfl rfl ?_
                    refine xp_ireturn rfl (by decide) (by decide) (by decide) ?_
                    exact ⟨_, rfl, z2⟩
                  · exact absurd h157 hr0
                · exfalso; omega
              · exfalso; omega
            · exfalso; omega
          · omega
    · have hnd : aNeed A 19 a b = b := rfl
      have hb2 := i6 rfl
      by_cases hsz : A.1 f 3 < aNeed A 19 a b
      · rw [if_pos hsz]
        rw [hnd] at hsz
        refine xF_x (xF_p (Nat.le_of_ble_eq_true rfl) ?_)
        refine l145 (A := A) hL b3 q1 q2 hd b7 (by rw [g2]; exact hpl) (by rw [g2]; exact c2) b6 x1 x2 x3 (by omega) i6 hta (fun hz1 => ?_) (fun hz2 => ?_)
        · omega
        · exact ⟨_, rfl, hR⟩
      · rw [if_neg hsz]
        have hsz0 : aNeed A 19 a b ≤ A.1 f 3 := by omega
        rw [hnd] at hsz
        obtain ⟨B2, z1, z2⟩ := m144_19 (z := z) (a := a) (b := b) hL hc hR hT (by have := i3 (by omega); omega) hb2 (by omega)
        obtain ⟨u1, u2⟩ := go _ _ (hpc hsz0 (by omega)) z2
        have hlt := aPl_lt w A f 19 a b
        show ∃ B2, xF 145 _ _ (.inr (some (.int (nI (aGoOn f (aPl w A f 19 a b)).1))), _) ∧ Rel w (aGoOn f (aPl w A f 19 a b)).2 B2
        generalize aPl w A f 19 a b = r at z1 z2 u1 u2 hlt
        unfold aGoOn
        by_cases hr0 : r.1 = 0
        · rw [if_pos hr0]
          refine xF_x (xF_p (Nat.le_of_ble_eq_true rfl) ?_)
          refine l145 (A := A) hL b3 q1 q2 hd b7 (by rw [g2]; exact hpl) (by rw [g2]; exact c2) b6 x1 x2 x3 (by omega) i6 hta (fun hz1 => ?_) (fun hz2 => ?_)
          · skip
            refine xp_iload_n rfl rfl ?_
            refine xp_bipush (n := 21) rfl (by decide) ?_
            refine xp_icne 119 rfl (by decide) (by omega) (by omega) (fun h107 => ?_) (fun h107 => ?_)
            · skip
              refine xp_iload_n rfl rfl ?_
              refine xp_bipush (n := 22) rfl (by decide) ?_
              refine xp_icne 131 rfl (by decide) (by omega) (by omega) (fun h122 => ?_) (fun h122 => ?_)
              · skip
                refine xp_iload_n rfl rfl ?_
                refine xp_bipush (n := 23) rfl (by decide) ?_
                refine xp_icne 143 rfl (by decide) (by omega) (by omega) (fun h134 => ?_) (fun h134 => ?_)
                · skip
                  refine xp_aload_n rfl rfl ?_
                  refine xp_iload_n rfl rfl ?_
                  refine xp_iload_n rfl rfl ?_
                  refine xp_iload rfl rfl ?_
                  refine xp_iload rfl rfl ?_
                  refine xp_iv rfl rfl (Nat.le_of_ble_eq_true rfl) (by decide) (by decide) (by decide) (Nat.le_of_ble_eq_true rfl) rfl (xrcv1 (by decide) (by first | assumption | exact hL.t rfl)) (z1) rfl ?_
                  refine xp_istore rfl (by decide) ?_
                  refine xp_iload rfl rfl ?_
                  refine xp_ifne 170 rfl (by decide) (by omega) (fun h157 => ?_) (fun h157 => ?_)
                  · exact absurd hr0 h157
                  · skip
                    refine xp_aload_n rfl rfl ?_
                    refine xp_gfa rfl rfl (by decide) (by decide) (by first | assumption | exact hL.t rfl) (by first | assumption | exact hL.r rfl | exact hL.2.2.2.2.2) ?_
                    refine xp_iload_n rfl rfl ?_
                    refine xp_dup2 rfl rfl rfl ?_
                    refine xp_iald rfl (by first | assumption | exact hL.t rfl) (by omega) (by omega) ?_
                    rw [u1]
                    refine xp_iconst (n := 1) rfl (by decide) ?_
                    refine xp_iadd rfl ?_
                    refine xp_iast rfl (by first | assumption | exact hL.t rfl) (by omega) (by omega) ?_
                    refine xp_iload rfl rfl ?_
                    refine xp_ireturn rfl (by decide) (by decide) (by decide) ?_
                    exact ⟨_, rfl, u2⟩
                · exfalso; omega
              · exfalso; omega
            · exfalso; omega
          · omega
        · rw [if_neg hr0]
          refine xF_x (xF_p (Nat.le_of_ble_eq_true rfl) ?_)
          refine l145 (A := A) hL b3 q1 q2 hd b7 (by rw [g2]; exact hpl) (by rw [g2]; exact c2) b6 x1 x2 x3 (by omega) i6 hta (fun hz1 => ?_) (fun hz2 => ?_)
          · skip
            refine xp_iload_n rfl rfl ?_
            refine xp_bipush (n := 21) rfl (by decide) ?_
            refine xp_icne 119 rfl (by decide) (by omega) (by omega) (fun h107 => ?_) (fun h107 => ?_)
            · skip
              refine xp_iload_n rfl rfl ?_
              refine xp_bipush (n := 22) rfl (by decide) ?_
              refine xp_icne 131 rfl (by decide) (by omega) (by omega) (fun h122 => ?_) (fun h122 => ?_)
              · skip
                refine xp_iload_n rfl rfl ?_
                refine xp_bipush (n := 23) rfl (by decide) ?_
                refine xp_icne 143 rfl (by decide) (by omega) (by omega) (fun h134 => ?_) (fun h134 => ?_)
                · skip
                  refine xp_aload_n rfl rfl ?_
                  refine xp_iload_n rfl rfl ?_
                  refine xp_iload_n rfl rfl ?_
                  refine xp_iload rfl rfl ?_
                  refine xp_iload rfl rfl ?_
                  refine xp_iv rfl rfl (Nat.le_of_ble_eq_true rfl) (by decide) (by decide) (by decide) (Nat.le_of_ble_eq_true rfl) rfl (xrcv1 (by decide) (by first | assumption | exact hL.t rfl)) (z1) rfl ?_
                  refine xp_istore rfl (by decide) ?_
                  refine xp_iload rfl rfl ?_
                  refine xp_ifne 170 rfl (by decide) (by omega) (fun h157 => ?_) (fun h157 => ?_)
                  · skip
                    refine xp_iload rfl rfl ?_
                    refine xp_ireturn rfl (by decide) (by decide) (by decide) ?_
                    exact ⟨_, rfl, z2⟩
                  · exact absurd h157 hr0
                · exfalso; omega
              · exfalso; omega
            · exfalso; omega
          · omega
    · have hnd : aNeed A 20 a b = 0 := rfl
      · have hsz : ¬ A.1 f 3 < aNeed A 20 a b := by rw [hnd]; omega
        rw [if_neg hsz]
        have hsz0 : aNeed A 20 a b ≤ A.1 f 3 := by omega
        rw [hnd] at hsz
        obtain ⟨B2, z1, z2⟩ := m144_20 (z := z) (a := a) (b := b) hL hc hR hT (i4 rfl)
        obtain ⟨u1, u2⟩ := go _ _ (hpc hsz0 (by omega)) z2
        have hlt := aPl_lt w A f 20 a b
        show ∃ B2, xF 145 _ _ (.inr (some (.int (nI (aGoOn f (aPl w A f 20 a b)).1))), _) ∧ Rel w (aGoOn f (aPl w A f 20 a b)).2 B2
        generalize aPl w A f 20 a b = r at z1 z2 u1 u2 hlt
        unfold aGoOn
        by_cases hr0 : r.1 = 0
        · rw [if_pos hr0]
          refine xF_x (xF_p (Nat.le_of_ble_eq_true rfl) ?_)
          refine l145 (A := A) hL b3 q1 q2 hd b7 (by rw [g2]; exact hpl) (by rw [g2]; exact c2) b6 x1 x2 x3 (by omega) i6 hta (fun hz1 => ?_) (fun hz2 => ?_)
          · skip
            refine xp_iload_n rfl rfl ?_
            refine xp_bipush (n := 21) rfl (by decide) ?_
            refine xp_icne 119 rfl (by decide) (by omega) (by omega) (fun h107 => ?_) (fun h107 => ?_)
            · skip
              refine xp_iload_n rfl rfl ?_
              refine xp_bipush (n := 22) rfl (by decide) ?_
              refine xp_icne 131 rfl (by decide) (by omega) (by omega) (fun h122 => ?_) (fun h122 => ?_)
              · skip
                refine xp_iload_n rfl rfl ?_
                refine xp_bipush (n := 23) rfl (by decide) ?_
                refine xp_icne 143 rfl (by decide) (by omega) (by omega) (fun h134 => ?_) (fun h134 => ?_)
                · skip
                  refine xp_aload_n rfl rfl ?_
                  refine xp_iload_n rfl rfl ?_
                  refine xp_iload_n rfl rfl ?_
                  refine xp_iload rfl rfl ?_
                  refine xp_iload rfl rfl ?_
                  refine xp_iv rfl rfl (Nat.le_of_ble_eq_true rfl) (by decide) (by decide) (by decide) (Nat.le_of_ble_eq_true rfl) rfl (xrcv1 (by decide) (by first | assumption | exact hL.t rfl)) (z1) rfl ?_
                  refine xp_istore rfl (by decide) ?_
                  refine xp_iload rfl rfl ?_
                  refine xp_ifne 170 rfl (by decide) (by omega) (fun h157 => ?_) (fun h157 => ?_)
                  · exact absurd hr0 h157
                  · skip
                    refine xp_aload_n rfl rfl ?_
                    refine xp_gfa rfl rfl (by decide) (by decide) (by first | assumption | exact hL.t rfl) (by first | assumption | exact hL.r rfl | exact hL.2.2.2.2.2) ?_
                    refine xp_iload_n rfl rfl ?_
                    refine xp_dup2 rfl rfl rfl ?_
                    refine xp_iald rfl (by first | assumption | exact hL.t rfl) (by omega) (by omega) ?_
                    rw [u1]
                    refine xp_iconst (n := 1) rfl (by decide) ?_
                    refine xp_iadd rfl ?_
                    refine xp_iast rfl (by first | assumption | exact hL.t rfl) (by omega) (by omega) ?_
                    refine xp_iload rfl rfl ?_
                    refine xp_ireturn rfl (by decide) (by decide) (by decide) ?_
                    exact ⟨_, rfl, u2⟩
                · exfalso; omega
              · exfalso; omega
            · exfalso; omega
          · omega
        · rw [if_neg hr0]
          refine xF_x (xF_p (Nat.le_of_ble_eq_true rfl) ?_)
          refine l145 (A := A) hL b3 q1 q2 hd b7 (by rw [g2]; exact hpl) (by rw [g2]; exact c2) b6 x1 x2 x3 (by omega) i6 hta (fun hz1 => ?_) (fun hz2 => ?_)
          · skip
            refine xp_iload_n rfl rfl ?_
            refine xp_bipush (n := 21) rfl (by decide) ?_
            refine xp_icne 119 rfl (by decide) (by omega) (by omega) (fun h107 => ?_) (fun h107 => ?_)
            · skip
              refine xp_iload_n rfl rfl ?_
              refine xp_bipush (n := 22) rfl (by decide) ?_
              refine xp_icne 131 rfl (by decide) (by omega) (by omega) (fun h122 => ?_) (fun h122 => ?_)
              · skip
                refine xp_iload_n rfl rfl ?_
                refine xp_bipush (n := 23) rfl (by decide) ?_
                refine xp_icne 143 rfl (by decide) (by omega) (by omega) (fun h134 => ?_) (fun h134 => ?_)
                · skip
                  refine xp_aload_n rfl rfl ?_
                  refine xp_iload_n rfl rfl ?_
                  refine xp_iload_n rfl rfl ?_
                  refine xp_iload rfl rfl ?_
                  refine xp_iload rfl rfl ?_
                  refine xp_iv rfl rfl (Nat.le_of_ble_eq_true rfl) (by decide) (by decide) (by decide) (Nat.le_of_ble_eq_true rfl) rfl (xrcv1 (by decide) (by first | assumption | exact hL.t rfl)) (z1) rfl ?_
                  refine xp_istore rfl (by decide) ?_
                  refine xp_iload rfl rfl ?_
                  refine xp_ifne 170 rfl (by decide) (by omega) (fun h157 => ?_) (fun h157 => ?_)
                  · skip
                    refine xp_iload rfl rfl ?_
                    refine xp_ireturn rfl (by decide) (by decide) (by decide) ?_
                    exact ⟨_, rfl, z2⟩
                  · exact absurd h157 hr0
                · exfalso; omega
              · exfalso; omega
            · exfalso; omega
          · omega
    · have hnd : aNeed A 21 a b = A.1 2 a := rfl
      have ha6 : a < 6 := by have := i3 (by omega); omega
      obtain ⟨ca1, _⟩ := base5 a ha6
      obtain ⟨ga1, _⟩ := baseR a ha6
      by_cases hsz : A.1 f 3 < aNeed A 21 a b
      · rw [if_pos hsz]
        rw [hnd] at hsz
        refine xF_x (xF_p (Nat.le_of_ble_eq_true rfl) ?_)
        refine l145 (A := A) hL b3 q1 q2 hd b7 (by rw [g2]; exact hpl) (by rw [g2]; exact c2) b6 x1 x2 x3 (by omega) i6 hta (fun hz1 => ?_) (fun hz2 => ?_)
        · omega
        · exact ⟨_, rfl, hR⟩
      · rw [if_neg hsz]
        have hsz0 : aNeed A 21 a b ≤ A.1 f 3 := by omega
        rw [hnd] at hsz
        show ∃ B2, xF 145 _ _ (.inr (some (.int (nI (aEnter A s f a 0).1))), _) ∧ Rel w (aEnter A s f a 0).2 B2
        unfold aEnter
        rw [if_neg (by omega)]
        by_cases q5x : A.1 s 3 = 5
        · rw [if_pos q5x]
          have cal := m137f (z := z) (B := B) (t := t) (fn := a) (m := m) (c := 4294967295) hL h10 b1 ha6 b3 (by rw [ga1]; exact ca1) (by rw [ga1, hd]; omega) (by rw [hd]; exact b6) (by rw [e201]; exact q5x)
          refine xF_x (xF_p (Nat.le_of_ble_eq_true rfl) ?_)
          refine l145 (A := A) hL b3 q1 q2 hd b7 (by rw [g2]; exact hpl) (by rw [g2]; exact c2) b6 x1 x2 x3 (by omega) i6 hta (fun hz1 => ?_) (fun hz2 => ?_)
          · skip
            refine xp_iload_n rfl rfl ?_
            refine xp_bipush (n := 21) rfl (by decide) ?_
            refine xp_icne 119 rfl (by decide) (by omega) (by omega) (fun h107 => ?_) (fun h107 => ?_)
            · exfalso; omega
            · skip
              refine xp_aload_n rfl rfl ?_
              refine xp_iload_n rfl rfl ?_
              refine xp_iload rfl rfl ?_
              refine xp_iconst (n := 4294967295) rfl (by decide) ?_
              refine xp_iv rfl rfl (Nat.le_of_ble_eq_true rfl) (by decide) (by decide) (by decide) (Nat.le_of_ble_eq_true rfl) rfl (xrcv1 (by decide) (by first | assumption | exact hL.t rfl)) (cal) rfl ?_
              refine xp_ireturn rfl (by decide) (by decide) (by decide) ?_
              exact ⟨_, rfl, hR⟩
          · omega
        · rw [if_neg q5x]
          have cal := m137 (z := z) (B := B) (t := t) (fn := a) (m := m) (c := 4294967295) hL h10 b1 ha6 b3 (by rw [ga1]; exact ca1) (by rw [ga1, hd]; omega) (by rw [hd]; exact b6) (by rw [e201]; omega) (by rw [e201]; omega)
          have hfin := hR.enter (fn := a) (ab := 0) (n := A.1 2 a) (c := 4294967295) hc hT hs hst (by omega) ca1 (by omega) (Or.inl ⟨rfl, rfl⟩)
          have eid : xsI B 205 m (A.1 f 3 - 0) = B := by rw [Nat.sub_zero, ← hd]; exact xsI_id
          rw [eid] at hfin
          rw [e201, ga1] at cal
          refine xF_x (xF_p (Nat.le_of_ble_eq_true rfl) ?_)
          refine l145 (A := A) hL b3 q1 q2 hd b7 (by rw [g2]; exact hpl) (by rw [g2]; exact c2) b6 x1 x2 x3 (by omega) i6 hta (fun hz1 => ?_) (fun hz2 => ?_)
          · skip
            refine xp_iload_n rfl rfl ?_
            refine xp_bipush (n := 21) rfl (by decide) ?_
            refine xp_icne 119 rfl (by decide) (by omega) (by omega) (fun h107 => ?_) (fun h107 => ?_)
            · exfalso; omega
            · skip
              refine xp_aload_n rfl rfl ?_
              refine xp_iload_n rfl rfl ?_
              refine xp_iload rfl rfl ?_
              refine xp_iconst (n := 4294967295) rfl (by decide) ?_
              refine xp_iv rfl rfl (Nat.le_of_ble_eq_true rfl) (by decide) (by decide) (by decide) (Nat.le_of_ble_eq_true rfl) rfl (xrcv1 (by decide) (by first | assumption | exact hL.t rfl)) (cal) rfl ?_
              refine xp_ireturn rfl (by decide) (by decide) (by decide) ?_
              exact ⟨_, rfl, hfin⟩
          · omega
    · have hnd : aNeed A 22 a b = 1 := rfl
      by_cases hsz : A.1 f 3 < aNeed A 22 a b
      · rw [if_pos hsz]
        rw [hnd] at hsz
        refine xF_x (xF_p (Nat.le_of_ble_eq_true rfl) ?_)
        refine l145 (A := A) hL b3 q1 q2 hd b7 (by rw [g2]; exact hpl) (by rw [g2]; exact c2) b6 x1 x2 x3 (by omega) i6 hta (fun hz1 => ?_) (fun hz2 => ?_)
        · omega
        · exact ⟨_, rfl, hR⟩
      · rw [if_neg hsz]
        have hsz0 : aNeed A 22 a b ≤ A.1 f 3 := by omega
        rw [hnd] at hsz
        show ∃ B2, xF 145 _ _ (.inr (some (.int (nI (aApply w A s f).1))), _) ∧ Rel w (aApply w A s f).2 B2
        obtain ⟨B2, z1, z2⟩ := m138 (z := z) hL hc hR hT h3 hs hst (by omega)
        refine xF_x (xF_p (Nat.le_of_ble_eq_true rfl) ?_)
        refine l145 (A := A) hL b3 q1 q2 hd b7 (by rw [g2]; exact hpl) (by rw [g2]; exact c2) b6 x1 x2 x3 (by omega) i6 hta (fun hz1 => ?_) (fun hz2 => ?_)
        · skip
          refine xp_iload_n rfl rfl ?_
          refine xp_bipush (n := 21) rfl (by decide) ?_
          refine xp_icne 119 rfl (by decide) (by omega) (by omega) (fun h107 => ?_) (fun h107 => ?_)
          · skip
            refine xp_iload_n rfl rfl ?_
            refine xp_bipush (n := 22) rfl (by decide) ?_
            refine xp_icne 131 rfl (by decide) (by omega) (by omega) (fun h122 => ?_) (fun h122 => ?_)
            · exfalso; omega
            · skip
              refine xp_aload_n rfl rfl ?_
              refine xp_iload_n rfl rfl ?_
              refine xp_iv rfl rfl (Nat.le_of_ble_eq_true rfl) (by decide) (by decide) (by decide) (Nat.le_of_ble_eq_true rfl) rfl (xrcv1 (by decide) (by first | assumption | exact hL.t rfl)) (z1) rfl ?_
              refine xp_ireturn rfl (by decide) (by decide) (by decide) ?_
              exact ⟨_, rfl, z2⟩
          · exfalso; omega
        · omega
    · have hnd : aNeed A 23 a b = 1 := rfl
      by_cases hsz : A.1 f 3 < aNeed A 23 a b
      · rw [if_pos hsz]
        rw [hnd] at hsz
        refine xF_x (xF_p (Nat.le_of_ble_eq_true rfl) ?_)
        refine l145 (A := A) hL b3 q1 q2 hd b7 (by rw [g2]; exact hpl) (by rw [g2]; exact c2) b6 x1 x2 x3 (by omega) i6 hta (fun hz1 => ?_) (fun hz2 => ?_)
        · omega
        · exact ⟨_, rfl, hR⟩
      · rw [if_neg hsz]
        have hsz0 : aNeed A 23 a b ≤ A.1 f 3 := by omega
        rw [hnd] at hsz
        show ∃ B2, xF 145 _ _ (.inr (some (.int (nI (aLeave A s f).1))), _) ∧ Rel w (aLeave A s f).2 B2
        obtain ⟨B2, z1, z2⟩ := m140 (z := z) hL hc hR hT h3 hs hst (by omega)
        refine xF_x (xF_p (Nat.le_of_ble_eq_true rfl) ?_)
        refine l145 (A := A) hL b3 q1 q2 hd b7 (by rw [g2]; exact hpl) (by rw [g2]; exact c2) b6 x1 x2 x3 (by omega) i6 hta (fun hz1 => ?_) (fun hz2 => ?_)
        · skip
          refine xp_iload_n rfl rfl ?_
          refine xp_bipush (n := 21) rfl (by decide) ?_
          refine xp_icne 119 rfl (by decide) (by omega) (by omega) (fun h107 => ?_) (fun h107 => ?_)
          · skip
            refine xp_iload_n rfl rfl ?_
            refine xp_bipush (n := 22) rfl (by decide) ?_
            refine xp_icne 131 rfl (by decide) (by omega) (by omega) (fun h122 => ?_) (fun h122 => ?_)
            · skip
              refine xp_iload_n rfl rfl ?_
              refine xp_bipush (n := 23) rfl (by decide) ?_
              refine xp_icne 143 rfl (by decide) (by omega) (by omega) (fun h134 => ?_) (fun h134 => ?_)
              · exfalso; omega
              · skip
                refine xp_aload_n rfl rfl ?_
                refine xp_iload_n rfl rfl ?_
                refine xp_iv rfl rfl (Nat.le_of_ble_eq_true rfl) (by decide) (by decide) (by decide) (Nat.le_of_ble_eq_true rfl) rfl (xrcv1 (by decide) (by first | assumption | exact hL.t rfl)) (z1) rfl ?_
                refine xp_ireturn rfl (by decide) (by decide) (by decide) ?_
                exact ⟨_, rfl, z2⟩
            · exfalso; omega
          · exfalso; omega
        · omega
    · have hnd : aNeed A 24 a b = 1 := rfl
      by_cases hsz : A.1 f 3 < aNeed A 24 a b
      · rw [if_pos hsz]
        rw [hnd] at hsz
        refine xF_x (xF_p (Nat.le_of_ble_eq_true rfl) ?_)
        refine l145 (A := A) hL b3 q1 q2 hd b7 (by rw [g2]; exact hpl) (by rw [g2]; exact c2) b6 x1 x2 x3 (by omega) i6 hta (fun hz1 => ?_) (fun hz2 => ?_)
        · omega
        · exact ⟨_, rfl, hR⟩
      · rw [if_neg hsz]
        have hsz0 : aNeed A 24 a b ≤ A.1 f 3 := by omega
        rw [hnd] at hsz
        obtain ⟨B2, z1, z2⟩ := m144_24 (z := z) (a := a) (b := b) hL hc hR hT (by omega)
        obtain ⟨u1, u2⟩ := go _ _ (hpc hsz0 (by omega)) z2
        have hlt := aPl_lt w A f 24 a b
        show ∃ B2, xF 145 _ _ (.inr (some (.int (nI (aGoOn f (aPl w A f 24 a b)).1))), _) ∧ Rel w (aGoOn f (aPl w A f 24 a b)).2 B2
        generalize aPl w A f 24 a b = r at z1 z2 u1 u2 hlt
        unfold aGoOn
        by_cases hr0 : r.1 = 0
        · rw [if_pos hr0]
          refine xF_x (xF_p (Nat.le_of_ble_eq_true rfl) ?_)
          refine l145 (A := A) hL b3 q1 q2 hd b7 (by rw [g2]; exact hpl) (by rw [g2]; exact c2) b6 x1 x2 x3 (by omega) i6 hta (fun hz1 => ?_) (fun hz2 => ?_)
          · skip
            refine xp_iload_n rfl rfl ?_
            refine xp_bipush (n := 21) rfl (by decide) ?_
            refine xp_icne 119 rfl (by decide) (by omega) (by omega) (fun h107 => ?_) (fun h107 => ?_)
            · skip
              refine xp_iload_n rfl rfl ?_
              refine xp_bipush (n := 22) rfl (by decide) ?_
              refine xp_icne 131 rfl (by decide) (by omega) (by omega) (fun h122 => ?_) (fun h122 => ?_)
              · skip
                refine xp_iload_n rfl rfl ?_
                refine xp_bipush (n := 23) rfl (by decide) ?_
                refine xp_icne 143 rfl (by decide) (by omega) (by omega) (fun h134 => ?_) (fun h134 => ?_)
                · skip
                  refine xp_aload_n rfl rfl ?_
                  refine xp_iload_n rfl rfl ?_
                  refine xp_iload_n rfl rfl ?_
                  refine xp_iload rfl rfl ?_
                  refine xp_iload rfl rfl ?_
                  refine xp_iv rfl rfl (Nat.le_of_ble_eq_true rfl) (by decide) (by decide) (by decide) (Nat.le_of_ble_eq_true rfl) rfl (xrcv1 (by decide) (by first | assumption | exact hL.t rfl)) (z1) rfl ?_
                  refine xp_istore rfl (by decide) ?_
                  refine xp_iload rfl rfl ?_
                  refine xp_ifne 170 rfl (by decide) (by omega) (fun h157 => ?_) (fun h157 => ?_)
                  · exact absurd hr0 h157
                  · skip
                    refine xp_aload_n rfl rfl ?_
                    refine xp_gfa rfl rfl (by decide) (by decide) (by first | assumption | exact hL.t rfl) (by first | assumption | exact hL.r rfl | exact hL.2.2.2.2.2) ?_
                    refine xp_iload_n rfl rfl ?_
                    refine xp_dup2 rfl rfl rfl ?_
                    refine xp_iald rfl (by first | assumption | exact hL.t rfl) (by omega) (by omega) ?_
                    rw [u1]
                    refine xp_iconst (n := 1) rfl (by decide) ?_
                    refine xp_iadd rfl ?_
                    refine xp_iast rfl (by first | assumption | exact hL.t rfl) (by omega) (by omega) ?_
                    refine xp_iload rfl rfl ?_
                    refine xp_ireturn rfl (by decide) (by decide) (by decide) ?_
                    exact ⟨_, rfl, u2⟩
                · exfalso; omega
              · exfalso; omega
            · exfalso; omega
          · omega
        · rw [if_neg hr0]
          refine xF_x (xF_p (Nat.le_of_ble_eq_true rfl) ?_)
          refine l145 (A := A) hL b3 q1 q2 hd b7 (by rw [g2]; exact hpl) (by rw [g2]; exact c2) b6 x1 x2 x3 (by omega) i6 hta (fun hz1 => ?_) (fun hz2 => ?_)
          · skip
            refine xp_iload_n rfl rfl ?_
            refine xp_bipush (n := 21) rfl (by decide) ?_
            refine xp_icne 119 rfl (by decide) (by omega) (by omega) (fun h107 => ?_) (fun h107 => ?_)
            · skip
              refine xp_iload_n rfl rfl ?_
              refine xp_bipush (n := 22) rfl (by decide) ?_
              refine xp_icne 131 rfl (by decide) (by omega) (by omega) (fun h122 => ?_) (fun h122 => ?_)
              · skip
                refine xp_iload_n rfl rfl ?_
                refine xp_bipush (n := 23) rfl (by decide) ?_
                refine xp_icne 143 rfl (by decide) (by omega) (by omega) (fun h134 => ?_) (fun h134 => ?_)
                · skip
                  refine xp_aload_n rfl rfl ?_
                  refine xp_iload_n rfl rfl ?_
                  refine xp_iload_n rfl rfl ?_
                  refine xp_iload rfl rfl ?_
                  refine xp_iload rfl rfl ?_
                  refine xp_iv rfl rfl (Nat.le_of_ble_eq_true rfl) (by decide) (by decide) (by decide) (Nat.le_of_ble_eq_true rfl) rfl (xrcv1 (by decide) (by first | assumption | exact hL.t rfl)) (z1) rfl ?_
                  refine xp_istore rfl (by decide) ?_
                  refine xp_iload rfl rfl ?_
                  refine xp_ifne 170 rfl (by decide) (by omega) (fun h157 => ?_) (fun h157 => ?_)
                  · skip
                    refine xp_iload rfl rfl ?_
                    refine xp_ireturn rfl (by decide) (by decide) (by decide) ?_
                    exact ⟨_, rfl, z2⟩
                  · exact absurd h157 hr0
                · exfalso; omega
              · exfalso; omega
            · exfalso; omega
          · omega
    · have hnd : aNeed A 25 a b = 1 := rfl
      by_cases hsz : A.1 f 3 < aNeed A 25 a b
      · rw [if_pos hsz]
        rw [hnd] at hsz
        refine xF_x (xF_p (Nat.le_of_ble_eq_true rfl) ?_)
        refine l145 (A := A) hL b3 q1 q2 hd b7 (by rw [g2]; exact hpl) (by rw [g2]; exact c2) b6 x1 x2 x3 (by omega) i6 hta (fun hz1 => ?_) (fun hz2 => ?_)
        · omega
        · exact ⟨_, rfl, hR⟩
      · rw [if_neg hsz]
        have hsz0 : aNeed A 25 a b ≤ A.1 f 3 := by omega
        rw [hnd] at hsz
        obtain ⟨B2, z1, z2⟩ := m144_25 (z := z) (a := a) (b := b) hL hc hR hT (by omega) hsd
        obtain ⟨u1, u2⟩ := go _ _ (hpc hsz0 (by omega)) z2
        have hlt := aPl_lt w A f 25 a b
        show ∃ B2, xF 145 _ _ (.inr (some (.int (nI (aGoOn f (aPl w A f 25 a b)).1))), _) ∧ Rel w (aGoOn f (aPl w A f 25 a b)).2 B2
        generalize aPl w A f 25 a b = r at z1 z2 u1 u2 hlt
        unfold aGoOn
        by_cases hr0 : r.1 = 0
        · rw [if_pos hr0]
          refine xF_x (xF_p (Nat.le_of_ble_eq_true rfl) ?_)
          refine l145 (A := A) hL b3 q1 q2 hd b7 (by rw [g2]; exact hpl) (by rw [g2]; exact c2) b6 x1 x2 x3 (by omega) i6 hta (fun hz1 => ?_) (fun hz2 => ?_)
          · skip
            refine xp_iload_n rfl rfl ?_
            refine xp_bipush (n := 21) rfl (by decide) ?_
            refine xp_icne 119 rfl (by decide) (by omega) (by omega) (fun h107 => ?_) (fun h107 => ?_)
            · skip
              refine xp_iload_n rfl rfl ?_
              refine xp_bipush (n := 22) rfl (by decide) ?_
              refine xp_icne 131 rfl (by decide) (by omega) (by omega) (fun h122 => ?_) (fun h122 => ?_)
              · skip
                refine xp_iload_n rfl rfl ?_
                refine xp_bipush (n := 23) rfl (by decide) ?_
                refine xp_icne 143 rfl (by decide) (by omega) (by omega) (fun h134 => ?_) (fun h134 => ?_)
                · skip
                  refine xp_aload_n rfl rfl ?_
                  refine xp_iload_n rfl rfl ?_
                  refine xp_iload_n rfl rfl ?_
                  refine xp_iload rfl rfl ?_
                  refine xp_iload rfl rfl ?_
                  refine xp_iv rfl rfl (Nat.le_of_ble_eq_true rfl) (by decide) (by decide) (by decide) (Nat.le_of_ble_eq_true rfl) rfl (xrcv1 (by decide) (by first | assumption | exact hL.t rfl)) (z1) rfl ?_
                  refine xp_istore rfl (by decide) ?_
                  refine xp_iload rfl rfl ?_
                  refine xp_ifne 170 rfl (by decide) (by omega) (fun h157 => ?_) (fun h157 => ?_)
                  · exact absurd hr0 h157
                  · skip
                    refine xp_aload_n rfl rfl ?_
                    refine xp_gfa rfl rfl (by decide) (by decide) (by first | assumption | exact hL.t rfl) (by first | assumption | exact hL.r rfl | exact hL.2.2.2.2.2) ?_
                    refine xp_iload_n rfl rfl ?_
                    refine xp_dup2 rfl rfl rfl ?_
                    refine xp_iald rfl (by first | assumption | exact hL.t rfl) (by omega) (by omega) ?_
                    rw [u1]
                    refine xp_iconst (n := 1) rfl (by decide) ?_
                    refine xp_iadd rfl ?_
                    refine xp_iast rfl (by first | assumption | exact hL.t rfl) (by omega) (by omega) ?_
                    refine xp_iload rfl rfl ?_
                    refine xp_ireturn rfl (by decide) (by decide) (by decide) ?_
                    exact ⟨_, rfl, u2⟩
                · exfalso; omega
              · exfalso; omega
            · exfalso; omega
          · omega
        · rw [if_neg hr0]
          refine xF_x (xF_p (Nat.le_of_ble_eq_true rfl) ?_)
          refine l145 (A := A) hL b3 q1 q2 hd b7 (by rw [g2]; exact hpl) (by rw [g2]; exact c2) b6 x1 x2 x3 (by omega) i6 hta (fun hz1 => ?_) (fun hz2 => ?_)
          · skip
            refine xp_iload_n rfl rfl ?_
            refine xp_bipush (n := 21) rfl (by decide) ?_
            refine xp_icne 119 rfl (by decide) (by omega) (by omega) (fun h107 => ?_) (fun h107 => ?_)
            · skip
              refine xp_iload_n rfl rfl ?_
              refine xp_bipush (n := 22) rfl (by decide) ?_
              refine xp_icne 131 rfl (by decide) (by omega) (by omega) (fun h122 => ?_) (fun h122 => ?_)
              · skip
                refine xp_iload_n rfl rfl ?_
                refine xp_bipush (n := 23) rfl (by decide) ?_
                refine xp_icne 143 rfl (by decide) (by omega) (by omega) (fun h134 => ?_) (fun h134 => ?_)
                · skip
                  refine xp_aload_n rfl rfl ?_
                  refine xp_iload_n rfl rfl ?_
                  refine xp_iload_n rfl rfl ?_
                  refine xp_iload rfl rfl ?_
                  refine xp_iload rfl rfl ?_
                  refine xp_iv rfl rfl (Nat.le_of_ble_eq_true rfl) (by decide) (by decide) (by decide) (Nat.le_of_ble_eq_true rfl) rfl (xrcv1 (by decide) (by first | assumption | exact hL.t rfl)) (z1) rfl ?_
                  refine xp_istore rfl (by decide) ?_
                  refine xp_iload rfl rfl ?_
                  refine xp_ifne 170 rfl (by decide) (by omega) (fun h157 => ?_) (fun h157 => ?_)
                  · skip
                    refine xp_iload rfl rfl ?_
                    refine xp_ireturn rfl (by decide) (by decide) (by decide) ?_
                    exact ⟨_, rfl, z2⟩
                  · exact absurd h157 hr0
                · exfalso; omega
              · exfalso; omega
            · exfalso; omega
          · omega
    · have hnd : aNeed A 26 a b = A.1 2 a := rfl
      have ha6 : a < 6 := by have := i3 (by omega); omega
      obtain ⟨ca1, _⟩ := base5 a ha6
      obtain ⟨ga1, _⟩ := baseR a ha6
      by_cases hsz : A.1 f 3 < aNeed A 26 a b
      · rw [if_pos hsz]
        rw [hnd] at hsz
        refine xF_x (xF_p (Nat.le_of_ble_eq_true rfl) ?_)
        refine l145 (A := A) hL b3 q1 q2 hd b7 (by rw [g2]; exact hpl) (by rw [g2]; exact c2) b6 x1 x2 x3 (by omega) i6 hta (fun hz1 => ?_) (fun hz2 => ?_)
        · omega
        · exact ⟨_, rfl, hR⟩
      · rw [if_neg hsz]
        have hsz0 : aNeed A 26 a b ≤ A.1 f 3 := by omega
        rw [hnd] at hsz
        obtain ⟨B2, z1, z2⟩ := m144_26 (z := z) (a := a) (b := b) hL hc hR hT ha6 (by omega)
        obtain ⟨u1, u2⟩ := go _ _ (hpc hsz0 (by omega)) z2
        have hlt := aPl_lt w A f 26 a b
        show ∃ B2, xF 145 _ _ (.inr (some (.int (nI (aGoOn f (aPl w A f 26 a b)).1))), _) ∧ Rel w (aGoOn f (aPl w A f 26 a b)).2 B2
        generalize aPl w A f 26 a b = r at z1 z2 u1 u2 hlt
        unfold aGoOn
        by_cases hr0 : r.1 = 0
        · rw [if_pos hr0]
          refine xF_x (xF_p (Nat.le_of_ble_eq_true rfl) ?_)
          refine l145 (A := A) hL b3 q1 q2 hd b7 (by rw [g2]; exact hpl) (by rw [g2]; exact c2) b6 x1 x2 x3 (by omega) i6 hta (fun hz1 => ?_) (fun hz2 => ?_)
          · skip
            refine xp_iload_n rfl rfl ?_
            refine xp_bipush (n := 21) rfl (by decide) ?_
            refine xp_icne 119 rfl (by decide) (by omega) (by omega) (fun h107 => ?_) (fun h107 => ?_)
            · skip
              refine xp_iload_n rfl rfl ?_
              refine xp_bipush (n := 22) rfl (by decide) ?_
              refine xp_icne 131 rfl (by decide) (by omega) (by omega) (fun h122 => ?_) (fun h122 => ?_)
              · skip
                refine xp_iload_n rfl rfl ?_
                refine xp_bipush (n := 23) rfl (by decide) ?_
                refine xp_icne 143 rfl (by decide) (by omega) (by omega) (fun h134 => ?_) (fun h134 => ?_)
                · skip
                  refine xp_aload_n rfl rfl ?_
                  refine xp_iload_n rfl rfl ?_
                  refine xp_iload_n rfl rfl ?_
                  refine xp_iload rfl rfl ?_
                  refine xp_iload rfl rfl ?_
                  refine xp_iv rfl rfl (Nat.le_of_ble_eq_true rfl) (by decide) (by decide) (by decide) (Nat.le_of_ble_eq_true rfl) rfl (xrcv1 (by decide) (by first | assumption | exact hL.t rfl)) (z1) rfl ?_
                  refine xp_istore rfl (by decide) ?_
                  refine xp_iload rfl rfl ?_
                  refine xp_ifne 170 rfl (by decide) (by omega) (fun h157 => ?_) (fun h157 => ?_)
                  · exact absurd hr0 h157
                  · skip
                    refine xp_aload_n rfl rfl ?_
                    refine xp_gfa rfl rfl (by decide) (by decide) (by first | assumption | exact hL.t rfl) (by first | assumption | exact hL.r rfl | exact hL.2.2.2.2.2) ?_
                    refine xp_iload_n rfl rfl ?_
                    refine xp_dup2 rfl rfl rfl ?_
                    refine xp_iald rfl (by first | assumption | exact hL.t rfl) (by omega) (by omega) ?_
                    rw [u1]
                    refine xp_iconst (n := 1) rfl (by decide) ?_
                    refine xp_iadd rfl ?_
                    refine xp_iast rfl (by first | assumption | exact hL.t rfl) (by omega) (by omega) ?_
                    refine xp_iload rfl rfl ?_
                    refine xp_ireturn rfl (by decide) (by decide) (by decide) ?_
                    exact ⟨_, rfl, u2⟩
                · exfalso; omega
              · exfalso; omega
            · exfalso; omega
          · omega
        · rw [if_neg hr0]
          refine xF_x (xF_p (Nat.le_of_ble_eq_true rfl) ?_)
          refine l145 (A := A) hL b3 q1 q2 hd b7 (by rw [g2]; exact hpl) (by rw [g2]; exact c2) b6 x1 x2 x3 (by omega) i6 hta (fun hz1 => ?_) (fun hz2 => ?_)
          · skip
            refine xp_iload_n rfl rfl ?_
            refine xp_bipush (n := 21) rfl (by decide) ?_
            refine xp_icne 119 rfl (by decide) (by omega) (by omega) (fun h107 => ?_) (fun h107 => ?_)
            · skip
              refine xp_iload_n rfl rfl ?_
              refine xp_bipush (n := 22) rfl (by decide) ?_
              refine xp_icne 131 rfl (by decide) (by omega) (by omega) (fun h122 => ?_) (fun h122 => ?_)
              · skip
                refine xp_iload_n rfl rfl ?_
                refine xp_bipush (n := 23) rfl (by decide) ?_
                refine xp_icne 143 rfl (by decide) (by omega) (by omega) (fun h134 => ?_) (fun h134 => ?_)
                · skip
                  refine xp_aload_n rfl rfl ?_
                  refine xp_iload_n rfl rfl ?_
                  refine xp_iload_n rfl rfl ?_
                  refine xp_iload rfl rfl ?_
                  refine xp_iload rfl rfl ?_
                  refine xp_iv rfl rfl (Nat.le_of_ble_eq_true rfl) (by decide) (by decide) (by decide) (Nat.le_of_ble_eq_true rfl) rfl (xrcv1 (by decide) (by first | assumption | exact hL.t rfl)) (z1) rfl ?_
                  refine xp_istore rfl (by decide) ?_
                  refine xp_iload rfl rfl ?_
                  refine xp_ifne 170 rfl (by decide) (by omega) (fun h157 => ?_) (fun h157 => ?_)
                  · skip
                    refine xp_iload rfl rfl ?_
                    refine xp_ireturn rfl (by decide) (by decide) (by decide) ?_
                    exact ⟨_, rfl, z2⟩
                  · exact absurd h157 hr0
                · exfalso; omega
              · exfalso; omega
            · exfalso; omega
          · omega
    · have hnd : aNeed A 27 a b = 0 := rfl
      · have hsz : ¬ A.1 f 3 < aNeed A 27 a b := by rw [hnd]; omega
        rw [if_neg hsz]
        have hsz0 : aNeed A 27 a b ≤ A.1 f 3 := by omega
        rw [hnd] at hsz
        obtain ⟨B2, z1, z2⟩ := m144_27 (z := z) (a := a) (b := b) hL hc hR hT
        obtain ⟨u1, u2⟩ := go _ _ (hpc hsz0 (by omega)) z2
        have hlt := aPl_lt w A f 27 a b
        show ∃ B2, xF 145 _ _ (.inr (some (.int (nI (aGoOn f (aPl w A f 27 a b)).1))), _) ∧ Rel w (aGoOn f (aPl w A f 27 a b)).2 B2
        generalize aPl w A f 27 a b = r at z1 z2 u1 u2 hlt
        unfold aGoOn
        by_cases hr0 : r.1 = 0
        · rw [if_pos hr0]
          refine xF_x (xF_p (Nat.le_of_ble_eq_true rfl) ?_)
          refine l145 (A := A) hL b3 q1 q2 hd b7 (by rw [g2]; exact hpl) (by rw [g2]; exact c2) b6 x1 x2 x3 (by omega) i6 hta (fun hz1 => ?_) (fun hz2 => ?_)
          · skip
            refine xp_iload_n rfl rfl ?_
            refine xp_bipush (n := 21) rfl (by decide) ?_
            refine xp_icne 119 rfl (by decide) (by omega) (by omega) (fun h107 => ?_) (fun h107 => ?_)
            · skip
              refine xp_iload_n rfl rfl ?_
              refine xp_bipush (n := 22) rfl (by decide) ?_
              refine xp_icne 131 rfl (by decide) (by omega) (by omega) (fun h122 => ?_) (fun h122 => ?_)
              · skip
                refine xp_iload_n rfl rfl ?_
                refine xp_bipush (n := 23) rfl (by decide) ?_
                refine xp_icne 143 rfl (by decide) (by omega) (by omega) (fun h134 => ?_) (fun h134 => ?_)
                · skip
                  refine xp_aload_n rfl rfl ?_
                  refine xp_iload_n rfl rfl ?_
                  refine xp_iload_n rfl rfl ?_
                  refine xp_iload rfl rfl ?_
                  refine xp_iload rfl rfl ?_
                  refine xp_iv rfl rfl (Nat.le_of_ble_eq_true rfl) (by decide) (by decide) (by decide) (Nat.le_of_ble_eq_true rfl) rfl (xrcv1 (by decide) (by first | assumption | exact hL.t rfl)) (z1) rfl ?_
                  refine xp_istore rfl (by decide) ?_
                  refine xp_iload rfl rfl ?_
                  refine xp_ifne 170 rfl (by decide) (by omega) (fun h157 => ?_) (fun h157 => ?_)
                  · exact absurd hr0 h157
                  · skip
                    refine xp_aload_n rfl rfl ?_
                    refine xp_gfa rfl rfl (by decide) (by decide) (by first | assumption | exact hL.t rfl) (by first | assumption | exact hL.r rfl | exact hL.2.2.2.2.2) ?_
                    refine xp_iload_n rfl rfl ?_
                    refine xp_dup2 rfl rfl rfl ?_
                    refine xp_iald rfl (by first | assumption | exact hL.t rfl) (by omega) (by omega) ?_
                    rw [u1]
                    refine xp_iconst (n := 1) rfl (by decide) ?_
                    refine xp_iadd rfl ?_
                    refine xp_iast rfl (by first | assumption | exact hL.t rfl) (by omega) (by omega) ?_
                    refine xp_iload rfl rfl ?_
                    refine xp_ireturn rfl (by decide) (by decide) (by decide) ?_
                    exact ⟨_, rfl, u2⟩
                · exfalso; omega
              · exfalso; omega
            · exfalso; omega
          · omega
        · rw [if_neg hr0]
          refine xF_x (xF_p (Nat.le_of_ble_eq_true rfl) ?_)
          refine l145 (A := A) hL b3 q1 q2 hd b7 (by rw [g2]; exact hpl) (by rw [g2]; exact c2) b6 x1 x2 x3 (by omega) i6 hta (fun hz1 => ?_) (fun hz2 => ?_)
          · skip
            refine xp_iload_n rfl rfl ?_
            refine xp_bipush (n := 21) rfl (by decide) ?_
            refine xp_icne 119 rfl (by decide) (by omega) (by omega) (fun h107 => ?_) (fun h107 => ?_)
            · skip
              refine xp_iload_n rfl rfl ?_
              refine xp_bipush (n := 22) rfl (by decide) ?_
              refine xp_icne 131 rfl (by decide) (by omega) (by omega) (fun h122 => ?_) (fun h122 => ?_)
              · skip
                refine xp_iload_n rfl rfl ?_
                refine xp_bipush (n := 23) rfl (by decide) ?_
                refine xp_icne 143 rfl (by decide) (by omega) (by omega) (fun h134 => ?_) (fun h134 => ?_)
                · skip
                  refine xp_aload_n rfl rfl ?_
                  refine xp_iload_n rfl rfl ?_
                  refine xp_iload_n rfl rfl ?_
                  refine xp_iload rfl rfl ?_
                  refine xp_iload rfl rfl ?_
                  refine xp_iv rfl rfl (Nat.le_of_ble_eq_true rfl) (by decide) (by decide) (by decide) (Nat.le_of_ble_eq_true rfl) rfl (xrcv1 (by decide) (by first | assumption | exact hL.t rfl)) (z1) rfl ?_
                  refine xp_istore rfl (by decide) ?_
                  refine xp_iload rfl rfl ?_
                  refine xp_ifne 170 rfl (by decide) (by omega) (fun h157 => ?_) (fun h157 => ?_)
                  · skip
                    refine xp_iload rfl rfl ?_
                    refine xp_ireturn rfl (by decide) (by decide) (by decide) ?_
                    exact ⟨_, rfl, z2⟩
                  · exact absurd h157 hr0
                · exfalso; omega
              · exfalso; omega
            · exfalso; omega
          · omega
  · rw [if_neg hpl, if_pos rfl]
    refine xF_x (xF_p (Nat.le_of_ble_eq_true rfl) ?_)
    refine xp_aload_n rfl rfl ?_
    refine xp_gfa rfl rfl (by decide) (by decide) (by first | assumption | exact hL.t rfl) (by first | assumption | exact hL.r rfl | exact hL.2.2.2.2.2) ?_
    refine xp_iload_n rfl rfl ?_
    refine xp_iald rfl (by first | assumption | exact hL.t rfl) (by omega) (by omega) ?_
    rw [q2]
    refine xp_aload_n rfl rfl ?_
    refine xp_gfa rfl rfl (by decide) (by decide) (by first | assumption | exact hL.t rfl) (by first | assumption | exact hL.r rfl | exact hL.2.2.2.2.2) ?_
    refine xp_aload_n rfl rfl ?_
    refine xp_gfa rfl rfl (by decide) (by decide) (by first | assumption | exact hL.t rfl) (by first | assumption | exact hL.r rfl | exact hL.2.2.2.2.2) ?_
    refine xp_iload_n rfl rfl ?_
    refine xp_iald rfl (by first | assumption | exact hL.t rfl) (by omega) (by omega) ?_
    rw [q1]
    refine xp_iald rfl (by first | assumption | exact hL.t rfl) (by omega) (by omega) ?_
    rw [g2]
    refine xp_iclt 23 rfl (by decide) (by omega) (by omega) (fun h17 => ?_) (fun h17 => ?_)
    · exfalso; omega
    · skip
      refine xp_bipush (n := 7) rfl (by decide) ?_
      refine xp_ireturn rfl (by decide) (by decide) (by decide) ?_
      exact ⟨_, rfl, hR⟩
