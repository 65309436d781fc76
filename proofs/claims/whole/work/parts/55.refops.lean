-- THE REFERENCE: its instructions
theorem xF_x {y : Nat} {as : List Value} {S : xS} {v : Option Value} {z : Nat} {T : Nat → Option xT} {R : Nat → Nat → Option Nat} {Q : xQ → Prop} (h : ∃ r, xF y as S r ∧ ∃ B2, r = (.inr v, xm z T R B2) ∧ Q B2) : ∃ B2, xF y as S (.inr v, xm z T R B2) ∧ Q B2 := by
  obtain ⟨r, h1, B2, h2, h3⟩ := h
  rw [h2] at h1
  exact ⟨B2, h1, h3⟩
theorem mNum1 {s : Nat} (h : s = 1 ∨ s = 2) : mNum s = 1 := if_pos h
theorem mNum0 {s : Nat} (h : ¬ (s = 1 ∨ s = 2)) : mNum s = 0 := if_neg h
theorem m134_8 {z : Nat} {T : Nat → Option xT} {R : Nat → Nat → Option Nat} {A B : xQ} {w t k f m : Nat} (hL : xLay T R w) (hc : COk w A) (hR : Rel w A B) (hT : Top w A t k f m) (h2 : 2 ≤ A.1 f 3) : ∃ B2, xF 134 [.ref 189, .int (nI m), .int (nI 8)] (xm z T R B) (.inr (some (.int (nI (aCompute A f 8).1))), xm z T R B2) ∧ Rel w (aCompute A f 8).2 B2 := by
  obtain ⟨b1, b2, b3, b4, b5, b6, b7⟩ := hT.b hc
  have hk := hT.ok hc
  have hd := (hT.g hR).2.2.1
  obtain ⟨d0, x1, x2⟩ := hT.x hR h2
  obtain ⟨_, y1, y2⟩ := hT.y hR (by omega)
  have kx := hk.c (c := 3 + A.1 f 3) (by omega)
  have ky := hk.c (c := 4 + A.1 f 3) (by omega)
  by_cases hx : A.1 (f + 2) (3 + A.1 f 3) = 1 ∨ A.1 (f + 2) (3 + A.1 f 3) = 2
  · by_cases hy : A.1 (f + 2) (4 + A.1 f 3) = 1 ∨ A.1 (f + 2) (4 + A.1 f 3) = 2
    · skip
      have ec : aCombine 8 (A.2 (f + 3) (3 + A.1 f 3)) (A.2 (f + 3) (4 + A.1 f 3)) = A.2 (f + 3) (3 + A.1 f 3) + A.2 (f + 3) (4 + A.1 f 3) := rfl
      by_cases hl : A.1 (f + 2) (3 + A.1 f 3) = 2 ∨ A.1 (f + 2) (4 + A.1 f 3) = 2
      · have e : aCompute A f 8 = aPush (aPop A f 2) f 2 (aCombine 8 (A.2 (f + 3) (3 + A.1 f 3)) (A.2 (f + 3) (4 + A.1 f 3))) := by unfold aCompute; rw [if_neg (fun z => z ⟨hx, hy⟩), if_neg (fun z => absurd z.1 (by omega)), if_pos hl]
        rw [e, ec]
        refine xF_x (xF_p (Nat.le_of_ble_eq_true rfl) ?_)
        refine xp_aload_n rfl rfl ?_
        refine xp_iload_n rfl rfl ?_
        refine xp_iconst (n := 1) rfl (by decide) ?_
        refine xp_iv rfl rfl (Nat.le_of_ble_eq_true rfl) (by decide) (by decide) (by decide) (Nat.le_of_ble_eq_true rfl) rfl (xrcv1 (by decide) (by first | assumption | exact hL.t rfl)) (m123 hL b3 (by omega)) rfl ?_
        refine xp_istore_n rfl (by decide) ?_
        refine xp_aload_n rfl rfl ?_
        refine xp_iload_n rfl rfl ?_
        refine xp_iconst (n := 0) rfl (by decide) ?_
        refine xp_iv rfl rfl (Nat.le_of_ble_eq_true rfl) (by decide) (by decide) (by decide) (Nat.le_of_ble_eq_true rfl) rfl (xrcv1 (by decide) (by first | assumption | exact hL.t rfl)) (m123 hL b3 (by omega)) rfl ?_
        refine xp_istore rfl (by decide) ?_
        refine xp_aload_n rfl rfl ?_
        refine xp_gfa rfl rfl (by decide) (by decide) (by first | assumption | exact hL.t rfl) (by first | assumption | exact hL.r rfl | exact hL.2.2.2.2.2) ?_
        refine xp_iload_n rfl rfl ?_
        refine xp_iald rfl (by first | assumption | exact hL.t rfl) (by omega) (by omega) ?_
        rw [x1]
        refine xp_is rfl rfl rfl (Nat.le_of_ble_eq_true rfl) (by decide) (by decide) (by decide) (Nat.le_of_ble_eq_true rfl) rfl (xrcv0 (by decide) _ _) (m133 (by omega)) rfl ?_
        rw [mNum1 hx]
        refine xp_ifeq 40 rfl (by decide) (by omega) (fun h24 => ?_) (fun h24 => ?_)
        · exfalso; omega
        · skip
          refine xp_aload_n rfl rfl ?_
          refine xp_gfa rfl rfl (by decide) (by decide) (by first | assumption | exact hL.t rfl) (by first | assumption | exact hL.r rfl | exact hL.2.2.2.2.2) ?_
          refine xp_iload rfl rfl ?_
          refine xp_iald rfl (by first | assumption | exact hL.t rfl) (by omega) (by omega) ?_
          rw [y1]
          refine xp_is rfl rfl rfl (Nat.le_of_ble_eq_true rfl) (by decide) (by decide) (by decide) (Nat.le_of_ble_eq_true rfl) rfl (xrcv0 (by decide) _ _) (m133 (by omega)) rfl ?_
          rw [mNum1 hy]
          refine xp_ifne 42 rfl (by decide) (by omega) (fun h37 => ?_) (fun h37 => ?_)
          · skip
            refine xp_iload_n rfl rfl ?_
            refine xp_bipush (n := 11) rfl (by decide) ?_
            refine xp_icne 62 rfl (by decide) (by omega) (by omega) (fun h45 => ?_) (fun h45 => ?_)
            · skip
              refine xp_aload_n rfl rfl ?_
              refine xp_gfa rfl rfl (by decide) (by decide) (by first | assumption | exact hL.t rfl) (by first | assumption | exact hL.r rfl | exact hL.2.2.2.2.2) ?_
              refine xp_iload_n rfl rfl ?_
              refine xp_lald rfl (by first | assumption | exact hL.t rfl) (by omega) (by omega) ?_
              rw [x2]
              refine xp_lstore rfl (by decide) ?_
              refine xp_aload_n rfl rfl ?_
              refine xp_gfa rfl rfl (by decide) (by decide) (by first | assumption | exact hL.t rfl) (by first | assumption | exact hL.r rfl | exact hL.2.2.2.2.2) ?_
              refine xp_iload rfl rfl ?_
              refine xp_lald rfl (by first | assumption | exact hL.t rfl) (by omega) (by omega) ?_
              rw [y2]
              refine xp_lstore rfl (by decide) ?_
              refine xp_iload_n rfl rfl ?_
              refine xp_bipush (n := 8) rfl (by decide) ?_
              refine xp_icne 93 rfl (by decide) (by omega) (by omega) (fun h82 => ?_) (fun h82 => ?_)
              · exfalso; omega
              · skip
                refine xp_lload rfl rfl ?_
                refine xp_lload rfl rfl ?_
                refine xp_ladd rfl ?_
                refine xp_goto 148 rfl (by decide) ?_
                refine xp_lstore rfl (by decide) ?_
                refine xp_iload_n rfl rfl ?_
                refine xp_bipush (n := 12) rfl (by decide) ?_
                refine xp_iceq 177 rfl (by decide) (by omega) (by omega) (fun h153 => ?_) (fun h153 => ?_)
                · exfalso; omega
                · skip
                  refine xp_aload_n rfl rfl ?_
                  refine xp_gfa rfl rfl (by decide) (by decide) (by first | assumption | exact hL.t rfl) (by first | assumption | exact hL.r rfl | exact hL.2.2.2.2.2) ?_
                  refine xp_iload_n rfl rfl ?_
                  refine xp_iald rfl (by first | assumption | exact hL.t rfl) (by omega) (by omega) ?_
                  rw [x1]
                  refine xp_iconst (n := 1) rfl (by decide) ?_
                  refine xp_icne 181 rfl (by decide) (by omega) (by omega) (fun h163 => ?_) (fun h163 => ?_)
                  · skip
                    refine xp_iconst (n := 0) rfl (by decide) ?_
                    refine xp_istore rfl (by decide) ?_
                    refine xp_aload_n rfl rfl ?_
                    refine xp_gfa rfl rfl (by decide) (by decide) (by first | assumption | exact hL.t rfl) (by first | assumption | exact hL.r rfl | exact hL.2.2.2.2.2) ?_
                    refine xp_iload_n rfl rfl ?_
                    refine xp_dup2 rfl rfl rfl ?_
                    refine xp_iald rfl (by first | assumption | exact hL.t rfl) (by omega) (by omega) ?_
                    refine xp_iconst (n := 1) rfl (by decide) ?_
                    refine xp_isub rfl (by omega) ?_
                    refine xp_iast rfl (by first | assumption | exact hL.t rfl) (by omega) (by omega) ?_
                    refine xp_aload_n rfl rfl ?_
                    refine xp_iload_n rfl rfl ?_
                    refine xp_iload rfl rfl ?_
                    refine xp_ifeq 205 rfl (by decide) (by omega) (fun h198 => ?_) (fun h198 => ?_)
                    · skip
                      refine xp_iconst (n := 2) rfl (by decide) ?_
                      refine xp_iload rfl rfl ?_
                      refine xp_ifeq 218 rfl (by decide) (by omega) (fun h208 => ?_) (fun h208 => ?_)
                      · skip
                        refine xp_lload rfl rfl ?_
                        refine xp_iv rfl rfl (Nat.le_of_ble_eq_true rfl) (by decide) (by decide) (by decide) (Nat.le_of_ble_eq_true rfl) rfl (xrcv1 (by decide) (by first | assumption | exact hL.t rfl)) (m120 hL (by omega)) rfl ?_
                        refine xp_iconst (n := 0) rfl (by decide) ?_
                        refine xp_ireturn rfl (by decide) (by decide) (by decide) ?_
                        obtain ⟨g1, g2⟩ := hR.binop (q := 2) (v := _) hc hT h2
                        rw [g1]
                        exact ⟨_, rfl, g2⟩
                      · exfalso; omega
                    · exfalso; omega
                  · skip
                    refine xp_aload_n rfl rfl ?_
                    refine xp_gfa rfl rfl (by decide) (by decide) (by first | assumption | exact hL.t rfl) (by first | assumption | exact hL.r rfl | exact hL.2.2.2.2.2) ?_
                    refine xp_iload rfl rfl ?_
                    refine xp_iald rfl (by first | assumption | exact hL.t rfl) (by omega) (by omega) ?_
                    rw [y1]
                    refine xp_iconst (n := 1) rfl (by decide) ?_
                    refine xp_icne 181 rfl (by decide) (by omega) (by omega) (fun h174 => ?_) (fun h174 => ?_)
                    · skip
                      refine xp_iconst (n := 0) rfl (by decide) ?_
                      refine xp_istore rfl (by decide) ?_
                      refine xp_aload_n rfl rfl ?_
                      refine xp_gfa rfl rfl (by decide) (by decide) (by first | assumption | exact hL.t rfl) (by first | assumption | exact hL.r rfl | exact hL.2.2.2.2.2) ?_
                      refine xp_iload_n rfl rfl ?_
                      refine xp_dup2 rfl rfl rfl ?_
                      refine xp_iald rfl (by first | assumption | exact hL.t rfl) (by omega) (by omega) ?_
                      refine xp_iconst (n := 1) rfl (by decide) ?_
                      refine xp_isub rfl (by omega) ?_
                      refine xp_iast rfl (by first | assumption | exact hL.t rfl) (by omega) (by omega) ?_
                      refine xp_aload_n rfl rfl ?_
                      refine xp_iload_n rfl rfl ?_
                      refine xp_iload rfl rfl ?_
                      refine xp_ifeq 205 rfl (by decide) (by omega) (fun h198 => ?_) (fun h198 => ?_)
                      · skip
                        refine xp_iconst (n := 2) rfl (by decide) ?_
                        refine xp_iload rfl rfl ?_
                        refine xp_ifeq 218 rfl (by decide) (by omega) (fun h208 => ?_) (fun h208 => ?_)
                        · skip
                          refine xp_lload rfl rfl ?_
                          refine xp_iv rfl rfl (Nat.le_of_ble_eq_true rfl) (by decide) (by decide) (by decide) (Nat.le_of_ble_eq_true rfl) rfl (xrcv1 (by decide) (by first | assumption | exact hL.t rfl)) (m120 hL (by omega)) rfl ?_
                          refine xp_iconst (n := 0) rfl (by decide) ?_
                          refine xp_ireturn rfl (by decide) (by decide) (by decide) ?_
                          obtain ⟨g1, g2⟩ := hR.binop (q := 2) (v := _) hc hT h2
                          rw [g1]
                          exact ⟨_, rfl, g2⟩
                        · exfalso; omega
                      · exfalso; omega
                    · exact absurd hl (by omega)
            · exfalso; omega
          · exfalso; omega
      · have e : aCompute A f 8 = aPush (aPop A f 2) f 1 (aCombine 8 (A.2 (f + 3) (3 + A.1 f 3)) (A.2 (f + 3) (4 + A.1 f 3))).toInt32.toInt64 := by unfold aCompute; rw [if_neg (fun z => z ⟨hx, hy⟩), if_neg (fun z => absurd z.1 (by omega)), if_neg hl]
        rw [e, ec]
        refine xF_x (xF_p (Nat.le_of_ble_eq_true rfl) ?_)
        refine xp_aload_n rfl rfl ?_
        refine xp_iload_n rfl rfl ?_
        refine xp_iconst (n := 1) rfl (by decide) ?_
        refine xp_iv rfl rfl (Nat.le_of_ble_eq_true rfl) (by decide) (by decide) (by decide) (Nat.le_of_ble_eq_true rfl) rfl (xrcv1 (by decide) (by first | assumption | exact hL.t rfl)) (m123 hL b3 (by omega)) rfl ?_
        refine xp_istore_n rfl (by decide) ?_
        refine xp_aload_n rfl rfl ?_
        refine xp_iload_n rfl rfl ?_
        refine xp_iconst (n := 0) rfl (by decide) ?_
        refine xp_iv rfl rfl (Nat.le_of_ble_eq_true rfl) (by decide) (by decide) (by decide) (Nat.le_of_ble_eq_true rfl) rfl (xrcv1 (by decide) (by first | assumption | exact hL.t rfl)) (m123 hL b3 (by omega)) rfl ?_
        refine xp_istore rfl (by decide) ?_
        refine xp_aload_n rfl rfl ?_
        refine xp_gfa rfl rfl (by decide) (by decide) (by first | assumption | exact hL.t rfl) (by first | assumption | exact hL.r rfl | exact hL.2.2.2.2.2) ?_
        refine xp_iload_n rfl rfl ?_
        refine xp_iald rfl (by first | assumption | exact hL.t rfl) (by omega) (by omega) ?_
        rw [x1]
        refine xp_is rfl rfl rfl (Nat.le_of_ble_eq_true rfl) (by decide) (by decide) (by decide) (Nat.le_of_ble_eq_true rfl) rfl (xrcv0 (by decide) _ _) (m133 (by omega)) rfl ?_
        rw [mNum1 hx]
        refine xp_ifeq 40 rfl (by decide) (by omega) (fun h24 => ?_) (fun h24 => ?_)
        · exfalso; omega
        · skip
          refine xp_aload_n rfl rfl ?_
          refine xp_gfa rfl rfl (by decide) (by decide) (by first | assumption | exact hL.t rfl) (by first | assumption | exact hL.r rfl | exact hL.2.2.2.2.2) ?_
          refine xp_iload rfl rfl ?_
          refine xp_iald rfl (by first | assumption | exact hL.t rfl) (by omega) (by omega) ?_
          rw [y1]
          refine xp_is rfl rfl rfl (Nat.le_of_ble_eq_true rfl) (by decide) (by decide) (by decide) (Nat.le_of_ble_eq_true rfl) rfl (xrcv0 (by decide) _ _) (m133 (by omega)) rfl ?_
          rw [mNum1 hy]
          refine xp_ifne 42 rfl (by decide) (by omega) (fun h37 => ?_) (fun h37 => ?_)
          · skip
            refine xp_iload_n rfl rfl ?_
            refine xp_bipush (n := 11) rfl (by decide) ?_
            refine xp_icne 62 rfl (by decide) (by omega) (by omega) (fun h45 => ?_) (fun h45 => ?_)
            · skip
              refine xp_aload_n rfl rfl ?_
              refine xp_gfa rfl rfl (by decide) (by decide) (by first | assumption | exact hL.t rfl) (by first | assumption | exact hL.r rfl | exact hL.2.2.2.2.2) ?_
              refine xp_iload_n rfl rfl ?_
              refine xp_lald rfl (by first | assumption | exact hL.t rfl) (by omega) (by omega) ?_
              rw [x2]
              refine xp_lstore rfl (by decide) ?_
              refine xp_aload_n rfl rfl ?_
              refine xp_gfa rfl rfl (by decide) (by decide) (by first | assumption | exact hL.t rfl) (by first | assumption | exact hL.r rfl | exact hL.2.2.2.2.2) ?_
              refine xp_iload rfl rfl ?_
              refine xp_lald rfl (by first | assumption | exact hL.t rfl) (by omega) (by omega) ?_
              rw [y2]
              refine xp_lstore rfl (by decide) ?_
              refine xp_iload_n rfl rfl ?_
              refine xp_bipush (n := 8) rfl (by decide) ?_
              refine xp_icne 93 rfl (by decide) (by omega) (by omega) (fun h82 => ?_) (fun h82 => ?_)
              · exfalso; omega
              · skip
                refine xp_lload rfl rfl ?_
                refine xp_lload rfl rfl ?_
                refine xp_ladd rfl ?_
                refine xp_goto 148 rfl (by decide) ?_
                refine xp_lstore rfl (by decide) ?_
                refine xp_iload_n rfl rfl ?_
                refine xp_bipush (n := 12) rfl (by decide) ?_
                refine xp_iceq 177 rfl (by decide) (by omega) (by omega) (fun h153 => ?_) (fun h153 => ?_)
                · exfalso; omega
                · skip
                  refine xp_aload_n rfl rfl ?_
                  refine xp_gfa rfl rfl (by decide) (by decide) (by first | assumption | exact hL.t rfl) (by first | assumption | exact hL.r rfl | exact hL.2.2.2.2.2) ?_
                  refine xp_iload_n rfl rfl ?_
                  refine xp_iald rfl (by first | assumption | exact hL.t rfl) (by omega) (by omega) ?_
                  rw [x1]
                  refine xp_iconst (n := 1) rfl (by decide) ?_
                  refine xp_icne 181 rfl (by decide) (by omega) (by omega) (fun h163 => ?_) (fun h163 => ?_)
                  · exact absurd hl (by omega)
                  · skip
                    refine xp_aload_n rfl rfl ?_
                    refine xp_gfa rfl rfl (by decide) (by decide) (by first | assumption | exact hL.t rfl) (by first | assumption | exact hL.r rfl | exact hL.2.2.2.2.2) ?_
                    refine xp_iload rfl rfl ?_
                    refine xp_iald rfl (by first | assumption | exact hL.t rfl) (by omega) (by omega) ?_
                    rw [y1]
                    refine xp_iconst (n := 1) rfl (by decide) ?_
                    refine xp_icne 181 rfl (by decide) (by omega) (by omega) (fun h174 => ?_) (fun h174 => ?_)
                    · exact absurd hl (by omega)
                    · skip
                      refine xp_iconst (n := 1) rfl (by decide) ?_
                      refine xp_goto 182 rfl (by decide) ?_
                      refine xp_istore rfl (by decide) ?_
                      refine xp_aload_n rfl rfl ?_
                      refine xp_gfa rfl rfl (by decide) (by decide) (by first | assumption | exact hL.t rfl) (by first | assumption | exact hL.r rfl | exact hL.2.2.2.2.2) ?_
                      refine xp_iload_n rfl rfl ?_
                      refine xp_dup2 rfl rfl rfl ?_
                      refine xp_iald rfl (by first | assumption | exact hL.t rfl) (by omega) (by omega) ?_
                      refine xp_iconst (n := 1) rfl (by decide) ?_
                      refine xp_isub rfl (by omega) ?_
                      refine xp_iast rfl (by first | assumption | exact hL.t rfl) (by omega) (by omega) ?_
                      refine xp_aload_n rfl rfl ?_
                      refine xp_iload_n rfl rfl ?_
                      refine xp_iload rfl rfl ?_
                      refine xp_ifeq 205 rfl (by decide) (by omega) (fun h198 => ?_) (fun h198 => ?_)
                      · exfalso; omega
                      · skip
                        refine xp_iconst (n := 1) rfl (by decide) ?_
                        refine xp_goto 206 rfl (by decide) ?_
                        refine xp_iload rfl rfl ?_
                        refine xp_ifeq 218 rfl (by decide) (by omega) (fun h208 => ?_) (fun h208 => ?_)
                        · exfalso; omega
                        · skip
                          refine xp_lload rfl rfl ?_
                          refine xp_l2i rfl ?_
                          refine xp_i2l rfl ?_
                          refine xp_goto 220 rfl (by decide) ?_
                          refine xp_iv rfl rfl (Nat.le_of_ble_eq_true rfl) (by decide) (by decide) (by decide) (Nat.le_of_ble_eq_true rfl) rfl (xrcv1 (by decide) (by first | assumption | exact hL.t rfl)) (m120 hL (by omega)) rfl ?_
                          refine xp_iconst (n := 0) rfl (by decide) ?_
                          refine xp_ireturn rfl (by decide) (by decide) (by decide) ?_
                          obtain ⟨g1, g2⟩ := hR.binop (q := 1) (v := _) hc hT h2
                          rw [g1]
                          exact ⟨_, rfl, g2⟩
            · exfalso; omega
          · exfalso; omega
    · have e : aCompute A f 8 = (2, A) := by unfold aCompute; rw [if_pos (fun z => hy z.2)]
      rw [e]
      refine xF_x (xF_p (Nat.le_of_ble_eq_true rfl) ?_)
      refine xp_aload_n rfl rfl ?_
      refine xp_iload_n rfl rfl ?_
      refine xp_iconst (n := 1) rfl (by decide) ?_
      refine xp_iv rfl rfl (Nat.le_of_ble_eq_true rfl) (by decide) (by decide) (by decide) (Nat.le_of_ble_eq_true rfl) rfl (xrcv1 (by decide) (by first | assumption | exact hL.t rfl)) (m123 hL b3 (by omega)) rfl ?_
      refine xp_istore_n rfl (by decide) ?_
      refine xp_aload_n rfl rfl ?_
      refine xp_iload_n rfl rfl ?_
      refine xp_iconst (n := 0) rfl (by decide) ?_
      refine xp_iv rfl rfl (Nat.le_of_ble_eq_true rfl) (by decide) (by decide) (by decide) (Nat.le_of_ble_eq_true rfl) rfl (xrcv1 (by decide) (by first | assumption | exact hL.t rfl)) (m123 hL b3 (by omega)) rfl ?_
      refine xp_istore rfl (by decide) ?_
      refine xp_aload_n rfl rfl ?_
      refine xp_gfa rfl rfl (by decide) (by decide) (by first | assumption | exact hL.t rfl) (by first | assumption | exact hL.r rfl | exact hL.2.2.2.2.2) ?_
      refine xp_iload_n rfl rfl ?_
      refine xp_iald rfl (by first | assumption | exact hL.t rfl) (by omega) (by omega) ?_
      rw [x1]
      refine xp_is rfl rfl rfl (Nat.le_of_ble_eq_true rfl) (by decide) (by decide) (by decide) (Nat.le_of_ble_eq_true rfl) rfl (xrcv0 (by decide) _ _) (m133 (by omega)) rfl ?_
      rw [mNum1 hx]
      refine xp_ifeq 40 rfl (by decide) (by omega) (fun h24 => ?_) (fun h24 => ?_)
      · exfalso; omega
      · skip
        refine xp_aload_n rfl rfl ?_
        refine xp_gfa rfl rfl (by decide) (by decide) (by first | assumption | exact hL.t rfl) (by first | assumption | exact hL.r rfl | exact hL.2.2.2.2.2) ?_
        refine xp_iload rfl rfl ?_
        refine xp_iald rfl (by first | assumption | exact hL.t rfl) (by omega) (by omega) ?_
        rw [y1]
        refine xp_is rfl rfl rfl (Nat.le_of_ble_eq_true rfl) (by decide) (by decide) (by decide) (Nat.le_of_ble_eq_true rfl) rfl (xrcv0 (by decide) _ _) (m133 (by omega)) rfl ?_
        rw [mNum0 hy]
        refine xp_ifne 42 rfl (by decide) (by omega) (fun h37 => ?_) (fun h37 => ?_)
        · exfalso; omega
        · skip
          refine xp_iconst (n := 2) rfl (by decide) ?_
          refine xp_ireturn rfl (by decide) (by decide) (by decide) ?_
          exact ⟨_, rfl, hR⟩
  · have e : aCompute A f 8 = (2, A) := by unfold aCompute; rw [if_pos (fun z => hx z.1)]
    rw [e]
    refine xF_x (xF_p (Nat.le_of_ble_eq_true rfl) ?_)
    refine xp_aload_n rfl rfl ?_
    refine xp_iload_n rfl rfl ?_
    refine xp_iconst (n := 1) rfl (by decide) ?_
    refine xp_iv rfl rfl (Nat.le_of_ble_eq_true rfl) (by decide) (by decide) (by decide) (Nat.le_of_ble_eq_true rfl) rfl (xrcv1 (by decide) (by first | assumption | exact hL.t rfl)) (m123 hL b3 (by omega)) rfl ?_
    refine xp_istore_n rfl (by decide) ?_
    refine xp_aload_n rfl rfl ?_
    refine xp_iload_n rfl rfl ?_
    refine xp_iconst (n := 0) rfl (by decide) ?_
    refine xp_iv rfl rfl (Nat.le_of_ble_eq_true rfl) (by decide) (by decide) (by decide) (Nat.le_of_ble_eq_true rfl) rfl (xrcv1 (by decide) (by first | assumption | exact hL.t rfl)) (m123 hL b3 (by omega)) rfl ?_
    refine xp_istore rfl (by decide) ?_
    refine xp_aload_n rfl rfl ?_
    refine xp_gfa rfl rfl (by decide) (by decide) (by first | assumption | exact hL.t rfl) (by first | assumption | exact hL.r rfl | exact hL.2.2.2.2.2) ?_
    refine xp_iload_n rfl rfl ?_
    refine xp_iald rfl (by first | assumption | exact hL.t rfl) (by omega) (by omega) ?_
    rw [x1]
    refine xp_is rfl rfl rfl (Nat.le_of_ble_eq_true rfl) (by decide) (by decide) (by decide) (Nat.le_of_ble_eq_true rfl) rfl (xrcv0 (by decide) _ _) (m133 (by omega)) rfl ?_
    rw [mNum0 hx]
    refine xp_ifeq 40 rfl (by decide) (by omega) (fun h24 => ?_) (fun h24 => ?_)
    · skip
      refine xp_iconst (n := 2) rfl (by decide) ?_
      refine xp_ireturn rfl (by decide) (by decide) (by decide) ?_
      exact ⟨_, rfl, hR⟩
    · exfalso; omega
theorem m134_9 {z : Nat} {T : Nat → Option xT} {R : Nat → Nat → Option Nat} {A B : xQ} {w t k f m : Nat} (hL : xLay T R w) (hc : COk w A) (hR : Rel w A B) (hT : Top w A t k f m) (h2 : 2 ≤ A.1 f 3) : ∃ B2, xF 134 [.ref 189, .int (nI m), .int (nI 9)] (xm z T R B) (.inr (some (.int (nI (aCompute A f 9).1))), xm z T R B2) ∧ Rel w (aCompute A f 9).2 B2 := by
  obtain ⟨b1, b2, b3, b4, b5, b6, b7⟩ := hT.b hc
  have hk := hT.ok hc
  have hd := (hT.g hR).2.2.1
  obtain ⟨d0, x1, x2⟩ := hT.x hR h2
  obtain ⟨_, y1, y2⟩ := hT.y hR (by omega)
  have kx := hk.c (c := 3 + A.1 f 3) (by omega)
  have ky := hk.c (c := 4 + A.1 f 3) (by omega)
  by_cases hx : A.1 (f + 2) (3 + A.1 f 3) = 1 ∨ A.1 (f + 2) (3 + A.1 f 3) = 2
  · by_cases hy : A.1 (f + 2) (4 + A.1 f 3) = 1 ∨ A.1 (f + 2) (4 + A.1 f 3) = 2
    · skip
      have ec : aCombine 9 (A.2 (f + 3) (3 + A.1 f 3)) (A.2 (f + 3) (4 + A.1 f 3)) = A.2 (f + 3) (3 + A.1 f 3) - A.2 (f + 3) (4 + A.1 f 3) := rfl
      by_cases hl : A.1 (f + 2) (3 + A.1 f 3) = 2 ∨ A.1 (f + 2) (4 + A.1 f 3) = 2
      · have e : aCompute A f 9 = aPush (aPop A f 2) f 2 (aCombine 9 (A.2 (f + 3) (3 + A.1 f 3)) (A.2 (f + 3) (4 + A.1 f 3))) := by unfold aCompute; rw [if_neg (fun z => z ⟨hx, hy⟩), if_neg (fun z => absurd z.1 (by omega)), if_pos hl]
        rw [e, ec]
        refine xF_x (xF_p (Nat.le_of_ble_eq_true rfl) ?_)
        refine xp_aload_n rfl rfl ?_
        refine xp_iload_n rfl rfl ?_
        refine xp_iconst (n := 1) rfl (by decide) ?_
        refine xp_iv rfl rfl (Nat.le_of_ble_eq_true rfl) (by decide) (by decide) (by decide) (Nat.le_of_ble_eq_true rfl) rfl (xrcv1 (by decide) (by first | assumption | exact hL.t rfl)) (m123 hL b3 (by omega)) rfl ?_
        refine xp_istore_n rfl (by decide) ?_
        refine xp_aload_n rfl rfl ?_
        refine xp_iload_n rfl rfl ?_
        refine xp_iconst (n := 0) rfl (by decide) ?_
        refine xp_iv rfl rfl (Nat.le_of_ble_eq_true rfl) (by decide) (by decide) (by decide) (Nat.le_of_ble_eq_true rfl) rfl (xrcv1 (by decide) (by first | assumption | exact hL.t rfl)) (m123 hL b3 (by omega)) rfl ?_
        refine xp_istore rfl (by decide) ?_
        refine xp_aload_n rfl rfl ?_
        refine xp_gfa rfl rfl (by decide) (by decide) (by first | assumption | exact hL.t rfl) (by first | assumption | exact hL.r rfl | exact hL.2.2.2.2.2) ?_
        refine xp_iload_n rfl rfl ?_
        refine xp_iald rfl (by first | assumption | exact hL.t rfl) (by omega) (by omega) ?_
        rw [x1]
        refine xp_is rfl rfl rfl (Nat.le_of_ble_eq_true rfl) (by decide) (by decide) (by decide) (Nat.le_of_ble_eq_true rfl) rfl (xrcv0 (by decide) _ _) (m133 (by omega)) rfl ?_
        rw [mNum1 hx]
        refine xp_ifeq 40 rfl (by decide) (by omega) (fun h24 => ?_) (fun h24 => ?_)
        · exfalso; omega
        · skip
          refine xp_aload_n rfl rfl ?_
          refine xp_gfa rfl rfl (by decide) (by decide) (by first | assumption | exact hL.t rfl) (by first | assumption | exact hL.r rfl | exact hL.2.2.2.2.2) ?_
          refine xp_iload rfl rfl ?_
          refine xp_iald rfl (by first | assumption | exact hL.t rfl) (by omega) (by omega) ?_
          rw [y1]
          refine xp_is rfl rfl rfl (Nat.le_of_ble_eq_true rfl) (by decide) (by decide) (by decide) (Nat.le_of_ble_eq_true rfl) rfl (xrcv0 (by decide) _ _) (m133 (by omega)) rfl ?_
          rw [mNum1 hy]
          refine xp_ifne 42 rfl (by decide) (by omega) (fun h37 => ?_) (fun h37 => ?_)
          · skip
            refine xp_iload_n rfl rfl ?_
            refine xp_bipush (n := 11) rfl (by decide) ?_
            refine xp_icne 62 rfl (by decide) (by omega) (by omega) (fun h45 => ?_) (fun h45 => ?_)
            · skip
              refine xp_aload_n rfl rfl ?_
              refine xp_gfa rfl rfl (by decide) (by decide) (by first | assumption | exact hL.t rfl) (by first | assumption | exact hL.r rfl | exact hL.2.2.2.2.2) ?_
              refine xp_iload_n rfl rfl ?_
              refine xp_lald rfl (by first | assumption | exact hL.t rfl) (by omega) (by omega) ?_
              rw [x2]
              refine xp_lstore rfl (by decide) ?_
              refine xp_aload_n rfl rfl ?_
              refine xp_gfa rfl rfl (by decide) (by decide) (by first | assumption | exact hL.t rfl) (by first | assumption | exact hL.r rfl | exact hL.2.2.2.2.2) ?_
              refine xp_iload rfl rfl ?_
              refine xp_lald rfl (by first | assumption | exact hL.t rfl) (by omega) (by omega) ?_
              rw [y2]
              refine xp_lstore rfl (by decide) ?_
              refine xp_iload_n rfl rfl ?_
              refine xp_bipush (n := 8) rfl (by decide) ?_
              refine xp_icne 93 rfl (by decide) (by omega) (by omega) (fun h82 => ?_) (fun h82 => ?_)
              · skip
                refine xp_iload_n rfl rfl ?_
                refine xp_bipush (n := 9) rfl (by decide) ?_
                refine xp_icne 107 rfl (by decide) (by omega) (by omega) (fun h96 => ?_) (fun h96 => ?_)
                · exfalso; omega
                · skip
                  refine xp_lload rfl rfl ?_
                  refine xp_lload rfl rfl ?_
                  refine xp_lsub rfl ?_
                  refine xp_goto 148 rfl (by decide) ?_
                  refine xp_lstore rfl (by decide) ?_
                  refine xp_iload_n rfl rfl ?_
                  refine xp_bipush (n := 12) rfl (by decide) ?_
                  refine xp_iceq 177 rfl (by decide) (by omega) (by omega) (fun h153 => ?_) (fun h153 => ?_)
                  · exfalso; omega
                  · skip
                    refine xp_aload_n rfl rfl ?_
                    refine xp_gfa rfl rfl (by decide) (by decide) (by first | assumption | exact hL.t rfl) (by first | assumption | exact hL.r rfl | exact hL.2.2.2.2.2) ?_
                    refine xp_iload_n rfl rfl ?_
                    refine xp_iald rfl (by first | assumption | exact hL.t rfl) (by omega) (by omega) ?_
                    rw [x1]
                    refine xp_iconst (n := 1) rfl (by decide) ?_
                    refine xp_icne 181 rfl (by decide) (by omega) (by omega) (fun h163 => ?_) (fun h163 => ?_)
                    · skip
                      refine xp_iconst (n := 0) rfl (by decide) ?_
                      refine xp_istore rfl (by decide) ?_
                      refine xp_aload_n rfl rfl ?_
                      refine xp_gfa rfl rfl (by decide) (by decide) (by first | assumption | exact hL.t rfl) (by first | assumption | exact hL.r rfl | exact hL.2.2.2.2.2) ?_
                      refine xp_iload_n rfl rfl ?_
                      refine xp_dup2 rfl rfl rfl ?_
                      refine xp_iald rfl (by first | assumption | exact hL.t rfl) (by omega) (by omega) ?_
                      refine xp_iconst (n := 1) rfl (by decide) ?_
                      refine xp_isub rfl (by omega) ?_
                      refine xp_iast rfl (by first | assumption | exact hL.t rfl) (by omega) (by omega) ?_
                      refine xp_aload_n rfl rfl ?_
                      refine xp_iload_n rfl rfl ?_
                      refine xp_iload rfl rfl ?_
                      refine xp_ifeq 205 rfl (by decide) (by omega) (fun h198 => ?_) (fun h198 => ?_)
                      · skip
                        refine xp_iconst (n := 2) rfl (by decide) ?_
                        refine xp_iload rfl rfl ?_
                        refine xp_ifeq 218 rfl (by decide) (by omega) (fun h208 => ?_) (fun h208 => ?_)
                        · skip
                          refine xp_lload rfl rfl ?_
                          refine xp_iv rfl rfl (Nat.le_of_ble_eq_true rfl) (by decide) (by decide) (by decide) (Nat.le_of_ble_eq_true rfl) rfl (xrcv1 (by decide) (by first | assumption | exact hL.t rfl)) (m120 hL (by omega)) rfl ?_
                          refine xp_iconst (n := 0) rfl (by decide) ?_
                          refine xp_ireturn rfl (by decide) (by decide) (by decide) ?_
                          obtain ⟨g1, g2⟩ := hR.binop (q := 2) (v := _) hc hT h2
                          rw [g1]
                          exact ⟨_, rfl, g2⟩
                        · exfalso; omega
                      · exfalso; omega
                    · skip
                      refine xp_aload_n rfl rfl ?_
                      refine xp_gfa rfl rfl (by decide) (by decide) (by first | assumption | exact hL.t rfl) (by first | assumption | exact hL.r rfl | exact hL.2.2.2.2.2) ?_
                      refine xp_iload rfl rfl ?_
                      refine xp_iald rfl (by first | assumption | exact hL.t rfl) (by omega) (by omega) ?_
                      rw [y1]
                      refine xp_iconst (n := 1) rfl (by decide) ?_
                      refine xp_icne 181 rfl (by decide) (by omega) (by omega) (fun h174 => ?_) (fun h174 => ?_)
                      · skip
                        refine xp_iconst (n := 0) rfl (by decide) ?_
                        refine xp_istore rfl (by decide) ?_
                        refine xp_aload_n rfl rfl ?_
                        refine xp_gfa rfl rfl (by decide) (by decide) (by first | assumption | exact hL.t rfl) (by first | assumption | exact hL.r rfl | exact hL.2.2.2.2.2) ?_
                        refine xp_iload_n rfl rfl ?_
                        refine xp_dup2 rfl rfl rfl ?_
                        refine xp_iald rfl (by first | assumption | exact hL.t rfl) (by omega) (by omega) ?_
                        refine xp_iconst (n := 1) rfl (by decide) ?_
                        refine xp_isub rfl (by omega) ?_
                        refine xp_iast rfl (by first | assumption | exact hL.t rfl) (by omega) (by omega) ?_
                        refine xp_aload_n rfl rfl ?_
                        refine xp_iload_n rfl rfl ?_
                        refine xp_iload rfl rfl ?_
                        refine xp_ifeq 205 rfl (by decide) (by omega) (fun h198 => ?_) (fun h198 => ?_)
                        · skip
                          refine xp_iconst (n := 2) rfl (by decide) ?_
                          refine xp_iload rfl rfl ?_
                          refine xp_ifeq 218 rfl (by decide) (by omega) (fun h208 => ?_) (fun h208 => ?_)
                          · skip
                            refine xp_lload rfl rfl ?_
                            refine xp_iv rfl rfl (Nat.le_of_ble_eq_true rfl) (by decide) (by decide) (by decide) (Nat.le_of_ble_eq_true rfl) rfl (xrcv1 (by decide) (by first | assumption | exact hL.t rfl)) (m120 hL (by omega)) rfl ?_
                            refine xp_iconst (n := 0) rfl (by decide) ?_
                            refine xp_ireturn rfl (by decide) (by decide) (by decide) ?_
                            obtain ⟨g1, g2⟩ := hR.binop (q := 2) (v := _) hc hT h2
                            rw [g1]
                            exact ⟨_, rfl, g2⟩
                          · exfalso; omega
                        · exfalso; omega
                      · exact absurd hl (by omega)
              · exfalso; omega
            · exfalso; omega
          · exfalso; omega
      · have e : aCompute A f 9 = aPush (aPop A f 2) f 1 (aCombine 9 (A.2 (f + 3) (3 + A.1 f 3)) (A.2 (f + 3) (4 + A.1 f 3))).toInt32.toInt64 := by unfold aCompute; rw [if_neg (fun z => z ⟨hx, hy⟩), if_neg (fun z => absurd z.1 (by omega)), if_neg hl]
        rw [e, ec]
        refine xF_x (xF_p (Nat.le_of_ble_eq_true rfl) ?_)
        refine xp_aload_n rfl rfl ?_
        refine xp_iload_n rfl rfl ?_
        refine xp_iconst (n := 1) rfl (by decide) ?_
        refine xp_iv rfl rfl (Nat.le_of_ble_eq_true rfl) (by decide) (by decide) (by decide) (Nat.le_of_ble_eq_true rfl) rfl (xrcv1 (by decide) (by first | assumption | exact hL.t rfl)) (m123 hL b3 (by omega)) rfl ?_
        refine xp_istore_n rfl (by decide) ?_
        refine xp_aload_n rfl rfl ?_
        refine xp_iload_n rfl rfl ?_
        refine xp_iconst (n := 0) rfl (by decide) ?_
        refine xp_iv rfl rfl (Nat.le_of_ble_eq_true rfl) (by decide) (by decide) (by decide) (Nat.le_of_ble_eq_true rfl) rfl (xrcv1 (by decide) (by first | assumption | exact hL.t rfl)) (m123 hL b3 (by omega)) rfl ?_
        refine xp_istore rfl (by decide) ?_
        refine xp_aload_n rfl rfl ?_
        refine xp_gfa rfl rfl (by decide) (by decide) (by first | assumption | exact hL.t rfl) (by first | assumption | exact hL.r rfl | exact hL.2.2.2.2.2) ?_
        refine xp_iload_n rfl rfl ?_
        refine xp_iald rfl (by first | assumption | exact hL.t rfl) (by omega) (by omega) ?_
        rw [x1]
        refine xp_is rfl rfl rfl (Nat.le_of_ble_eq_true rfl) (by decide) (by decide) (by decide) (Nat.le_of_ble_eq_true rfl) rfl (xrcv0 (by decide) _ _) (m133 (by omega)) rfl ?_
        rw [mNum1 hx]
        refine xp_ifeq 40 rfl (by decide) (by omega) (fun h24 => ?_) (fun h24 => ?_)
        · exfalso; omega
        · skip
          refine xp_aload_n rfl rfl ?_
          refine xp_gfa rfl rfl (by decide) (by decide) (by first | assumption | exact hL.t rfl) (by first | assumption | exact hL.r rfl | exact hL.2.2.2.2.2) ?_
          refine xp_iload rfl rfl ?_
          refine xp_iald rfl (by first | assumption | exact hL.t rfl) (by omega) (by omega) ?_
          rw [y1]
          refine xp_is rfl rfl rfl (Nat.le_of_ble_eq_true rfl) (by decide) (by decide) (by decide) (Nat.le_of_ble_eq_true rfl) rfl (xrcv0 (by decide) _ _) (m133 (by omega)) rfl ?_
          rw [mNum1 hy]
          refine xp_ifne 42 rfl (by decide) (by omega) (fun h37 => ?_) (fun h37 => ?_)
          · skip
            refine xp_iload_n rfl rfl ?_
            refine xp_bipush (n := 11) rfl (by decide) ?_
            refine xp_icne 62 rfl (by decide) (by omega) (by omega) (fun h45 => ?_) (fun h45 => ?_)
            · skip
              refine xp_aload_n rfl rfl ?_
              refine xp_gfa rfl rfl (by decide) (by decide) (by first | assumption | exact hL.t rfl) (by first | assumption | exact hL.r rfl | exact hL.2.2.2.2.2) ?_
              refine xp_iload_n rfl rfl ?_
              refine xp_lald rfl (by first | assumption | exact hL.t rfl) (by omega) (by omega) ?_
              rw [x2]
              refine xp_lstore rfl (by decide) ?_
              refine xp_aload_n rfl rfl ?_
              refine xp_gfa rfl rfl (by decide) (by decide) (by first | assumption | exact hL.t rfl) (by first | assumption | exact hL.r rfl | exact hL.2.2.2.2.2) ?_
              refine xp_iload rfl rfl ?_
              refine xp_lald rfl (by first | assumption | exact hL.t rfl) (by omega) (by omega) ?_
              rw [y2]
              refine xp_lstore rfl (by decide) ?_
              refine xp_iload_n rfl rfl ?_
              refine xp_bipush (n := 8) rfl (by decide) ?_
              refine xp_icne 93 rfl (by decide) (by omega) (by omega) (fun h82 => ?_) (fun h82 => ?_)
              · skip
                refine xp_iload_n rfl rfl ?_
                refine xp_bipush (n := 9) rfl (by decide) ?_
                refine xp_icne 107 rfl (by decide) (by omega) (by omega) (fun h96 => ?_) (fun h96 => ?_)
                · exfalso; omega
                · skip
                  refine xp_lload rfl rfl ?_
                  refine xp_lload rfl rfl ?_
                  refine xp_lsub rfl ?_
                  refine xp_goto 148 rfl (by decide) ?_
                  refine xp_lstore rfl (by decide) ?_
                  refine xp_iload_n rfl rfl ?_
                  refine xp_bipush (n := 12) rfl (by decide) ?_
                  refine xp_iceq 177 rfl (by decide) (by omega) (by omega) (fun h153 => ?_) (fun h153 => ?_)
                  · exfalso; omega
                  · skip
                    refine xp_aload_n rfl rfl ?_
                    refine xp_gfa rfl rfl (by decide) (by decide) (by first | assumption | exact hL.t rfl) (by first | assumption | exact hL.r rfl | exact hL.2.2.2.2.2) ?_
                    refine xp_iload_n rfl rfl ?_
                    refine xp_iald rfl (by first | assumption | exact hL.t rfl) (by omega) (by omega) ?_
                    rw [x1]
                    refine xp_iconst (n := 1) rfl (by decide) ?_
                    refine xp_icne 181 rfl (by decide) (by omega) (by omega) (fun h163 => ?_) (fun h163 => ?_)
                    · exact absurd hl (by omega)
                    · skip
                      refine xp_aload_n rfl rfl ?_
                      refine xp_gfa rfl rfl (by decide) (by decide) (by first | assumption | exact hL.t rfl) (by first | assumption | exact hL.r rfl | exact hL.2.2.2.2.2) ?_
                      refine xp_iload rfl rfl ?_
                      refine xp_iald rfl (by first | assumption | exact hL.t rfl) (by omega) (by omega) ?_
                      rw [y1]
                      refine xp_iconst (n := 1) rfl (by decide) ?_
                      refine xp_icne 181 rfl (by decide) (by omega) (by omega) (fun h174 => ?_) (fun h174 => ?_)
                      · exact absurd hl (by omega)
                      · skip
                        refine xp_iconst (n := 1) rfl (by decide) ?_
                        refine xp_goto 182 rfl (by decide) ?_
                        refine xp_istore rfl (by decide) ?_
                        refine xp_aload_n rfl rfl ?_
                        refine xp_gfa rfl rfl (by decide) (by decide) (by first | assumption | exact hL.t rfl) (by first | assumption | exact hL.r rfl | exact hL.2.2.2.2.2) ?_
                        refine xp_iload_n rfl rfl ?_
                        refine xp_dup2 rfl rfl rfl ?_
                        refine xp_iald rfl (by first | assumption | exact hL.t rfl) (by omega) (by omega) ?_
                        refine xp_iconst (n := 1) rfl (by decide) ?_
                        refine xp_isub rfl (by omega) ?_
                        refine xp_iast rfl (by first | assumption | exact hL.t rfl) (by omega) (by omega) ?_
                        refine xp_aload_n rfl rfl ?_
                        refine xp_iload_n rfl rfl ?_
                        refine xp_iload rfl rfl ?_
                        refine xp_ifeq 205 rfl (by decide) (by omega) (fun h198 => ?_) (fun h198 => ?_)
                        · exfalso; omega
                        · skip
                          refine xp_iconst (n := 1) rfl (by decide) ?_
                          refine xp_goto 206 rfl (by decide) ?_
                          refine xp_iload rfl rfl ?_
                          refine xp_ifeq 218 rfl (by decide) (by omega) (fun h208 => ?_) (fun h208 => ?_)
                          · exfalso; omega
                          · skip
                            refine xp_lload rfl rfl ?_
                            refine xp_l2i rfl ?_
                            refine xp_i2l rfl ?_
                            refine xp_goto 220 rfl (by decide) ?_
                            refine xp_iv rfl rfl (Nat.le_of_ble_eq_true rfl) (by decide) (by decide) (by decide) (Nat.le_of_ble_eq_true rfl) rfl (xrcv1 (by decide) (by first | assumption | exact hL.t rfl)) (m120 hL (by omega)) rfl ?_
                            refine xp_iconst (n := 0) rfl (by decide) ?_
                            refine xp_ireturn rfl (by decide) (by decide) (by decide) ?_
                            obtain ⟨g1, g2⟩ := hR.binop (q := 1) (v := _) hc hT h2
                            rw [g1]
                            exact ⟨_, rfl, g2⟩
              · exfalso; omega
            · exfalso; omega
          · exfalso; omega
    · have e : aCompute A f 9 = (2, A) := by unfold aCompute; rw [if_pos (fun z => hy z.2)]
      rw [e]
      refine xF_x (xF_p (Nat.le_of_ble_eq_true rfl) ?_)
      refine xp_aload_n rfl rfl ?_
      refine xp_iload_n rfl rfl ?_
      refine xp_iconst (n := 1) rfl (by decide) ?_
      refine xp_iv rfl rfl (Nat.le_of_ble_eq_true rfl) (by decide) (by decide) (by decide) (Nat.le_of_ble_eq_true rfl) rfl (xrcv1 (by decide) (by first | assumption | exact hL.t rfl)) (m123 hL b3 (by omega)) rfl ?_
      refine xp_istore_n rfl (by decide) ?_
      refine xp_aload_n rfl rfl ?_
      refine xp_iload_n rfl rfl ?_
      refine xp_iconst (n := 0) rfl (by decide) ?_
      refine xp_iv rfl rfl (Nat.le_of_ble_eq_true rfl) (by decide) (by decide) (by decide) (Nat.le_of_ble_eq_true rfl) rfl (xrcv1 (by decide) (by first | assumption | exact hL.t rfl)) (m123 hL b3 (by omega)) rfl ?_
      refine xp_istore rfl (by decide) ?_
      refine xp_aload_n rfl rfl ?_
      refine xp_gfa rfl rfl (by decide) (by decide) (by first | assumption | exact hL.t rfl) (by first | assumption | exact hL.r rfl | exact hL.2.2.2.2.2) ?_
      refine xp_iload_n rfl rfl ?_
      refine xp_iald rfl (by first | assumption | exact hL.t rfl) (by omega) (by omega) ?_
      rw [x1]
      refine xp_is rfl rfl rfl (Nat.le_of_ble_eq_true rfl) (by decide) (by decide) (by decide) (Nat.le_of_ble_eq_true rfl) rfl (xrcv0 (by decide) _ _) (m133 (by omega)) rfl ?_
      rw [mNum1 hx]
      refine xp_ifeq 40 rfl (by decide) (by omega) (fun h24 => ?_) (fun h24 => ?_)
      · exfalso; omega
      · skip
        refine xp_aload_n rfl rfl ?_
        refine xp_gfa rfl rfl (by decide) (by decide) (by first | assumption | exact hL.t rfl) (by first | assumption | exact hL.r rfl | exact hL.2.2.2.2.2) ?_
        refine xp_iload rfl rfl ?_
        refine xp_iald rfl (by first | assumption | exact hL.t rfl) (by omega) (by omega) ?_
        rw [y1]
        refine xp_is rfl rfl rfl (Nat.le_of_ble_eq_true rfl) (by decide) (by decide) (by decide) (Nat.le_of_ble_eq_true rfl) rfl (xrcv0 (by decide) _ _) (m133 (by omega)) rfl ?_
        rw [mNum0 hy]
        refine xp_ifne 42 rfl (by decide) (by omega) (fun h37 => ?_) (fun h37 => ?_)
        · exfalso; omega
        · skip
          refine xp_iconst (n := 2) rfl (by decide) ?_
          refine xp_ireturn rfl (by decide) (by decide) (by decide) ?_
          exact ⟨_, rfl, hR⟩
  · have e : aCompute A f 9 = (2, A) := by unfold aCompute; rw [if_pos (fun z => hx z.1)]
    rw [e]
    refine xF_x (xF_p (Nat.le_of_ble_eq_true rfl) ?_)
    refine xp_aload_n rfl rfl ?_
    refine xp_iload_n rfl rfl ?_
    refine xp_iconst (n := 1) rfl (by decide) ?_
    refine xp_iv rfl rfl (Nat.le_of_ble_eq_true rfl) (by decide) (by decide) (by decide) (Nat.le_of_ble_eq_true rfl) rfl (xrcv1 (by decide) (by first | assumption | exact hL.t rfl)) (m123 hL b3 (by omega)) rfl ?_
    refine xp_istore_n rfl (by decide) ?_
    refine xp_aload_n rfl rfl ?_
    refine xp_iload_n rfl rfl ?_
    refine xp_iconst (n := 0) rfl (by decide) ?_
    refine xp_iv rfl rfl (Nat.le_of_ble_eq_true rfl) (by decide) (by decide) (by decide) (Nat.le_of_ble_eq_true rfl) rfl (xrcv1 (by decide) (by first | assumption | exact hL.t rfl)) (m123 hL b3 (by omega)) rfl ?_
    refine xp_istore rfl (by decide) ?_
    refine xp_aload_n rfl rfl ?_
    refine xp_gfa rfl rfl (by decide) (by decide) (by first | assumption | exact hL.t rfl) (by first | assumption | exact hL.r rfl | exact hL.2.2.2.2.2) ?_
    refine xp_iload_n rfl rfl ?_
    refine xp_iald rfl (by first | assumption | exact hL.t rfl) (by omega) (by omega) ?_
    rw [x1]
    refine xp_is rfl rfl rfl (Nat.le_of_ble_eq_true rfl) (by decide) (by decide) (by decide) (Nat.le_of_ble_eq_true rfl) rfl (xrcv0 (by decide) _ _) (m133 (by omega)) rfl ?_
    rw [mNum0 hx]
    refine xp_ifeq 40 rfl (by decide) (by omega) (fun h24 => ?_) (fun h24 => ?_)
    · skip
      refine xp_iconst (n := 2) rfl (by decide) ?_
      refine xp_ireturn rfl (by decide) (by decide) (by decide) ?_
      exact ⟨_, rfl, hR⟩
    · exfalso; omega
theorem m134_10 {z : Nat} {T : Nat → Option xT} {R : Nat → Nat → Option Nat} {A B : xQ} {w t k f m : Nat} (hL : xLay T R w) (hc : COk w A) (hR : Rel w A B) (hT : Top w A t k f m) (h2 : 2 ≤ A.1 f 3) : ∃ B2, xF 134 [.ref 189, .int (nI m), .int (nI 10)] (xm z T R B) (.inr (some (.int (nI (aCompute A f 10).1))), xm z T R B2) ∧ Rel w (aCompute A f 10).2 B2 := by
  obtain ⟨b1, b2, b3, b4, b5, b6, b7⟩ := hT.b hc
  have hk := hT.ok hc
  have hd := (hT.g hR).2.2.1
  obtain ⟨d0, x1, x2⟩ := hT.x hR h2
  obtain ⟨_, y1, y2⟩ := hT.y hR (by omega)
  have kx := hk.c (c := 3 + A.1 f 3) (by omega)
  have ky := hk.c (c := 4 + A.1 f 3) (by omega)
  by_cases hx : A.1 (f + 2) (3 + A.1 f 3) = 1 ∨ A.1 (f + 2) (3 + A.1 f 3) = 2
  · by_cases hy : A.1 (f + 2) (4 + A.1 f 3) = 1 ∨ A.1 (f + 2) (4 + A.1 f 3) = 2
    · skip
      have ec : aCombine 10 (A.2 (f + 3) (3 + A.1 f 3)) (A.2 (f + 3) (4 + A.1 f 3)) = A.2 (f + 3) (3 + A.1 f 3) * A.2 (f + 3) (4 + A.1 f 3) := rfl
      by_cases hl : A.1 (f + 2) (3 + A.1 f 3) = 2 ∨ A.1 (f + 2) (4 + A.1 f 3) = 2
      · have e : aCompute A f 10 = aPush (aPop A f 2) f 2 (aCombine 10 (A.2 (f + 3) (3 + A.1 f 3)) (A.2 (f + 3) (4 + A.1 f 3))) := by unfold aCompute; rw [if_neg (fun z => z ⟨hx, hy⟩), if_neg (fun z => absurd z.1 (by omega)), if_pos hl]
        rw [e, ec]
        refine xF_x (xF_p (Nat.le_of_ble_eq_true rfl) ?_)
        refine xp_aload_n rfl rfl ?_
        refine xp_iload_n rfl rfl ?_
        refine xp_iconst (n := 1) rfl (by decide) ?_
        refine xp_iv rfl rfl (Nat.le_of_ble_eq_true rfl) (by decide) (by decide) (by decide) (Nat.le_of_ble_eq_true rfl) rfl (xrcv1 (by decide) (by first | assumption | exact hL.t rfl)) (m123 hL b3 (by omega)) rfl ?_
        refine xp_istore_n rfl (by decide) ?_
        refine xp_aload_n rfl rfl ?_
        refine xp_iload_n rfl rfl ?_
        refine xp_iconst (n := 0) rfl (by decide) ?_
        refine xp_iv rfl rfl (Nat.le_of_ble_eq_true rfl) (by decide) (by decide) (by decide) (Nat.le_of_ble_eq_true rfl) rfl (xrcv1 (by decide) (by first | assumption | exact hL.t rfl)) (m123 hL b3 (by omega)) rfl ?_
        refine xp_istore rfl (by decide) ?_
        refine xp_aload_n rfl rfl ?_
        refine xp_gfa rfl rfl (by decide) (by decide) (by first | assumption | exact hL.t rfl) (by first | assumption | exact hL.r rfl | exact hL.2.2.2.2.2) ?_
        refine xp_iload_n rfl rfl ?_
        refine xp_iald rfl (by first | assumption | exact hL.t rfl) (by omega) (by omega) ?_
        rw [x1]
        refine xp_is rfl rfl rfl (Nat.le_of_ble_eq_true rfl) (by decide) (by decide) (by decide) (Nat.le_of_ble_eq_true rfl) rfl (xrcv0 (by decide) _ _) (m133 (by omega)) rfl ?_
        rw [mNum1 hx]
        refine xp_ifeq 40 rfl (by decide) (by omega) (fun h24 => ?_) (fun h24 => ?_)
        · exfalso; omega
        · skip
          refine xp_aload_n rfl rfl ?_
          refine xp_gfa rfl rfl (by decide) (by decide) (by first | assumption | exact hL.t rfl) (by first | assumption | exact hL.r rfl | exact hL.2.2.2.2.2) ?_
          refine xp_iload rfl rfl ?_
          refine xp_iald rfl (by first | assumption | exact hL.t rfl) (by omega) (by omega) ?_
          rw [y1]
          refine xp_is rfl rfl rfl (Nat.le_of_ble_eq_true rfl) (by decide) (by decide) (by decide) (Nat.le_of_ble_eq_true rfl) rfl (xrcv0 (by decide) _ _) (m133 (by omega)) rfl ?_
          rw [mNum1 hy]
          refine xp_ifne 42 rfl (by decide) (by omega) (fun h37 => ?_) (fun h37 => ?_)
          · skip
            refine xp_iload_n rfl rfl ?_
            refine xp_bipush (n := 11) rfl (by decide) ?_
            refine xp_icne 62 rfl (by decide) (by omega) (by omega) (fun h45 => ?_) (fun h45 => ?_)
            · skip
              refine xp_aload_n rfl rfl ?_
              refine xp_gfa rfl rfl (by decide) (by decide) (by first | assumption | exact hL.t rfl) (by first | assumption | exact hL.r rfl | exact hL.2.2.2.2.2) ?_
              refine xp_iload_n rfl rfl ?_
              refine xp_lald rfl (by first | assumption | exact hL.t rfl) (by omega) (by omega) ?_
              rw [x2]
              refine xp_lstore rfl (by decide) ?_
              refine xp_aload_n rfl rfl ?_
              refine xp_gfa rfl rfl (by decide) (by decide) (by first | assumption | exact hL.t rfl) (by first | assumption | exact hL.r rfl | exact hL.2.2.2.2.2) ?_
              refine xp_iload rfl rfl ?_
              refine xp_lald rfl (by first | assumption | exact hL.t rfl) (by omega) (by omega) ?_
              rw [y2]
              refine xp_lstore rfl (by decide) ?_
              refine xp_iload_n rfl rfl ?_
              refine xp_bipush (n := 8) rfl (by decide) ?_
              refine xp_icne 93 rfl (by decide) (by omega) (by omega) (fun h82 => ?_) (fun h82 => ?_)
              · skip
                refine xp_iload_n rfl rfl ?_
                refine xp_bipush (n := 9) rfl (by decide) ?_
                refine xp_icne 107 rfl (by decide) (by omega) (by omega) (fun h96 => ?_) (fun h96 => ?_)
                · skip
                  refine xp_iload_n rfl rfl ?_
                  refine xp_bipush (n := 10) rfl (by decide) ?_
                  refine xp_icne 121 rfl (by decide) (by omega) (by omega) (fun h110 => ?_) (fun h110 => ?_)
                  · exfalso; omega
                  · skip
                    refine xp_lload rfl rfl ?_
                    refine xp_lload rfl rfl ?_
                    refine xp_lmul rfl ?_
                    refine xp_goto 148 rfl (by decide) ?_
                    refine xp_lstore rfl (by decide) ?_
                    refine xp_iload_n rfl rfl ?_
                    refine xp_bipush (n := 12) rfl (by decide) ?_
                    refine xp_iceq 177 rfl (by decide) (by omega) (by omega) (fun h153 => ?_) (fun h153 => ?_)
                    · exfalso; omega
                    · skip
                      refine xp_aload_n rfl rfl ?_
                      refine xp_gfa rfl rfl (by decide) (by decide) (by first | assumption | exact hL.t rfl) (by first | assumption | exact hL.r rfl | exact hL.2.2.2.2.2) ?_
                      refine xp_iload_n rfl rfl ?_
                      refine xp_iald rfl (by first | assumption | exact hL.t rfl) (by omega) (by omega) ?_
                      rw [x1]
                      refine xp_iconst (n := 1) rfl (by decide) ?_
                      refine xp_icne 181 rfl (by decide) (by omega) (by omega) (fun h163 => ?_) (fun h163 => ?_)
                      · skip
                        refine xp_iconst (n := 0) rfl (by decide) ?_
                        refine xp_istore rfl (by decide) ?_
                        refine xp_aload_n rfl rfl ?_
                        refine xp_gfa rfl rfl (by decide) (by decide) (by first | assumption | exact hL.t rfl) (by first | assumption | exact hL.r rfl | exact hL.2.2.2.2.2) ?_
                        refine xp_iload_n rfl rfl ?_
                        refine xp_dup2 rfl rfl rfl ?_
                        refine xp_iald rfl (by first | assumption | exact hL.t rfl) (by omega) (by omega) ?_
                        refine xp_iconst (n := 1) rfl (by decide) ?_
                        refine xp_isub rfl (by omega) ?_
                        refine xp_iast rfl (by first | assumption | exact hL.t rfl) (by omega) (by omega) ?_
                        refine xp_aload_n rfl rfl ?_
                        refine xp_iload_n rfl rfl ?_
                        refine xp_iload rfl rfl ?_
                        refine xp_ifeq 205 rfl (by decide) (by omega) (fun h198 => ?_) (fun h198 => ?_)
                        · skip
                          refine xp_iconst (n := 2) rfl (by decide) ?_
                          refine xp_iload rfl rfl ?_
                          refine xp_ifeq 218 rfl (by decide) (by omega) (fun h208 => ?_) (fun h208 => ?_)
                          · skip
                            refine xp_lload rfl rfl ?_
                            refine xp_iv rfl rfl (Nat.le_of_ble_eq_true rfl) (by decide) (by decide) (by decide) (Nat.le_of_ble_eq_true rfl) rfl (xrcv1 (by decide) (by first | assumption | exact hL.t rfl)) (m120 hL (by omega)) rfl ?_
                            refine xp_iconst (n := 0) rfl (by decide) ?_
                            refine xp_ireturn rfl (by decide) (by decide) (by decide) ?_
                            obtain ⟨g1, g2⟩ := hR.binop (q := 2) (v := _) hc hT h2
                            rw [g1]
                            exact ⟨_, rfl, g2⟩
                          · exfalso; omega
                        · exfalso; omega
                      · skip
                        refine xp_aload_n rfl rfl ?_
                        refine xp_gfa rfl rfl (by decide) (by decide) (by first | assumption | exact hL.t rfl) (by first | assumption | exact hL.r rfl | exact hL.2.2.2.2.2) ?_
                        refine xp_iload rfl rfl ?_
                        refine xp_iald rfl (by first | assumption | exact hL.t rfl) (by omega) (by omega) ?_
                        rw [y1]
                        refine xp_iconst (n := 1) rfl (by decide) ?_
                        refine xp_icne 181 rfl (by decide) (by omega) (by omega) (fun h174 => ?_) (fun h174 => ?_)
                        · skip
                          refine xp_iconst (n := 0) rfl (by decide) ?_
                          refine xp_istore rfl (by decide) ?_
                          refine xp_aload_n rfl rfl ?_
                          refine xp_gfa rfl rfl (by decide) (by decide) (by first | assumption | exact hL.t rfl) (by first | assumption | exact hL.r rfl | exact hL.2.2.2.2.2) ?_
                          refine xp_iload_n rfl rfl ?_
                          refine xp_dup2 rfl rfl rfl ?_
                          refine xp_iald rfl (by first | assumption | exact hL.t rfl) (by omega) (by omega) ?_
                          refine xp_iconst (n := 1) rfl (by decide) ?_
                          refine xp_isub rfl (by omega) ?_
                          refine xp_iast rfl (by first | assumption | exact hL.t rfl) (by omega) (by omega) ?_
                          refine xp_aload_n rfl rfl ?_
                          refine xp_iload_n rfl rfl ?_
                          refine xp_iload rfl rfl ?_
                          refine xp_ifeq 205 rfl (by decide) (by omega) (fun h198 => ?_) (fun h198 => ?_)
                          · skip
                            refine xp_iconst (n := 2) rfl (by decide) ?_
                            refine xp_iload rfl rfl ?_
                            refine xp_ifeq 218 rfl (by decide) (by omega) (fun h208 => ?_) (fun h208 => ?_)
                            · skip
                              refine xp_lload rfl rfl ?_
                              refine xp_iv rfl rfl (Nat.le_of_ble_eq_true rfl) (by decide) (by decide) (by decide) (Nat.le_of_ble_eq_true rfl) rfl (xrcv1 (by decide) (by first | assumption | exact hL.t rfl)) (m120 hL (by omega)) rfl ?_
                              refine xp_iconst (n := 0) rfl (by decide) ?_
                              refine xp_ireturn rfl (by decide) (by decide) (by decide) ?_
                              obtain ⟨g1, g2⟩ := hR.binop (q := 2) (v := _) hc hT h2
                              rw [g1]
                              exact ⟨_, rfl, g2⟩
                            · exfalso; omega
                          · exfalso; omega
                        · exact absurd hl (by omega)
                · exfalso; omega
              · exfalso; omega
            · exfalso; omega
          · exfalso; omega
      · have e : aCompute A f 10 = aPush (aPop A f 2) f 1 (aCombine 10 (A.2 (f + 3) (3 + A.1 f 3)) (A.2 (f + 3) (4 + A.1 f 3))).toInt32.toInt64 := by unfold aCompute; rw [if_neg (fun z => z ⟨hx, hy⟩), if_neg (fun z => absurd z.1 (by omega)), if_neg hl]
        rw [e, ec]
        refine xF_x (xF_p (Nat.le_of_ble_eq_true rfl) ?_)
        refine xp_aload_n rfl rfl ?_
        refine xp_iload_n rfl rfl ?_
        refine xp_iconst (n := 1) rfl (by decide) ?_
        refine xp_iv rfl rfl (Nat.le_of_ble_eq_true rfl) (by decide) (by decide) (by decide) (Nat.le_of_ble_eq_true rfl) rfl (xrcv1 (by decide) (by first | assumption | exact hL.t rfl)) (m123 hL b3 (by omega)) rfl ?_
        refine xp_istore_n rfl (by decide) ?_
        refine xp_aload_n rfl rfl ?_
        refine xp_iload_n rfl rfl ?_
        refine xp_iconst (n := 0) rfl (by decide) ?_
        refine xp_iv rfl rfl (Nat.le_of_ble_eq_true rfl) (by decide) (by decide) (by decide) (Nat.le_of_ble_eq_true rfl) rfl (xrcv1 (by decide) (by first | assumption | exact hL.t rfl)) (m123 hL b3 (by omega)) rfl ?_
        refine xp_istore rfl (by decide) ?_
        refine xp_aload_n rfl rfl ?_
        refine xp_gfa rfl rfl (by decide) (by decide) (by first | assumption | exact hL.t rfl) (by first | assumption | exact hL.r rfl | exact hL.2.2.2.2.2) ?_
        refine xp_iload_n rfl rfl ?_
        refine xp_iald rfl (by first | assumption | exact hL.t rfl) (by omega) (by omega) ?_
        rw [x1]
        refine xp_is rfl rfl rfl (Nat.le_of_ble_eq_true rfl) (by decide) (by decide) (by decide) (Nat.le_of_ble_eq_true rfl) rfl (xrcv0 (by decide) _ _) (m133 (by omega)) rfl ?_
        rw [mNum1 hx]
        refine xp_ifeq 40 rfl (by decide) (by omega) (fun h24 => ?_) (fun h24 => ?_)
        · exfalso; omega
        · skip
          refine xp_aload_n rfl rfl ?_
          refine xp_gfa rfl rfl (by decide) (by decide) (by first | assumption | exact hL.t rfl) (by first | assumption | exact hL.r rfl | exact hL.2.2.2.2.2) ?_
          refine xp_iload rfl rfl ?_
          refine xp_iald rfl (by first | assumption | exact hL.t rfl) (by omega) (by omega) ?_
          rw [y1]
          refine xp_is rfl rfl rfl (Nat.le_of_ble_eq_true rfl) (by decide) (by decide) (by decide) (Nat.le_of_ble_eq_true rfl) rfl (xrcv0 (by decide) _ _) (m133 (by omega)) rfl ?_
          rw [mNum1 hy]
          refine xp_ifne 42 rfl (by decide) (by omega) (fun h37 => ?_) (fun h37 => ?_)
          · skip
            refine xp_iload_n rfl rfl ?_
            refine xp_bipush (n := 11) rfl (by decide) ?_
            refine xp_icne 62 rfl (by decide) (by omega) (by omega) (fun h45 => ?_) (fun h45 => ?_)
            · skip
              refine xp_aload_n rfl rfl ?_
              refine xp_gfa rfl rfl (by decide) (by decide) (by first | assumption | exact hL.t rfl) (by first | assumption | exact hL.r rfl | exact hL.2.2.2.2.2) ?_
              refine xp_iload_n rfl rfl ?_
              refine xp_lald rfl (by first | assumption | exact hL.t rfl) (by omega) (by omega) ?_
              rw [x2]
              refine xp_lstore rfl (by decide) ?_
              refine xp_aload_n rfl rfl ?_
              refine xp_gfa rfl rfl (by decide) (by decide) (by first | assumption | exact hL.t rfl) (by first | assumption | exact hL.r rfl | exact hL.2.2.2.2.2) ?_
              refine xp_iload rfl rfl ?_
              refine xp_lald rfl (by first | assumption | exact hL.t rfl) (by omega) (by omega) ?_
              rw [y2]
              refine xp_lstore rfl (by decide) ?_
              refine xp_iload_n rfl rfl ?_
              refine xp_bipush (n := 8) rfl (by decide) ?_
              refine xp_icne 93 rfl (by decide) (by omega) (by omega) (fun h82 => ?_) (fun h82 => ?_)
              · skip
                refine xp_iload_n rfl rfl ?_
                refine xp_bipush (n := 9) rfl (by decide) ?_
                refine xp_icne 107 rfl (by decide) (by omega) (by omega) (fun h96 => ?_) (fun h96 => ?_)
                · skip
                  refine xp_iload_n rfl rfl ?_
                  refine xp_bipush (n := 10) rfl (by decide) ?_
                  refine xp_icne 121 rfl (by decide) (by omega) (by omega) (fun h110 => ?_) (fun h110 => ?_)
                  · exfalso; omega
                  · skip
                    refine xp_lload rfl rfl ?_
                    refine xp_lload rfl rfl ?_
                    refine xp_lmul rfl ?_
                    refine xp_goto 148 rfl (by decide) ?_
                    refine xp_lstore rfl (by decide) ?_
                    refine xp_iload_n rfl rfl ?_
                    refine xp_bipush (n := 12) rfl (by decide) ?_
                    refine xp_iceq 177 rfl (by decide) (by omega) (by omega) (fun h153 => ?_) (fun h153 => ?_)
                    · exfalso; omega
                    · skip
                      refine xp_aload_n rfl rfl ?_
                      refine xp_gfa rfl rfl (by decide) (by decide) (by first | assumption | exact hL.t rfl) (by first | assumption | exact hL.r rfl | exact hL.2.2.2.2.2) ?_
                      refine xp_iload_n rfl rfl ?_
                      refine xp_iald rfl (by first | assumption | exact hL.t rfl) (by omega) (by omega) ?_
                      rw [x1]
                      refine xp_iconst (n := 1) rfl (by decide) ?_
                      refine xp_icne 181 rfl (by decide) (by omega) (by omega) (fun h163 => ?_) (fun h163 => ?_)
                      · exact absurd hl (by omega)
                      · skip
                        refine xp_aload_n rfl rfl ?_
                        refine xp_gfa rfl rfl (by decide) (by decide) (by first | assumption | exact hL.t rfl) (by first | assumption | exact hL.r rfl | exact hL.2.2.2.2.2) ?_
                        refine xp_iload rfl rfl ?_
                        refine xp_iald rfl (by first | assumption | exact hL.t rfl) (by omega) (by omega) ?_
                        rw [y1]
                        refine xp_iconst (n := 1) rfl (by decide) ?_
                        refine xp_icne 181 rfl (by decide) (by omega) (by omega) (fun h174 => ?_) (fun h174 => ?_)
                        · exact absurd hl (by omega)
                        · skip
                          refine xp_iconst (n := 1) rfl (by decide) ?_
                          refine xp_goto 182 rfl (by decide) ?_
                          refine xp_istore rfl (by decide) ?_
                          refine xp_aload_n rfl rfl ?_
                          refine xp_gfa rfl rfl (by decide) (by decide) (by first | assumption | exact hL.t rfl) (by first | assumption | exact hL.r rfl | exact hL.2.2.2.2.2) ?_
                          refine xp_iload_n rfl rfl ?_
                          refine xp_dup2 rfl rfl rfl ?_
                          refine xp_iald rfl (by first | assumption | exact hL.t rfl) (by omega) (by omega) ?_
                          refine xp_iconst (n := 1) rfl (by decide) ?_
                          refine xp_isub rfl (by omega) ?_
                          refine xp_iast rfl (by first | assumption | exact hL.t rfl) (by omega) (by omega) ?_
                          refine xp_aload_n rfl rfl ?_
                          refine xp_iload_n rfl rfl ?_
                          refine xp_iload rfl rfl ?_
                          refine xp_ifeq 205 rfl (by decide) (by omega) (fun h198 => ?_) (fun h198 => ?_)
                          · exfalso; omega
                          · skip
                            refine xp_iconst (n := 1) rfl (by decide) ?_
                            refine xp_goto 206 rfl (by decide) ?_
                            refine xp_iload rfl rfl ?_
                            refine xp_ifeq 218 rfl (by decide) (by omega) (fun h208 => ?_) (fun h208 => ?_)
                            · exfalso; omega
                            · skip
                              refine xp_lload rfl rfl ?_
                              refine xp_l2i rfl ?_
                              refine xp_i2l rfl ?_
                              refine xp_goto 220 rfl (by decide) ?_
                              refine xp_iv rfl rfl (Nat.le_of_ble_eq_true rfl) (by decide) (by decide) (by decide) (Nat.le_of_ble_eq_true rfl) rfl (xrcv1 (by decide) (by first | assumption | exact hL.t rfl)) (m120 hL (by omega)) rfl ?_
                              refine xp_iconst (n := 0) rfl (by decide) ?_
                              refine xp_ireturn rfl (by decide) (by decide) (by decide) ?_
                              obtain ⟨g1, g2⟩ := hR.binop (q := 1) (v := _) hc hT h2
                              rw [g1]
                              exact ⟨_, rfl, g2⟩
                · exfalso; omega
              · exfalso; omega
            · exfalso; omega
          · exfalso; omega
    · have e : aCompute A f 10 = (2, A) := by unfold aCompute; rw [if_pos (fun z => hy z.2)]
      rw [e]
      refine xF_x (xF_p (Nat.le_of_ble_eq_true rfl) ?_)
      refine xp_aload_n rfl rfl ?_
      refine xp_iload_n rfl rfl ?_
      refine xp_iconst (n := 1) rfl (by decide) ?_
      refine xp_iv rfl rfl (Nat.le_of_ble_eq_true rfl) (by decide) (by decide) (by decide) (Nat.le_of_ble_eq_true rfl) rfl (xrcv1 (by decide) (by first | assumption | exact hL.t rfl)) (m123 hL b3 (by omega)) rfl ?_
      refine xp_istore_n rfl (by decide) ?_
      refine xp_aload_n rfl rfl ?_
      refine xp_iload_n rfl rfl ?_
      refine xp_iconst (n := 0) rfl (by decide) ?_
      refine xp_iv rfl rfl (Nat.le_of_ble_eq_true rfl) (by decide) (by decide) (by decide) (Nat.le_of_ble_eq_true rfl) rfl (xrcv1 (by decide) (by first | assumption | exact hL.t rfl)) (m123 hL b3 (by omega)) rfl ?_
      refine xp_istore rfl (by decide) ?_
      refine xp_aload_n rfl rfl ?_
      refine xp_gfa rfl rfl (by decide) (by decide) (by first | assumption | exact hL.t rfl) (by first | assumption | exact hL.r rfl | exact hL.2.2.2.2.2) ?_
      refine xp_iload_n rfl rfl ?_
      refine xp_iald rfl (by first | assumption | exact hL.t rfl) (by omega) (by omega) ?_
      rw [x1]
      refine xp_is rfl rfl rfl (Nat.le_of_ble_eq_true rfl) (by decide) (by decide) (by decide) (Nat.le_of_ble_eq_true rfl) rfl (xrcv0 (by decide) _ _) (m133 (by omega)) rfl ?_
      rw [mNum1 hx]
      refine xp_ifeq 40 rfl (by decide) (by omega) (fun h24 => ?_) (fun h24 => ?_)
      · exfalso; omega
      · skip
        refine xp_aload_n rfl rfl ?_
        refine xp_gfa rfl rfl (by decide) (by decide) (by first | assumption | exact hL.t rfl) (by first | assumption | exact hL.r rfl | exact hL.2.2.2.2.2) ?_
        refine xp_iload rfl rfl ?_
        refine xp_iald rfl (by first | assumption | exact hL.t rfl) (by omega) (by omega) ?_
        rw [y1]
        refine xp_is rfl rfl rfl (Nat.le_of_ble_eq_true rfl) (by decide) (by decide) (by decide) (Nat.le_of_ble_eq_true rfl) rfl (xrcv0 (by decide) _ _) (m133 (by omega)) rfl ?_
        rw [mNum0 hy]
        refine xp_ifne 42 rfl (by decide) (by omega) (fun h37 => ?_) (fun h37 => ?_)
        · exfalso; omega
        · skip
          refine xp_iconst (n := 2) rfl (by decide) ?_
          refine xp_ireturn rfl (by decide) (by decide) (by decide) ?_
          exact ⟨_, rfl, hR⟩
  · have e : aCompute A f 10 = (2, A) := by unfold aCompute; rw [if_pos (fun z => hx z.1)]
    rw [e]
    refine xF_x (xF_p (Nat.le_of_ble_eq_true rfl) ?_)
    refine xp_aload_n rfl rfl ?_
    refine xp_iload_n rfl rfl ?_
    refine xp_iconst (n := 1) rfl (by decide) ?_
    refine xp_iv rfl rfl (Nat.le_of_ble_eq_true rfl) (by decide) (by decide) (by decide) (Nat.le_of_ble_eq_true rfl) rfl (xrcv1 (by decide) (by first | assumption | exact hL.t rfl)) (m123 hL b3 (by omega)) rfl ?_
    refine xp_istore_n rfl (by decide) ?_
    refine xp_aload_n rfl rfl ?_
    refine xp_iload_n rfl rfl ?_
    refine xp_iconst (n := 0) rfl (by decide) ?_
    refine xp_iv rfl rfl (Nat.le_of_ble_eq_true rfl) (by decide) (by decide) (by decide) (Nat.le_of_ble_eq_true rfl) rfl (xrcv1 (by decide) (by first | assumption | exact hL.t rfl)) (m123 hL b3 (by omega)) rfl ?_
    refine xp_istore rfl (by decide) ?_
    refine xp_aload_n rfl rfl ?_
    refine xp_gfa rfl rfl (by decide) (by decide) (by first | assumption | exact hL.t rfl) (by first | assumption | exact hL.r rfl | exact hL.2.2.2.2.2) ?_
    refine xp_iload_n rfl rfl ?_
    refine xp_iald rfl (by first | assumption | exact hL.t rfl) (by omega) (by omega) ?_
    rw [x1]
    refine xp_is rfl rfl rfl (Nat.le_of_ble_eq_true rfl) (by decide) (by decide) (by decide) (Nat.le_of_ble_eq_true rfl) rfl (xrcv0 (by decide) _ _) (m133 (by omega)) rfl ?_
    rw [mNum0 hx]
    refine xp_ifeq 40 rfl (by decide) (by omega) (fun h24 => ?_) (fun h24 => ?_)
    · skip
      refine xp_iconst (n := 2) rfl (by decide) ?_
      refine xp_ireturn rfl (by decide) (by decide) (by decide) ?_
      exact ⟨_, rfl, hR⟩
    · exfalso; omega
theorem m134_11 {z : Nat} {T : Nat → Option xT} {R : Nat → Nat → Option Nat} {A B : xQ} {w t k f m : Nat} (hL : xLay T R w) (hc : COk w A) (hR : Rel w A B) (hT : Top w A t k f m) (h2 : 2 ≤ A.1 f 3) : ∃ B2, xF 134 [.ref 189, .int (nI m), .int (nI 11)] (xm z T R B) (.inr (some (.int (nI (aCompute A f 11).1))), xm z T R B2) ∧ Rel w (aCompute A f 11).2 B2 := by
  obtain ⟨b1, b2, b3, b4, b5, b6, b7⟩ := hT.b hc
  have hk := hT.ok hc
  have hd := (hT.g hR).2.2.1
  obtain ⟨d0, x1, x2⟩ := hT.x hR h2
  obtain ⟨_, y1, y2⟩ := hT.y hR (by omega)
  have kx := hk.c (c := 3 + A.1 f 3) (by omega)
  have ky := hk.c (c := 4 + A.1 f 3) (by omega)
  by_cases hx : A.1 (f + 2) (3 + A.1 f 3) = 1 ∨ A.1 (f + 2) (3 + A.1 f 3) = 2
  · by_cases hy : A.1 (f + 2) (4 + A.1 f 3) = 1 ∨ A.1 (f + 2) (4 + A.1 f 3) = 2
    · by_cases hz : A.2 (f + 3) (4 + A.1 f 3) = 0
      · have e : aCompute A f 11 = (1, A) := by unfold aCompute; rw [if_neg (fun z => z ⟨hx, hy⟩), if_pos ⟨rfl, hz⟩]
        rw [e]
        refine xF_x (xF_p (Nat.le_of_ble_eq_true rfl) ?_)
        refine xp_aload_n rfl rfl ?_
        refine xp_iload_n rfl rfl ?_
        refine xp_iconst (n := 1) rfl (by decide) ?_
        refine xp_iv rfl rfl (Nat.le_of_ble_eq_true rfl) (by decide) (by decide) (by decide) (Nat.le_of_ble_eq_true rfl) rfl (xrcv1 (by decide) (by first | assumption | exact hL.t rfl)) (m123 hL b3 (by omega)) rfl ?_
        refine xp_istore_n rfl (by decide) ?_
        refine xp_aload_n rfl rfl ?_
        refine xp_iload_n rfl rfl ?_
        refine xp_iconst (n := 0) rfl (by decide) ?_
        refine xp_iv rfl rfl (Nat.le_of_ble_eq_true rfl) (by decide) (by decide) (by decide) (Nat.le_of_ble_eq_true rfl) rfl (xrcv1 (by decide) (by first | assumption | exact hL.t rfl)) (m123 hL b3 (by omega)) rfl ?_
        refine xp_istore rfl (by decide) ?_
        refine xp_aload_n rfl rfl ?_
        refine xp_gfa rfl rfl (by decide) (by decide) (by first | assumption | exact hL.t rfl) (by first | assumption | exact hL.r rfl | exact hL.2.2.2.2.2) ?_
        refine xp_iload_n rfl rfl ?_
        refine xp_iald rfl (by first | assumption | exact hL.t rfl) (by omega) (by omega) ?_
        rw [x1]
        refine xp_is rfl rfl rfl (Nat.le_of_ble_eq_true rfl) (by decide) (by decide) (by decide) (Nat.le_of_ble_eq_true rfl) rfl (xrcv0 (by decide) _ _) (m133 (by omega)) rfl ?_
        rw [mNum1 hx]
        refine xp_ifeq 40 rfl (by decide) (by omega) (fun h24 => ?_) (fun h24 => ?_)
        · exfalso; omega
        · skip
          refine xp_aload_n rfl rfl ?_
          refine xp_gfa rfl rfl (by decide) (by decide) (by first | assumption | exact hL.t rfl) (by first | assumption | exact hL.r rfl | exact hL.2.2.2.2.2) ?_
          refine xp_iload rfl rfl ?_
          refine xp_iald rfl (by first | assumption | exact hL.t rfl) (by omega) (by omega) ?_
          rw [y1]
          refine xp_is rfl rfl rfl (Nat.le_of_ble_eq_true rfl) (by decide) (by decide) (by decide) (Nat.le_of_ble_eq_true rfl) rfl (xrcv0 (by decide) _ _) (m133 (by omega)) rfl ?_
          rw [mNum1 hy]
          refine xp_ifne 42 rfl (by decide) (by omega) (fun h37 => ?_) (fun h37 => ?_)
          · skip
            refine xp_iload_n rfl rfl ?_
            refine xp_bipush (n := 11) rfl (by decide) ?_
            refine xp_icne 62 rfl (by decide) (by omega) (by omega) (fun h45 => ?_) (fun h45 => ?_)
            · exfalso; omega
            · skip
              refine xp_aload_n rfl rfl ?_
              refine xp_gfa rfl rfl (by decide) (by decide) (by first | assumption | exact hL.t rfl) (by first | assumption | exact hL.r rfl | exact hL.2.2.2.2.2) ?_
              refine xp_iload rfl rfl ?_
              refine xp_lald rfl (by first | assumption | exact hL.t rfl) (by omega) (by omega) ?_
              rw [y2]
              refine xp_lconst rfl rfl ?_
              refine xp_lcne 62 rfl rfl (by decide) (fun h56 => ?_) (fun h56 => ?_)
              · exact absurd hz h56
              · skip
                refine xp_iconst (n := 1) rfl (by decide) ?_
                refine xp_ireturn rfl (by decide) (by decide) (by decide) ?_
                exact ⟨_, rfl, hR⟩
          · exfalso; omega
      · skip
        have ec : aCombine 11 (A.2 (f + 3) (3 + A.1 f 3)) (A.2 (f + 3) (4 + A.1 f 3)) = A.2 (f + 3) (3 + A.1 f 3) / A.2 (f + 3) (4 + A.1 f 3) := if_neg hz
        by_cases hl : A.1 (f + 2) (3 + A.1 f 3) = 2 ∨ A.1 (f + 2) (4 + A.1 f 3) = 2
        · have e : aCompute A f 11 = aPush (aPop A f 2) f 2 (aCombine 11 (A.2 (f + 3) (3 + A.1 f 3)) (A.2 (f + 3) (4 + A.1 f 3))) := by unfold aCompute; rw [if_neg (fun z => z ⟨hx, hy⟩), if_neg (fun z => hz z.2), if_pos hl]
          rw [e, ec]
          refine xF_x (xF_p (Nat.le_of_ble_eq_true rfl) ?_)
          refine xp_aload_n rfl rfl ?_
          refine xp_iload_n rfl rfl ?_
          refine xp_iconst (n := 1) rfl (by decide) ?_
          refine xp_iv rfl rfl (Nat.le_of_ble_eq_true rfl) (by decide) (by decide) (by decide) (Nat.le_of_ble_eq_true rfl) rfl (xrcv1 (by decide) (by first | assumption | exact hL.t rfl)) (m123 hL b3 (by omega)) rfl ?_
          refine xp_istore_n rfl (by decide) ?_
          refine xp_aload_n rfl rfl ?_
          refine xp_iload_n rfl rfl ?_
          refine xp_iconst (n := 0) rfl (by decide) ?_
          refine xp_iv rfl rfl (Nat.le_of_ble_eq_true rfl) (by decide) (by decide) (by decide) (Nat.le_of_ble_eq_true rfl) rfl (xrcv1 (by decide) (by first | assumption | exact hL.t rfl)) (m123 hL b3 (by omega)) rfl ?_
          refine xp_istore rfl (by decide) ?_
          refine xp_aload_n rfl rfl ?_
          refine xp_gfa rfl rfl (by decide) (by decide) (by first | assumption | exact hL.t rfl) (by first | assumption | exact hL.r rfl | exact hL.2.2.2.2.2) ?_
          refine xp_iload_n rfl rfl ?_
          refine xp_iald rfl (by first | assumption | exact hL.t rfl) (by omega) (by omega) ?_
          rw [x1]
          refine xp_is rfl rfl rfl (Nat.le_of_ble_eq_true rfl) (by decide) (by decide) (by decide) (Nat.le_of_ble_eq_true rfl) rfl (xrcv0 (by decide) _ _) (m133 (by omega)) rfl ?_
          rw [mNum1 hx]
          refine xp_ifeq 40 rfl (by decide) (by omega) (fun h24 => ?_) (fun h24 => ?_)
          · exfalso; omega
          · skip
            refine xp_aload_n rfl rfl ?_
            refine xp_gfa rfl rfl (by decide) (by decide) (by first | assumption | exact hL.t rfl) (by first | assumption | exact hL.r rfl | exact hL.2.2.2.2.2) ?_
            refine xp_iload rfl rfl ?_
            refine xp_iald rfl (by first | assumption | exact hL.t rfl) (by omega) (by omega) ?_
            rw [y1]
            refine xp_is rfl rfl rfl (Nat.le_of_ble_eq_true rfl) (by decide) (by decide) (by decide) (Nat.le_of_ble_eq_true rfl) rfl (xrcv0 (by decide) _ _) (m133 (by omega)) rfl ?_
            rw [mNum1 hy]
            refine xp_ifne 42 rfl (by decide) (by omega) (fun h37 => ?_) (fun h37 => ?_)
            · skip
              refine xp_iload_n rfl rfl ?_
              refine xp_bipush (n := 11) rfl (by decide) ?_
              refine xp_icne 62 rfl (by decide) (by omega) (by omega) (fun h45 => ?_) (fun h45 => ?_)
              · exfalso; omega
              · skip
                refine xp_aload_n rfl rfl ?_
                refine xp_gfa rfl rfl (by decide) (by decide) (by first | assumption | exact hL.t rfl) (by first | assumption | exact hL.r rfl | exact hL.2.2.2.2.2) ?_
                refine xp_iload rfl rfl ?_
                refine xp_lald rfl (by first | assumption | exact hL.t rfl) (by omega) (by omega) ?_
                rw [y2]
                refine xp_lconst rfl rfl ?_
                refine xp_lcne 62 rfl rfl (by decide) (fun h56 => ?_) (fun h56 => ?_)
                · skip
                  refine xp_aload_n rfl rfl ?_
                  refine xp_gfa rfl rfl (by decide) (by decide) (by first | assumption | exact hL.t rfl) (by first | assumption | exact hL.r rfl | exact hL.2.2.2.2.2) ?_
                  refine xp_iload_n rfl rfl ?_
                  refine xp_lald rfl (by first | assumption | exact hL.t rfl) (by omega) (by omega) ?_
                  rw [x2]
                  refine xp_lstore rfl (by decide) ?_
                  refine xp_aload_n rfl rfl ?_
                  refine xp_gfa rfl rfl (by decide) (by decide) (by first | assumption | exact hL.t rfl) (by first | assumption | exact hL.r rfl | exact hL.2.2.2.2.2) ?_
                  refine xp_iload rfl rfl ?_
                  refine xp_lald rfl (by first | assumption | exact hL.t rfl) (by omega) (by omega) ?_
                  rw [y2]
                  refine xp_lstore rfl (by decide) ?_
                  refine xp_iload_n rfl rfl ?_
                  refine xp_bipush (n := 8) rfl (by decide) ?_
                  refine xp_icne 93 rfl (by decide) (by omega) (by omega) (fun h82 => ?_) (fun h82 => ?_)
                  · skip
                    refine xp_iload_n rfl rfl ?_
                    refine xp_bipush (n := 9) rfl (by decide) ?_
                    refine xp_icne 107 rfl (by decide) (by omega) (by omega) (fun h96 => ?_) (fun h96 => ?_)
                    · skip
                      refine xp_iload_n rfl rfl ?_
                      refine xp_bipush (n := 10) rfl (by decide) ?_
                      refine xp_icne 121 rfl (by decide) (by omega) (by omega) (fun h110 => ?_) (fun h110 => ?_)
                      · skip
                        refine xp_iload_n rfl rfl ?_
                        refine xp_bipush (n := 11) rfl (by decide) ?_
                        refine xp_icne 135 rfl (by decide) (by omega) (by omega) (fun h124 => ?_) (fun h124 => ?_)
                        · exfalso; omega
                        · skip
                          refine xp_lload rfl rfl ?_
                          refine xp_lload rfl rfl ?_
                          refine xp_ldiv rfl hz ?_
                          refine xp_goto 148 rfl (by decide) ?_
                          refine xp_lstore rfl (by decide) ?_
                          refine xp_iload_n rfl rfl ?_
                          refine xp_bipush (n := 12) rfl (by decide) ?_
                          refine xp_iceq 177 rfl (by decide) (by omega) (by omega) (fun h153 => ?_) (fun h153 => ?_)
                          · exfalso; omega
                          · skip
                            refine xp_aload_n rfl rfl ?_
                            refine xp_gfa rfl rfl (by decide) (by decide) (by first | assumption | exact hL.t rfl) (by first | assumption | exact hL.r rfl | exact hL.2.2.2.2.2) ?_
                            refine xp_iload_n rfl rfl ?_
                            refine xp_iald rfl (by first | assumption | exact hL.t rfl) (by omega) (by omega) ?_
                            rw [x1]
                            refine xp_iconst (n := 1) rfl (by decide) ?_
                            refine xp_icne 181 rfl (by decide) (by omega) (by omega) (fun h163 => ?_) (fun h163 => ?_)
                            · skip
                              refine xp_iconst (n := 0) rfl (by decide) ?_
                              refine xp_istore rfl (by decide) ?_
                              refine xp_aload_n rfl rfl ?_
                              refine xp_gfa rfl rfl (by decide) (by decide) (by first | assumption | exact hL.t rfl) (by first | assumption | exact hL.r rfl | exact hL.2.2.2.2.2) ?_
                              refine xp_iload_n rfl rfl ?_
                              refine xp_dup2 rfl rfl rfl ?_
                              refine xp_iald rfl (by first | assumption | exact hL.t rfl) (by omega) (by omega) ?_
                              refine xp_iconst (n := 1) rfl (by decide) ?_
                              refine xp_isub rfl (by omega) ?_
                              refine xp_iast rfl (by first | assumption | exact hL.t rfl) (by omega) (by omega) ?_
                              refine xp_aload_n rfl rfl ?_
                              refine xp_iload_n rfl rfl ?_
                              refine xp_iload rfl rfl ?_
                              refine xp_ifeq 205 rfl (by decide) (by omega) (fun h198 => ?_) (fun h198 => ?_)
                              · skip
                                refine xp_iconst (n := 2) rfl (by decide) ?_
                                refine xp_iload rfl rfl ?_
                                refine xp_ifeq 218 rfl (by decide) (by omega) (fun h208 => ?_) (fun h208 => ?_)
                                · skip
                                  refine xp_lload rfl rfl ?_
                                  refine xp_iv rfl rfl (Nat.le_of_ble_eq_true rfl) (by decide) (by decide) (by decide) (Nat.le_of_ble_eq_true rfl) rfl (xrcv1 (by decide) (by first | assumption | exact hL.t rfl)) (m120 hL (by omega)) rfl ?_
                                  refine xp_iconst (n := 0) rfl (by decide) ?_
                                  refine xp_ireturn rfl (by decide) (by decide) (by decide) ?_
                                  obtain ⟨g1, g2⟩ := hR.binop (q := 2) (v := _) hc hT h2
                                  rw [g1]
                                  exact ⟨_, rfl, g2⟩
                                · exfalso; omega
                              · exfalso; omega
                            · skip
                              refine xp_aload_n rfl rfl ?_
                              refine xp_gfa rfl rfl (by decide) (by decide) (by first | assumption | exact hL.t rfl) (by first | assumption | exact hL.r rfl | exact hL.2.2.2.2.2) ?_
                              refine xp_iload rfl rfl ?_
                              refine xp_iald rfl (by first | assumption | exact hL.t rfl) (by omega) (by omega) ?_
                              rw [y1]
                              refine xp_iconst (n := 1) rfl (by decide) ?_
                              refine xp_icne 181 rfl (by decide) (by omega) (by omega) (fun h174 => ?_) (fun h174 => ?_)
                              · skip
                                refine xp_iconst (n := 0) rfl (by decide) ?_
                                refine xp_istore rfl (by decide) ?_
                                refine xp_aload_n rfl rfl ?_
                                refine xp_gfa rfl rfl (by decide) (by decide) (by first | assumption | exact hL.t rfl) (by first | assumption | exact hL.r rfl | exact hL.2.2.2.2.2) ?_
                                refine xp_iload_n rfl rfl ?_
                                refine xp_dup2 rfl rfl rfl ?_
                                refine xp_iald rfl (by first | assumption | exact hL.t rfl) (by omega) (by omega) ?_
                                refine xp_iconst (n := 1) rfl (by decide) ?_
                                refine xp_isub rfl (by omega) ?_
                                refine xp_iast rfl (by first | assumption | exact hL.t rfl) (by omega) (by omega) ?_
                                refine xp_aload_n rfl rfl ?_
                                refine xp_iload_n rfl rfl ?_
                                refine xp_iload rfl rfl ?_
                                refine xp_ifeq 205 rfl (by decide) (by omega) (fun h198 => ?_) (fun h198 => ?_)
                                · skip
                                  refine xp_iconst (n := 2) rfl (by decide) ?_
                                  refine xp_iload rfl rfl ?_
                                  refine xp_ifeq 218 rfl (by decide) (by omega) (fun h208 => ?_) (fun h208 => ?_)
                                  · skip
                                    refine xp_lload rfl rfl ?_
                                    refine xp_iv rfl rfl (Nat.le_of_ble_eq_true rfl) (by decide) (by decide) (by decide) (Nat.le_of_ble_eq_true rfl) rfl (xrcv1 (by decide) (by first | assumption | exact hL.t rfl)) (m120 hL (by omega)) rfl ?_
                                    refine xp_iconst (n := 0) rfl (by decide) ?_
                                    refine xp_ireturn rfl (by decide) (by decide) (by decide) ?_
                                    obtain ⟨g1, g2⟩ := hR.binop (q := 2) (v := _) hc hT h2
                                    rw [g1]
                                    exact ⟨_, rfl, g2⟩
                                  · exfalso; omega
                                · exfalso; omega
                              · exact absurd hl (by omega)
                      · exfalso; omega
                    · exfalso; omega
                  · exfalso; omega
                · exact absurd h56 hz
            · exfalso; omega
        · have e : aCompute A f 11 = aPush (aPop A f 2) f 1 (aCombine 11 (A.2 (f + 3) (3 + A.1 f 3)) (A.2 (f + 3) (4 + A.1 f 3))).toInt32.toInt64 := by unfold aCompute; rw [if_neg (fun z => z ⟨hx, hy⟩), if_neg (fun z => hz z.2), if_neg hl]
          rw [e, ec]
          refine xF_x (xF_p (Nat.le_of_ble_eq_true rfl) ?_)
          refine xp_aload_n rfl rfl ?_
          refine xp_iload_n rfl rfl ?_
          refine xp_iconst (n := 1) rfl (by decide) ?_
          refine xp_iv rfl rfl (Nat.le_of_ble_eq_true rfl) (by decide) (by decide) (by decide) (Nat.le_of_ble_eq_true rfl) rfl (xrcv1 (by decide) (by first | assumption | exact hL.t rfl)) (m123 hL b3 (by omega)) rfl ?_
          refine xp_istore_n rfl (by decide) ?_
          refine xp_aload_n rfl rfl ?_
          refine xp_iload_n rfl rfl ?_
          refine xp_iconst (n := 0) rfl (by decide) ?_
          refine xp_iv rfl rfl (Nat.le_of_ble_eq_true rfl) (by decide) (by decide) (by decide) (Nat.le_of_ble_eq_true rfl) rfl (xrcv1 (by decide) (by first | assumption | exact hL.t rfl)) (m123 hL b3 (by omega)) rfl ?_
          refine xp_istore rfl (by decide) ?_
          refine xp_aload_n rfl rfl ?_
          refine xp_gfa rfl rfl (by decide) (by decide) (by first | assumption | exact hL.t rfl) (by first | assumption | exact hL.r rfl | exact hL.2.2.2.2.2) ?_
          refine xp_iload_n rfl rfl ?_
          refine xp_iald rfl (by first | assumption | exact hL.t rfl) (by omega) (by omega) ?_
          rw [x1]
          refine xp_is rfl rfl rfl (Nat.le_of_ble_eq_true rfl) (by decide) (by decide) (by decide) (Nat.le_of_ble_eq_true rfl) rfl (xrcv0 (by decide) _ _) (m133 (by omega)) rfl ?_
          rw [mNum1 hx]
          refine xp_ifeq 40 rfl (by decide) (by omega) (fun h24 => ?_) (fun h24 => ?_)
          · exfalso; omega
          · skip
            refine xp_aload_n rfl rfl ?_
            refine xp_gfa rfl rfl (by decide) (by decide) (by first | assumption | exact hL.t rfl) (by first | assumption | exact hL.r rfl | exact hL.2.2.2.2.2) ?_
            refine xp_iload rfl rfl ?_
            refine xp_iald rfl (by first | assumption | exact hL.t rfl) (by omega) (by omega) ?_
            rw [y1]
            refine xp_is rfl rfl rfl (Nat.le_of_ble_eq_true rfl) (by decide) (by decide) (by decide) (Nat.le_of_ble_eq_true rfl) rfl (xrcv0 (by decide) _ _) (m133 (by omega)) rfl ?_
            rw [mNum1 hy]
            refine xp_ifne 42 rfl (by decide) (by omega) (fun h37 => ?_) (fun h37 => ?_)
            · skip
              refine xp_iload_n rfl rfl ?_
              refine xp_bipush (n := 11) rfl (by decide) ?_
              refine xp_icne 62 rfl (by decide) (by omega) (by omega) (fun h45 => ?_) (fun h45 => ?_)
              · exfalso; omega
              · skip
                refine xp_aload_n rfl rfl ?_
                refine xp_gfa rfl rfl (by decide) (by decide) (by first | assumption | exact hL.t rfl) (by first | assumption | exact hL.r rfl | exact hL.2.2.2.2.2) ?_
                refine xp_iload rfl rfl ?_
                refine xp_lald rfl (by first | assumption | exact hL.t rfl) (by omega) (by omega) ?_
                rw [y2]
                refine xp_lconst rfl rfl ?_
                refine xp_lcne 62 rfl rfl (by decide) (fun h56 => ?_) (fun h56 => ?_)
                · skip
                  refine xp_aload_n rfl rfl ?_
                  refine xp_gfa rfl rfl (by decide) (by decide) (by first | assumption | exact hL.t rfl) (by first | assumption | exact hL.r rfl | exact hL.2.2.2.2.2) ?_
                  refine xp_iload_n rfl rfl ?_
                  refine xp_lald rfl (by first | assumption | exact hL.t rfl) (by omega) (by omega) ?_
                  rw [x2]
                  refine xp_lstore rfl (by decide) ?_
                  refine xp_aload_n rfl rfl ?_
                  refine xp_gfa rfl rfl (by decide) (by decide) (by first | assumption | exact hL.t rfl) (by first | assumption | exact hL.r rfl | exact hL.2.2.2.2.2) ?_
                  refine xp_iload rfl rfl ?_
                  refine xp_lald rfl (by first | assumption | exact hL.t rfl) (by omega) (by omega) ?_
                  rw [y2]
                  refine xp_lstore rfl (by decide) ?_
                  refine xp_iload_n rfl rfl ?_
                  refine xp_bipush (n := 8) rfl (by decide) ?_
                  refine xp_icne 93 rfl (by decide) (by omega) (by omega) (fun h82 => ?_) (fun h82 => ?_)
                  · skip
                    refine xp_iload_n rfl rfl ?_
                    refine xp_bipush (n := 9) rfl (by decide) ?_
                    refine xp_icne 107 rfl (by decide) (by omega) (by omega) (fun h96 => ?_) (fun h96 => ?_)
                    · skip
                      refine xp_iload_n rfl rfl ?_
                      refine xp_bipush (n := 10) rfl (by decide) ?_
                      refine xp_icne 121 rfl (by decide) (by omega) (by omega) (fun h110 => ?_) (fun h110 => ?_)
                      · skip
                        refine xp_iload_n rfl rfl ?_
                        refine xp_bipush (n := 11) rfl (by decide) ?_
                        refine xp_icne 135 rfl (by decide) (by omega) (by omega) (fun h124 => ?_) (fun h124 => ?_)
                        · exfalso; omega
                        · skip
                          refine xp_lload rfl rfl ?_
                          refine xp_lload rfl rfl ?_
                          refine xp_ldiv rfl hz ?_
                          refine xp_goto 148 rfl (by decide) ?_
                          refine xp_lstore rfl (by decide) ?_
                          refine xp_iload_n rfl rfl ?_
                          refine xp_bipush (n := 12) rfl (by decide) ?_
                          refine xp_iceq 177 rfl (by decide) (by omega) (by omega) (fun h153 => ?_) (fun h153 => ?_)
                          · exfalso; omega
                          · skip
                            refine xp_aload_n rfl rfl ?_
                            refine xp_gfa rfl rfl (by decide) (by decide) (by first | assumption | exact hL.t rfl) (by first | assumption | exact hL.r rfl | exact hL.2.2.2.2.2) ?_
                            refine xp_iload_n rfl rfl ?_
                            refine xp_iald rfl (by first | assumption | exact hL.t rfl) (by omega) (by omega) ?_
                            rw [x1]
                            refine xp_iconst (n := 1) rfl (by decide) ?_
                            refine xp_icne 181 rfl (by decide) (by omega) (by omega) (fun h163 => ?_) (fun h163 => ?_)
                            · exact absurd hl (by omega)
                            · skip
                              refine xp_aload_n rfl rfl ?_
                              refine xp_gfa rfl rfl (by decide) (by decide) (by first | assumption | exact hL.t rfl) (by first | assumption | exact hL.r rfl | exact hL.2.2.2.2.2) ?_
                              refine xp_iload rfl rfl ?_
                              refine xp_iald rfl (by first | assumption | exact hL.t rfl) (by omega) (by omega) ?_
                              rw [y1]
                              refine xp_iconst (n := 1) rfl (by decide) ?_
                              refine xp_icne 181 rfl (by decide) (by omega) (by omega) (fun h174 => ?_) (fun h174 => ?_)
                              · exact absurd hl (by omega)
                              · skip
                                refine xp_iconst (n := 1) rfl (by decide) ?_
                                refine xp_goto 182 rfl (by decide) ?_
                                refine xp_istore rfl (by decide) ?_
                                refine xp_aload_n rfl rfl ?_
                                refine xp_gfa rfl rfl (by decide) (by decide) (by first | assumption | exact hL.t rfl) (by first | assumption | exact hL.r rfl | exact hL.2.2.2.2.2) ?_
                                refine xp_iload_n rfl rfl ?_
                                refine xp_dup2 rfl rfl rfl ?_
                                refine xp_iald rfl (by first | assumption | exact hL.t rfl) (by omega) (by omega) ?_
                                refine xp_iconst (n := 1) rfl (by decide) ?_
                                refine xp_isub rfl (by omega) ?_
                                refine xp_iast rfl (by first | assumption | exact hL.t rfl) (by omega) (by omega) ?_
                                refine xp_aload_n rfl rfl ?_
                                refine xp_iload_n rfl rfl ?_
                                refine xp_iload rfl rfl ?_
                                refine xp_ifeq 205 rfl (by decide) (by omega) (fun h198 => ?_) (fun h198 => ?_)
                                · exfalso; omega
                                · skip
                                  refine xp_iconst (n := 1) rfl (by decide) ?_
                                  refine xp_goto 206 rfl (by decide) ?_
                                  refine xp_iload rfl rfl ?_
                                  refine xp_ifeq 218 rfl (by decide) (by omega) (fun h208 => ?_) (fun h208 => ?_)
                                  · exfalso; omega
                                  · skip
                                    refine xp_lload rfl rfl ?_
                                    refine xp_l2i rfl ?_
                                    refine xp_i2l rfl ?_
                                    refine xp_goto 220 rfl (by decide) ?_
                                    refine xp_iv rfl rfl (Nat.le_of_ble_eq_true rfl) (by decide) (by decide) (by decide) (Nat.le_of_ble_eq_true rfl) rfl (xrcv1 (by decide) (by first | assumption | exact hL.t rfl)) (m120 hL (by omega)) rfl ?_
                                    refine xp_iconst (n := 0) rfl (by decide) ?_
                                    refine xp_ireturn rfl (by decide) (by decide) (by decide) ?_
                                    obtain ⟨g1, g2⟩ := hR.binop (q := 1) (v := _) hc hT h2
                                    rw [g1]
                                    exact ⟨_, rfl, g2⟩
                      · exfalso; omega
                    · exfalso; omega
                  · exfalso; omega
                · exact absurd h56 hz
            · exfalso; omega
    · have e : aCompute A f 11 = (2, A) := by unfold aCompute; rw [if_pos (fun z => hy z.2)]
      rw [e]
      refine xF_x (xF_p (Nat.le_of_ble_eq_true rfl) ?_)
      refine xp_aload_n rfl rfl ?_
      refine xp_iload_n rfl rfl ?_
      refine xp_iconst (n := 1) rfl (by decide) ?_
      refine xp_iv rfl rfl (Nat.le_of_ble_eq_true rfl) (by decide) (by decide) (by decide) (Nat.le_of_ble_eq_true rfl) rfl (xrcv1 (by decide) (by first | assumption | exact hL.t rfl)) (m123 hL b3 (by omega)) rfl ?_
      refine xp_istore_n rfl (by decide) ?_
      refine xp_aload_n rfl rfl ?_
      refine xp_iload_n rfl rfl ?_
      refine xp_iconst (n := 0) rfl (by decide) ?_
      refine xp_iv rfl rfl (Nat.le_of_ble_eq_true rfl) (by decide) (by decide) (by decide) (Nat.le_of_ble_eq_true rfl) rfl (xrcv1 (by decide) (by first | assumption | exact hL.t rfl)) (m123 hL b3 (by omega)) rfl ?_
      refine xp_istore rfl (by decide) ?_
      refine xp_aload_n rfl rfl ?_
      refine xp_gfa rfl rfl (by decide) (by decide) (by first | assumption | exact hL.t rfl) (by first | assumption | exact hL.r rfl | exact hL.2.2.2.2.2) ?_
      refine xp_iload_n rfl rfl ?_
      refine xp_iald rfl (by first | assumption | exact hL.t rfl) (by omega) (by omega) ?_
      rw [x1]
      refine xp_is rfl rfl rfl (Nat.le_of_ble_eq_true rfl) (by decide) (by decide) (by decide) (Nat.le_of_ble_eq_true rfl) rfl (xrcv0 (by decide) _ _) (m133 (by omega)) rfl ?_
      rw [mNum1 hx]
      refine xp_ifeq 40 rfl (by decide) (by omega) (fun h24 => ?_) (fun h24 => ?_)
      · exfalso; omega
      · skip
        refine xp_aload_n rfl rfl ?_
        refine xp_gfa rfl rfl (by decide) (by decide) (by first | assumption | exact hL.t rfl) (by first | assumption | exact hL.r rfl | exact hL.2.2.2.2.2) ?_
        refine xp_iload rfl rfl ?_
        refine xp_iald rfl (by first | assumption | exact hL.t rfl) (by omega) (by omega) ?_
        rw [y1]
        refine xp_is rfl rfl rfl (Nat.le_of_ble_eq_true rfl) (by decide) (by decide) (by decide) (Nat.le_of_ble_eq_true rfl) rfl (xrcv0 (by decide) _ _) (m133 (by omega)) rfl ?_
        rw [mNum0 hy]
        refine xp_ifne 42 rfl (by decide) (by omega) (fun h37 => ?_) (fun h37 => ?_)
        · exfalso; omega
        · skip
          refine xp_iconst (n := 2) rfl (by decide) ?_
          refine xp_ireturn rfl (by decide) (by decide) (by decide) ?_
          exact ⟨_, rfl, hR⟩
  · have e : aCompute A f 11 = (2, A) := by unfold aCompute; rw [if_pos (fun z => hx z.1)]
    rw [e]
    refine xF_x (xF_p (Nat.le_of_ble_eq_true rfl) ?_)
    refine xp_aload_n rfl rfl ?_
    refine xp_iload_n rfl rfl ?_
    refine xp_iconst (n := 1) rfl (by decide) ?_
    refine xp_iv rfl rfl (Nat.le_of_ble_eq_true rfl) (by decide) (by decide) (by decide) (Nat.le_of_ble_eq_true rfl) rfl (xrcv1 (by decide) (by first | assumption | exact hL.t rfl)) (m123 hL b3 (by omega)) rfl ?_
    refine xp_istore_n rfl (by decide) ?_
    refine xp_aload_n rfl rfl ?_
    refine xp_iload_n rfl rfl ?_
    refine xp_iconst (n := 0) rfl (by decide) ?_
    refine xp_iv rfl rfl (Nat.le_of_ble_eq_true rfl) (by decide) (by decide) (by decide) (Nat.le_of_ble_eq_true rfl) rfl (xrcv1 (by decide) (by first | assumption | exact hL.t rfl)) (m123 hL b3 (by omega)) rfl ?_
    refine xp_istore rfl (by decide) ?_
    refine xp_aload_n rfl rfl ?_
    refine xp_gfa rfl rfl (by decide) (by decide) (by first | assumption | exact hL.t rfl) (by first | assumption | exact hL.r rfl | exact hL.2.2.2.2.2) ?_
    refine xp_iload_n rfl rfl ?_
    refine xp_iald rfl (by first | assumption | exact hL.t rfl) (by omega) (by omega) ?_
    rw [x1]
    refine xp_is rfl rfl rfl (Nat.le_of_ble_eq_true rfl) (by decide) (by decide) (by decide) (Nat.le_of_ble_eq_true rfl) rfl (xrcv0 (by decide) _ _) (m133 (by omega)) rfl ?_
    rw [mNum0 hx]
    refine xp_ifeq 40 rfl (by decide) (by omega) (fun h24 => ?_) (fun h24 => ?_)
    · skip
      refine xp_iconst (n := 2) rfl (by decide) ?_
      refine xp_ireturn rfl (by decide) (by decide) (by decide) ?_
      exact ⟨_, rfl, hR⟩
    · exfalso; omega
theorem m134_12 {z : Nat} {T : Nat → Option xT} {R : Nat → Nat → Option Nat} {A B : xQ} {w t k f m : Nat} (hL : xLay T R w) (hc : COk w A) (hR : Rel w A B) (hT : Top w A t k f m) (h2 : 2 ≤ A.1 f 3) : ∃ B2, xF 134 [.ref 189, .int (nI m), .int (nI 12)] (xm z T R B) (.inr (some (.int (nI (aCompare A f).1))), xm z T R B2) ∧ Rel w (aCompare A f).2 B2 := by
  obtain ⟨b1, b2, b3, b4, b5, b6, b7⟩ := hT.b hc
  have hk := hT.ok hc
  have hd := (hT.g hR).2.2.1
  obtain ⟨d0, x1, x2⟩ := hT.x hR h2
  obtain ⟨_, y1, y2⟩ := hT.y hR (by omega)
  have kx := hk.c (c := 3 + A.1 f 3) (by omega)
  have ky := hk.c (c := 4 + A.1 f 3) (by omega)
  by_cases hx : A.1 (f + 2) (3 + A.1 f 3) = 1 ∨ A.1 (f + 2) (3 + A.1 f 3) = 2
  · by_cases hy : A.1 (f + 2) (4 + A.1 f 3) = 1 ∨ A.1 (f + 2) (4 + A.1 f 3) = 2
    · have e : aCompare A f = aPush (aPop A f 2) f 1 (if (if A.2 (f + 3) (3 + A.1 f 3) < A.2 (f + 3) (4 + A.1 f 3) then 1 else 0) = 0 then 0 else 1) := by unfold aCompare aAnswer; rw [if_neg (fun z => z ⟨hx, hy⟩)]
      rw [e]
      refine xF_x (xF_p (Nat.le_of_ble_eq_true rfl) ?_)
      refine xp_aload_n rfl rfl ?_
      refine xp_iload_n rfl rfl ?_
      refine xp_iconst (n := 1) rfl (by decide) ?_
      refine xp_iv rfl rfl (Nat.le_of_ble_eq_true rfl) (by decide) (by decide) (by decide) (Nat.le_of_ble_eq_true rfl) rfl (xrcv1 (by decide) (by first | assumption | exact hL.t rfl)) (m123 hL b3 (by omega)) rfl ?_
      refine xp_istore_n rfl (by decide) ?_
      refine xp_aload_n rfl rfl ?_
      refine xp_iload_n rfl rfl ?_
      refine xp_iconst (n := 0) rfl (by decide) ?_
      refine xp_iv rfl rfl (Nat.le_of_ble_eq_true rfl) (by decide) (by decide) (by decide) (Nat.le_of_ble_eq_true rfl) rfl (xrcv1 (by decide) (by first | assumption | exact hL.t rfl)) (m123 hL b3 (by omega)) rfl ?_
      refine xp_istore rfl (by decide) ?_
      refine xp_aload_n rfl rfl ?_
      refine xp_gfa rfl rfl (by decide) (by decide) (by first | assumption | exact hL.t rfl) (by first | assumption | exact hL.r rfl | exact hL.2.2.2.2.2) ?_
      refine xp_iload_n rfl rfl ?_
      refine xp_iald rfl (by first | assumption | exact hL.t rfl) (by omega) (by omega) ?_
      rw [x1]
      refine xp_is rfl rfl rfl (Nat.le_of_ble_eq_true rfl) (by decide) (by decide) (by decide) (Nat.le_of_ble_eq_true rfl) rfl (xrcv0 (by decide) _ _) (m133 (by omega)) rfl ?_
      rw [mNum1 hx]
      refine xp_ifeq 40 rfl (by decide) (by omega) (fun h24 => ?_) (fun h24 => ?_)
      · exfalso; omega
      · skip
        refine xp_aload_n rfl rfl ?_
        refine xp_gfa rfl rfl (by decide) (by decide) (by first | assumption | exact hL.t rfl) (by first | assumption | exact hL.r rfl | exact hL.2.2.2.2.2) ?_
        refine xp_iload rfl rfl ?_
        refine xp_iald rfl (by first | assumption | exact hL.t rfl) (by omega) (by omega) ?_
        rw [y1]
        refine xp_is rfl rfl rfl (Nat.le_of_ble_eq_true rfl) (by decide) (by decide) (by decide) (Nat.le_of_ble_eq_true rfl) rfl (xrcv0 (by decide) _ _) (m133 (by omega)) rfl ?_
        rw [mNum1 hy]
        refine xp_ifne 42 rfl (by decide) (by omega) (fun h37 => ?_) (fun h37 => ?_)
        · skip
          refine xp_iload_n rfl rfl ?_
          refine xp_bipush (n := 11) rfl (by decide) ?_
          refine xp_icne 62 rfl (by decide) (by omega) (by omega) (fun h45 => ?_) (fun h45 => ?_)
          · skip
            refine xp_aload_n rfl rfl ?_
            refine xp_gfa rfl rfl (by decide) (by decide) (by first | assumption | exact hL.t rfl) (by first | assumption | exact hL.r rfl | exact hL.2.2.2.2.2) ?_
            refine xp_iload_n rfl rfl ?_
            refine xp_lald rfl (by first | assumption | exact hL.t rfl) (by omega) (by omega) ?_
            rw [x2]
            refine xp_lstore rfl (by decide) ?_
            refine xp_aload_n rfl rfl ?_
            refine xp_gfa rfl rfl (by decide) (by decide) (by first | assumption | exact hL.t rfl) (by first | assumption | exact hL.r rfl | exact hL.2.2.2.2.2) ?_
            refine xp_iload rfl rfl ?_
            refine xp_lald rfl (by first | assumption | exact hL.t rfl) (by omega) (by omega) ?_
            rw [y2]
            refine xp_lstore rfl (by decide) ?_
            refine xp_iload_n rfl rfl ?_
            refine xp_bipush (n := 8) rfl (by decide) ?_
            refine xp_icne 93 rfl (by decide) (by omega) (by omega) (fun h82 => ?_) (fun h82 => ?_)
            · skip
              refine xp_iload_n rfl rfl ?_
              refine xp_bipush (n := 9) rfl (by decide) ?_
              refine xp_icne 107 rfl (by decide) (by omega) (by omega) (fun h96 => ?_) (fun h96 => ?_)
              · skip
                refine xp_iload_n rfl rfl ?_
                refine xp_bipush (n := 10) rfl (by decide) ?_
                refine xp_icne 121 rfl (by decide) (by omega) (by omega) (fun h110 => ?_) (fun h110 => ?_)
                · skip
                  refine xp_iload_n rfl rfl ?_
                  refine xp_bipush (n := 11) rfl (by decide) ?_
                  refine xp_icne 135 rfl (by decide) (by omega) (by omega) (fun h124 => ?_) (fun h124 => ?_)
                  · skip
                    refine xp_lload rfl rfl ?_
                    refine xp_lload rfl rfl ?_
                    refine xp_lcge 147 rfl rfl (by decide) (fun h139 => ?_) (fun h139 => ?_)
                    · skip
                      refine xp_lconst rfl rfl ?_
                      refine xp_lstore rfl (by decide) ?_
                      refine xp_iload_n rfl rfl ?_
                      refine xp_bipush (n := 12) rfl (by decide) ?_
                      refine xp_iceq 177 rfl (by decide) (by omega) (by omega) (fun h153 => ?_) (fun h153 => ?_)
                      · skip
                        refine xp_iconst (n := 1) rfl (by decide) ?_
                        refine xp_goto 182 rfl (by decide) ?_
                        refine xp_istore rfl (by decide) ?_
                        refine xp_aload_n rfl rfl ?_
                        refine xp_gfa rfl rfl (by decide) (by decide) (by first | assumption | exact hL.t rfl) (by first | assumption | exact hL.r rfl | exact hL.2.2.2.2.2) ?_
                        refine xp_iload_n rfl rfl ?_
                        refine xp_dup2 rfl rfl rfl ?_
                        refine xp_iald rfl (by first | assumption | exact hL.t rfl) (by omega) (by omega) ?_
                        refine xp_iconst (n := 1) rfl (by decide) ?_
                        refine xp_isub rfl (by omega) ?_
                        refine xp_iast rfl (by first | assumption | exact hL.t rfl) (by omega) (by omega) ?_
                        refine xp_aload_n rfl rfl ?_
                        refine xp_iload_n rfl rfl ?_
                        refine xp_iload rfl rfl ?_
                        refine xp_ifeq 205 rfl (by decide) (by omega) (fun h198 => ?_) (fun h198 => ?_)
                        · exfalso; omega
                        · skip
                          refine xp_iconst (n := 1) rfl (by decide) ?_
                          refine xp_goto 206 rfl (by decide) ?_
                          refine xp_iload rfl rfl ?_
                          refine xp_ifeq 218 rfl (by decide) (by omega) (fun h208 => ?_) (fun h208 => ?_)
                          · exfalso; omega
                          · skip
                            refine xp_lload rfl rfl ?_
                            refine xp_l2i rfl ?_
                            refine xp_i2l rfl ?_
                            refine xp_goto 220 rfl (by decide) ?_
                            refine xp_iv rfl rfl (Nat.le_of_ble_eq_true rfl) (by decide) (by decide) (by decide) (Nat.le_of_ble_eq_true rfl) rfl (xrcv1 (by decide) (by first | assumption | exact hL.t rfl)) (m120 hL (by omega)) rfl ?_
                            refine xp_iconst (n := 0) rfl (by decide) ?_
                            refine xp_ireturn rfl (by decide) (by decide) (by decide) ?_
                            obtain ⟨g1, g2⟩ := hR.binop (q := 1) (v := if (if A.2 (f + 3) (3 + A.1 f 3) < A.2 (f + 3) (4 + A.1 f 3) then 1 else 0) = 0 then 0 else 1) hc hT h2
                            rw [g1]
                            refine ⟨_, ?_, g2⟩
                            first | (rw [if_pos h139]; rfl) | (rw [if_neg h139]; rfl)
                      · exfalso; omega
                    · skip
                      refine xp_lconst rfl rfl ?_
                      refine xp_goto 148 rfl (by decide) ?_
                      refine xp_lstore rfl (by decide) ?_
                      refine xp_iload_n rfl rfl ?_
                      refine xp_bipush (n := 12) rfl (by decide) ?_
                      refine xp_iceq 177 rfl (by decide) (by omega) (by omega) (fun h153 => ?_) (fun h153 => ?_)
                      · skip
                        refine xp_iconst (n := 1) rfl (by decide) ?_
                        refine xp_goto 182 rfl (by decide) ?_
                        refine xp_istore rfl (by decide) ?_
                        refine xp_aload_n rfl rfl ?_
                        refine xp_gfa rfl rfl (by decide) (by decide) (by first | assumption | exact hL.t rfl) (by first | assumption | exact hL.r rfl | exact hL.2.2.2.2.2) ?_
                        refine xp_iload_n rfl rfl ?_
                        refine xp_dup2 rfl rfl rfl ?_
                        refine xp_iald rfl (by first | assumption | exact hL.t rfl) (by omega) (by omega) ?_
                        refine xp_iconst (n := 1) rfl (by decide) ?_
                        refine xp_isub rfl (by omega) ?_
                        refine xp_iast rfl (by first | assumption | exact hL.t rfl) (by omega) (by omega) ?_
                        refine xp_aload_n rfl rfl ?_
                        refine xp_iload_n rfl rfl ?_
                        refine xp_iload rfl rfl ?_
                        refine xp_ifeq 205 rfl (by decide) (by omega) (fun h198 => ?_) (fun h198 => ?_)
                        · exfalso; omega
                        · skip
                          refine xp_iconst (n := 1) rfl (by decide) ?_
                          refine xp_goto 206 rfl (by decide) ?_
                          refine xp_iload rfl rfl ?_
                          refine xp_ifeq 218 rfl (by decide) (by omega) (fun h208 => ?_) (fun h208 => ?_)
                          · exfalso; omega
                          · skip
                            refine xp_lload rfl rfl ?_
                            refine xp_l2i rfl ?_
                            refine xp_i2l rfl ?_
                            refine xp_goto 220 rfl (by decide) ?_
                            refine xp_iv rfl rfl (Nat.le_of_ble_eq_true rfl) (by decide) (by decide) (by decide) (Nat.le_of_ble_eq_true rfl) rfl (xrcv1 (by decide) (by first | assumption | exact hL.t rfl)) (m120 hL (by omega)) rfl ?_
                            refine xp_iconst (n := 0) rfl (by decide) ?_
                            refine xp_ireturn rfl (by decide) (by decide) (by decide) ?_
                            obtain ⟨g1, g2⟩ := hR.binop (q := 1) (v := if (if A.2 (f + 3) (3 + A.1 f 3) < A.2 (f + 3) (4 + A.1 f 3) then 1 else 0) = 0 then 0 else 1) hc hT h2
                            rw [g1]
                            refine ⟨_, ?_, g2⟩
                            first | (rw [if_pos h139]; rfl) | (rw [if_neg h139]; rfl)
                      · exfalso; omega
                  · exfalso; omega
                · exfalso; omega
              · exfalso; omega
            · exfalso; omega
          · exfalso; omega
        · exfalso; omega
    · have e : aCompare A f = (2, A) := by unfold aCompare; rw [if_pos (fun z => hy z.2)]
      rw [e]
      refine xF_x (xF_p (Nat.le_of_ble_eq_true rfl) ?_)
      refine xp_aload_n rfl rfl ?_
      refine xp_iload_n rfl rfl ?_
      refine xp_iconst (n := 1) rfl (by decide) ?_
      refine xp_iv rfl rfl (Nat.le_of_ble_eq_true rfl) (by decide) (by decide) (by decide) (Nat.le_of_ble_eq_true rfl) rfl (xrcv1 (by decide) (by first | assumption | exact hL.t rfl)) (m123 hL b3 (by omega)) rfl ?_
      refine xp_istore_n rfl (by decide) ?_
      refine xp_aload_n rfl rfl ?_
      refine xp_iload_n rfl rfl ?_
      refine xp_iconst (n := 0) rfl (by decide) ?_
      refine xp_iv rfl rfl (Nat.le_of_ble_eq_true rfl) (by decide) (by decide) (by decide) (Nat.le_of_ble_eq_true rfl) rfl (xrcv1 (by decide) (by first | assumption | exact hL.t rfl)) (m123 hL b3 (by omega)) rfl ?_
      refine xp_istore rfl (by decide) ?_
      refine xp_aload_n rfl rfl ?_
      refine xp_gfa rfl rfl (by decide) (by decide) (by first | assumption | exact hL.t rfl) (by first | assumption | exact hL.r rfl | exact hL.2.2.2.2.2) ?_
      refine xp_iload_n rfl rfl ?_
      refine xp_iald rfl (by first | assumption | exact hL.t rfl) (by omega) (by omega) ?_
      rw [x1]
      refine xp_is rfl rfl rfl (Nat.le_of_ble_eq_true rfl) (by decide) (by decide) (by decide) (Nat.le_of_ble_eq_true rfl) rfl (xrcv0 (by decide) _ _) (m133 (by omega)) rfl ?_
      rw [mNum1 hx]
      refine xp_ifeq 40 rfl (by decide) (by omega) (fun h24 => ?_) (fun h24 => ?_)
      · exfalso; omega
      · skip
        refine xp_aload_n rfl rfl ?_
        refine xp_gfa rfl rfl (by decide) (by decide) (by first | assumption | exact hL.t rfl) (by first | assumption | exact hL.r rfl | exact hL.2.2.2.2.2) ?_
        refine xp_iload rfl rfl ?_
        refine xp_iald rfl (by first | assumption | exact hL.t rfl) (by omega) (by omega) ?_
        rw [y1]
        refine xp_is rfl rfl rfl (Nat.le_of_ble_eq_true rfl) (by decide) (by decide) (by decide) (Nat.le_of_ble_eq_true rfl) rfl (xrcv0 (by decide) _ _) (m133 (by omega)) rfl ?_
        rw [mNum0 hy]
        refine xp_ifne 42 rfl (by decide) (by omega) (fun h37 => ?_) (fun h37 => ?_)
        · exfalso; omega
        · skip
          refine xp_iconst (n := 2) rfl (by decide) ?_
          refine xp_ireturn rfl (by decide) (by decide) (by decide) ?_
          exact ⟨_, rfl, hR⟩
  · have e : aCompare A f = (2, A) := by unfold aCompare; rw [if_pos (fun z => hx z.1)]
    rw [e]
    refine xF_x (xF_p (Nat.le_of_ble_eq_true rfl) ?_)
    refine xp_aload_n rfl rfl ?_
    refine xp_iload_n rfl rfl ?_
    refine xp_iconst (n := 1) rfl (by decide) ?_
    refine xp_iv rfl rfl (Nat.le_of_ble_eq_true rfl) (by decide) (by decide) (by decide) (Nat.le_of_ble_eq_true rfl) rfl (xrcv1 (by decide) (by first | assumption | exact hL.t rfl)) (m123 hL b3 (by omega)) rfl ?_
    refine xp_istore_n rfl (by decide) ?_
    refine xp_aload_n rfl rfl ?_
    refine xp_iload_n rfl rfl ?_
    refine xp_iconst (n := 0) rfl (by decide) ?_
    refine xp_iv rfl rfl (Nat.le_of_ble_eq_true rfl) (by decide) (by decide) (by decide) (Nat.le_of_ble_eq_true rfl) rfl (xrcv1 (by decide) (by first | assumption | exact hL.t rfl)) (m123 hL b3 (by omega)) rfl ?_
    refine xp_istore rfl (by decide) ?_
    refine xp_aload_n rfl rfl ?_
    refine xp_gfa rfl rfl (by decide) (by decide) (by first | assumption | exact hL.t rfl) (by first | assumption | exact hL.r rfl | exact hL.2.2.2.2.2) ?_
    refine xp_iload_n rfl rfl ?_
    refine xp_iald rfl (by first | assumption | exact hL.t rfl) (by omega) (by omega) ?_
    rw [x1]
    refine xp_is rfl rfl rfl (Nat.le_of_ble_eq_true rfl) (by decide) (by decide) (by decide) (Nat.le_of_ble_eq_true rfl) rfl (xrcv0 (by decide) _ _) (m133 (by omega)) rfl ?_
    rw [mNum0 hx]
    refine xp_ifeq 40 rfl (by decide) (by omega) (fun h24 => ?_) (fun h24 => ?_)
    · skip
      refine xp_iconst (n := 2) rfl (by decide) ?_
      refine xp_ireturn rfl (by decide) (by decide) (by decide) ?_
      exact ⟨_, rfl, hR⟩
    · exfalso; omega
theorem m135_17 {z : Nat} {T : Nat → Option xT} {R : Nat → Nat → Option Nat} {A B : xQ} {w t k f m a : Nat} (hL : xLay T R w) (hc : COk w A) (hR : Rel w A B) (hT : Top w A t k f m) (h1 : 1 ≤ A.1 f 3) (ha : a ≤ 2) : ∃ B2, xF 135 [.ref 189, .int (nI m), .int (nI 17), .int (nI a)] (xm z T R B) (.inr (some (.int (nI (aGet w A f a).1))), xm z T R B2) ∧ Rel w (aGet w A f a).2 B2 := by
  obtain ⟨b1, b2, b3, b4, b5, b6, b7⟩ := hT.b hc
  have hk := hT.ok hc
  have hd := (hT.g hR).2.2.1
  obtain ⟨d0, y1, y2⟩ := hT.y hR h1
  have ky := hk.c (c := 4 + A.1 f 3) (by omega)
  have hO := hc.2.1.2.2
  unfold aGet aTest
  by_cases hq : A.1 (f + 2) (4 + A.1 f 3) = 3
  · obtain ⟨o1, o2⟩ := hk.o (c := 4 + A.1 f 3) (by omega) (by omega)
    rw [hq] at o2
    have hsz := (hO _ o1).2.1 o2
    obtain ⟨p1, p2, p3⟩ := (hR.2.2.2.2 _ o1).2.1 (by omega)
    obtain ⟨v1, v2⟩ := p3 a (by omega)
    rw [if_pos hq]
    have hcell := hR.cell (c := 3 + A.1 f 3) (q := A.1 (w + 7) (oN (A.2 (f + 3) (4 + A.1 f 3)) * 3 + a)) (v := A.2 (w + 8) (oN (A.2 (f + 3) (4 + A.1 f 3)) * 3 + a)) hc hT (by omega)
    rw [← v1, ← v2, show 1 + (3 + A.1 f 3) = 4 + A.1 f 3 by omega, show 10 * m + (3 + A.1 f 3) = 10 * m + 3 + B.1 205 m - 0 by omega] at hcell
    unfold aCopy
    rw [← v1, ← v2]
    refine xF_x (xF_p (Nat.le_of_ble_eq_true rfl) ?_)
    refine xp_aload_n rfl rfl ?_
    refine xp_iload_n rfl rfl ?_
    refine xp_iload_n rfl rfl ?_
    refine xp_bipush (n := 17) rfl (by decide) ?_
    refine xp_icne 12 rfl (by decide) (by omega) (by omega) (fun h5 => ?_) (fun h5 => ?_)
    · exfalso; omega
    · skip
      refine xp_iconst (n := 0) rfl (by decide) ?_
      refine xp_goto 13 rfl (by decide) ?_
      refine xp_iv rfl rfl (Nat.le_of_ble_eq_true rfl) (by decide) (by decide) (by decide) (Nat.le_of_ble_eq_true rfl) rfl (xrcv1 (by decide) (by first | assumption | exact hL.t rfl)) (m123 hL b3 (by omega)) rfl ?_
      refine xp_istore rfl (by decide) ?_
      refine xp_aload_n rfl rfl ?_
      refine xp_gfa rfl rfl (by decide) (by decide) (by first | assumption | exact hL.t rfl) (by first | assumption | exact hL.r rfl | exact hL.2.2.2.2.2) ?_
      refine xp_iload rfl rfl ?_
      refine xp_iald rfl (by first | assumption | exact hL.t rfl) (by omega) (by omega) ?_
      rw [y1]
      refine xp_ifne 30 rfl (by decide) (by omega) (fun h25 => ?_) (fun h25 => ?_)
      · skip
        refine xp_aload_n rfl rfl ?_
        refine xp_gfa rfl rfl (by decide) (by decide) (by first | assumption | exact hL.t rfl) (by first | assumption | exact hL.r rfl | exact hL.2.2.2.2.2) ?_
        refine xp_iload rfl rfl ?_
        refine xp_iald rfl (by first | assumption | exact hL.t rfl) (by omega) (by omega) ?_
        refine xp_iconst (n := 3) rfl (by decide) ?_
        rw [y1]
        refine xp_iceq 43 rfl (by decide) (by omega) (by omega) (fun h38 => ?_) (fun h38 => ?_)
        · skip
          refine xp_sipush (n := 160) rfl (by decide) ?_
          refine xp_iconst (n := 3) rfl (by decide) ?_
          refine xp_aload_n rfl rfl ?_
          refine xp_gfa rfl rfl (by decide) (by decide) (by first | assumption | exact hL.t rfl) (by first | assumption | exact hL.r rfl | exact hL.2.2.2.2.2) ?_
          refine xp_iload rfl rfl ?_
          refine xp_lald rfl (by first | assumption | exact hL.t rfl) (by omega) (by omega) ?_
          rw [y2]
          refine xp_l2i rfl ?_
          rw [oN_i]
          refine xp_imul rfl ?_
          refine xp_iadd rfl ?_
          refine xp_iload_n rfl rfl ?_
          refine xp_iadd rfl ?_
          refine xp_istore rfl (by decide) ?_
          refine xp_iload_n rfl rfl ?_
          refine xp_bipush (n := 17) rfl (by decide) ?_
          refine xp_icne 78 rfl (by decide) (by omega) (by omega) (fun h64 => ?_) (fun h64 => ?_)
          · exfalso; omega
          · skip
            refine xp_aload_n rfl rfl ?_
            refine xp_iload rfl rfl ?_
            refine xp_iload rfl rfl ?_
            refine xp_iv rfl rfl (Nat.le_of_ble_eq_true rfl) (by decide) (by decide) (by decide) (Nat.le_of_ble_eq_true rfl) rfl (xrcv1 (by decide) (by first | assumption | exact hL.t rfl)) (m121 hL (by omega) (by omega)) rfl ?_
            refine xp_goto 100 rfl (by decide) ?_
            refine xp_iconst (n := 0) rfl (by decide) ?_
            refine xp_ireturn rfl (by decide) (by decide) (by decide) ?_
            exact ⟨_, rfl, hcell⟩
        · exfalso; omega
      · exfalso; omega
  · rw [if_neg hq]
    refine xF_x (xF_p (Nat.le_of_ble_eq_true rfl) ?_)
    refine xp_aload_n rfl rfl ?_
    refine xp_iload_n rfl rfl ?_
    refine xp_iload_n rfl rfl ?_
    refine xp_bipush (n := 17) rfl (by decide) ?_
    refine xp_icne 12 rfl (by decide) (by omega) (by omega) (fun h5 => ?_) (fun h5 => ?_)
    · exfalso; omega
    · skip
      refine xp_iconst (n := 0) rfl (by decide) ?_
      refine xp_goto 13 rfl (by decide) ?_
      refine xp_iv rfl rfl (Nat.le_of_ble_eq_true rfl) (by decide) (by decide) (by decide) (Nat.le_of_ble_eq_true rfl) rfl (xrcv1 (by decide) (by first | assumption | exact hL.t rfl)) (m123 hL b3 (by omega)) rfl ?_
      refine xp_istore rfl (by decide) ?_
      refine xp_aload_n rfl rfl ?_
      refine xp_gfa rfl rfl (by decide) (by decide) (by first | assumption | exact hL.t rfl) (by first | assumption | exact hL.r rfl | exact hL.2.2.2.2.2) ?_
      refine xp_iload rfl rfl ?_
      refine xp_iald rfl (by first | assumption | exact hL.t rfl) (by omega) (by omega) ?_
      rw [y1]
      refine xp_ifne 30 rfl (by decide) (by omega) (fun h25 => ?_) (fun h25 => ?_)
      · skip
        refine xp_aload_n rfl rfl ?_
        refine xp_gfa rfl rfl (by decide) (by decide) (by first | assumption | exact hL.t rfl) (by first | assumption | exact hL.r rfl | exact hL.2.2.2.2.2) ?_
        refine xp_iload rfl rfl ?_
        refine xp_iald rfl (by first | assumption | exact hL.t rfl) (by omega) (by omega) ?_
        refine xp_iconst (n := 3) rfl (by decide) ?_
        rw [y1]
        refine xp_iceq 43 rfl (by decide) (by omega) (by omega) (fun h38 => ?_) (fun h38 => ?_)
        · exfalso; omega
        · skip
          refine xp_iconst (n := 2) rfl (by decide) ?_
          refine xp_ireturn rfl (by decide) (by decide) (by decide) ?_
          first | (rw [if_pos h25]; exact ⟨_, rfl, hR⟩) | (rw [if_neg h25, if_neg hq]; exact ⟨_, rfl, hR⟩)
      · skip
        refine xp_iconst (n := 3) rfl (by decide) ?_
        refine xp_ireturn rfl (by decide) (by decide) (by decide) ?_
        first | (rw [if_pos h25]; exact ⟨_, rfl, hR⟩) | (rw [if_neg h25, if_neg hq]; exact ⟨_, rfl, hR⟩)
theorem m135_18 {z : Nat} {T : Nat → Option xT} {R : Nat → Nat → Option Nat} {A B : xQ} {w t k f m a : Nat} (hL : xLay T R w) (hc : COk w A) (hR : Rel w A B) (hT : Top w A t k f m) (h2 : 2 ≤ A.1 f 3) (ha : a ≤ 2) : ∃ B2, xF 135 [.ref 189, .int (nI m), .int (nI 18), .int (nI a)] (xm z T R B) (.inr (some (.int (nI (aPut w A f a).1))), xm z T R B2) ∧ Rel w (aPut w A f a).2 B2 := by
  obtain ⟨b1, b2, b3, b4, b5, b6, b7⟩ := hT.b hc
  have hk := hT.ok hc
  have hd := (hT.g hR).2.2.1
  obtain ⟨d0, x1, x2⟩ := hT.x hR h2
  obtain ⟨_, y1, y2⟩ := hT.y hR (by omega)
  have kx := hk.c (c := 3 + A.1 f 3) (by omega)
  have hO := hc.2.1.2.2
  unfold aPut aTest
  by_cases hq : A.1 (f + 2) (3 + A.1 f 3) = 3
  · obtain ⟨o1, o2⟩ := hk.o (c := 3 + A.1 f 3) (by omega) (by omega)
    rw [if_pos hq]
    have h1 := hR.ocell (i := a) (q := A.1 (f + 2) (4 + A.1 f 3)) (v := A.2 (f + 3) (4 + A.1 f 3)) hc o1 (by omega)
    have hc1 := hc.ocell (c := oN (A.2 (f + 3) (3 + A.1 f 3)) * 3 + a) (hk.v (c := 4 + A.1 f 3) (by omega))
    have e1 := (ocell_r w A (oN (A.2 (f + 3) (3 + A.1 f 3)) * 3 + a) (A.1 (f + 2) (4 + A.1 f 3)) (A.2 (f + 3) (4 + A.1 f 3))).1
    have hT1 : Top w (xsJ (xsI A (w + 7) (oN (A.2 (f + 3) (3 + A.1 f 3)) * 3 + a) (A.1 (f + 2) (4 + A.1 f 3))) (w + 8) (oN (A.2 (f + 3) (3 + A.1 f 3)) * 3 + a) (A.2 (f + 3) (4 + A.1 f 3))) t k f m := ⟨by rw [e1 _ _ (by omega)]; exact hT.1, by rw [e1 _ _ (by omega)]; exact hT.2.1, hT.2.2⟩
    have h3 := h1.pop (n := 2) hc1 hT1
    rw [← y1, ← y2] at h3
    unfold aCopy
    rw [← y1, ← y2]
    refine xF_x (xF_p (Nat.le_of_ble_eq_true rfl) ?_)
    refine xp_aload_n rfl rfl ?_
    refine xp_iload_n rfl rfl ?_
    refine xp_iload_n rfl rfl ?_
    refine xp_bipush (n := 17) rfl (by decide) ?_
    refine xp_icne 12 rfl (by decide) (by omega) (by omega) (fun h5 => ?_) (fun h5 => ?_)
    · skip
      refine xp_iconst (n := 1) rfl (by decide) ?_
      refine xp_iv rfl rfl (Nat.le_of_ble_eq_true rfl) (by decide) (by decide) (by decide) (Nat.le_of_ble_eq_true rfl) rfl (xrcv1 (by decide) (by first | assumption | exact hL.t rfl)) (m123 hL b3 (by omega)) rfl ?_
      refine xp_istore rfl (by decide) ?_
      refine xp_aload_n rfl rfl ?_
      refine xp_gfa rfl rfl (by decide) (by decide) (by first | assumption | exact hL.t rfl) (by first | assumption | exact hL.r rfl | exact hL.2.2.2.2.2) ?_
      refine xp_iload rfl rfl ?_
      refine xp_iald rfl (by first | assumption | exact hL.t rfl) (by omega) (by omega) ?_
      rw [x1]
      refine xp_ifne 30 rfl (by decide) (by omega) (fun h25 => ?_) (fun h25 => ?_)
      · skip
        refine xp_aload_n rfl rfl ?_
        refine xp_gfa rfl rfl (by decide) (by decide) (by first | assumption | exact hL.t rfl) (by first | assumption | exact hL.r rfl | exact hL.2.2.2.2.2) ?_
        refine xp_iload rfl rfl ?_
        refine xp_iald rfl (by first | assumption | exact hL.t rfl) (by omega) (by omega) ?_
        refine xp_iconst (n := 3) rfl (by decide) ?_
        rw [x1]
        refine xp_iceq 43 rfl (by decide) (by omega) (by omega) (fun h38 => ?_) (fun h38 => ?_)
        · skip
          refine xp_sipush (n := 160) rfl (by decide) ?_
          refine xp_iconst (n := 3) rfl (by decide) ?_
          refine xp_aload_n rfl rfl ?_
          refine xp_gfa rfl rfl (by decide) (by decide) (by first | assumption | exact hL.t rfl) (by first | assumption | exact hL.r rfl | exact hL.2.2.2.2.2) ?_
          refine xp_iload rfl rfl ?_
          refine xp_lald rfl (by first | assumption | exact hL.t rfl) (by omega) (by omega) ?_
          rw [x2]
          refine xp_l2i rfl ?_
          rw [oN_i]
          refine xp_imul rfl ?_
          refine xp_iadd rfl ?_
          refine xp_iload_n rfl rfl ?_
          refine xp_iadd rfl ?_
          refine xp_istore rfl (by decide) ?_
          refine xp_iload_n rfl rfl ?_
          refine xp_bipush (n := 17) rfl (by decide) ?_
          refine xp_icne 78 rfl (by decide) (by omega) (by omega) (fun h64 => ?_) (fun h64 => ?_)
          · skip
            refine xp_aload_n rfl rfl ?_
            refine xp_iload rfl rfl ?_
            refine xp_aload_n rfl rfl ?_
            refine xp_iload_n rfl rfl ?_
            refine xp_iconst (n := 0) rfl (by decide) ?_
            refine xp_iv rfl rfl (Nat.le_of_ble_eq_true rfl) (by decide) (by decide) (by decide) (Nat.le_of_ble_eq_true rfl) rfl (xrcv1 (by decide) (by first | assumption | exact hL.t rfl)) (m123 hL b3 (by omega)) rfl ?_
            refine xp_iv rfl rfl (Nat.le_of_ble_eq_true rfl) (by decide) (by decide) (by decide) (Nat.le_of_ble_eq_true rfl) rfl (xrcv1 (by decide) (by first | assumption | exact hL.t rfl)) (m121 hL (by omega) (by omega)) rfl ?_
            refine xp_aload_n rfl rfl ?_
            refine xp_gfa rfl rfl (by decide) (by decide) (by first | assumption | exact hL.t rfl) (by first | assumption | exact hL.r rfl | exact hL.2.2.2.2.2) ?_
            refine xp_iload_n rfl rfl ?_
            refine xp_dup2 rfl rfl rfl ?_
            refine xp_iald rfl (by first | assumption | exact hL.t rfl) (by omega) (by omega) ?_
            refine xp_iconst (n := 2) rfl (by decide) ?_
            refine xp_isub rfl (by rw [mSet_1 (by omega)]; omega) ?_
            refine xp_iast rfl (by first | assumption | exact hL.t rfl) (by omega) (by omega) ?_
            refine xp_iconst (n := 0) rfl (by decide) ?_
            refine xp_ireturn rfl (by decide) (by decide) (by decide) ?_
            exact ⟨_, rfl, h3⟩
          · exfalso; omega
        · exfalso; omega
      · exfalso; omega
    · exfalso; omega
  · rw [if_neg hq]
    refine xF_x (xF_p (Nat.le_of_ble_eq_true rfl) ?_)
    refine xp_aload_n rfl rfl ?_
    refine xp_iload_n rfl rfl ?_
    refine xp_iload_n rfl rfl ?_
    refine xp_bipush (n := 17) rfl (by decide) ?_
    refine xp_icne 12 rfl (by decide) (by omega) (by omega) (fun h5 => ?_) (fun h5 => ?_)
    · skip
      refine xp_iconst (n := 1) rfl (by decide) ?_
      refine xp_iv rfl rfl (Nat.le_of_ble_eq_true rfl) (by decide) (by decide) (by decide) (Nat.le_of_ble_eq_true rfl) rfl (xrcv1 (by decide) (by first | assumption | exact hL.t rfl)) (m123 hL b3 (by omega)) rfl ?_
      refine xp_istore rfl (by decide) ?_
      refine xp_aload_n rfl rfl ?_
      refine xp_gfa rfl rfl (by decide) (by decide) (by first | assumption | exact hL.t rfl) (by first | assumption | exact hL.r rfl | exact hL.2.2.2.2.2) ?_
      refine xp_iload rfl rfl ?_
      refine xp_iald rfl (by first | assumption | exact hL.t rfl) (by omega) (by omega) ?_
      rw [x1]
      refine xp_ifne 30 rfl (by decide) (by omega) (fun h25 => ?_) (fun h25 => ?_)
      · skip
        refine xp_aload_n rfl rfl ?_
        refine xp_gfa rfl rfl (by decide) (by decide) (by first | assumption | exact hL.t rfl) (by first | assumption | exact hL.r rfl | exact hL.2.2.2.2.2) ?_
        refine xp_iload rfl rfl ?_
        refine xp_iald rfl (by first | assumption | exact hL.t rfl) (by omega) (by omega) ?_
        refine xp_iconst (n := 3) rfl (by decide) ?_
        rw [x1]
        refine xp_iceq 43 rfl (by decide) (by omega) (by omega) (fun h38 => ?_) (fun h38 => ?_)
        · exfalso; omega
        · skip
          refine xp_iconst (n := 2) rfl (by decide) ?_
          refine xp_ireturn rfl (by decide) (by decide) (by decide) ?_
          first | (rw [if_pos h25]; exact ⟨_, rfl, hR⟩) | (rw [if_neg h25, if_neg hq]; exact ⟨_, rfl, hR⟩)
      · skip
        refine xp_iconst (n := 3) rfl (by decide) ?_
        refine xp_ireturn rfl (by decide) (by decide) (by decide) ?_
        first | (rw [if_pos h25]; exact ⟨_, rfl, hR⟩) | (rw [if_neg h25, if_neg hq]; exact ⟨_, rfl, hR⟩)
    · exfalso; omega
theorem m143 {z : Nat} {T : Nat → Option xT} {R : Nat → Nat → Option Nat} {A B : xQ} {w t k f m : Nat} (hL : xLay T R w) (hc : COk w A) (hR : Rel w A B) (hT : Top w A t k f m) (h1 : 1 ≤ A.1 f 3) (hsd : A.1 11 3 < 2 ^ 31) : ∃ B2, xF 143 [.ref 189, .int (nI m)] (xm z T R B) (.inr (some (.int (nI (aSay A f).1))), xm z T R B2) ∧ Rel w (aSay A f).2 B2 := by
  obtain ⟨b1, b2, b3, b4, b5, b6, b7⟩ := hT.b hc
  have hk := hT.ok hc
  have hd := (hT.g hR).2.2.1
  obtain ⟨d0, y1, y2⟩ := hT.y hR h1
  have ky := hk.c (c := 4 + A.1 f 3) (by omega)
  have hC := hR.2.2.1
  have hsm := hC.2.2.2.2.2.1
  have h0 := hc.1
  have hn : A.1 w 2 ≠ 0 := by have := hT.1; omega
  unfold aSay
  by_cases hq : A.1 (f + 2) (4 + A.1 f 3) = 1 ∨ A.1 (f + 2) (4 + A.1 f 3) = 2
  · rw [if_pos hq]
    by_cases hz : A.1 11 3 < 40
    · rw [if_pos hz]
      have c1 : ∀ a j, a ≠ 11 → (xsI (xsJ A 98 (A.1 11 3) (A.2 (f + 3) (4 + A.1 f 3))) 11 3 (A.1 11 3 + 1)).1 a j = A.1 a j := fun a j q => xsI_ne (Or.inl q)
      have c1b : ∀ j, j ≠ 3 → (xsI (xsJ A 98 (A.1 11 3) (A.2 (f + 3) (4 + A.1 f 3))) 11 3 (A.1 11 3 + 1)).1 11 j = A.1 11 j := fun j q => xsI_ne (Or.inr q)
      have c2 : ∀ a j, a ≠ 98 → (xsI (xsJ A 98 (A.1 11 3) (A.2 (f + 3) (4 + A.1 f 3))) 11 3 (A.1 11 3 + 1)).2 a j = A.2 a j := fun a j q => xsJ_ne (Or.inl q)
      have c3 : (xsI (xsJ A 98 (A.1 11 3) (A.2 (f + 3) (4 + A.1 f 3))) 11 3 (A.1 11 3 + 1)).1 11 3 = A.1 11 3 + 1 := xsI_eq
      have g1 : ∀ a j, (a ≠ 189 ∨ j ≠ 13) → (xsI (xsJ B 213 (A.1 11 3) (A.2 (f + 3) (4 + A.1 f 3))) 189 13 (A.1 11 3 + 1)).1 a j = B.1 a j := fun a j q => xsI_ne q
      have g2 : ∀ a j, a ≠ 213 → (xsI (xsJ B 213 (A.1 11 3) (A.2 (f + 3) (4 + A.1 f 3))) 189 13 (A.1 11 3 + 1)).2 a j = B.2 a j := fun a j q => xsJ_ne (Or.inl q)
      have g3 : (xsI (xsJ B 213 (A.1 11 3) (A.2 (f + 3) (4 + A.1 f 3))) 189 13 (A.1 11 3 + 1)).1 189 13 = A.1 11 3 + 1 := xsI_eq
      have g4 : ∀ i, i < 40 → i < A.1 11 3 + 1 → (xsI (xsJ B 213 (A.1 11 3) (A.2 (f + 3) (4 + A.1 f 3))) 189 13 (A.1 11 3 + 1)).2 213 i = (xsI (xsJ A 98 (A.1 11 3) (A.2 (f + 3) (4 + A.1 f 3))) 11 3 (A.1 11 3 + 1)).2 98 i := fun i q1 q2 => by
        show (xsJ B 213 (A.1 11 3) (A.2 (f + 3) (4 + A.1 f 3))).2 213 i = (xsJ A 98 (A.1 11 3) (A.2 (f + 3) (4 + A.1 f 3))).2 98 i
        by_cases hi : i = A.1 11 3
        · rw [hi, xsJ_eq, xsJ_eq]
        · rw [xsJ_ne (Or.inr hi), xsJ_ne (Or.inr hi)]
          exact hC.2.2.2.2.2.2.2.2 i q1 (by omega)
      have hcX := hc.eng c1 c2
      have hRX : Rel w (xsI (xsJ A 98 (A.1 11 3) (A.2 (f + 3) (4 + A.1 f 3))) 11 3 (A.1 11 3 + 1)) (xsI (xsJ B 213 (A.1 11 3) (A.2 (f + 3) (4 + A.1 f 3))) 189 13 (A.1 11 3 + 1)) := hR.sc hc hn (fun a j q _ => c1 a j q) c2 (fun a j q => g1 a j (by omega)) g2 (by rw [g1 _ _ (by omega), c1 _ _ (by omega)]; exact hC.2.1) (by rw [g1 _ _ (by omega), c1 _ _ (by omega)]; exact hC.2.2.1) (by rw [g1 _ _ (by omega), c1b _ (by omega)]; exact hC.2.2.2.2.1) (by rw [g3, c3]) (by rw [c3]; exact g4)
      have hTX : Top w (xsI (xsJ A 98 (A.1 11 3) (A.2 (f + 3) (4 + A.1 f 3))) 11 3 (A.1 11 3 + 1)) t k f m := ⟨by rw [c1 _ _ (by omega)]; exact hT.1, by rw [c1 _ _ (by omega)]; exact hT.2.1, hT.2.2⟩
      have hP := hRX.pop (n := 1) hcX hTX
      refine xF_x (xF_p (Nat.le_of_ble_eq_true rfl) ?_)
      refine xp_aload_n rfl rfl ?_
      refine xp_iload_n rfl rfl ?_
      refine xp_iconst (n := 0) rfl (by decide) ?_
      refine xp_iv rfl rfl (Nat.le_of_ble_eq_true rfl) (by decide) (by decide) (by decide) (Nat.le_of_ble_eq_true rfl) rfl (xrcv1 (by decide) (by first | assumption | exact hL.t rfl)) (m123 hL b3 (by omega)) rfl ?_
      refine xp_istore_n rfl (by decide) ?_
      refine xp_aload_n rfl rfl ?_
      refine xp_gfa rfl rfl (by decide) (by decide) (by first | assumption | exact hL.t rfl) (by first | assumption | exact hL.r rfl | exact hL.2.2.2.2.2) ?_
      refine xp_iload_n rfl rfl ?_
      refine xp_iald rfl (by first | assumption | exact hL.t rfl) (by omega) (by omega) ?_
      rw [y1]
      refine xp_is rfl rfl rfl (Nat.le_of_ble_eq_true rfl) (by decide) (by decide) (by decide) (Nat.le_of_ble_eq_true rfl) rfl (xrcv0 (by decide) _ _) (m133 (by omega)) rfl ?_
      rw [mNum1 hq]
      refine xp_ifne 21 rfl (by decide) (by omega) (fun h16 => ?_) (fun h16 => ?_)
      · skip
        refine xp_aload_n rfl rfl ?_
        refine xp_gfi rfl rfl (by decide) (by decide) (by first | assumption | exact hL.t rfl) ?_
        refine xp_bipush (n := 40) rfl (by decide) ?_
        rw [hsm]
        refine xp_icge 45 rfl (by decide) (by omega) (by omega) (fun h27 => ?_) (fun h27 => ?_)
        · exfalso; omega
        · skip
          refine xp_aload_n rfl rfl ?_
          refine xp_gfa rfl rfl (by decide) (by decide) (by first | assumption | exact hL.t rfl) (by first | assumption | exact hL.r rfl | exact hL.2.2.2.2.2) ?_
          refine xp_aload_n rfl rfl ?_
          refine xp_gfi rfl rfl (by decide) (by decide) (by first | assumption | exact hL.t rfl) ?_
          rw [hsm]
          refine xp_aload_n rfl rfl ?_
          refine xp_gfa rfl rfl (by decide) (by decide) (by first | assumption | exact hL.t rfl) (by first | assumption | exact hL.r rfl | exact hL.2.2.2.2.2) ?_
          refine xp_iload_n rfl rfl ?_
          refine xp_lald rfl (by first | assumption | exact hL.t rfl) (by omega) (by omega) ?_
          rw [y2]
          refine xp_last rfl (by first | assumption | exact hL.t rfl) (by omega) (by omega) ?_
          refine xp_aload_n rfl rfl ?_
          refine xp_dup rfl rfl ?_
          refine xp_gfi rfl rfl (by decide) (by decide) (by first | assumption | exact hL.t rfl) ?_
          show xP _ _ _ (.int (nI (B.1 189 13)) :: _) _ _ _ _
          rw [hsm]
          refine xp_iconst (n := 1) rfl (by decide) ?_
          refine xp_iadd rfl ?_
          refine xp_pfi rfl rfl (by decide) (by decide) (by decide) (by first | assumption | exact hL.t rfl) ?_
          refine xp_aload_n rfl rfl ?_
          refine xp_gfa rfl rfl (by decide) (by decide) (by first | assumption | exact hL.t rfl) (by first | assumption | exact hL.r rfl | exact hL.2.2.2.2.2) ?_
          refine xp_iload_n rfl rfl ?_
          refine xp_dup2 rfl rfl rfl ?_
          refine xp_iald rfl (by first | assumption | exact hL.t rfl) (by omega) (by omega) ?_
          refine xp_iconst (n := 1) rfl (by decide) ?_
          refine xp_isub rfl (by rw [xsI_ne (by omega)]; exact (by omega : 1 ≤ B.1 205 m)) ?_
          refine xp_iast rfl (by first | assumption | exact hL.t rfl) (by omega) (by omega) ?_
          refine xp_iconst (n := 0) rfl (by decide) ?_
          refine xp_ireturn rfl (by decide) (by decide) (by decide) ?_
          exact ⟨_, rfl, hP⟩
      · exfalso; omega
    · rw [if_neg hz]
      have c1 : ∀ a j, a ≠ 11 → (xsI A 11 3 (A.1 11 3 + 1)).1 a j = A.1 a j := fun a j q => xsI_ne (Or.inl q)
      have c1b : ∀ j, j ≠ 3 → (xsI A 11 3 (A.1 11 3 + 1)).1 11 j = A.1 11 j := fun j q => xsI_ne (Or.inr q)
      have c2 : ∀ a j, a ≠ 98 → (xsI A 11 3 (A.1 11 3 + 1)).2 a j = A.2 a j := fun a j q => rfl
      have c3 : (xsI A 11 3 (A.1 11 3 + 1)).1 11 3 = A.1 11 3 + 1 := xsI_eq
      have g1 : ∀ a j, (a ≠ 189 ∨ j ≠ 13) → (xsI B 189 13 (A.1 11 3 + 1)).1 a j = B.1 a j := fun a j q => xsI_ne q
      have g2 : ∀ a j, a ≠ 213 → (xsI B 189 13 (A.1 11 3 + 1)).2 a j = B.2 a j := fun a j q => rfl
      have g3 : (xsI B 189 13 (A.1 11 3 + 1)).1 189 13 = A.1 11 3 + 1 := xsI_eq
      have g4 : ∀ i, i < 40 → i < A.1 11 3 + 1 → (xsI B 189 13 (A.1 11 3 + 1)).2 213 i = (xsI A 11 3 (A.1 11 3 + 1)).2 98 i := fun i q1 q2 => hC.2.2.2.2.2.2.2.2 i q1 (by omega)
      have hcX := hc.eng c1 c2
      have hRX : Rel w (xsI A 11 3 (A.1 11 3 + 1)) (xsI B 189 13 (A.1 11 3 + 1)) := hR.sc hc hn (fun a j q _ => c1 a j q) c2 (fun a j q => g1 a j (by omega)) g2 (by rw [g1 _ _ (by omega), c1 _ _ (by omega)]; exact hC.2.1) (by rw [g1 _ _ (by omega), c1 _ _ (by omega)]; exact hC.2.2.1) (by rw [g1 _ _ (by omega), c1b _ (by omega)]; exact hC.2.2.2.2.1) (by rw [g3, c3]) (by rw [c3]; exact g4)
      have hTX : Top w (xsI A 11 3 (A.1 11 3 + 1)) t k f m := ⟨by rw [c1 _ _ (by omega)]; exact hT.1, by rw [c1 _ _ (by omega)]; exact hT.2.1, hT.2.2⟩
      have hP := hRX.pop (n := 1) hcX hTX
      refine xF_x (xF_p (Nat.le_of_ble_eq_true rfl) ?_)
      refine xp_aload_n rfl rfl ?_
      refine xp_iload_n rfl rfl ?_
      refine xp_iconst (n := 0) rfl (by decide) ?_
      refine xp_iv rfl rfl (Nat.le_of_ble_eq_true rfl) (by decide) (by decide) (by decide) (Nat.le_of_ble_eq_true rfl) rfl (xrcv1 (by decide) (by first | assumption | exact hL.t rfl)) (m123 hL b3 (by omega)) rfl ?_
      refine xp_istore_n rfl (by decide) ?_
      refine xp_aload_n rfl rfl ?_
      refine xp_gfa rfl rfl (by decide) (by decide) (by first | assumption | exact hL.t rfl) (by first | assumption | exact hL.r rfl | exact hL.2.2.2.2.2) ?_
      refine xp_iload_n rfl rfl ?_
      refine xp_iald rfl (by first | assumption | exact hL.t rfl) (by omega) (by omega) ?_
      rw [y1]
      refine xp_is rfl rfl rfl (Nat.le_of_ble_eq_true rfl) (by decide) (by decide) (by decide) (Nat.le_of_ble_eq_true rfl) rfl (xrcv0 (by decide) _ _) (m133 (by omega)) rfl ?_
      rw [mNum1 hq]
      refine xp_ifne 21 rfl (by decide) (by omega) (fun h16 => ?_) (fun h16 => ?_)
      · skip
        refine xp_aload_n rfl rfl ?_
        refine xp_gfi rfl rfl (by decide) (by decide) (by first | assumption | exact hL.t rfl) ?_
        refine xp_bipush (n := 40) rfl (by decide) ?_
        rw [hsm]
        refine xp_icge 45 rfl (by decide) (by omega) (by omega) (fun h27 => ?_) (fun h27 => ?_)
        · skip
          refine xp_aload_n rfl rfl ?_
          refine xp_dup rfl rfl ?_
          refine xp_gfi rfl rfl (by decide) (by decide) (by first | assumption | exact hL.t rfl) ?_
          rw [hsm]
          refine xp_iconst (n := 1) rfl (by decide) ?_
          refine xp_iadd rfl ?_
          refine xp_pfi rfl rfl (by decide) (by decide) (by decide) (by first | assumption | exact hL.t rfl) ?_
          refine xp_aload_n rfl rfl ?_
          refine xp_gfa rfl rfl (by decide) (by decide) (by first | assumption | exact hL.t rfl) (by first | assumption | exact hL.r rfl | exact hL.2.2.2.2.2) ?_
          refine xp_iload_n rfl rfl ?_
          refine xp_dup2 rfl rfl rfl ?_
          refine xp_iald rfl (by first | assumption | exact hL.t rfl) (by omega) (by omega) ?_
          refine xp_iconst (n := 1) rfl (by decide) ?_
          refine xp_isub rfl (by rw [xsI_ne (by omega)]; exact (by omega : 1 ≤ B.1 205 m)) ?_
          refine xp_iast rfl (by first | assumption | exact hL.t rfl) (by omega) (by omega) ?_
          refine xp_iconst (n := 0) rfl (by decide) ?_
          refine xp_ireturn rfl (by decide) (by decide) (by decide) ?_
          exact ⟨_, rfl, hP⟩
        · exfalso; omega
      · exfalso; omega
  · rw [if_neg hq]
    refine xF_x (xF_p (Nat.le_of_ble_eq_true rfl) ?_)
    refine xp_aload_n rfl rfl ?_
    refine xp_iload_n rfl rfl ?_
    refine xp_iconst (n := 0) rfl (by decide) ?_
    refine xp_iv rfl rfl (Nat.le_of_ble_eq_true rfl) (by decide) (by decide) (by decide) (Nat.le_of_ble_eq_true rfl) rfl (xrcv1 (by decide) (by first | assumption | exact hL.t rfl)) (m123 hL b3 (by omega)) rfl ?_
    refine xp_istore_n rfl (by decide) ?_
    refine xp_aload_n rfl rfl ?_
    refine xp_gfa rfl rfl (by decide) (by decide) (by first | assumption | exact hL.t rfl) (by first | assumption | exact hL.r rfl | exact hL.2.2.2.2.2) ?_
    refine xp_iload_n rfl rfl ?_
    refine xp_iald rfl (by first | assumption | exact hL.t rfl) (by omega) (by omega) ?_
    rw [y1]
    refine xp_is rfl rfl rfl (Nat.le_of_ble_eq_true rfl) (by decide) (by decide) (by decide) (Nat.le_of_ble_eq_true rfl) rfl (xrcv0 (by decide) _ _) (m133 (by omega)) rfl ?_
    rw [mNum0 hq]
    refine xp_ifne 21 rfl (by decide) (by omega) (fun h16 => ?_) (fun h16 => ?_)
    · exfalso; omega
    · skip
      refine xp_iconst (n := 2) rfl (by decide) ?_
      refine xp_ireturn rfl (by decide) (by decide) (by decide) ?_
      exact ⟨_, rfl, hR⟩
