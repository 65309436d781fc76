-- THE REFERENCE: calls, returns, forks, closures
theorem m137f {z : Nat} {T : Nat → Option xT} {R : Nat → Nat → Option Nat} {B : xQ} {w t fn m c : Nat} (hL : xLay T R w) (h10 : B.1 189 10 = t) (ht : t < 3) (hfn : fn < 6) (hm : m < 15) (hn : B.1 190 fn ≤ 2) (hn2 : B.1 190 fn ≤ B.1 205 m) (h6 : B.1 205 m ≤ 6) (hd : B.1 201 t = 5) : xF 137 [.ref 189, .int (nI m), .int (nI fn), .int (nI c)] (xm z T R B) (.inr (some (.int (nI 5))), xm z T R B) := by
  rw [← h10] at hd
  refine xF_eq (xF_p (Nat.le_of_ble_eq_true rfl) ?_)
  refine xp_aload_n rfl rfl ?_
  refine xp_gfa rfl rfl (by decide) (by decide) (by first | assumption | exact hL.t rfl) (by first | assumption | exact hL.r rfl | exact hL.2.2.2.2.2) ?_
  refine xp_aload_n rfl rfl ?_
  refine xp_gfi rfl rfl (by decide) (by decide) (by first | assumption | exact hL.t rfl) ?_
  refine xp_iald rfl (by first | assumption | exact hL.t rfl) (by omega) (by omega) ?_
  refine xp_iconst (n := 5) rfl (by decide) ?_
  rw [hd]
  refine xp_icne 15 rfl (by decide) (by omega) (by omega) (fun h10 => ?_) (fun h10 => ?_)
  · exfalso; omega
  · skip
    refine xp_iconst (n := 5) rfl (by decide) ?_
    refine xp_ireturn rfl (by decide) (by decide) (by decide) ?_
    rfl
theorem m137 {z : Nat} {T : Nat → Option xT} {R : Nat → Nat → Option Nat} {B : xQ} {w t fn m c : Nat} (hL : xLay T R w) (h10 : B.1 189 10 = t) (ht : t < 3) (hfn : fn < 6) (hm : m < 15) (hn : B.1 190 fn ≤ 2) (hn2 : B.1 190 fn ≤ B.1 205 m) (h6 : B.1 205 m ≤ 6) (hd : B.1 201 t < 5) (hmk : m ≠ 5 * t + B.1 201 t) : xF 137 [.ref 189, .int (nI m), .int (nI fn), .int (nI c)] (xm z T R B) (.inr (some (.int (nI 0))), xm z T R (mPass m (5 * t + B.1 201 t) (B.1 190 fn) (mBegin B t fn c))) := by
  have em : (mBegin B t fn c).1 205 m = B.1 205 m := (mBegin_r B t fn c).1 _ _ (by omega) (by omega) (by omega)
  subst h10
  refine xF_eq (xF_p (Nat.le_of_ble_eq_true rfl) ?_)
  refine xp_aload_n rfl rfl ?_
  refine xp_gfa rfl rfl (by decide) (by decide) (by first | assumption | exact hL.t rfl) (by first | assumption | exact hL.r rfl | exact hL.2.2.2.2.2) ?_
  refine xp_aload_n rfl rfl ?_
  refine xp_gfi rfl rfl (by decide) (by decide) (by first | assumption | exact hL.t rfl) ?_
  refine xp_iald rfl (by first | assumption | exact hL.t rfl) (by omega) (by omega) ?_
  refine xp_iconst (n := 5) rfl (by decide) ?_
  refine xp_icne 15 rfl (by decide) (by omega) (by omega) (fun h10 => ?_) (fun h10 => ?_)
  · skip
    refine xp_iconst (n := 5) rfl (by decide) ?_
    refine xp_aload_n rfl rfl ?_
    refine xp_gfi rfl rfl (by decide) (by decide) (by first | assumption | exact hL.t rfl) ?_
    refine xp_imul rfl ?_
    refine xp_aload_n rfl rfl ?_
    refine xp_gfa rfl rfl (by decide) (by decide) (by first | assumption | exact hL.t rfl) (by first | assumption | exact hL.r rfl | exact hL.2.2.2.2.2) ?_
    refine xp_aload_n rfl rfl ?_
    refine xp_gfi rfl rfl (by decide) (by decide) (by first | assumption | exact hL.t rfl) ?_
    refine xp_iald rfl (by first | assumption | exact hL.t rfl) (by omega) (by omega) ?_
    refine xp_iadd rfl ?_
    refine xp_istore rfl (by decide) ?_
    refine xp_aload_n rfl rfl ?_
    refine xp_gfa rfl rfl (by decide) (by decide) (by first | assumption | exact hL.t rfl) (by first | assumption | exact hL.r rfl | exact hL.2.2.2.2.2) ?_
    refine xp_iload_n rfl rfl ?_
    refine xp_iald rfl (by first | assumption | exact hL.t rfl) (by omega) (by omega) ?_
    refine xp_istore rfl (by decide) ?_
    refine xp_aload_n rfl rfl ?_
    refine xp_aload_n rfl rfl ?_
    refine xp_gfi rfl rfl (by decide) (by decide) (by first | assumption | exact hL.t rfl) ?_
    refine xp_iload_n rfl rfl ?_
    refine xp_iload_n rfl rfl ?_
    refine xp_iv rfl rfl (Nat.le_of_ble_eq_true rfl) (by decide) (by decide) (by decide) (Nat.le_of_ble_eq_true rfl) rfl (xrcv1 (by decide) (by first | assumption | exact hL.t rfl)) (m125 hL (by omega) hd) rfl ?_
    refine xp_aload_n rfl rfl ?_
    refine xp_iload_n rfl rfl ?_
    refine xp_iload rfl rfl ?_
    refine xp_iload rfl rfl ?_
    refine xp_iv rfl rfl (Nat.le_of_ble_eq_true rfl) (by decide) (by decide) (by decide) (Nat.le_of_ble_eq_true rfl) rfl (xrcv1 (by decide) (by first | assumption | exact hL.t rfl)) (m126 hL hm (by omega) hn (by rw [em]; exact hn2) (by rw [em]; exact h6)) rfl ?_
    refine xp_iconst (n := 0) rfl (by decide) ?_
    refine xp_ireturn rfl (by decide) (by decide) (by decide) ?_
    rfl
  · exfalso; omega
theorem m138 {z : Nat} {T : Nat → Option xT} {R : Nat → Nat → Option Nat} {A B : xQ} {w t k f m s : Nat} (hL : xLay T R w) (hc : COk w A) (hR : Rel w A B) (hT : Top w A t k f m) (h3 : A.1 w 3 = t) (hs : s = w + 11 + 25 * t) (hst : A.1 s 2 = 0) (h1 : 1 ≤ A.1 f 3) : ∃ B2, xF 138 [.ref 189, .int (nI m)] (xm z T R B) (.inr (some (.int (nI (aApply w A s f).1))), xm z T R B2) ∧ Rel w (aApply w A s f).2 B2 := by
  obtain ⟨b1, b2, b3, b4, b5, b6, b7⟩ := hT.b hc
  have hk := hT.ok hc
  have hd := (hT.g hR).2.2.1
  obtain ⟨d0, y1, y2⟩ := hT.y hR h1
  have ky := hk.c (c := 4 + A.1 f 3) (by omega)
  have hO := hc.2.1.2.2
  have h0 := hc.1
  have h10 : B.1 189 10 = t := by rw [hR.2.2.1.2.1, h3]
  have hRS := hR.2.2.2.1 t hT.1
  have hSo := hc.st hT.1
  rw [← hs] at hRS hSo
  have e201 := hRS.2.2.1
  have hd5 := hSo.2.1
  have hks := hT.2.1
  rw [← hs] at hks
  have hmk := hT.2.2.2
  have hfs : f + 4 = s + 5 + 4 * A.1 s 3 := by have := hT.2.2.1; omega
  unfold aApply
  by_cases hq : A.1 (f + 2) (4 + A.1 f 3) = 4
  · obtain ⟨o1, o2⟩ := hk.o (c := 4 + A.1 f 3) (by omega) (by omega)
    rw [hq] at o2
    have hfn := ((hO _ o1).2.2.1 o2).1
    obtain ⟨p1, p2, p3⟩ := (hR.2.2.2.2 _ o1).2.1 (by omega)
    have e211 := (p2 o2).1
    rw [if_pos hq]
    obtain ⟨o, ho⟩ : ∃ o, oN (A.2 (f + 3) (4 + A.1 f 3)) = o := ⟨_, rfl⟩
    rw [ho] at o1 o2 hfn e211
    obtain ⟨fn, hfn0⟩ : ∃ fn, A.1 (w + 4) o = fn := ⟨_, rfl⟩
    rw [hfn0] at hfn e211
    obtain ⟨c1, c2, c3, c4, c5⟩ := hc.2.2.1 _ hfn
    obtain ⟨g1, g2, g3, g4, g5⟩ := hR.1 _ hfn
    rw [ho, hfn0]
    by_cases c6 : A.1 f 3 - 1 < A.1 2 fn
    · have ee : aEnter A s f fn 1 = (6, A) := by unfold aEnter; rw [if_pos c6]
      rw [ee, if_neg (by dsimp only; omega)]
      refine xF_x (xF_p (Nat.le_of_ble_eq_true rfl) ?_)
      refine xp_aload_n rfl rfl ?_
      refine xp_iload_n rfl rfl ?_
      refine xp_iconst (n := 0) rfl (by decide) ?_
      refine xp_iv rfl rfl (Nat.le_of_ble_eq_true rfl) (by decide) (by decide) (by decide) (Nat.le_of_ble_eq_true rfl) rfl (xrcv1 (by decide) (by first | assumption | exact hL.t rfl)) (m123 hL b3 (by omega)) rfl ?_
      refine xp_istore_n rfl (by decide) ?_
      refine xp_aload_n rfl rfl ?_
      refine xp_gfa rfl rfl (by decide) (by decide) (by first | assumption | exact hL.t rfl) (by first | assumption | exact hL.r rfl | exact hL.2.2.2.2.2) ?_
      refine xp_iload_n rfl rfl ?_
      refine xp_iald rfl (by first | assumption | exact hL.t rfl) (by omega) (by omega) ?_
      rw [y1]
      refine xp_ifne 18 rfl (by decide) (by omega) (fun h13 => ?_) (fun h13 => ?_)
      · skip
        refine xp_aload_n rfl rfl ?_
        refine xp_gfa rfl rfl (by decide) (by decide) (by first | assumption | exact hL.t rfl) (by first | assumption | exact hL.r rfl | exact hL.2.2.2.2.2) ?_
        refine xp_iload_n rfl rfl ?_
        refine xp_iald rfl (by first | assumption | exact hL.t rfl) (by omega) (by omega) ?_
        refine xp_iconst (n := 4) rfl (by decide) ?_
        rw [y1]
        refine xp_iceq 30 rfl (by decide) (by omega) (by omega) (fun h25 => ?_) (fun h25 => ?_)
        · skip
          refine xp_aload_n rfl rfl ?_
          refine xp_gfa rfl rfl (by decide) (by decide) (by first | assumption | exact hL.t rfl) (by first | assumption | exact hL.r rfl | exact hL.2.2.2.2.2) ?_
          refine xp_iload_n rfl rfl ?_
          refine xp_lald rfl (by first | assumption | exact hL.t rfl) (by omega) (by omega) ?_
          refine xp_l2i rfl ?_
          rw [y2, oN_i, ho]
          refine xp_istore_n rfl (by decide) ?_
          refine xp_aload_n rfl rfl ?_
          refine xp_gfa rfl rfl (by decide) (by decide) (by first | assumption | exact hL.t rfl) (by first | assumption | exact hL.r rfl | exact hL.2.2.2.2.2) ?_
          refine xp_iload_n rfl rfl ?_
          refine xp_iald rfl (by first | assumption | exact hL.t rfl) (by omega) (by omega) ?_
          rw [e211]
          refine xp_istore rfl (by decide) ?_
          refine xp_aload_n rfl rfl ?_
          refine xp_gfa rfl rfl (by decide) (by decide) (by first | assumption | exact hL.t rfl) (by first | assumption | exact hL.r rfl | exact hL.2.2.2.2.2) ?_
          refine xp_iload_n rfl rfl ?_
          refine xp_iald rfl (by first | assumption | exact hL.t rfl) (by omega) (by omega) ?_
          rw [hd]
          refine xp_iconst (n := 1) rfl (by decide) ?_
          refine xp_isub rfl (by omega) ?_
          refine xp_aload_n rfl rfl ?_
          refine xp_gfa rfl rfl (by decide) (by decide) (by first | assumption | exact hL.t rfl) (by first | assumption | exact hL.r rfl | exact hL.2.2.2.2.2) ?_
          refine xp_iload rfl rfl ?_
          refine xp_iald rfl (by first | assumption | exact hL.t rfl) (by omega) (by omega) ?_
          rw [g1]
          refine xp_icge 67 rfl (by decide) (by omega) (by omega) (fun h61 => ?_) (fun h61 => ?_)
          · exfalso; omega
          · skip
            refine xp_bipush (n := 6) rfl (by decide) ?_
            refine xp_ireturn rfl (by decide) (by decide) (by decide) ?_
            exact ⟨_, rfl, hR⟩
        · exfalso; omega
      · exfalso; omega
    · by_cases c7 : A.1 s 3 = 5
      · have ee : aEnter A s f fn 1 = (5, A) := by unfold aEnter; rw [if_neg c6, if_pos c7]
        rw [ee, if_neg (by dsimp only; omega)]
        refine xF_x (xF_p (Nat.le_of_ble_eq_true rfl) ?_)
        refine xp_aload_n rfl rfl ?_
        refine xp_iload_n rfl rfl ?_
        refine xp_iconst (n := 0) rfl (by decide) ?_
        refine xp_iv rfl rfl (Nat.le_of_ble_eq_true rfl) (by decide) (by decide) (by decide) (Nat.le_of_ble_eq_true rfl) rfl (xrcv1 (by decide) (by first | assumption | exact hL.t rfl)) (m123 hL b3 (by omega)) rfl ?_
        refine xp_istore_n rfl (by decide) ?_
        refine xp_aload_n rfl rfl ?_
        refine xp_gfa rfl rfl (by decide) (by decide) (by first | assumption | exact hL.t rfl) (by first | assumption | exact hL.r rfl | exact hL.2.2.2.2.2) ?_
        refine xp_iload_n rfl rfl ?_
        refine xp_iald rfl (by first | assumption | exact hL.t rfl) (by omega) (by omega) ?_
        rw [y1]
        refine xp_ifne 18 rfl (by decide) (by omega) (fun h13 => ?_) (fun h13 => ?_)
        · skip
          refine xp_aload_n rfl rfl ?_
          refine xp_gfa rfl rfl (by decide) (by decide) (by first | assumption | exact hL.t rfl) (by first | assumption | exact hL.r rfl | exact hL.2.2.2.2.2) ?_
          refine xp_iload_n rfl rfl ?_
          refine xp_iald rfl (by first | assumption | exact hL.t rfl) (by omega) (by omega) ?_
          refine xp_iconst (n := 4) rfl (by decide) ?_
          rw [y1]
          refine xp_iceq 30 rfl (by decide) (by omega) (by omega) (fun h25 => ?_) (fun h25 => ?_)
          · skip
            refine xp_aload_n rfl rfl ?_
            refine xp_gfa rfl rfl (by decide) (by decide) (by first | assumption | exact hL.t rfl) (by first | assumption | exact hL.r rfl | exact hL.2.2.2.2.2) ?_
            refine xp_iload_n rfl rfl ?_
            refine xp_lald rfl (by first | assumption | exact hL.t rfl) (by omega) (by omega) ?_
            refine xp_l2i rfl ?_
            rw [y2, oN_i, ho]
            refine xp_istore_n rfl (by decide) ?_
            refine xp_aload_n rfl rfl ?_
            refine xp_gfa rfl rfl (by decide) (by decide) (by first | assumption | exact hL.t rfl) (by first | assumption | exact hL.r rfl | exact hL.2.2.2.2.2) ?_
            refine xp_iload_n rfl rfl ?_
            refine xp_iald rfl (by first | assumption | exact hL.t rfl) (by omega) (by omega) ?_
            rw [e211]
            refine xp_istore rfl (by decide) ?_
            refine xp_aload_n rfl rfl ?_
            refine xp_gfa rfl rfl (by decide) (by decide) (by first | assumption | exact hL.t rfl) (by first | assumption | exact hL.r rfl | exact hL.2.2.2.2.2) ?_
            refine xp_iload_n rfl rfl ?_
            refine xp_iald rfl (by first | assumption | exact hL.t rfl) (by omega) (by omega) ?_
            rw [hd]
            refine xp_iconst (n := 1) rfl (by decide) ?_
            refine xp_isub rfl (by omega) ?_
            refine xp_aload_n rfl rfl ?_
            refine xp_gfa rfl rfl (by decide) (by decide) (by first | assumption | exact hL.t rfl) (by first | assumption | exact hL.r rfl | exact hL.2.2.2.2.2) ?_
            refine xp_iload rfl rfl ?_
            refine xp_iald rfl (by first | assumption | exact hL.t rfl) (by omega) (by omega) ?_
            rw [g1]
            refine xp_icge 67 rfl (by decide) (by omega) (by omega) (fun h61 => ?_) (fun h61 => ?_)
            · skip
              refine xp_aload_n rfl rfl ?_
              refine xp_gfa rfl rfl (by decide) (by decide) (by first | assumption | exact hL.t rfl) (by first | assumption | exact hL.r rfl | exact hL.2.2.2.2.2) ?_
              refine xp_aload_n rfl rfl ?_
              refine xp_gfi rfl rfl (by decide) (by decide) (by first | assumption | exact hL.t rfl) ?_
              rw [h10]
              refine xp_iald rfl (by first | assumption | exact hL.t rfl) (by omega) (by omega) ?_
              refine xp_iconst (n := 5) rfl (by decide) ?_
              rw [e201]
              refine xp_icne 82 rfl (by decide) (by omega) (by omega) (fun h77 => ?_) (fun h77 => ?_)
              · exfalso; omega
              · skip
                refine xp_iconst (n := 5) rfl (by decide) ?_
                refine xp_ireturn rfl (by decide) (by decide) (by decide) ?_
                exact ⟨_, rfl, hR⟩
            · exfalso; omega
          · exfalso; omega
        · exfalso; omega
      · have ee : aEnter A s f fn 1 = (0, aTake (aOpen A s fn) (s + 5 + 4 * A.1 s 3) f (A.1 2 fn) 1) := by unfold aEnter; rw [if_neg c6, if_neg c7]
        rw [ee, if_pos rfl]
        have hfin := hR.enter (fn := fn) (ab := 1) (n := A.1 2 fn) (c := o) hc hT hs hst (by omega) c1 (by omega) (Or.inr ⟨rfl, by omega⟩)
        have x1 : ∀ a j, (a ≠ 205 ∨ j ≠ m) → (xsI B 205 m (A.1 f 3 - 1)).1 a j = B.1 a j := fun a j q => xsI_ne q
        have x3 : (xsI B 205 m (A.1 f 3 - 1)).1 205 m = A.1 f 3 - 1 := xsI_eq
        have cal := m137 (z := z) (B := xsI B 205 m (A.1 f 3 - 1)) (t := t) (fn := fn) (m := m) (c := o) hL (by rw [x1 _ _ (by omega)]; exact h10) b1 hfn b3 (by rw [x1 _ _ (by omega), g1]; exact c1) (by rw [x1 _ _ (by omega), g1, x3]; omega) (by rw [x3]; omega) (by rw [x1 _ _ (by omega), e201]; omega) (by rw [x1 _ _ (by omega), e201]; omega)
        rw [x1 201 _ (by omega), x1 190 _ (by omega), e201, g1] at cal
        refine xF_x (xF_p (Nat.le_of_ble_eq_true rfl) ?_)
        refine xp_aload_n rfl rfl ?_
        refine xp_iload_n rfl rfl ?_
        refine xp_iconst (n := 0) rfl (by decide) ?_
        refine xp_iv rfl rfl (Nat.le_of_ble_eq_true rfl) (by decide) (by decide) (by decide) (Nat.le_of_ble_eq_true rfl) rfl (xrcv1 (by decide) (by first | assumption | exact hL.t rfl)) (m123 hL b3 (by omega)) rfl ?_
        refine xp_istore_n rfl (by decide) ?_
        refine xp_aload_n rfl rfl ?_
        refine xp_gfa rfl rfl (by decide) (by decide) (by first | assumption | exact hL.t rfl) (by first | assumption | exact hL.r rfl | exact hL.2.2.2.2.2) ?_
        refine xp_iload_n rfl rfl ?_
        refine xp_iald rfl (by first | assumption | exact hL.t rfl) (by omega) (by omega) ?_
        rw [y1]
        refine xp_ifne 18 rfl (by decide) (by omega) (fun h13 => ?_) (fun h13 => ?_)
        · skip
          refine xp_aload_n rfl rfl ?_
          refine xp_gfa rfl rfl (by decide) (by decide) (by first | assumption | exact hL.t rfl) (by first | assumption | exact hL.r rfl | exact hL.2.2.2.2.2) ?_
          refine xp_iload_n rfl rfl ?_
          refine xp_iald rfl (by first | assumption | exact hL.t rfl) (by omega) (by omega) ?_
          refine xp_iconst (n := 4) rfl (by decide) ?_
          rw [y1]
          refine xp_iceq 30 rfl (by decide) (by omega) (by omega) (fun h25 => ?_) (fun h25 => ?_)
          · skip
            refine xp_aload_n rfl rfl ?_
            refine xp_gfa rfl rfl (by decide) (by decide) (by first | assumption | exact hL.t rfl) (by first | assumption | exact hL.r rfl | exact hL.2.2.2.2.2) ?_
            refine xp_iload_n rfl rfl ?_
            refine xp_lald rfl (by first | assumption | exact hL.t rfl) (by omega) (by omega) ?_
            refine xp_l2i rfl ?_
            rw [y2, oN_i, ho]
            refine xp_istore_n rfl (by decide) ?_
            refine xp_aload_n rfl rfl ?_
            refine xp_gfa rfl rfl (by decide) (by decide) (by first | assumption | exact hL.t rfl) (by first | assumption | exact hL.r rfl | exact hL.2.2.2.2.2) ?_
            refine xp_iload_n rfl rfl ?_
            refine xp_iald rfl (by first | assumption | exact hL.t rfl) (by omega) (by omega) ?_
            rw [e211]
            refine xp_istore rfl (by decide) ?_
            refine xp_aload_n rfl rfl ?_
            refine xp_gfa rfl rfl (by decide) (by decide) (by first | assumption | exact hL.t rfl) (by first | assumption | exact hL.r rfl | exact hL.2.2.2.2.2) ?_
            refine xp_iload_n rfl rfl ?_
            refine xp_iald rfl (by first | assumption | exact hL.t rfl) (by omega) (by omega) ?_
            rw [hd]
            refine xp_iconst (n := 1) rfl (by decide) ?_
            refine xp_isub rfl (by omega) ?_
            refine xp_aload_n rfl rfl ?_
            refine xp_gfa rfl rfl (by decide) (by decide) (by first | assumption | exact hL.t rfl) (by first | assumption | exact hL.r rfl | exact hL.2.2.2.2.2) ?_
            refine xp_iload rfl rfl ?_
            refine xp_iald rfl (by first | assumption | exact hL.t rfl) (by omega) (by omega) ?_
            rw [g1]
            refine xp_icge 67 rfl (by decide) (by omega) (by omega) (fun h61 => ?_) (fun h61 => ?_)
            · skip
              refine xp_aload_n rfl rfl ?_
              refine xp_gfa rfl rfl (by decide) (by decide) (by first | assumption | exact hL.t rfl) (by first | assumption | exact hL.r rfl | exact hL.2.2.2.2.2) ?_
              refine xp_aload_n rfl rfl ?_
              refine xp_gfi rfl rfl (by decide) (by decide) (by first | assumption | exact hL.t rfl) ?_
              rw [h10]
              refine xp_iald rfl (by first | assumption | exact hL.t rfl) (by omega) (by omega) ?_
              refine xp_iconst (n := 5) rfl (by decide) ?_
              rw [e201]
              refine xp_icne 82 rfl (by decide) (by omega) (by omega) (fun h77 => ?_) (fun h77 => ?_)
              · skip
                refine xp_aload_n rfl rfl ?_
                refine xp_gfa rfl rfl (by decide) (by decide) (by first | assumption | exact hL.t rfl) (by first | assumption | exact hL.r rfl | exact hL.2.2.2.2.2) ?_
                refine xp_iload_n rfl rfl ?_
                refine xp_dup2 rfl rfl rfl ?_
                refine xp_iald rfl (by first | assumption | exact hL.t rfl) (by omega) (by omega) ?_
                refine xp_iconst (n := 1) rfl (by decide) ?_
                refine xp_isub rfl (by omega) ?_
                rw [hd]
                refine xp_iast rfl (by first | assumption | exact hL.t rfl) (by omega) (by omega) ?_
                refine xp_aload_n rfl rfl ?_
                refine xp_iload_n rfl rfl ?_
                refine xp_iload rfl rfl ?_
                refine xp_iload_n rfl rfl ?_
                refine xp_iv rfl rfl (Nat.le_of_ble_eq_true rfl) (by decide) (by decide) (by decide) (Nat.le_of_ble_eq_true rfl) rfl (xrcv1 (by decide) (by first | assumption | exact hL.t rfl)) (cal) rfl ?_
                refine xp_ireturn rfl (by decide) (by decide) (by decide) ?_
                exact ⟨_, rfl, hfin⟩
              · exfalso; omega
            · exfalso; omega
          · exfalso; omega
        · exfalso; omega
  · rw [if_neg hq]
    unfold aTest
    refine xF_x (xF_p (Nat.le_of_ble_eq_true rfl) ?_)
    refine xp_aload_n rfl rfl ?_
    refine xp_iload_n rfl rfl ?_
    refine xp_iconst (n := 0) rfl (by decide) ?_
    refine xp_iv rfl rfl (Nat.le_of_ble_eq_true rfl) (by decide) (by decide) (by decide) (Nat.le_of_ble_eq_true rfl) rfl (xrcv1 (by decide) (by first | assumption | exact hL.t rfl)) (m123 hL b3 (by omega)) rfl ?_
    refine xp_istore_n rfl (by decide) ?_
    refine xp_aload_n rfl rfl ?_
    refine xp_gfa rfl rfl (by decide) (by decide) (by first | assumption | exact hL.t rfl) (by first | assumption | exact hL.r rfl | exact hL.2.2.2.2.2) ?_
    refine xp_iload_n rfl rfl ?_
    refine xp_iald rfl (by first | assumption | exact hL.t rfl) (by omega) (by omega) ?_
    rw [y1]
    refine xp_ifne 18 rfl (by decide) (by omega) (fun h13 => ?_) (fun h13 => ?_)
    · skip
      refine xp_aload_n rfl rfl ?_
      refine xp_gfa rfl rfl (by decide) (by decide) (by first | assumption | exact hL.t rfl) (by first | assumption | exact hL.r rfl | exact hL.2.2.2.2.2) ?_
      refine xp_iload_n rfl rfl ?_
      refine xp_iald rfl (by first | assumption | exact hL.t rfl) (by omega) (by omega) ?_
      refine xp_iconst (n := 4) rfl (by decide) ?_
      rw [y1]
      refine xp_iceq 30 rfl (by decide) (by omega) (by omega) (fun h25 => ?_) (fun h25 => ?_)
      · exfalso; omega
      · skip
        refine xp_iconst (n := 2) rfl (by decide) ?_
        refine xp_ireturn rfl (by decide) (by decide) (by decide) ?_
        first | (rw [if_pos h13]; exact ⟨_, rfl, hR⟩) | (rw [if_neg h13, if_neg hq]; exact ⟨_, rfl, hR⟩)
    · skip
      refine xp_iconst (n := 3) rfl (by decide) ?_
      refine xp_ireturn rfl (by decide) (by decide) (by decide) ?_
      first | (rw [if_pos h13]; exact ⟨_, rfl, hR⟩) | (rw [if_neg h13, if_neg hq]; exact ⟨_, rfl, hR⟩)
theorem m139 {z : Nat} {T : Nat → Option xT} {R : Nat → Nat → Option Nat} {A B : xQ} {w t k f m fn : Nat} (hL : xLay T R w) (hc : COk w A) (hR : Rel w A B) (hT : Top w A t k f m) (hfn : fn < 6) (hns : A.1 2 fn ≤ A.1 f 3) : ∃ B2, xF 139 [.ref 189, .int (nI m), .int (nI fn)] (xm z T R B) (.inr (some (.int (nI (aFork w A f fn).1))), xm z T R B2) ∧ Rel w (aFork w A f fn).2 B2 := by
  obtain ⟨b1, b2, b3, b4, b5, b6, b7⟩ := hT.b hc
  have hk := hT.ok hc
  have hd := (hT.g hR).2.2.1
  have h9 := hR.2.2.1.1
  have h0 := hc.1
  obtain ⟨c1, c2, c3, c4, c5⟩ := hc.2.2.1 _ hfn
  obtain ⟨g1, g2, g3, g4, g5⟩ := hR.1 _ hfn
  have hc3 := hc.cnt
  obtain ⟨ht, hkk, hff, hmm⟩ := id hT
  unfold aFork
  by_cases q1 : A.1 w 2 = 3
  · rw [if_pos q1]
    refine xF_x (xF_p (Nat.le_of_ble_eq_true rfl) ?_)
    refine xp_aload_n rfl rfl ?_
    refine xp_gfi rfl rfl (by decide) (by decide) (by first | assumption | exact hL.t rfl) ?_
    refine xp_iconst (n := 3) rfl (by decide) ?_
    rw [h9]
    refine xp_icne 10 rfl (by decide) (by omega) (by omega) (fun h5 => ?_) (fun h5 => ?_)
    · exfalso; omega
    · skip
      refine xp_iconst (n := 4) rfl (by decide) ?_
      refine xp_ireturn rfl (by decide) (by decide) (by decide) ?_
      exact ⟨_, rfl, hR⟩
  · by_cases q2 : A.1 f 3 - A.1 2 fn = 6
    · rw [if_neg q1, if_pos q2]
      refine xF_x (xF_p (Nat.le_of_ble_eq_true rfl) ?_)
      refine xp_aload_n rfl rfl ?_
      refine xp_gfi rfl rfl (by decide) (by decide) (by first | assumption | exact hL.t rfl) ?_
      refine xp_iconst (n := 3) rfl (by decide) ?_
      rw [h9]
      refine xp_icne 10 rfl (by decide) (by omega) (by omega) (fun h5 => ?_) (fun h5 => ?_)
      · skip
        refine xp_aload_n rfl rfl ?_
        refine xp_gfa rfl rfl (by decide) (by decide) (by first | assumption | exact hL.t rfl) (by first | assumption | exact hL.r rfl | exact hL.2.2.2.2.2) ?_
        refine xp_iload_n rfl rfl ?_
        refine xp_iald rfl (by first | assumption | exact hL.t rfl) (by omega) (by omega) ?_
        rw [hd]
        refine xp_aload_n rfl rfl ?_
        refine xp_gfa rfl rfl (by decide) (by decide) (by first | assumption | exact hL.t rfl) (by first | assumption | exact hL.r rfl | exact hL.2.2.2.2.2) ?_
        refine xp_iload_n rfl rfl ?_
        refine xp_iald rfl (by first | assumption | exact hL.t rfl) (by omega) (by omega) ?_
        rw [g1]
        refine xp_isub rfl (by omega) ?_
        refine xp_bipush (n := 6) rfl (by decide) ?_
        refine xp_icne 31 rfl (by decide) (by omega) (by omega) (fun h25 => ?_) (fun h25 => ?_)
        · exfalso; omega
        · skip
          refine xp_bipush (n := 6) rfl (by decide) ?_
          refine xp_ireturn rfl (by decide) (by decide) (by decide) ?_
          exact ⟨_, rfl, hR⟩
      · exfalso; omega
    · rw [if_neg q1, if_neg q2]
      obtain ⟨hC1, ch1, ff2, d3, bw, f3⟩ := hc.fork1 ht hkk hff hfn hns q1
      have hR1 := hR.fork (fn := fn) (n := A.1 2 fn) hc hT rfl (by omega) c1 rfl hns
      have k1 : ∀ a j, (a ≠ 189 ∨ j ≠ 9) → ((a < 199 ∨ 201 < a) ∨ j ≠ A.1 w 2) → (mFork0 B (A.1 w 2)).1 a j = B.1 a j := by
        intro a j q1 q2
        unfold mFork0
        rw [xsI_ne (by omega), xsI_ne (by omega), xsI_ne (by omega), xsI_ne q1]
      have k2 : (mFork0 B (A.1 w 2)).1 201 (A.1 w 2) = 0 := xsI_eq
      obtain ⟨p1, p2, p3, p4, p5, p6, p7, p8, p9⟩ := mBegin_r (mFork0 B (A.1 w 2)) (A.1 w 2) fn 4294967295
      rw [k2] at p1
      have zm : (mBegin (mFork0 B (A.1 w 2)) (A.1 w 2) fn 4294967295).1 205 m = A.1 f 3 := by rw [p1 _ _ (by omega) (by omega) (by omega), k1 _ _ (by omega) (by omega), hd]
      have zn : (mBegin (mFork0 B (A.1 w 2)) (A.1 w 2) fn 4294967295).1 190 fn = A.1 2 fn := by rw [p1 _ _ (by omega) (by omega) (by omega), k1 _ _ (by omega) (by omega), g1]
      obtain ⟨u1, u2, u3, u4⟩ := mPass_r (f := m) (k := 5 * A.1 w 2) (by omega) (A.1 2 fn) _ c1 (by rw [zm]; exact hns) (by rw [zm]; exact b6)
      rw [zm] at u3
      have hT1 : Top w (xsI (aFork1 w A f fn) w 2 (A.1 w 2 + 1)) t k f m := ⟨by rw [bw]; omega, by rw [d3]; exact hkk, hff, hmm⟩
      have ep : aPush (xsI (aFork1 w A f fn) w 2 (A.1 w 2 + 1)) f 1 (lN (A.1 w 2)) = (0, xpu (xsI (aFork1 w A f fn) w 2 (A.1 w 2 + 1)) f 1 (lN (A.1 w 2))) := by unfold aPush; rw [if_pos (by rw [f3]; omega)]
      rw [ep]
      have hfin := hR1.push (q := 1) (v := lN (A.1 w 2)) hC1 hT1 (by rw [f3]; omega)
      refine xF_x (xF_p (Nat.le_of_ble_eq_true rfl) ?_)
      refine xp_aload_n rfl rfl ?_
      refine xp_gfi rfl rfl (by decide) (by decide) (by first | assumption | exact hL.t rfl) ?_
      refine xp_iconst (n := 3) rfl (by decide) ?_
      rw [h9]
      refine xp_icne 10 rfl (by decide) (by omega) (by omega) (fun h5 => ?_) (fun h5 => ?_)
      · skip
        refine xp_aload_n rfl rfl ?_
        refine xp_gfa rfl rfl (by decide) (by decide) (by first | assumption | exact hL.t rfl) (by first | assumption | exact hL.r rfl | exact hL.2.2.2.2.2) ?_
        refine xp_iload_n rfl rfl ?_
        refine xp_iald rfl (by first | assumption | exact hL.t rfl) (by omega) (by omega) ?_
        rw [hd]
        refine xp_aload_n rfl rfl ?_
        refine xp_gfa rfl rfl (by decide) (by decide) (by first | assumption | exact hL.t rfl) (by first | assumption | exact hL.r rfl | exact hL.2.2.2.2.2) ?_
        refine xp_iload_n rfl rfl ?_
        refine xp_iald rfl (by first | assumption | exact hL.t rfl) (by omega) (by omega) ?_
        rw [g1]
        refine xp_isub rfl (by omega) ?_
        refine xp_bipush (n := 6) rfl (by decide) ?_
        refine xp_icne 31 rfl (by decide) (by omega) (by omega) (fun h25 => ?_) (fun h25 => ?_)
        · skip
          refine xp_aload_n rfl rfl ?_
          refine xp_gfi rfl rfl (by decide) (by decide) (by first | assumption | exact hL.t rfl) ?_
          rw [h9]
          refine xp_istore_n rfl (by decide) ?_
          refine xp_aload_n rfl rfl ?_
          refine xp_dup rfl rfl ?_
          refine xp_gfi rfl rfl (by decide) (by decide) (by first | assumption | exact hL.t rfl) ?_
          rw [h9]
          refine xp_iconst (n := 1) rfl (by decide) ?_
          refine xp_iadd rfl ?_
          refine xp_pfi rfl rfl (by decide) (by decide) (by decide) (by first | assumption | exact hL.t rfl) ?_
          refine xp_aload_n rfl rfl ?_
          refine xp_gfa rfl rfl (by decide) (by decide) (by first | assumption | exact hL.t rfl) (by first | assumption | exact hL.r rfl | exact hL.2.2.2.2.2) ?_
          refine xp_iload_n rfl rfl ?_
          refine xp_iconst (n := 0) rfl (by decide) ?_
          refine xp_iast rfl (by first | assumption | exact hL.t rfl) (by omega) (by omega) ?_
          refine xp_aload_n rfl rfl ?_
          refine xp_gfa rfl rfl (by decide) (by decide) (by first | assumption | exact hL.t rfl) (by first | assumption | exact hL.r rfl | exact hL.2.2.2.2.2) ?_
          refine xp_iload_n rfl rfl ?_
          refine xp_iconst (n := 0) rfl (by decide) ?_
          refine xp_iast rfl (by first | assumption | exact hL.t rfl) (by omega) (by omega) ?_
          refine xp_aload_n rfl rfl ?_
          refine xp_gfa rfl rfl (by decide) (by decide) (by first | assumption | exact hL.t rfl) (by first | assumption | exact hL.r rfl | exact hL.2.2.2.2.2) ?_
          refine xp_iload_n rfl rfl ?_
          refine xp_iconst (n := 0) rfl (by decide) ?_
          refine xp_iast rfl (by first | assumption | exact hL.t rfl) (by omega) (by omega) ?_
          show xP _ _ _ _ _ _ (xm _ _ _ (mFork0 B (A.1 w 2))) _
          refine xp_aload_n rfl rfl ?_
          refine xp_iload_n rfl rfl ?_
          refine xp_iload_n rfl rfl ?_
          refine xp_iconst (n := 4294967295) rfl (by decide) ?_
          refine xp_iv rfl rfl (Nat.le_of_ble_eq_true rfl) (by decide) (by decide) (by decide) (Nat.le_of_ble_eq_true rfl) rfl (xrcv1 (by decide) (by first | assumption | exact hL.t rfl)) (m125 hL (by omega) (by rw [k2]; omega)) rfl ?_
          refine xp_aload_n rfl rfl ?_
          refine xp_iload_n rfl rfl ?_
          refine xp_iconst (n := 5) rfl (by decide) ?_
          refine xp_iload_n rfl rfl ?_
          refine xp_imul rfl ?_
          refine xp_aload_n rfl rfl ?_
          refine xp_gfa rfl rfl (by decide) (by decide) (by first | assumption | exact hL.t rfl) (by first | assumption | exact hL.r rfl | exact hL.2.2.2.2.2) ?_
          refine xp_iload_n rfl rfl ?_
          refine xp_iald rfl (by first | assumption | exact hL.t rfl) (by omega) (by omega) ?_
          rw [zn]
          refine xp_iv rfl rfl (Nat.le_of_ble_eq_true rfl) (by decide) (by decide) (by decide) (Nat.le_of_ble_eq_true rfl) rfl (xrcv1 (by decide) (by first | assumption | exact hL.t rfl)) (m126 hL b3 (by omega) c1 (by rw [zm]; exact hns) (by rw [zm]; exact b6)) rfl ?_
          refine xp_aload_n rfl rfl ?_
          refine xp_iload_n rfl rfl ?_
          refine xp_iconst (n := 1) rfl (by decide) ?_
          refine xp_iload_n rfl rfl ?_
          refine xp_i2l rfl ?_
          rw [nI_l (by omega)]
          refine xp_iv rfl rfl (Nat.le_of_ble_eq_true rfl) (by decide) (by decide) (by decide) (Nat.le_of_ble_eq_true rfl) rfl (xrcv1 (by decide) (by first | assumption | exact hL.t rfl)) (m124 hL b3 (by rw [u3]; omega)) rfl ?_
          refine xp_iconst (n := 0) rfl (by decide) ?_
          refine xp_ireturn rfl (by decide) (by decide) (by decide) ?_
          exact ⟨_, rfl, hfin⟩
        · exfalso; omega
      · exfalso; omega
theorem m140 {z : Nat} {T : Nat → Option xT} {R : Nat → Nat → Option Nat} {A B : xQ} {w t k f m s : Nat} (hL : xLay T R w) (hc : COk w A) (hR : Rel w A B) (hT : Top w A t k f m) (h3 : A.1 w 3 = t) (hs : s = w + 11 + 25 * t) (hst : A.1 s 2 = 0) (h1 : 1 ≤ A.1 f 3) : ∃ B2, xF 140 [.ref 189, .int (nI m)] (xm z T R B) (.inr (some (.int (nI (aLeave A s f).1))), xm z T R B2) ∧ Rel w (aLeave A s f).2 B2 := by
  obtain ⟨b1, b2, b3, b4, b5, b6, b7⟩ := hT.b hc
  have hk := hT.ok hc
  have hd := (hT.g hR).2.2.1
  obtain ⟨d0, y1, y2⟩ := hT.y hR h1
  have h0 := hc.1
  have hc3 := hc.cnt
  have h10 : B.1 189 10 = t := by rw [hR.2.2.1.2.1, h3]
  have hRS := hR.2.2.2.1 t hT.1
  have hSo := hc.st hT.1
  rw [← hs] at hRS hSo
  have e201 := hRS.2.2.1
  obtain ⟨ht, hkk, hff, hmm⟩ := id hT
  rw [← hs] at hkk hff
  have x1 : ∀ a j, (a ≠ 201 ∨ j ≠ t) → (xsI B 201 t (A.1 s 3 - 1)).1 a j = B.1 a j := fun a j q => xsI_ne q
  have x3 : (xsI B 201 t (A.1 s 3 - 1)).1 201 t = A.1 s 3 - 1 := xsI_eq
  have x2 : (xsI B 201 t (A.1 s 3 - 1)).2 = B.2 := rfl
  have x10 : (xsI B 201 t (A.1 s 3 - 1)).1 189 10 = t := by rw [x1 _ _ (by omega)]; exact h10
  have v1 : (xsI B 201 t (A.1 s 3 - 1)).1 206 (10 * m + 3 + B.1 205 m - 0) = A.1 (f + 2) (4 + A.1 f 3) := by rw [x1 _ _ (by omega)]; exact y1
  unfold aLeave
  by_cases q1 : A.1 s 3 = 1
  · rw [if_pos q1]
    have hC1 := hc.res (q := A.1 (f + 2) (4 + A.1 f 3)) (v := A.2 (f + 3) (4 + A.1 f 3)) ht hs hst
    have hR1 := hR.res (q := A.1 (f + 2) (4 + A.1 f 3)) (v := A.2 (f + 3) (4 + A.1 f 3)) hc ht hs hst
    obtain ⟨e1, e2, e3, e4⟩ := res_r A s (A.1 (f + 2) (4 + A.1 f 3)) (A.2 (f + 3) (4 + A.1 f 3))
    have hfin := hR1.end (st := 1) (er := 0) (B2 := xsI (mSet (xsI B 201 t (A.1 s 3 - 1)) (150 + t) (A.1 (f + 2) (4 + A.1 f 3)) (A.2 (f + 3) (4 + A.1 f 3))) 199 t 1) hC1 (by rw [e1 _ _ (by omega)]; exact ht) hs (Or.inl rfl) (fun a j p1 p2 => by rw [xsI_ne (by omega), mSet_1 p2, x1 _ _ (by omega)]) (fun a j p => mSet_2 p) xsI_eq (by rw [xsI_ne (by omega), mSet_1 (by omega), x1 _ _ (by omega), hRS.2.1.1, hRS.2.1.2 hst]) (by rw [xsI_ne (by omega), mSet_1 (by omega), x3]; omega) (fun _ => ⟨by rw [xsI_ne (by omega), mSet_1e, e3], by rw [e4]; exact mSet_2e⟩)
    unfold aCopy
    have m10 : ∀ p q, (mSet (xsI B 201 t (A.1 s 3 - 1)) (150 + t) p q).1 189 10 = t := fun p q => by rw [mSet_1 (by omega)]; exact x10
    refine xF_x (xF_p (Nat.le_of_ble_eq_true rfl) ?_)
    refine xp_aload_n rfl rfl ?_
    refine xp_iload_n rfl rfl ?_
    refine xp_iconst (n := 0) rfl (by decide) ?_
    refine xp_iv rfl rfl (Nat.le_of_ble_eq_true rfl) (by decide) (by decide) (by decide) (Nat.le_of_ble_eq_true rfl) rfl (xrcv1 (by decide) (by first | assumption | exact hL.t rfl)) (m123 hL b3 (by omega)) rfl ?_
    refine xp_istore_n rfl (by decide) ?_
    refine xp_aload_n rfl rfl ?_
    refine xp_gfa rfl rfl (by decide) (by decide) (by first | assumption | exact hL.t rfl) (by first | assumption | exact hL.r rfl | exact hL.2.2.2.2.2) ?_
    refine xp_aload_n rfl rfl ?_
    refine xp_gfi rfl rfl (by decide) (by decide) (by first | assumption | exact hL.t rfl) ?_
    rw [h10]
    refine xp_dup2 rfl rfl rfl ?_
    refine xp_iald rfl (by first | assumption | exact hL.t rfl) (by omega) (by omega) ?_
    rw [e201]
    refine xp_iconst (n := 1) rfl (by decide) ?_
    refine xp_isub rfl (by omega) ?_
    refine xp_iast rfl (by first | assumption | exact hL.t rfl) (by omega) (by omega) ?_
    refine xp_aload_n rfl rfl ?_
    refine xp_gfa rfl rfl (by decide) (by decide) (by first | assumption | exact hL.t rfl) (by first | assumption | exact hL.r rfl | exact hL.2.2.2.2.2) ?_
    refine xp_aload_n rfl rfl ?_
    refine xp_gfi rfl rfl (by decide) (by decide) (by first | assumption | exact hL.t rfl) ?_
    rw [x10]
    refine xp_iald rfl (by first | assumption | exact hL.t rfl) (by omega) (by omega) ?_
    rw [x3]
    refine xp_ifne 57 rfl (by decide) (by omega) (fun h29 => ?_) (fun h29 => ?_)
    · exfalso; omega
    · skip
      refine xp_aload_n rfl rfl ?_
      refine xp_sipush (n := 150) rfl (by decide) ?_
      refine xp_aload_n rfl rfl ?_
      refine xp_gfi rfl rfl (by decide) (by decide) (by first | assumption | exact hL.t rfl) ?_
      rw [x10]
      refine xp_iadd rfl ?_
      refine xp_iload_n rfl rfl ?_
      refine xp_iv rfl rfl (Nat.le_of_ble_eq_true rfl) (by decide) (by decide) (by decide) (Nat.le_of_ble_eq_true rfl) rfl (xrcv1 (by decide) (by first | assumption | exact hL.t rfl)) (m121 hL (by omega) (by omega)) rfl ?_
      rw [v1, x2, y2]
      refine xp_aload_n rfl rfl ?_
      refine xp_gfa rfl rfl (by decide) (by decide) (by first | assumption | exact hL.t rfl) (by first | assumption | exact hL.r rfl | exact hL.2.2.2.2.2) ?_
      refine xp_aload_n rfl rfl ?_
      refine xp_gfi rfl rfl (by decide) (by decide) (by first | assumption | exact hL.t rfl) ?_
      rw [m10]
      refine xp_iconst (n := 1) rfl (by decide) ?_
      refine xp_iast rfl (by first | assumption | exact hL.t rfl) (by omega) (by omega) ?_
      refine xp_iconst (n := 0) rfl (by decide) ?_
      refine xp_ireturn rfl (by decide) (by decide) (by decide) ?_
      exact ⟨_, rfl, hfin⟩
  · rw [if_neg q1]
    obtain ⟨hC1, ag1⟩ := hc.depth (d := A.1 s 3 - 1) ht hs hst (by omega) (by omega)
    have hR1 := hR.depth (d := A.1 s 3 - 1) hc ht hs hst (by omega)
    have e1 : ∀ a j, (a ≠ s ∨ j ≠ 3) → (xsI A s 3 (A.1 s 3 - 1)).1 a j = A.1 a j := fun a j q => xsI_ne q
    have e3 : (xsI A s 3 (A.1 s 3 - 1)).1 s 3 = A.1 s 3 - 1 := xsI_eq
    have hT1 : Top w (xsI A s 3 (A.1 s 3 - 1)) t (k - 1) (s + 5 + 4 * (A.1 s 3 - 2)) (m - 1) := ⟨by rw [e1 _ _ (by omega)]; exact ht, by rw [← hs, e3]; omega, by rw [← hs]; omega, by omega⟩
    have gd := (hT1.g hR1).2.2.1
    have gp := (hT1.g hR1).2.1
    unfold aBack
    generalize hA1 : xsI A s 3 (A.1 s 3 - 1) = A1 at hC1 ag1 hR1 e1 e3 hT1 gd gp
    have hb6 := (hT1.b hC1).2.2.2.2.2.1
    generalize s + 5 + 4 * (A.1 s 3 - 2) = g at hT1 gd gp hb6
    by_cases q2 : A1.1 g 3 = 6
    · have ep : aPush A1 g (A.1 (f + 2) (4 + A.1 f 3)) (A.2 (f + 3) (4 + A.1 f 3)) = (6, A1) := by unfold aPush; rw [if_neg (by omega)]
      rw [ep]
      have eg : aGoOn g (6, A1) = (6, A1) := by unfold aGoOn; rw [if_neg (by dsimp only; omega)]
      rw [eg]
      refine xF_x (xF_p (Nat.le_of_ble_eq_true rfl) ?_)
      refine xp_aload_n rfl rfl ?_
      refine xp_iload_n rfl rfl ?_
      refine xp_iconst (n := 0) rfl (by decide) ?_
      refine xp_iv rfl rfl (Nat.le_of_ble_eq_true rfl) (by decide) (by decide) (by decide) (Nat.le_of_ble_eq_true rfl) rfl (xrcv1 (by decide) (by first | assumption | exact hL.t rfl)) (m123 hL b3 (by omega)) rfl ?_
      refine xp_istore_n rfl (by decide) ?_
      refine xp_aload_n rfl rfl ?_
      refine xp_gfa rfl rfl (by decide) (by decide) (by first | assumption | exact hL.t rfl) (by first | assumption | exact hL.r rfl | exact hL.2.2.2.2.2) ?_
      refine xp_aload_n rfl rfl ?_
      refine xp_gfi rfl rfl (by decide) (by decide) (by first | assumption | exact hL.t rfl) ?_
      rw [h10]
      refine xp_dup2 rfl rfl rfl ?_
      refine xp_iald rfl (by first | assumption | exact hL.t rfl) (by omega) (by omega) ?_
      rw [e201]
      refine xp_iconst (n := 1) rfl (by decide) ?_
      refine xp_isub rfl (by omega) ?_
      refine xp_iast rfl (by first | assumption | exact hL.t rfl) (by omega) (by omega) ?_
      refine xp_aload_n rfl rfl ?_
      refine xp_gfa rfl rfl (by decide) (by decide) (by first | assumption | exact hL.t rfl) (by first | assumption | exact hL.r rfl | exact hL.2.2.2.2.2) ?_
      refine xp_aload_n rfl rfl ?_
      refine xp_gfi rfl rfl (by decide) (by decide) (by first | assumption | exact hL.t rfl) ?_
      rw [x10]
      refine xp_iald rfl (by first | assumption | exact hL.t rfl) (by omega) (by omega) ?_
      rw [x3]
      refine xp_ifne 57 rfl (by decide) (by omega) (fun h29 => ?_) (fun h29 => ?_)
      · skip
        refine xp_aload_n rfl rfl ?_
        refine xp_gfa rfl rfl (by decide) (by decide) (by first | assumption | exact hL.t rfl) (by first | assumption | exact hL.r rfl | exact hL.2.2.2.2.2) ?_
        refine xp_iload_n rfl rfl ?_
        refine xp_iconst (n := 1) rfl (by decide) ?_
        refine xp_isub rfl (by omega) ?_
        refine xp_iald rfl (by first | assumption | exact hL.t rfl) (by omega) (by omega) ?_
        refine xp_bipush (n := 6) rfl (by decide) ?_
        rw [gd]
        refine xp_icne 73 rfl (by decide) (by omega) (by omega) (fun h67 => ?_) (fun h67 => ?_)
        · exfalso; omega
        · skip
          refine xp_bipush (n := 6) rfl (by decide) ?_
          refine xp_ireturn rfl (by decide) (by decide) (by decide) ?_
          exact ⟨_, rfl, hR1⟩
      · exfalso; omega
    · have ep : aPush A1 g (A.1 (f + 2) (4 + A.1 f 3)) (A.2 (f + 3) (4 + A.1 f 3)) = (0, xpu A1 g (A.1 (f + 2) (4 + A.1 f 3)) (A.2 (f + 3) (4 + A.1 f 3))) := by unfold aPush; rw [if_pos (by omega)]
      rw [ep]
      have eg : ∀ X, aGoOn g (0, X) = (0, xsI X g 2 (X.1 g 2 + 1)) := fun X => rfl
      rw [eg]
      have hR2 := hR1.push (q := A.1 (f + 2) (4 + A.1 f 3)) (v := A.2 (f + 3) (4 + A.1 f 3)) hC1 hT1 (by omega)
      have hk1 := hT1.ok hC1
      have bb := hT1.b hC1
      have hvv : VV w A1 (A.1 (f + 2) (4 + A.1 f 3)) (A.2 (f + 3) (4 + A.1 f 3)) := (hk.v (c := 4 + A.1 f 3) (by omega)).same (fun o => ag1.1 _ _ (by omega))
      obtain ⟨r1, r2, r3, r4, r5, r6⟩ := xpu_r A1 g (A.1 (f + 2) (4 + A.1 f 3)) (A.2 (f + 3) (4 + A.1 f 3))
      obtain ⟨hC2, _, hd2⟩ := hC1.opf (r := (0, xpu A1 g (A.1 (f + 2) (4 + A.1 f 3)) (A.2 (f + 3) (4 + A.1 f 3)))) hT1.1 hT1.2.1 hT1.2.2.1 ⟨r6, hk1.push (by omega) (by omega) hvv⟩
      have hT2 : Top w (xpu A1 g (A.1 (f + 2) (4 + A.1 f 3)) (A.2 (f + 3) (4 + A.1 f 3))) t (k - 1) g (m - 1) := ⟨by rw [r6.1 _ _ (by omega) (by omega)]; exact hT1.1, by rw [hd2]; exact hT1.2.1, hT1.2.2⟩
      have hfin := hR2.place (p := A1.1 g 2 + 1) hC2 hT2
      have ex : (xpu A1 g (A.1 (f + 2) (4 + A.1 f 3)) (A.2 (f + 3) (4 + A.1 f 3))).1 g 2 = A1.1 g 2 := r2
      rw [ex]
      have em : (mPush (xsI B 201 t (A.1 s 3 - 1)) (m - 1) (A.1 (f + 2) (4 + A.1 f 3)) (A.2 (f + 3) (4 + A.1 f 3))).1 203 (m - 1) = A1.1 g 2 := by
        unfold mPush
        rw [mSet_1 (by omega), xsI_ne (by omega)]
        exact gp
      refine xF_x (xF_p (Nat.le_of_ble_eq_true rfl) ?_)
      refine xp_aload_n rfl rfl ?_
      refine xp_iload_n rfl rfl ?_
      refine xp_iconst (n := 0) rfl (by decide) ?_
      refine xp_iv rfl rfl (Nat.le_of_ble_eq_true rfl) (by decide) (by decide) (by decide) (Nat.le_of_ble_eq_true rfl) rfl (xrcv1 (by decide) (by first | assumption | exact hL.t rfl)) (m123 hL b3 (by omega)) rfl ?_
      refine xp_istore_n rfl (by decide) ?_
      refine xp_aload_n rfl rfl ?_
      refine xp_gfa rfl rfl (by decide) (by decide) (by first | assumption | exact hL.t rfl) (by first | assumption | exact hL.r rfl | exact hL.2.2.2.2.2) ?_
      refine xp_aload_n rfl rfl ?_
      refine xp_gfi rfl rfl (by decide) (by decide) (by first | assumption | exact hL.t rfl) ?_
      rw [h10]
      refine xp_dup2 rfl rfl rfl ?_
      refine xp_iald rfl (by first | assumption | exact hL.t rfl) (by omega) (by omega) ?_
      rw [e201]
      refine xp_iconst (n := 1) rfl (by decide) ?_
      refine xp_isub rfl (by omega) ?_
      refine xp_iast rfl (by first | assumption | exact hL.t rfl) (by omega) (by omega) ?_
      refine xp_aload_n rfl rfl ?_
      refine xp_gfa rfl rfl (by decide) (by decide) (by first | assumption | exact hL.t rfl) (by first | assumption | exact hL.r rfl | exact hL.2.2.2.2.2) ?_
      refine xp_aload_n rfl rfl ?_
      refine xp_gfi rfl rfl (by decide) (by decide) (by first | assumption | exact hL.t rfl) ?_
      rw [x10]
      refine xp_iald rfl (by first | assumption | exact hL.t rfl) (by omega) (by omega) ?_
      rw [x3]
      refine xp_ifne 57 rfl (by decide) (by omega) (fun h29 => ?_) (fun h29 => ?_)
      · skip
        refine xp_aload_n rfl rfl ?_
        refine xp_gfa rfl rfl (by decide) (by decide) (by first | assumption | exact hL.t rfl) (by first | assumption | exact hL.r rfl | exact hL.2.2.2.2.2) ?_
        refine xp_iload_n rfl rfl ?_
        refine xp_iconst (n := 1) rfl (by decide) ?_
        refine xp_isub rfl (by omega) ?_
        refine xp_iald rfl (by first | assumption | exact hL.t rfl) (by omega) (by omega) ?_
        refine xp_bipush (n := 6) rfl (by decide) ?_
        rw [gd]
        refine xp_icne 73 rfl (by decide) (by omega) (by omega) (fun h67 => ?_) (fun h67 => ?_)
        · skip
          refine xp_aload_n rfl rfl ?_
          refine xp_iload_n rfl rfl ?_
          refine xp_iconst (n := 1) rfl (by decide) ?_
          refine xp_isub rfl (by omega) ?_
          refine xp_aload_n rfl rfl ?_
          refine xp_gfa rfl rfl (by decide) (by decide) (by first | assumption | exact hL.t rfl) (by first | assumption | exact hL.r rfl | exact hL.2.2.2.2.2) ?_
          refine xp_iload_n rfl rfl ?_
          refine xp_iald rfl (by first | assumption | exact hL.t rfl) (by omega) (by omega) ?_
          rw [v1]
          refine xp_aload_n rfl rfl ?_
          refine xp_gfa rfl rfl (by decide) (by decide) (by first | assumption | exact hL.t rfl) (by first | assumption | exact hL.r rfl | exact hL.2.2.2.2.2) ?_
          refine xp_iload_n rfl rfl ?_
          refine xp_lald rfl (by first | assumption | exact hL.t rfl) (by omega) (by omega) ?_
          rw [x2, y2]
          refine xp_iv rfl rfl (Nat.le_of_ble_eq_true rfl) (by decide) (by decide) (by decide) (Nat.le_of_ble_eq_true rfl) rfl (xrcv1 (by decide) (by first | assumption | exact hL.t rfl)) (m124 hL (by omega) (by rw [gd]; omega)) rfl ?_
          refine xp_aload_n rfl rfl ?_
          refine xp_gfa rfl rfl (by decide) (by decide) (by first | assumption | exact hL.t rfl) (by first | assumption | exact hL.r rfl | exact hL.2.2.2.2.2) ?_
          refine xp_iload_n rfl rfl ?_
          refine xp_iconst (n := 1) rfl (by decide) ?_
          refine xp_isub rfl (by omega) ?_
          refine xp_dup2 rfl rfl rfl ?_
          refine xp_iald rfl (by first | assumption | exact hL.t rfl) (by omega) (by omega) ?_
          rw [em]
          refine xp_iconst (n := 1) rfl (by decide) ?_
          refine xp_iadd rfl ?_
          refine xp_iast rfl (by first | assumption | exact hL.t rfl) (by omega) (by omega) ?_
          refine xp_iconst (n := 0) rfl (by decide) ?_
          refine xp_ireturn rfl (by decide) (by decide) (by decide) ?_
          exact ⟨_, rfl, hfin⟩
        · exfalso; omega
      · exfalso; omega
theorem l136 {z : Nat} {T : Nat → Option xT} {R : Nat → Nat → Option Nat} {w m a b o : Nat} {P : xR → Prop} (hL : xLay T R w) (hm : m < 15) (ho : o < 24) : ∀ (n : Nat) (B : xQ), n ≤ 2 → n ≤ B.1 205 m → B.1 205 m ≤ 6 → xP 136 95 [(0, .ref 189), (1, .int (nI m)), (2, .int (nI a)), (3, .int (nI b)), (4, .int (nI o))] [] 0 0 (xm z T R (mPas2 m (160 + 3 * o) n B)) P → xP 136 53 [(0, .ref 189), (1, .int (nI m)), (2, .int (nI a)), (3, .int (nI b)), (4, .int (nI o)), (5, .int (nI n - nI 1))] [] 0 0 (xm z T R B) P := by
  intro n
  induction n with
  | zero =>
    intro B hn hn2 h6 hx
    have e0 : nI 0 - nI 1 = nI 4294967295 := by decide
    rw [e0]
    refine xp_iload rfl rfl ?_
    refine xp_iflt 95 rfl (by decide) (by omega) (fun h55 => ?_) (fun h55 => ?_)
    · skip
      refine xp_weak [(0, .ref 189), (1, .int (nI m)), (2, .int (nI a)), (3, .int (nI b)), (4, .int (nI o))] (xle_cons rfl (xle_cons rfl (xle_cons rfl (xle_cons rfl (xle_cons rfl (xle_nil _)))))) (by simp [xnd]) ?_
      exact hx
    · exfalso; omega
  | succ n ih =>
    intro B hn hn2 h6 hx
    have e0 : nI (n + 1) - nI 1 = nI n := by rw [nI_sub (by omega), Nat.add_sub_cancel]
    have e1 : nI n + Int32.ofInt (-1) = nI n - nI 1 := by
      show nI n + (-1) = nI n - 1
      rw [Int32.sub_eq_add_neg]
    have e2 : 10 * m + 3 + B.1 205 m - 0 = 10 * m + 3 + B.1 205 m := by omega
    rw [e0]
    refine xp_iload rfl rfl ?_
    refine xp_iflt 95 rfl (by decide) (by omega) (fun h55 => ?_) (fun h55 => ?_)
    · exfalso; omega
    · skip
      refine xp_aload_n rfl rfl ?_
      refine xp_sipush (n := 160) rfl (by decide) ?_
      refine xp_iconst (n := 3) rfl (by decide) ?_
      refine xp_iload rfl rfl ?_
      refine xp_imul rfl ?_
      refine xp_iadd rfl ?_
      refine xp_iload rfl rfl ?_
      refine xp_iadd rfl ?_
      refine xp_aload_n rfl rfl ?_
      refine xp_iload_n rfl rfl ?_
      refine xp_iconst (n := 0) rfl (by decide) ?_
      refine xp_iv rfl rfl (Nat.le_of_ble_eq_true rfl) (by decide) (by decide) (by decide) (Nat.le_of_ble_eq_true rfl) rfl (xrcv1 (by decide) (by first | assumption | exact hL.t rfl)) (m123 hL hm (by omega)) rfl ?_
      rw [e2]
      refine xp_iv rfl rfl (Nat.le_of_ble_eq_true rfl) (by decide) (by decide) (by decide) (Nat.le_of_ble_eq_true rfl) rfl (xrcv1 (by decide) (by first | assumption | exact hL.t rfl)) (m121 hL (by omega) (by omega)) rfl ?_
      refine xp_aload_n rfl rfl ?_
      refine xp_gfa rfl rfl (by decide) (by decide) (by first | assumption | exact hL.t rfl) (by first | assumption | exact hL.r rfl | exact hL.2.2.2.2.2) ?_
      refine xp_iload_n rfl rfl ?_
      refine xp_dup2 rfl rfl rfl ?_
      refine xp_iald rfl (by first | assumption | exact hL.t rfl) (by omega) (by omega) ?_
      refine xp_iconst (n := 1) rfl (by decide) ?_
      refine xp_isub rfl (by rw [mSet_1 (by omega)]; omega) ?_
      rw [mSet_1 (by omega)]
      refine xp_iast rfl (by first | assumption | exact hL.t rfl) (by omega) (by omega) ?_
      refine xp_iincR rfl rfl (by decide) e1 ?_
      refine xp_goto 53 rfl (by decide) ?_
      refine xp_weak [(0, .ref 189), (1, .int (nI m)), (2, .int (nI a)), (3, .int (nI b)), (4, .int (nI o)), (5, .int (nI n - nI 1))] (xle_cons rfl (xle_cons rfl (xle_cons rfl (xle_cons rfl (xle_cons rfl (xle_cons rfl (xle_nil _))))))) (by simp [xnd]) ?_
      exact ih _ (by omega) (by rw [xsI_eq]; omega) (by rw [xsI_eq]; omega) hx
theorem m136 {z : Nat} {T : Nat → Option xT} {R : Nat → Nat → Option Nat} {A B : xQ} {w t k f m a b : Nat} (hL : xLay T R w) (hc : COk w A) (hR : Rel w A B) (hT : Top w A t k f m) (ha : a < 6) (hb : b ≤ 2) (hs1 : b ≤ A.1 f 3) : ∃ B2, xF 136 [.ref 189, .int (nI m), .int (nI a), .int (nI b)] (xm z T R B) (.inr (some (.int (nI (aOnObj w A f 19 a b).1))), xm z T R B2) ∧ Rel w (aOnObj w A f 19 a b).2 B2 := by
  obtain ⟨b1, b2, b3, b4, b5, b6, b7⟩ := hT.b hc
  have hk := hT.ok hc
  have hd := (hT.g hR).2.2.1
  have hW := hL.w hL.1
  have h0 := hc.1
  have hn0 : A.1 w 2 ≠ 0 := by have := hT.1; omega
  obtain ⟨B1, g1, hR1⟩ := m131 (z := z) hL hc hR hn0
  obtain ⟨hC1, ch1, k1, k2⟩ := hc.room hW
  have hT1 : Top w (aRoom w A) t k f m := ⟨by rw [k1 _ _ (by omega)]; exact hT.1, by rw [k1 _ _ (by omega)]; exact hT.2.1, hT.2.2⟩
  have e3 : (aRoom w A).1 f 3 = A.1 f 3 := k1 _ _ (by omega)
  have hd1 := (hT1.g hR1).2.2.1
  rw [e3] at hd1
  show ∃ B2, xF 136 _ _ (.inr (some (.int (nI (if (aRoom w A).1 (w + 2) 4 < 24 then aClosure w (aRoom w A) f a b else (4, aRoom w A)).1))), _) ∧ Rel w (if (aRoom w A).1 (w + 2) 4 < 24 then aClosure w (aRoom w A) f a b else (4, aRoom w A)).2 B2
  by_cases hr : (aRoom w A).1 (w + 2) 4 < 24
  · rw [if_pos hr] at g1 ⊢
    by_cases hq : A.1 f 3 - b = 6
    · have e : aClosure w (aRoom w A) f a b = (6, aRoom w A) := by unfold aClosure; rw [if_pos (by rw [e3]; exact hq)]
      rw [e]
      refine xF_x (xF_p (Nat.le_of_ble_eq_true rfl) ?_)
      refine xp_aload_n rfl rfl ?_
      refine xp_iv rfl rfl (Nat.le_of_ble_eq_true rfl) (by decide) (by decide) (by decide) (Nat.le_of_ble_eq_true rfl) rfl (xrcv1 (by decide) (by first | assumption | exact hL.t rfl)) (g1) rfl ?_
      refine xp_ifeq 9 rfl (by decide) (by omega) (fun h4 => ?_) (fun h4 => ?_)
      · skip
        refine xp_aload_n rfl rfl ?_
        refine xp_gfa rfl rfl (by decide) (by decide) (by first | assumption | exact hL.t rfl) (by first | assumption | exact hL.r rfl | exact hL.2.2.2.2.2) ?_
        refine xp_iload_n rfl rfl ?_
        refine xp_iald rfl (by first | assumption | exact hL.t rfl) (by omega) (by omega) ?_
        rw [hd1]
        refine xp_iload_n rfl rfl ?_
        refine xp_isub rfl (by omega) ?_
        refine xp_bipush (n := 6) rfl (by decide) ?_
        refine xp_icne 25 rfl (by decide) (by omega) (by omega) (fun h19 => ?_) (fun h19 => ?_)
        · exfalso; omega
        · skip
          refine xp_bipush (n := 6) rfl (by decide) ?_
          refine xp_ireturn rfl (by decide) (by decide) (by decide) ?_
          exact ⟨_, rfl, hR1⟩
      · exfalso; omega
    · obtain ⟨o1, o2, o3, o4⟩ := hR1.free hC1 hr
      obtain ⟨o, ho⟩ : ∃ o, aFree w (aRoom w A) 23 0 = o := ⟨_, rfl⟩
      obtain ⟨z1, z2⟩ := hR1.closure (fn := a) (n := b) hC1 hT1 hr ho ha hb (by rw [e3]; exact hs1) (by rw [e3]; omega)
      rw [ho] at o1 o2 o3 o4
      rw [z1]
      have x1 : (xsI (xsI (mMakeAt B1 o 4) 211 o a) 212 o b).1 205 m = A.1 f 3 := by rw [xsI_ne (by omega), xsI_ne (by omega), (mMakeAt_r B1 o 4).1 _ _ (by omega) (by omega) (by omega) (by omega) (by omega), hd1]
      obtain ⟨s1, s2, s3, s4⟩ := mPas2_r (f := m) (v := 160 + 3 * o) b3 (by omega) b (xsI (xsI (mMakeAt B1 o 4) 211 o a) 212 o b) (by omega) (by omega)
      refine xF_x (xF_p (Nat.le_of_ble_eq_true rfl) ?_)
      refine xp_aload_n rfl rfl ?_
      refine xp_iv rfl rfl (Nat.le_of_ble_eq_true rfl) (by decide) (by decide) (by decide) (Nat.le_of_ble_eq_true rfl) rfl (xrcv1 (by decide) (by first | assumption | exact hL.t rfl)) (g1) rfl ?_
      refine xp_ifeq 9 rfl (by decide) (by omega) (fun h4 => ?_) (fun h4 => ?_)
      · skip
        refine xp_aload_n rfl rfl ?_
        refine xp_gfa rfl rfl (by decide) (by decide) (by first | assumption | exact hL.t rfl) (by first | assumption | exact hL.r rfl | exact hL.2.2.2.2.2) ?_
        refine xp_iload_n rfl rfl ?_
        refine xp_iald rfl (by first | assumption | exact hL.t rfl) (by omega) (by omega) ?_
        rw [hd1]
        refine xp_iload_n rfl rfl ?_
        refine xp_isub rfl (by omega) ?_
        refine xp_bipush (n := 6) rfl (by decide) ?_
        refine xp_icne 25 rfl (by decide) (by omega) (by omega) (fun h19 => ?_) (fun h19 => ?_)
        · skip
          refine xp_aload_n rfl rfl ?_
          refine xp_iconst (n := 4) rfl (by decide) ?_
          refine xp_iv rfl rfl (Nat.le_of_ble_eq_true rfl) (by decide) (by decide) (by decide) (Nat.le_of_ble_eq_true rfl) rfl (xrcv1 (by decide) (by first | assumption | exact hL.t rfl)) (m132 hL o1 o3 o4) rfl ?_
          refine xp_istore rfl (by decide) ?_
          refine xp_aload_n rfl rfl ?_
          refine xp_gfa rfl rfl (by decide) (by decide) (by first | assumption | exact hL.t rfl) (by first | assumption | exact hL.r rfl | exact hL.2.2.2.2.2) ?_
          refine xp_iload rfl rfl ?_
          refine xp_iload_n rfl rfl ?_
          refine xp_iast rfl (by first | assumption | exact hL.t rfl) (by omega) (by omega) ?_
          refine xp_aload_n rfl rfl ?_
          refine xp_gfa rfl rfl (by decide) (by decide) (by first | assumption | exact hL.t rfl) (by first | assumption | exact hL.r rfl | exact hL.2.2.2.2.2) ?_
          refine xp_iload rfl rfl ?_
          refine xp_iload_n rfl rfl ?_
          refine xp_iast rfl (by first | assumption | exact hL.t rfl) (by omega) (by omega) ?_
          refine xp_iload_n rfl rfl ?_
          refine xp_iconst (n := 1) rfl (by decide) ?_
          refine xp_isubR rfl ?_
          refine xp_istore rfl (by decide) ?_
          refine xp_weak [(0, .ref 189), (1, .int (nI m)), (2, .int (nI a)), (3, .int (nI b)), (4, .int (nI o)), (5, .int (nI b - nI 1))] (xle_cons rfl (xle_cons rfl (xle_cons rfl (xle_cons rfl (xle_cons rfl (xle_cons rfl (xle_nil _))))))) (by simp [xnd]) ?_
          refine l136 hL b3 o1 b _ hb (by omega) (by omega) ?_
          refine xp_aload_n rfl rfl ?_
          refine xp_iload_n rfl rfl ?_
          refine xp_iconst (n := 4) rfl (by decide) ?_
          refine xp_iload rfl rfl ?_
          refine xp_i2l rfl ?_
          rw [nI_l (by omega)]
          refine xp_iv rfl rfl (Nat.le_of_ble_eq_true rfl) (by decide) (by decide) (by decide) (Nat.le_of_ble_eq_true rfl) rfl (xrcv1 (by decide) (by first | assumption | exact hL.t rfl)) (m124 hL b3 (by rw [s3]; omega)) rfl ?_
          refine xp_iconst (n := 0) rfl (by decide) ?_
          refine xp_ireturn rfl (by decide) (by decide) (by decide) ?_
          exact ⟨_, rfl, z2⟩
        · exfalso; omega
      · exfalso; omega
  · rw [if_neg hr] at g1 ⊢
    refine xF_x (xF_p (Nat.le_of_ble_eq_true rfl) ?_)
    refine xp_aload_n rfl rfl ?_
    refine xp_iv rfl rfl (Nat.le_of_ble_eq_true rfl) (by decide) (by decide) (by decide) (Nat.le_of_ble_eq_true rfl) rfl (xrcv1 (by decide) (by first | assumption | exact hL.t rfl)) (g1) rfl ?_
    refine xp_ifeq 9 rfl (by decide) (by omega) (fun h4 => ?_) (fun h4 => ?_)
    · exfalso; omega
    · skip
      refine xp_iconst (n := 4) rfl (by decide) ?_
      refine xp_ireturn rfl (by decide) (by decide) (by decide) ?_
      exact ⟨_, rfl, hR1⟩
theorem m142_1 {z : Nat} {T : Nat → Option xT} {R : Nat → Nat → Option Nat} {A B : xQ} {w t k f m a b : Nat} (hL : xLay T R w) (hc : COk w A) (hR : Rel w A B) (hT : Top w A t k f m) : ∃ B2, xF 142 [.ref 189, .int (nI m), .int (nI 1), .int (nI a), .int (nI b)] (xm z T R B) (.inr (some (.int (nI (aInLine w A f 1 a b).1))), xm z T R B2) ∧ Rel w (aInLine w A f 1 a b).2 B2 := by
  obtain ⟨b1, b2, b3, b4, b5, b6, b7⟩ := hT.b hc
  have hk := hT.ok hc
  have hd := (hT.g hR).2.2.1
  by_cases h6 : A.1 f 3 = 6
  · have e : aInLine w A f 1 a b = (6, A) := by
      show aPush A f 1 (nI a).toInt64 = _
      unfold aPush; rw [if_neg (by omega)]
    rw [e]
    refine xF_x (xF_p (Nat.le_of_ble_eq_true rfl) ?_)
    refine xp_iload_n rfl rfl ?_
    refine xp_bipush (n := 20) rfl (by decide) ?_
    refine xp_icne 32 rfl (by decide) (by omega) (by omega) (fun h3 => ?_) (fun h3 => ?_)
    · skip
      refine xp_iload_n rfl rfl ?_
      refine xp_bipush (n := 16) rfl (by decide) ?_
      refine xp_icne 47 rfl (by decide) (by omega) (by omega) (fun h35 => ?_) (fun h35 => ?_)
      · skip
        refine xp_aload_n rfl rfl ?_
        refine xp_gfa rfl rfl (by decide) (by decide) (by first | assumption | exact hL.t rfl) (by first | assumption | exact hL.r rfl | exact hL.2.2.2.2.2) ?_
        refine xp_iload_n rfl rfl ?_
        refine xp_iald rfl (by first | assumption | exact hL.t rfl) (by omega) (by omega) ?_
        rw [hd]
        refine xp_bipush (n := 6) rfl (by decide) ?_
        refine xp_icne 61 rfl (by decide) (by omega) (by omega) (fun h55 => ?_) (fun h55 => ?_)
        · exfalso; omega
        · skip
          refine xp_bipush (n := 6) rfl (by decide) ?_
          refine xp_ireturn rfl (by decide) (by decide) (by decide) ?_
          exact ⟨_, rfl, hR⟩
      · exfalso; omega
    · exfalso; omega
  · have e : aInLine w A f 1 a b = (0, xpu A f 1 (nI a).toInt64) := by
      show aPush A f 1 (nI a).toInt64 = _
      unfold aPush; rw [if_pos (by omega)]
    rw [e]
    have hfin := hR.push (q := 1) (v := (nI a).toInt64) hc hT (by omega)
    refine xF_x (xF_p (Nat.le_of_ble_eq_true rfl) ?_)
    refine xp_iload_n rfl rfl ?_
    refine xp_bipush (n := 20) rfl (by decide) ?_
    refine xp_icne 32 rfl (by decide) (by omega) (by omega) (fun h3 => ?_) (fun h3 => ?_)
    · skip
      refine xp_iload_n rfl rfl ?_
      refine xp_bipush (n := 16) rfl (by decide) ?_
      refine xp_icne 47 rfl (by decide) (by omega) (by omega) (fun h35 => ?_) (fun h35 => ?_)
      · skip
        refine xp_aload_n rfl rfl ?_
        refine xp_gfa rfl rfl (by decide) (by decide) (by first | assumption | exact hL.t rfl) (by first | assumption | exact hL.r rfl | exact hL.2.2.2.2.2) ?_
        refine xp_iload_n rfl rfl ?_
        refine xp_iald rfl (by first | assumption | exact hL.t rfl) (by omega) (by omega) ?_
        rw [hd]
        refine xp_bipush (n := 6) rfl (by decide) ?_
        refine xp_icne 61 rfl (by decide) (by omega) (by omega) (fun h55 => ?_) (fun h55 => ?_)
        · skip
          refine xp_iload_n rfl rfl ?_
          refine xp_iconst (n := 1) rfl (by decide) ?_
          refine xp_icne 77 rfl (by decide) (by omega) (by omega) (fun h63 => ?_) (fun h63 => ?_)
          · exfalso; omega
          · skip
            refine xp_aload_n rfl rfl ?_
            refine xp_iload_n rfl rfl ?_
            refine xp_iconst (n := 1) rfl (by decide) ?_
            refine xp_iload_n rfl rfl ?_
            refine xp_i2l rfl ?_
            refine xp_iv rfl rfl (Nat.le_of_ble_eq_true rfl) (by decide) (by decide) (by decide) (Nat.le_of_ble_eq_true rfl) rfl (xrcv1 (by decide) (by first | assumption | exact hL.t rfl)) (m124 hL b3 (by omega)) rfl ?_
            refine xp_goto 204 rfl (by decide) ?_
            refine xp_iconst (n := 0) rfl (by decide) ?_
            refine xp_ireturn rfl (by decide) (by decide) (by decide) ?_
            exact ⟨_, rfl, hfin⟩
        · exfalso; omega
      · exfalso; omega
    · exfalso; omega
theorem m142_2 {z : Nat} {T : Nat → Option xT} {R : Nat → Nat → Option Nat} {A B : xQ} {w t k f m a b : Nat} (hL : xLay T R w) (hc : COk w A) (hR : Rel w A B) (hT : Top w A t k f m) : ∃ B2, xF 142 [.ref 189, .int (nI m), .int (nI 2), .int (nI a), .int (nI b)] (xm z T R B) (.inr (some (.int (nI (aInLine w A f 2 a b).1))), xm z T R B2) ∧ Rel w (aInLine w A f 2 a b).2 B2 := by
  obtain ⟨b1, b2, b3, b4, b5, b6, b7⟩ := hT.b hc
  have hk := hT.ok hc
  have hd := (hT.g hR).2.2.1
  by_cases h6 : A.1 f 3 = 6
  · have e : aInLine w A f 2 a b = (6, A) := by
      show aPush A f 2 (((nI a).toInt64 <<< ((nI 32).toInt64 &&& 63)) + (nI b).toInt64) = _
      unfold aPush; rw [if_neg (by omega)]
    rw [e]
    refine xF_x (xF_p (Nat.le_of_ble_eq_true rfl) ?_)
    refine xp_iload_n rfl rfl ?_
    refine xp_bipush (n := 20) rfl (by decide) ?_
    refine xp_icne 32 rfl (by decide) (by omega) (by omega) (fun h3 => ?_) (fun h3 => ?_)
    · skip
      refine xp_iload_n rfl rfl ?_
      refine xp_bipush (n := 16) rfl (by decide) ?_
      refine xp_icne 47 rfl (by decide) (by omega) (by omega) (fun h35 => ?_) (fun h35 => ?_)
      · skip
        refine xp_aload_n rfl rfl ?_
        refine xp_gfa rfl rfl (by decide) (by decide) (by first | assumption | exact hL.t rfl) (by first | assumption | exact hL.r rfl | exact hL.2.2.2.2.2) ?_
        refine xp_iload_n rfl rfl ?_
        refine xp_iald rfl (by first | assumption | exact hL.t rfl) (by omega) (by omega) ?_
        rw [hd]
        refine xp_bipush (n := 6) rfl (by decide) ?_
        refine xp_icne 61 rfl (by decide) (by omega) (by omega) (fun h55 => ?_) (fun h55 => ?_)
        · exfalso; omega
        · skip
          refine xp_bipush (n := 6) rfl (by decide) ?_
          refine xp_ireturn rfl (by decide) (by decide) (by decide) ?_
          exact ⟨_, rfl, hR⟩
      · exfalso; omega
    · exfalso; omega
  · have e : aInLine w A f 2 a b = (0, xpu A f 2 (((nI a).toInt64 <<< ((nI 32).toInt64 &&& 63)) + (nI b).toInt64)) := by
      show aPush A f 2 (((nI a).toInt64 <<< ((nI 32).toInt64 &&& 63)) + (nI b).toInt64) = _
      unfold aPush; rw [if_pos (by omega)]
    rw [e]
    have hfin := hR.push (q := 2) (v := (((nI a).toInt64 <<< ((nI 32).toInt64 &&& 63)) + (nI b).toInt64)) hc hT (by omega)
    refine xF_x (xF_p (Nat.le_of_ble_eq_true rfl) ?_)
    refine xp_iload_n rfl rfl ?_
    refine xp_bipush (n := 20) rfl (by decide) ?_
    refine xp_icne 32 rfl (by decide) (by omega) (by omega) (fun h3 => ?_) (fun h3 => ?_)
    · skip
      refine xp_iload_n rfl rfl ?_
      refine xp_bipush (n := 16) rfl (by decide) ?_
      refine xp_icne 47 rfl (by decide) (by omega) (by omega) (fun h35 => ?_) (fun h35 => ?_)
      · skip
        refine xp_aload_n rfl rfl ?_
        refine xp_gfa rfl rfl (by decide) (by decide) (by first | assumption | exact hL.t rfl) (by first | assumption | exact hL.r rfl | exact hL.2.2.2.2.2) ?_
        refine xp_iload_n rfl rfl ?_
        refine xp_iald rfl (by first | assumption | exact hL.t rfl) (by omega) (by omega) ?_
        rw [hd]
        refine xp_bipush (n := 6) rfl (by decide) ?_
        refine xp_icne 61 rfl (by decide) (by omega) (by omega) (fun h55 => ?_) (fun h55 => ?_)
        · skip
          refine xp_iload_n rfl rfl ?_
          refine xp_iconst (n := 1) rfl (by decide) ?_
          refine xp_icne 77 rfl (by decide) (by omega) (by omega) (fun h63 => ?_) (fun h63 => ?_)
          · skip
            refine xp_iload_n rfl rfl ?_
            refine xp_iconst (n := 2) rfl (by decide) ?_
            refine xp_icne 100 rfl (by decide) (by omega) (by omega) (fun h79 => ?_) (fun h79 => ?_)
            · exfalso; omega
            · skip
              refine xp_aload_n rfl rfl ?_
              refine xp_iload_n rfl rfl ?_
              refine xp_iconst (n := 2) rfl (by decide) ?_
              refine xp_iload_n rfl rfl ?_
              refine xp_i2l rfl ?_
              refine xp_bipush (n := 32) rfl (by decide) ?_
              refine xp_lshl rfl ?_
              refine xp_iload rfl rfl ?_
              refine xp_i2l rfl ?_
              refine xp_ladd rfl ?_
              refine xp_iv rfl rfl (Nat.le_of_ble_eq_true rfl) (by decide) (by decide) (by decide) (Nat.le_of_ble_eq_true rfl) rfl (xrcv1 (by decide) (by first | assumption | exact hL.t rfl)) (m124 hL b3 (by omega)) rfl ?_
              refine xp_goto 204 rfl (by decide) ?_
              refine xp_iconst (n := 0) rfl (by decide) ?_
              refine xp_ireturn rfl (by decide) (by decide) (by decide) ?_
              exact ⟨_, rfl, hfin⟩
          · exfalso; omega
        · exfalso; omega
      · exfalso; omega
    · exfalso; omega
theorem m142_3 {z : Nat} {T : Nat → Option xT} {R : Nat → Nat → Option Nat} {A B : xQ} {w t k f m a b : Nat} (hL : xLay T R w) (hc : COk w A) (hR : Rel w A B) (hT : Top w A t k f m) : ∃ B2, xF 142 [.ref 189, .int (nI m), .int (nI 3), .int (nI a), .int (nI b)] (xm z T R B) (.inr (some (.int (nI (aInLine w A f 3 a b).1))), xm z T R B2) ∧ Rel w (aInLine w A f 3 a b).2 B2 := by
  obtain ⟨b1, b2, b3, b4, b5, b6, b7⟩ := hT.b hc
  have hk := hT.ok hc
  have hd := (hT.g hR).2.2.1
  by_cases h6 : A.1 f 3 = 6
  · have e : aInLine w A f 3 a b = (6, A) := by
      show aPush A f 0 0 = _
      unfold aPush; rw [if_neg (by omega)]
    rw [e]
    refine xF_x (xF_p (Nat.le_of_ble_eq_true rfl) ?_)
    refine xp_iload_n rfl rfl ?_
    refine xp_bipush (n := 20) rfl (by decide) ?_
    refine xp_icne 32 rfl (by decide) (by omega) (by omega) (fun h3 => ?_) (fun h3 => ?_)
    · skip
      refine xp_iload_n rfl rfl ?_
      refine xp_bipush (n := 16) rfl (by decide) ?_
      refine xp_icne 47 rfl (by decide) (by omega) (by omega) (fun h35 => ?_) (fun h35 => ?_)
      · skip
        refine xp_aload_n rfl rfl ?_
        refine xp_gfa rfl rfl (by decide) (by decide) (by first | assumption | exact hL.t rfl) (by first | assumption | exact hL.r rfl | exact hL.2.2.2.2.2) ?_
        refine xp_iload_n rfl rfl ?_
        refine xp_iald rfl (by first | assumption | exact hL.t rfl) (by omega) (by omega) ?_
        rw [hd]
        refine xp_bipush (n := 6) rfl (by decide) ?_
        refine xp_icne 61 rfl (by decide) (by omega) (by omega) (fun h55 => ?_) (fun h55 => ?_)
        · exfalso; omega
        · skip
          refine xp_bipush (n := 6) rfl (by decide) ?_
          refine xp_ireturn rfl (by decide) (by decide) (by decide) ?_
          exact ⟨_, rfl, hR⟩
      · exfalso; omega
    · exfalso; omega
  · have e : aInLine w A f 3 a b = (0, xpu A f 0 0) := by
      show aPush A f 0 0 = _
      unfold aPush; rw [if_pos (by omega)]
    rw [e]
    have hfin := hR.push (q := 0) (v := 0) hc hT (by omega)
    refine xF_x (xF_p (Nat.le_of_ble_eq_true rfl) ?_)
    refine xp_iload_n rfl rfl ?_
    refine xp_bipush (n := 20) rfl (by decide) ?_
    refine xp_icne 32 rfl (by decide) (by omega) (by omega) (fun h3 => ?_) (fun h3 => ?_)
    · skip
      refine xp_iload_n rfl rfl ?_
      refine xp_bipush (n := 16) rfl (by decide) ?_
      refine xp_icne 47 rfl (by decide) (by omega) (by omega) (fun h35 => ?_) (fun h35 => ?_)
      · skip
        refine xp_aload_n rfl rfl ?_
        refine xp_gfa rfl rfl (by decide) (by decide) (by first | assumption | exact hL.t rfl) (by first | assumption | exact hL.r rfl | exact hL.2.2.2.2.2) ?_
        refine xp_iload_n rfl rfl ?_
        refine xp_iald rfl (by first | assumption | exact hL.t rfl) (by omega) (by omega) ?_
        rw [hd]
        refine xp_bipush (n := 6) rfl (by decide) ?_
        refine xp_icne 61 rfl (by decide) (by omega) (by omega) (fun h55 => ?_) (fun h55 => ?_)
        · skip
          refine xp_iload_n rfl rfl ?_
          refine xp_iconst (n := 1) rfl (by decide) ?_
          refine xp_icne 77 rfl (by decide) (by omega) (by omega) (fun h63 => ?_) (fun h63 => ?_)
          · skip
            refine xp_iload_n rfl rfl ?_
            refine xp_iconst (n := 2) rfl (by decide) ?_
            refine xp_icne 100 rfl (by decide) (by omega) (by omega) (fun h79 => ?_) (fun h79 => ?_)
            · skip
              refine xp_iload_n rfl rfl ?_
              refine xp_iconst (n := 3) rfl (by decide) ?_
              refine xp_icne 115 rfl (by decide) (by omega) (by omega) (fun h102 => ?_) (fun h102 => ?_)
              · exfalso; omega
              · skip
                refine xp_aload_n rfl rfl ?_
                refine xp_iload_n rfl rfl ?_
                refine xp_iconst (n := 0) rfl (by decide) ?_
                refine xp_lconst rfl rfl ?_
                refine xp_iv rfl rfl (Nat.le_of_ble_eq_true rfl) (by decide) (by decide) (by decide) (Nat.le_of_ble_eq_true rfl) rfl (xrcv1 (by decide) (by first | assumption | exact hL.t rfl)) (m124 hL b3 (by omega)) rfl ?_
                refine xp_goto 204 rfl (by decide) ?_
                refine xp_iconst (n := 0) rfl (by decide) ?_
                refine xp_ireturn rfl (by decide) (by decide) (by decide) ?_
                exact ⟨_, rfl, hfin⟩
            · exfalso; omega
          · exfalso; omega
        · exfalso; omega
      · exfalso; omega
    · exfalso; omega
theorem m142_4 {z : Nat} {T : Nat → Option xT} {R : Nat → Nat → Option Nat} {A B : xQ} {w t k f m a b : Nat} (hL : xLay T R w) (hc : COk w A) (hR : Rel w A B) (hT : Top w A t k f m) (ha : a ≤ 3) : ∃ B2, xF 142 [.ref 189, .int (nI m), .int (nI 4), .int (nI a), .int (nI b)] (xm z T R B) (.inr (some (.int (nI (aInLine w A f 4 a b).1))), xm z T R B2) ∧ Rel w (aInLine w A f 4 a b).2 B2 := by
  obtain ⟨b1, b2, b3, b4, b5, b6, b7⟩ := hT.b hc
  have hk := hT.ok hc
  have hd := (hT.g hR).2.2.1
  obtain ⟨v1, v2⟩ := (hT.g hR).2.2.2.2 a (by omega)
  by_cases h6 : A.1 f 3 = 6
  · have e : aInLine w A f 4 a b = (6, A) := by
      show aPush A f (A.1 (f + 2) (1 + a)) (A.2 (f + 3) (1 + a)) = _
      unfold aPush; rw [if_neg (by omega)]
    rw [e]
    refine xF_x (xF_p (Nat.le_of_ble_eq_true rfl) ?_)
    refine xp_iload_n rfl rfl ?_
    refine xp_bipush (n := 20) rfl (by decide) ?_
    refine xp_icne 32 rfl (by decide) (by omega) (by omega) (fun h3 => ?_) (fun h3 => ?_)
    · skip
      refine xp_iload_n rfl rfl ?_
      refine xp_bipush (n := 16) rfl (by decide) ?_
      refine xp_icne 47 rfl (by decide) (by omega) (by omega) (fun h35 => ?_) (fun h35 => ?_)
      · skip
        refine xp_aload_n rfl rfl ?_
        refine xp_gfa rfl rfl (by decide) (by decide) (by first | assumption | exact hL.t rfl) (by first | assumption | exact hL.r rfl | exact hL.2.2.2.2.2) ?_
        refine xp_iload_n rfl rfl ?_
        refine xp_iald rfl (by first | assumption | exact hL.t rfl) (by omega) (by omega) ?_
        rw [hd]
        refine xp_bipush (n := 6) rfl (by decide) ?_
        refine xp_icne 61 rfl (by decide) (by omega) (by omega) (fun h55 => ?_) (fun h55 => ?_)
        · exfalso; omega
        · skip
          refine xp_bipush (n := 6) rfl (by decide) ?_
          refine xp_ireturn rfl (by decide) (by decide) (by decide) ?_
          exact ⟨_, rfl, hR⟩
      · exfalso; omega
    · exfalso; omega
  · have e : aInLine w A f 4 a b = (0, xpu A f (A.1 (f + 2) (1 + a)) (A.2 (f + 3) (1 + a))) := by
      show aPush A f (A.1 (f + 2) (1 + a)) (A.2 (f + 3) (1 + a)) = _
      unfold aPush; rw [if_pos (by omega)]
    rw [e]
    have hfin := hR.push (q := (A.1 (f + 2) (1 + a))) (v := (A.2 (f + 3) (1 + a))) hc hT (by omega)
    refine xF_x (xF_p (Nat.le_of_ble_eq_true rfl) ?_)
    refine xp_iload_n rfl rfl ?_
    refine xp_bipush (n := 20) rfl (by decide) ?_
    refine xp_icne 32 rfl (by decide) (by omega) (by omega) (fun h3 => ?_) (fun h3 => ?_)
    · skip
      refine xp_iload_n rfl rfl ?_
      refine xp_bipush (n := 16) rfl (by decide) ?_
      refine xp_icne 47 rfl (by decide) (by omega) (by omega) (fun h35 => ?_) (fun h35 => ?_)
      · skip
        refine xp_aload_n rfl rfl ?_
        refine xp_gfa rfl rfl (by decide) (by decide) (by first | assumption | exact hL.t rfl) (by first | assumption | exact hL.r rfl | exact hL.2.2.2.2.2) ?_
        refine xp_iload_n rfl rfl ?_
        refine xp_iald rfl (by first | assumption | exact hL.t rfl) (by omega) (by omega) ?_
        rw [hd]
        refine xp_bipush (n := 6) rfl (by decide) ?_
        refine xp_icne 61 rfl (by decide) (by omega) (by omega) (fun h55 => ?_) (fun h55 => ?_)
        · skip
          refine xp_iload_n rfl rfl ?_
          refine xp_iconst (n := 1) rfl (by decide) ?_
          refine xp_icne 77 rfl (by decide) (by omega) (by omega) (fun h63 => ?_) (fun h63 => ?_)
          · skip
            refine xp_iload_n rfl rfl ?_
            refine xp_iconst (n := 2) rfl (by decide) ?_
            refine xp_icne 100 rfl (by decide) (by omega) (by omega) (fun h79 => ?_) (fun h79 => ?_)
            · skip
              refine xp_iload_n rfl rfl ?_
              refine xp_iconst (n := 3) rfl (by decide) ?_
              refine xp_icne 115 rfl (by decide) (by omega) (by omega) (fun h102 => ?_) (fun h102 => ?_)
              · skip
                refine xp_iload_n rfl rfl ?_
                refine xp_bipush (n := 16) rfl (by decide) ?_
                refine xp_icne 140 rfl (by decide) (by omega) (by omega) (fun h118 => ?_) (fun h118 => ?_)
                · skip
                  refine xp_iload_n rfl rfl ?_
                  refine xp_iconst (n := 4) rfl (by decide) ?_
                  refine xp_icne 154 rfl (by decide) (by omega) (by omega) (fun h142 => ?_) (fun h142 => ?_)
                  · exfalso; omega
                  · skip
                    refine xp_bipush (n := 10) rfl (by decide) ?_
                    refine xp_iload_n rfl rfl ?_
                    refine xp_imul rfl ?_
                    refine xp_iload_n rfl rfl ?_
                    refine xp_iadd rfl ?_
                    refine xp_goto 183 rfl (by decide) ?_
                    refine xp_istore rfl (by decide) ?_
                    refine xp_aload_n rfl rfl ?_
                    refine xp_iload_n rfl rfl ?_
                    refine xp_aload_n rfl rfl ?_
                    refine xp_gfa rfl rfl (by decide) (by decide) (by first | assumption | exact hL.t rfl) (by first | assumption | exact hL.r rfl | exact hL.2.2.2.2.2) ?_
                    refine xp_iload rfl rfl ?_
                    refine xp_iald rfl (by first | assumption | exact hL.t rfl) (by omega) (by omega) ?_
                    rw [v1]
                    refine xp_aload_n rfl rfl ?_
                    refine xp_gfa rfl rfl (by decide) (by decide) (by first | assumption | exact hL.t rfl) (by first | assumption | exact hL.r rfl | exact hL.2.2.2.2.2) ?_
                    refine xp_iload rfl rfl ?_
                    refine xp_lald rfl (by first | assumption | exact hL.t rfl) (by omega) (by omega) ?_
                    rw [v2]
                    refine xp_iv rfl rfl (Nat.le_of_ble_eq_true rfl) (by decide) (by decide) (by decide) (Nat.le_of_ble_eq_true rfl) rfl (xrcv1 (by decide) (by first | assumption | exact hL.t rfl)) (m124 hL b3 (by omega)) rfl ?_
                    refine xp_iconst (n := 0) rfl (by decide) ?_
                    refine xp_ireturn rfl (by decide) (by decide) (by decide) ?_
                    exact ⟨_, rfl, hfin⟩
                · exfalso; omega
              · exfalso; omega
            · exfalso; omega
          · exfalso; omega
        · exfalso; omega
      · exfalso; omega
    · exfalso; omega
theorem m142_7 {z : Nat} {T : Nat → Option xT} {R : Nat → Nat → Option Nat} {A B : xQ} {w t k f m a b : Nat} (hL : xLay T R w) (hc : COk w A) (hR : Rel w A B) (hT : Top w A t k f m) (h1 : 1 ≤ A.1 f 3) : ∃ B2, xF 142 [.ref 189, .int (nI m), .int (nI 7), .int (nI a), .int (nI b)] (xm z T R B) (.inr (some (.int (nI (aInLine w A f 7 a b).1))), xm z T R B2) ∧ Rel w (aInLine w A f 7 a b).2 B2 := by
  obtain ⟨b1, b2, b3, b4, b5, b6, b7⟩ := hT.b hc
  have hk := hT.ok hc
  have hd := (hT.g hR).2.2.1
  obtain ⟨d0, v1, v2⟩ := hT.y hR h1
  by_cases h6 : A.1 f 3 = 6
  · have e : aInLine w A f 7 a b = (6, A) := by
      show aPush A f (A.1 (f + 2) (4 + A.1 f 3)) (A.2 (f + 3) (4 + A.1 f 3)) = _
      unfold aPush; rw [if_neg (by omega)]
    rw [e]
    refine xF_x (xF_p (Nat.le_of_ble_eq_true rfl) ?_)
    refine xp_iload_n rfl rfl ?_
    refine xp_bipush (n := 20) rfl (by decide) ?_
    refine xp_icne 32 rfl (by decide) (by omega) (by omega) (fun h3 => ?_) (fun h3 => ?_)
    · skip
      refine xp_iload_n rfl rfl ?_
      refine xp_bipush (n := 16) rfl (by decide) ?_
      refine xp_icne 47 rfl (by decide) (by omega) (by omega) (fun h35 => ?_) (fun h35 => ?_)
      · skip
        refine xp_aload_n rfl rfl ?_
        refine xp_gfa rfl rfl (by decide) (by decide) (by first | assumption | exact hL.t rfl) (by first | assumption | exact hL.r rfl | exact hL.2.2.2.2.2) ?_
        refine xp_iload_n rfl rfl ?_
        refine xp_iald rfl (by first | assumption | exact hL.t rfl) (by omega) (by omega) ?_
        rw [hd]
        refine xp_bipush (n := 6) rfl (by decide) ?_
        refine xp_icne 61 rfl (by decide) (by omega) (by omega) (fun h55 => ?_) (fun h55 => ?_)
        · exfalso; omega
        · skip
          refine xp_bipush (n := 6) rfl (by decide) ?_
          refine xp_ireturn rfl (by decide) (by decide) (by decide) ?_
          exact ⟨_, rfl, hR⟩
      · exfalso; omega
    · exfalso; omega
  · have e : aInLine w A f 7 a b = (0, xpu A f (A.1 (f + 2) (4 + A.1 f 3)) (A.2 (f + 3) (4 + A.1 f 3))) := by
      show aPush A f (A.1 (f + 2) (4 + A.1 f 3)) (A.2 (f + 3) (4 + A.1 f 3)) = _
      unfold aPush; rw [if_pos (by omega)]
    rw [e]
    have hfin := hR.push (q := (A.1 (f + 2) (4 + A.1 f 3))) (v := (A.2 (f + 3) (4 + A.1 f 3))) hc hT (by omega)
    refine xF_x (xF_p (Nat.le_of_ble_eq_true rfl) ?_)
    refine xp_iload_n rfl rfl ?_
    refine xp_bipush (n := 20) rfl (by decide) ?_
    refine xp_icne 32 rfl (by decide) (by omega) (by omega) (fun h3 => ?_) (fun h3 => ?_)
    · skip
      refine xp_iload_n rfl rfl ?_
      refine xp_bipush (n := 16) rfl (by decide) ?_
      refine xp_icne 47 rfl (by decide) (by omega) (by omega) (fun h35 => ?_) (fun h35 => ?_)
      · skip
        refine xp_aload_n rfl rfl ?_
        refine xp_gfa rfl rfl (by decide) (by decide) (by first | assumption | exact hL.t rfl) (by first | assumption | exact hL.r rfl | exact hL.2.2.2.2.2) ?_
        refine xp_iload_n rfl rfl ?_
        refine xp_iald rfl (by first | assumption | exact hL.t rfl) (by omega) (by omega) ?_
        rw [hd]
        refine xp_bipush (n := 6) rfl (by decide) ?_
        refine xp_icne 61 rfl (by decide) (by omega) (by omega) (fun h55 => ?_) (fun h55 => ?_)
        · skip
          refine xp_iload_n rfl rfl ?_
          refine xp_iconst (n := 1) rfl (by decide) ?_
          refine xp_icne 77 rfl (by decide) (by omega) (by omega) (fun h63 => ?_) (fun h63 => ?_)
          · skip
            refine xp_iload_n rfl rfl ?_
            refine xp_iconst (n := 2) rfl (by decide) ?_
            refine xp_icne 100 rfl (by decide) (by omega) (by omega) (fun h79 => ?_) (fun h79 => ?_)
            · skip
              refine xp_iload_n rfl rfl ?_
              refine xp_iconst (n := 3) rfl (by decide) ?_
              refine xp_icne 115 rfl (by decide) (by omega) (by omega) (fun h102 => ?_) (fun h102 => ?_)
              · skip
                refine xp_iload_n rfl rfl ?_
                refine xp_bipush (n := 16) rfl (by decide) ?_
                refine xp_icne 140 rfl (by decide) (by omega) (by omega) (fun h118 => ?_) (fun h118 => ?_)
                · skip
                  refine xp_iload_n rfl rfl ?_
                  refine xp_iconst (n := 4) rfl (by decide) ?_
                  refine xp_icne 154 rfl (by decide) (by omega) (by omega) (fun h142 => ?_) (fun h142 => ?_)
                  · skip
                    refine xp_iload_n rfl rfl ?_
                    refine xp_bipush (n := 7) rfl (by decide) ?_
                    refine xp_icne 169 rfl (by decide) (by omega) (by omega) (fun h157 => ?_) (fun h157 => ?_)
                    · exfalso; omega
                    · skip
                      refine xp_aload_n rfl rfl ?_
                      refine xp_iload_n rfl rfl ?_
                      refine xp_iconst (n := 0) rfl (by decide) ?_
                      refine xp_iv rfl rfl (Nat.le_of_ble_eq_true rfl) (by decide) (by decide) (by decide) (Nat.le_of_ble_eq_true rfl) rfl (xrcv1 (by decide) (by first | assumption | exact hL.t rfl)) (m123 hL b3 (by omega)) rfl ?_
                      refine xp_goto 183 rfl (by decide) ?_
                      refine xp_istore rfl (by decide) ?_
                      refine xp_aload_n rfl rfl ?_
                      refine xp_iload_n rfl rfl ?_
                      refine xp_aload_n rfl rfl ?_
                      refine xp_gfa rfl rfl (by decide) (by decide) (by first | assumption | exact hL.t rfl) (by first | assumption | exact hL.r rfl | exact hL.2.2.2.2.2) ?_
                      refine xp_iload rfl rfl ?_
                      refine xp_iald rfl (by first | assumption | exact hL.t rfl) (by omega) (by omega) ?_
                      rw [v1]
                      refine xp_aload_n rfl rfl ?_
                      refine xp_gfa rfl rfl (by decide) (by decide) (by first | assumption | exact hL.t rfl) (by first | assumption | exact hL.r rfl | exact hL.2.2.2.2.2) ?_
                      refine xp_iload rfl rfl ?_
                      refine xp_lald rfl (by first | assumption | exact hL.t rfl) (by omega) (by omega) ?_
                      rw [v2]
                      refine xp_iv rfl rfl (Nat.le_of_ble_eq_true rfl) (by decide) (by decide) (by decide) (Nat.le_of_ble_eq_true rfl) rfl (xrcv1 (by decide) (by first | assumption | exact hL.t rfl)) (m124 hL b3 (by omega)) rfl ?_
                      refine xp_iconst (n := 0) rfl (by decide) ?_
                      refine xp_ireturn rfl (by decide) (by decide) (by decide) ?_
                      exact ⟨_, rfl, hfin⟩
                  · exfalso; omega
                · exfalso; omega
              · exfalso; omega
            · exfalso; omega
          · exfalso; omega
        · exfalso; omega
      · exfalso; omega
    · exfalso; omega
theorem m142_16 {z : Nat} {T : Nat → Option xT} {R : Nat → Nat → Option Nat} {A B : xQ} {w t k f m a b : Nat} (hL : xLay T R w) (hc : COk w A) (hR : Rel w A B) (hT : Top w A t k f m) : ∃ B2, xF 142 [.ref 189, .int (nI m), .int (nI 16), .int (nI a), .int (nI b)] (xm z T R B) (.inr (some (.int (nI (aOnObj w A f 16 a b).1))), xm z T R B2) ∧ Rel w (aOnObj w A f 16 a b).2 B2 := by
  obtain ⟨b1, b2, b3, b4, b5, b6, b7⟩ := hT.b hc
  have hk := hT.ok hc
  have hd := (hT.g hR).2.2.1
  have hW := hL.w hL.1
  have h0 := hc.1
  have hn0 : A.1 w 2 ≠ 0 := by have := hT.1; omega
  obtain ⟨B1, g1, hR1⟩ := m131 (z := z) hL hc hR hn0
  obtain ⟨hC1, ch1, k1, k2⟩ := hc.room hW
  have hT1 : Top w (aRoom w A) t k f m := ⟨by rw [k1 _ _ (by omega)]; exact hT.1, by rw [k1 _ _ (by omega)]; exact hT.2.1, hT.2.2⟩
  have e3 : (aRoom w A).1 f 3 = A.1 f 3 := k1 _ _ (by omega)
  have hd1 := (hT1.g hR1).2.2.1
  rw [e3] at hd1
  show ∃ B2, xF 142 _ _ (.inr (some (.int (nI (if (aRoom w A).1 (w + 2) 4 < 24 then aRecord w (aRoom w A) f else (4, aRoom w A)).1))), _) ∧ Rel w (if (aRoom w A).1 (w + 2) 4 < 24 then aRecord w (aRoom w A) f else (4, aRoom w A)).2 B2
  by_cases hr : (aRoom w A).1 (w + 2) 4 < 24
  · rw [if_pos hr] at g1 ⊢
    by_cases hq : A.1 f 3 = 6
    · have e : aRecord w (aRoom w A) f = (6, aRoom w A) := by unfold aRecord; rw [if_pos (by rw [e3]; exact hq)]
      rw [e]
      refine xF_x (xF_p (Nat.le_of_ble_eq_true rfl) ?_)
      refine xp_iload_n rfl rfl ?_
      refine xp_bipush (n := 20) rfl (by decide) ?_
      refine xp_icne 32 rfl (by decide) (by omega) (by omega) (fun h3 => ?_) (fun h3 => ?_)
      · skip
        refine xp_iload_n rfl rfl ?_
        refine xp_bipush (n := 16) rfl (by decide) ?_
        refine xp_icne 47 rfl (by decide) (by omega) (by omega) (fun h35 => ?_) (fun h35 => ?_)
        · exfalso; omega
        · skip
          refine xp_aload_n rfl rfl ?_
          refine xp_iv rfl rfl (Nat.le_of_ble_eq_true rfl) (by decide) (by decide) (by decide) (Nat.le_of_ble_eq_true rfl) rfl (xrcv1 (by decide) (by first | assumption | exact hL.t rfl)) (g1) rfl ?_
          refine xp_ifeq 47 rfl (by decide) (by omega) (fun h42 => ?_) (fun h42 => ?_)
          · skip
            refine xp_aload_n rfl rfl ?_
            refine xp_gfa rfl rfl (by decide) (by decide) (by first | assumption | exact hL.t rfl) (by first | assumption | exact hL.r rfl | exact hL.2.2.2.2.2) ?_
            refine xp_iload_n rfl rfl ?_
            refine xp_iald rfl (by first | assumption | exact hL.t rfl) (by omega) (by omega) ?_
            rw [hd1]
            refine xp_bipush (n := 6) rfl (by decide) ?_
            refine xp_icne 61 rfl (by decide) (by omega) (by omega) (fun h55 => ?_) (fun h55 => ?_)
            · exfalso; omega
            · skip
              refine xp_bipush (n := 6) rfl (by decide) ?_
              refine xp_ireturn rfl (by decide) (by decide) (by decide) ?_
              exact ⟨_, rfl, hR1⟩
          · exfalso; omega
      · exfalso; omega
    · obtain ⟨o1, o2, o3, o4⟩ := hR1.free hC1 hr
      obtain ⟨o, ho⟩ : ∃ o, aFree w (aRoom w A) 23 0 = o := ⟨_, rfl⟩
      rw [ho] at o1 o2 o3 o4
      have hC2 := hC1.make (k := 3) (fn := 0) (sz := 3) hr (Or.inl ⟨rfl, rfl⟩)
      have hR2 := hR1.make (q := 3) (fn := 0) (sz := 3) (o := o) (B2 := mMakeAt B1 o 3) hC1 (by rw [k1 _ _ (by omega)]; exact hn0) o1 o2 (Or.inl ⟨rfl, rfl⟩) (Or.inl ⟨rfl, rfl⟩)
      have em : aMake w 3 0 3 (aRoom w A) = aMakeAt w 3 0 3 o (aRoom w A) := by unfold aMake; rw [ho]
      rw [em] at hC2
      obtain ⟨r1, r2, r3, r4, r5, r7, r8, r9⟩ := aMakeAt_r w 3 0 3 o (aRoom w A)
      have e4 : (aMakeAt w 3 0 3 o (aRoom w A)).1 f 3 = A.1 f 3 := by rw [r1 _ _ (by omega) (by omega) (by omega) (by omega) (by omega), e3]
      have hT2 : Top w (aMakeAt w 3 0 3 o (aRoom w A)) t k f m := ⟨by rw [r1 _ _ (by omega) (by omega) (by omega) (by omega) (by omega)]; exact hT1.1, by rw [r1 _ _ (by omega) (by omega) (by omega) (by omega) (by omega)]; exact hT1.2.1, hT.2.2⟩
      have hfin := hR2.push (q := 3) (v := lN o) hC2 hT2 (by rw [e4]; omega)
      have e : aRecord w (aRoom w A) f = (0, xpu (aMakeAt w 3 0 3 o (aRoom w A)) f 3 (lN o)) := by
        unfold aRecord
        rw [if_neg (by rw [e3]; exact hq), em, ho]
        unfold aPush
        rw [if_pos (by rw [e4]; omega)]
      rw [e]
      have e5 : (mMakeAt B1 o 3).1 205 m = A.1 f 3 := by rw [(mMakeAt_r B1 o 3).1 _ _ (by omega) (by omega) (by omega) (by omega) (by omega), hd1]
      refine xF_x (xF_p (Nat.le_of_ble_eq_true rfl) ?_)
      refine xp_iload_n rfl rfl ?_
      refine xp_bipush (n := 20) rfl (by decide) ?_
      refine xp_icne 32 rfl (by decide) (by omega) (by omega) (fun h3 => ?_) (fun h3 => ?_)
      · skip
        refine xp_iload_n rfl rfl ?_
        refine xp_bipush (n := 16) rfl (by decide) ?_
        refine xp_icne 47 rfl (by decide) (by omega) (by omega) (fun h35 => ?_) (fun h35 => ?_)
        · exfalso; omega
        · skip
          refine xp_aload_n rfl rfl ?_
          refine xp_iv rfl rfl (Nat.le_of_ble_eq_true rfl) (by decide) (by decide) (by decide) (Nat.le_of_ble_eq_true rfl) rfl (xrcv1 (by decide) (by first | assumption | exact hL.t rfl)) (g1) rfl ?_
          refine xp_ifeq 47 rfl (by decide) (by omega) (fun h42 => ?_) (fun h42 => ?_)
          · skip
            refine xp_aload_n rfl rfl ?_
            refine xp_gfa rfl rfl (by decide) (by decide) (by first | assumption | exact hL.t rfl) (by first | assumption | exact hL.r rfl | exact hL.2.2.2.2.2) ?_
            refine xp_iload_n rfl rfl ?_
            refine xp_iald rfl (by first | assumption | exact hL.t rfl) (by omega) (by omega) ?_
            rw [hd1]
            refine xp_bipush (n := 6) rfl (by decide) ?_
            refine xp_icne 61 rfl (by decide) (by omega) (by omega) (fun h55 => ?_) (fun h55 => ?_)
            · skip
              refine xp_iload_n rfl rfl ?_
              refine xp_iconst (n := 1) rfl (by decide) ?_
              refine xp_icne 77 rfl (by decide) (by omega) (by omega) (fun h63 => ?_) (fun h63 => ?_)
              · skip
                refine xp_iload_n rfl rfl ?_
                refine xp_iconst (n := 2) rfl (by decide) ?_
                refine xp_icne 100 rfl (by decide) (by omega) (by omega) (fun h79 => ?_) (fun h79 => ?_)
                · skip
                  refine xp_iload_n rfl rfl ?_
                  refine xp_iconst (n := 3) rfl (by decide) ?_
                  refine xp_icne 115 rfl (by decide) (by omega) (by omega) (fun h102 => ?_) (fun h102 => ?_)
                  · skip
                    refine xp_iload_n rfl rfl ?_
                    refine xp_bipush (n := 16) rfl (by decide) ?_
                    refine xp_icne 140 rfl (by decide) (by omega) (by omega) (fun h118 => ?_) (fun h118 => ?_)
                    · exfalso; omega
                    · skip
                      refine xp_aload_n rfl rfl ?_
                      refine xp_iconst (n := 3) rfl (by decide) ?_
                      refine xp_iv rfl rfl (Nat.le_of_ble_eq_true rfl) (by decide) (by decide) (by decide) (Nat.le_of_ble_eq_true rfl) rfl (xrcv1 (by decide) (by first | assumption | exact hL.t rfl)) (m132 hL o1 o3 o4) rfl ?_
                      refine xp_istore rfl (by decide) ?_
                      refine xp_aload_n rfl rfl ?_
                      refine xp_iload_n rfl rfl ?_
                      refine xp_iconst (n := 3) rfl (by decide) ?_
                      refine xp_iload rfl rfl ?_
                      refine xp_i2l rfl ?_
                      rw [nI_l (by omega)]
                      refine xp_iv rfl rfl (Nat.le_of_ble_eq_true rfl) (by decide) (by decide) (by decide) (Nat.le_of_ble_eq_true rfl) rfl (xrcv1 (by decide) (by first | assumption | exact hL.t rfl)) (m124 hL b3 (by rw [e5]; omega)) rfl ?_
                      refine xp_goto 204 rfl (by decide) ?_
                      refine xp_iconst (n := 0) rfl (by decide) ?_
                      refine xp_ireturn rfl (by decide) (by decide) (by decide) ?_
                      exact ⟨_, rfl, hfin⟩
                  · exfalso; omega
                · exfalso; omega
              · exfalso; omega
            · exfalso; omega
          · exfalso; omega
      · exfalso; omega
  · rw [if_neg hr] at g1 ⊢
    refine xF_x (xF_p (Nat.le_of_ble_eq_true rfl) ?_)
    refine xp_iload_n rfl rfl ?_
    refine xp_bipush (n := 20) rfl (by decide) ?_
    refine xp_icne 32 rfl (by decide) (by omega) (by omega) (fun h3 => ?_) (fun h3 => ?_)
    · skip
      refine xp_iload_n rfl rfl ?_
      refine xp_bipush (n := 16) rfl (by decide) ?_
      refine xp_icne 47 rfl (by decide) (by omega) (by omega) (fun h35 => ?_) (fun h35 => ?_)
      · exfalso; omega
      · skip
        refine xp_aload_n rfl rfl ?_
        refine xp_iv rfl rfl (Nat.le_of_ble_eq_true rfl) (by decide) (by decide) (by decide) (Nat.le_of_ble_eq_true rfl) rfl (xrcv1 (by decide) (by first | assumption | exact hL.t rfl)) (g1) rfl ?_
        refine xp_ifeq 47 rfl (by decide) (by omega) (fun h42 => ?_) (fun h42 => ?_)
        · exfalso; omega
        · skip
          refine xp_iconst (n := 4) rfl (by decide) ?_
          refine xp_ireturn rfl (by decide) (by decide) (by decide) ?_
          exact ⟨_, rfl, hR1⟩
    · exfalso; omega
theorem m142_20 {z : Nat} {T : Nat → Option xT} {R : Nat → Nat → Option Nat} {A B : xQ} {w t k f m a b : Nat} (hL : xLay T R w) (hc : COk w A) (hR : Rel w A B) (hT : Top w A t k f m) (ha : a ≤ 1) : ∃ B2, xF 142 [.ref 189, .int (nI m), .int (nI 20), .int (nI a), .int (nI b)] (xm z T R B) (.inr (some (.int (nI (aOnObj w A f 20 a b).1))), xm z T R B2) ∧ Rel w (aOnObj w A f 20 a b).2 B2 := by
  obtain ⟨b1, b2, b3, b4, b5, b6, b7⟩ := hT.b hc
  have hk := hT.ok hc
  have hd := (hT.g hR).2.2.1
  show ∃ B2, xF 142 _ _ (.inr (some (.int (nI (aHeld w A f a).1))), _) ∧ Rel w (aHeld w A f a).2 B2
  unfold aHeld
  rcases (hT.g hR).2.2.2.1 with ⟨q1, q2⟩ | ⟨q1, q2⟩
  · rw [if_neg (by omega)]
    refine xF_x (xF_p (Nat.le_of_ble_eq_true rfl) ?_)
    refine xp_iload_n rfl rfl ?_
    refine xp_bipush (n := 20) rfl (by decide) ?_
    refine xp_icne 32 rfl (by decide) (by omega) (by omega) (fun h3 => ?_) (fun h3 => ?_)
    · exfalso; omega
    · skip
      refine xp_aload_n rfl rfl ?_
      refine xp_gfa rfl rfl (by decide) (by decide) (by first | assumption | exact hL.t rfl) (by first | assumption | exact hL.r rfl | exact hL.2.2.2.2.2) ?_
      refine xp_iload_n rfl rfl ?_
      refine xp_iald rfl (by first | assumption | exact hL.t rfl) (by omega) (by omega) ?_
      rw [q2]
      refine xp_iflt 30 rfl (by decide) (by omega) (fun h12 => ?_) (fun h12 => ?_)
      · skip
        refine xp_iconst (n := 3) rfl (by decide) ?_
        refine xp_ireturn rfl (by decide) (by decide) (by decide) ?_
        exact ⟨_, rfl, hR⟩
      · exfalso; omega
  · rw [if_pos q1]
    obtain ⟨o1, o2⟩ := hk.o (c := 0) (by omega) (by omega)
    rw [q1] at o2
    obtain ⟨p1, p2, p3⟩ := (hR.2.2.2.2 _ o1).2.1 (by omega)
    have e212 := (p2 o2).2
    have hsz := ((hc.2.1.2.2 _ o1).2.2.1 o2).2
    obtain ⟨o, ho⟩ : ∃ o, oN (A.2 (f + 3) 0) = o := ⟨_, rfl⟩
    rw [ho] at o1 o2 e212 p3 q2 hsz
    rw [ho]
    by_cases c1 : a < A.1 (w + 5) o
    · rw [if_pos c1]
      obtain ⟨v1, v2⟩ := p3 a c1
      by_cases h6 : A.1 f 3 = 6
      · have e : ∀ q v, aPush A f q v = (6, A) := fun q v => by unfold aPush; rw [if_neg (by omega)]
        rw [e]
        refine xF_x (xF_p (Nat.le_of_ble_eq_true rfl) ?_)
        refine xp_iload_n rfl rfl ?_
        refine xp_bipush (n := 20) rfl (by decide) ?_
        refine xp_icne 32 rfl (by decide) (by omega) (by omega) (fun h3 => ?_) (fun h3 => ?_)
        · exfalso; omega
        · skip
          refine xp_aload_n rfl rfl ?_
          refine xp_gfa rfl rfl (by decide) (by decide) (by first | assumption | exact hL.t rfl) (by first | assumption | exact hL.r rfl | exact hL.2.2.2.2.2) ?_
          refine xp_iload_n rfl rfl ?_
          refine xp_iald rfl (by first | assumption | exact hL.t rfl) (by omega) (by omega) ?_
          rw [q2]
          refine xp_iflt 30 rfl (by decide) (by omega) (fun h12 => ?_) (fun h12 => ?_)
          · exfalso; omega
          · skip
            refine xp_iload_n rfl rfl ?_
            refine xp_aload_n rfl rfl ?_
            refine xp_gfa rfl rfl (by decide) (by decide) (by first | assumption | exact hL.t rfl) (by first | assumption | exact hL.r rfl | exact hL.2.2.2.2.2) ?_
            refine xp_aload_n rfl rfl ?_
            refine xp_gfa rfl rfl (by decide) (by decide) (by first | assumption | exact hL.t rfl) (by first | assumption | exact hL.r rfl | exact hL.2.2.2.2.2) ?_
            refine xp_iload_n rfl rfl ?_
            refine xp_iald rfl (by first | assumption | exact hL.t rfl) (by omega) (by omega) ?_
            rw [q2]
            refine xp_iald rfl (by first | assumption | exact hL.t rfl) (by omega) (by omega) ?_
            rw [e212]
            refine xp_iclt 32 rfl (by decide) (by omega) (by omega) (fun h27 => ?_) (fun h27 => ?_)
            · skip
              refine xp_iload_n rfl rfl ?_
              refine xp_bipush (n := 16) rfl (by decide) ?_
              refine xp_icne 47 rfl (by decide) (by omega) (by omega) (fun h35 => ?_) (fun h35 => ?_)
              · skip
                refine xp_aload_n rfl rfl ?_
                refine xp_gfa rfl rfl (by decide) (by decide) (by first | assumption | exact hL.t rfl) (by first | assumption | exact hL.r rfl | exact hL.2.2.2.2.2) ?_
                refine xp_iload_n rfl rfl ?_
                refine xp_iald rfl (by first | assumption | exact hL.t rfl) (by omega) (by omega) ?_
                rw [hd]
                refine xp_bipush (n := 6) rfl (by decide) ?_
                refine xp_icne 61 rfl (by decide) (by omega) (by omega) (fun h55 => ?_) (fun h55 => ?_)
                · exfalso; omega
                · skip
                  refine xp_bipush (n := 6) rfl (by decide) ?_
                  refine xp_ireturn rfl (by decide) (by decide) (by decide) ?_
                  exact ⟨_, rfl, hR⟩
              · exfalso; omega
            · exfalso; omega
      · have e : ∀ q v, aPush A f q v = (0, xpu A f q v) := fun q v => by unfold aPush; rw [if_pos (by omega)]
        rw [e]
        have hfin := hR.push (q := A.1 (w + 7) (o * 3 + a)) (v := A.2 (w + 8) (o * 3 + a)) hc hT (by omega)
        refine xF_x (xF_p (Nat.le_of_ble_eq_true rfl) ?_)
        refine xp_iload_n rfl rfl ?_
        refine xp_bipush (n := 20) rfl (by decide) ?_
        refine xp_icne 32 rfl (by decide) (by omega) (by omega) (fun h3 => ?_) (fun h3 => ?_)
        · exfalso; omega
        · skip
          refine xp_aload_n rfl rfl ?_
          refine xp_gfa rfl rfl (by decide) (by decide) (by first | assumption | exact hL.t rfl) (by first | assumption | exact hL.r rfl | exact hL.2.2.2.2.2) ?_
          refine xp_iload_n rfl rfl ?_
          refine xp_iald rfl (by first | assumption | exact hL.t rfl) (by omega) (by omega) ?_
          rw [q2]
          refine xp_iflt 30 rfl (by decide) (by omega) (fun h12 => ?_) (fun h12 => ?_)
          · exfalso; omega
          · skip
            refine xp_iload_n rfl rfl ?_
            refine xp_aload_n rfl rfl ?_
            refine xp_gfa rfl rfl (by decide) (by decide) (by first | assumption | exact hL.t rfl) (by first | assumption | exact hL.r rfl | exact hL.2.2.2.2.2) ?_
            refine xp_aload_n rfl rfl ?_
            refine xp_gfa rfl rfl (by decide) (by decide) (by first | assumption | exact hL.t rfl) (by first | assumption | exact hL.r rfl | exact hL.2.2.2.2.2) ?_
            refine xp_iload_n rfl rfl ?_
            refine xp_iald rfl (by first | assumption | exact hL.t rfl) (by omega) (by omega) ?_
            rw [q2]
            refine xp_iald rfl (by first | assumption | exact hL.t rfl) (by omega) (by omega) ?_
            rw [e212]
            refine xp_iclt 32 rfl (by decide) (by omega) (by omega) (fun h27 => ?_) (fun h27 => ?_)
            · skip
              refine xp_iload_n rfl rfl ?_
              refine xp_bipush (n := 16) rfl (by decide) ?_
              refine xp_icne 47 rfl (by decide) (by omega) (by omega) (fun h35 => ?_) (fun h35 => ?_)
              · skip
                refine xp_aload_n rfl rfl ?_
                refine xp_gfa rfl rfl (by decide) (by decide) (by first | assumption | exact hL.t rfl) (by first | assumption | exact hL.r rfl | exact hL.2.2.2.2.2) ?_
                refine xp_iload_n rfl rfl ?_
                refine xp_iald rfl (by first | assumption | exact hL.t rfl) (by omega) (by omega) ?_
                rw [hd]
                refine xp_bipush (n := 6) rfl (by decide) ?_
                refine xp_icne 61 rfl (by decide) (by omega) (by omega) (fun h55 => ?_) (fun h55 => ?_)
                · skip
                  refine xp_iload_n rfl rfl ?_
                  refine xp_iconst (n := 1) rfl (by decide) ?_
                  refine xp_icne 77 rfl (by decide) (by omega) (by omega) (fun h63 => ?_) (fun h63 => ?_)
                  · skip
                    refine xp_iload_n rfl rfl ?_
                    refine xp_iconst (n := 2) rfl (by decide) ?_
                    refine xp_icne 100 rfl (by decide) (by omega) (by omega) (fun h79 => ?_) (fun h79 => ?_)
                    · skip
                      refine xp_iload_n rfl rfl ?_
                      refine xp_iconst (n := 3) rfl (by decide) ?_
                      refine xp_icne 115 rfl (by decide) (by omega) (by omega) (fun h102 => ?_) (fun h102 => ?_)
                      · skip
                        refine xp_iload_n rfl rfl ?_
                        refine xp_bipush (n := 16) rfl (by decide) ?_
                        refine xp_icne 140 rfl (by decide) (by omega) (by omega) (fun h118 => ?_) (fun h118 => ?_)
                        · skip
                          refine xp_iload_n rfl rfl ?_
                          refine xp_iconst (n := 4) rfl (by decide) ?_
                          refine xp_icne 154 rfl (by decide) (by omega) (by omega) (fun h142 => ?_) (fun h142 => ?_)
                          · skip
                            refine xp_iload_n rfl rfl ?_
                            refine xp_bipush (n := 7) rfl (by decide) ?_
                            refine xp_icne 169 rfl (by decide) (by omega) (by omega) (fun h157 => ?_) (fun h157 => ?_)
                            · skip
                              refine xp_sipush (n := 160) rfl (by decide) ?_
                              refine xp_iconst (n := 3) rfl (by decide) ?_
                              refine xp_aload_n rfl rfl ?_
                              refine xp_gfa rfl rfl (by decide) (by decide) (by first | assumption | exact hL.t rfl) (by first | assumption | exact hL.r rfl | exact hL.2.2.2.2.2) ?_
                              refine xp_iload_n rfl rfl ?_
                              refine xp_iald rfl (by first | assumption | exact hL.t rfl) (by omega) (by omega) ?_
                              rw [q2]
                              refine xp_imul rfl ?_
                              refine xp_iadd rfl ?_
                              refine xp_iload_n rfl rfl ?_
                              refine xp_iadd rfl ?_
                              refine xp_istore rfl (by decide) ?_
                              refine xp_aload_n rfl rfl ?_
                              refine xp_iload_n rfl rfl ?_
                              refine xp_aload_n rfl rfl ?_
                              refine xp_gfa rfl rfl (by decide) (by decide) (by first | assumption | exact hL.t rfl) (by first | assumption | exact hL.r rfl | exact hL.2.2.2.2.2) ?_
                              refine xp_iload rfl rfl ?_
                              refine xp_iald rfl (by first | assumption | exact hL.t rfl) (by omega) (by omega) ?_
                              rw [v1]
                              refine xp_aload_n rfl rfl ?_
                              refine xp_gfa rfl rfl (by decide) (by decide) (by first | assumption | exact hL.t rfl) (by first | assumption | exact hL.r rfl | exact hL.2.2.2.2.2) ?_
                              refine xp_iload rfl rfl ?_
                              refine xp_lald rfl (by first | assumption | exact hL.t rfl) (by omega) (by omega) ?_
                              rw [v2]
                              refine xp_iv rfl rfl (Nat.le_of_ble_eq_true rfl) (by decide) (by decide) (by decide) (Nat.le_of_ble_eq_true rfl) rfl (xrcv1 (by decide) (by first | assumption | exact hL.t rfl)) (m124 hL b3 (by omega)) rfl ?_
                              refine xp_iconst (n := 0) rfl (by decide) ?_
                              refine xp_ireturn rfl (by decide) (by decide) (by decide) ?_
                              exact ⟨_, rfl, hfin⟩
                            · exfalso; omega
                          · exfalso; omega
                        · exfalso; omega
                      · exfalso; omega
                    · exfalso; omega
                  · exfalso; omega
                · exfalso; omega
              · exfalso; omega
            · exfalso; omega
    · rw [if_neg c1]
      refine xF_x (xF_p (Nat.le_of_ble_eq_true rfl) ?_)
      refine xp_iload_n rfl rfl ?_
      refine xp_bipush (n := 20) rfl (by decide) ?_
      refine xp_icne 32 rfl (by decide) (by omega) (by omega) (fun h3 => ?_) (fun h3 => ?_)
      · exfalso; omega
      · skip
        refine xp_aload_n rfl rfl ?_
        refine xp_gfa rfl rfl (by decide) (by decide) (by first | assumption | exact hL.t rfl) (by first | assumption | exact hL.r rfl | exact hL.2.2.2.2.2) ?_
        refine xp_iload_n rfl rfl ?_
        refine xp_iald rfl (by first | assumption | exact hL.t rfl) (by omega) (by omega) ?_
        rw [q2]
        refine xp_iflt 30 rfl (by decide) (by omega) (fun h12 => ?_) (fun h12 => ?_)
        · exfalso; omega
        · skip
          refine xp_iload_n rfl rfl ?_
          refine xp_aload_n rfl rfl ?_
          refine xp_gfa rfl rfl (by decide) (by decide) (by first | assumption | exact hL.t rfl) (by first | assumption | exact hL.r rfl | exact hL.2.2.2.2.2) ?_
          refine xp_aload_n rfl rfl ?_
          refine xp_gfa rfl rfl (by decide) (by decide) (by first | assumption | exact hL.t rfl) (by first | assumption | exact hL.r rfl | exact hL.2.2.2.2.2) ?_
          refine xp_iload_n rfl rfl ?_
          refine xp_iald rfl (by first | assumption | exact hL.t rfl) (by omega) (by omega) ?_
          rw [q2]
          refine xp_iald rfl (by first | assumption | exact hL.t rfl) (by omega) (by omega) ?_
          rw [e212]
          refine xp_iclt 32 rfl (by decide) (by omega) (by omega) (fun h27 => ?_) (fun h27 => ?_)
          · exfalso; omega
          · skip
            refine xp_iconst (n := 3) rfl (by decide) ?_
            refine xp_ireturn rfl (by decide) (by decide) (by decide) ?_
            exact ⟨_, rfl, hR⟩
