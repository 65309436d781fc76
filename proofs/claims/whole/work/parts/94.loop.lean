-- THE LAW'S LOOP
theorem xsJ_self {A : xQ} {a k : Nat} : xsJ A a k (A.2 a k) = A := by
  refine Prod.ext rfl (funext fun b => funext fun j => ?_)
  show x2 A.2 a k (A.2 a k) b j = A.2 b j
  unfold x2
  split
  · next h =>
    split
    · next h2 => rw [h, h2]
    · rfl
  · rfl
theorem arm_int {y ym yw : Nat} {l : List (Nat × Nat)} {as aw : List Value} (hp : Pub y ym (mpO l) as) (hret : xc_ret ym = 1) (hyM : yM ym = true)
    (wr : ∀ (z z1 : Nat) (T : Nat → Option xT) (R R1 : Nat → Nat → Option Nat) (A A1 : xQ) (w w1 : Nat) (v : Int32), xLay T R w → xLay T R1 w1 → xF y (.ref 0 :: as) (xm z T R A) (.inr (some (.int v)), xm z1 T R1 A1) → xF yw aw (xm z T R A) (.inr (some (.int (nI 0))), xm z1 T R1 (xsJ A1 229 0 v.toInt64)))
    (we : ∀ (z z1 : Nat) (T : Nat → Option xT) (R R1 : Nat → Nat → Option Nat) (A A1 : xQ) (w : Nat) (p : Nat × Nat), p ∈ l → xLay T R w → xF y (.ref 0 :: as) (xm z T R A) (.inl p.1, xm z1 T R1 A1) → z1 ≤ 1000000 → xF yw aw (xm z T R A) (.inr (some (.int (nI p.2))), xm z1 T R1 A1) ∧ p.2 < 4) {z : Nat} {T : Nat → Option xT} {R : Nat → Nat → Option Nat} {w n : Nat} {A : xQ} (hn : n ≤ 512) (hI : Inv T R w n A) (hz : z + 1 ≤ 1000000) : ∃ (code z1 : Nat) (R1 : Nat → Nat → Option Nat) (w1 : Nat) (A1 : xQ) (x : Int32) (A2 : xQ), xF yw aw (xm z T R A) (.inr (some (.int (nI code))), xm z1 T R1 A1) ∧ z1 ≤ z + 1 ∧ code < 4 ∧ xF ym (.ref 189 :: as) (xm z1 T R1 A1) (.inr (some (.int x)), xm z1 T R1 A2) ∧ nI (A2.1 189 14) = nI code ∧ (code = 0 → A2.2 229 0 = x.toInt64) ∧ xLay T R1 w1 ∧ Inv T R1 w1 (n + 1) A2 := by
  obtain ⟨rc, z1, R1, w1, A1, hc, hrc, href⟩ := hp z T R w n A hn hI
  have hL := hI.1
  have rtx : ∀ (S : xS) (vm : Value) (S1 : xS), xF ym (.ref 189 :: as) S (.inr (some vm), S1) → ∃ x, vm = .int x := fun S vm S1 h => (xF_rt hyM h vm rfl).1 hret
  rcases hrc with ⟨ex, h1, h2, h3⟩ | ⟨v, h1, h2, h3⟩
  · obtain ⟨p, p1, p2, p3⟩ := mpO_in h2
    obtain ⟨vm, A2, g1, g2, g3, g4, g5⟩ := href (A1.2 229 0)
    rw [xsJ_self] at g1
    obtain ⟨x, hx⟩ := rtx _ _ _ g1
    subst hx
    rw [h1, ← p2] at hc
    obtain ⟨w1', w2'⟩ := we z z1 T R R1 A A1 w p p1 hL hc (by omega)
    refine ⟨p.2, z1, R1, w1, A1, x, A2, w1', by omega, w2', g1, ?_, fun q => ?_, g5.1, g5⟩
    · rw [g3 ex h1]
      show nI ((l.lookup ex).getD 0) = _
      rw [p3]
    · exact absurd (p3.symm.trans q) h2
  · obtain ⟨vm0, A20, k1, -, -, k4, k5⟩ := href 0
    obtain ⟨x, hx⟩ := rtx _ _ _ k1
    have hv : v = .int x := (k4 v h1).2.symm.trans hx
    subst hv
    rw [h1] at hc
    have hw := wr z z1 T R R1 A A1 w w1 x hL k5.1 hc
    obtain ⟨vm, A2, g1, g2, g3, g4, g5⟩ := href (x.toInt64)
    obtain ⟨q1, q2⟩ := g4 _ h1
    subst q2
    exact ⟨0, z1, R1, w1, _, x, A2, hw, by omega, by omega, g1, q1, fun _ => g2, g5.1, g5⟩
theorem arm_long {y ym yw : Nat} {l : List (Nat × Nat)} {as aw : List Value} (hp : Pub y ym (mpO l) as) (hret : xc_ret ym = 3) (hyM : yM ym = true)
    (wr : ∀ (z z1 : Nat) (T : Nat → Option xT) (R R1 : Nat → Nat → Option Nat) (A A1 : xQ) (w w1 : Nat) (v : Int64), xLay T R w → xLay T R1 w1 → xF y (.ref 0 :: as) (xm z T R A) (.inr (some (.long v)), xm z1 T R1 A1) → xF yw aw (xm z T R A) (.inr (some (.int (nI 0))), xm z1 T R1 (xsJ A1 229 0 v)))
    (we : ∀ (z z1 : Nat) (T : Nat → Option xT) (R R1 : Nat → Nat → Option Nat) (A A1 : xQ) (w : Nat) (p : Nat × Nat), p ∈ l → xLay T R w → xF y (.ref 0 :: as) (xm z T R A) (.inl p.1, xm z1 T R1 A1) → z1 ≤ 1000000 → xF yw aw (xm z T R A) (.inr (some (.int (nI p.2))), xm z1 T R1 A1) ∧ p.2 < 4) {z : Nat} {T : Nat → Option xT} {R : Nat → Nat → Option Nat} {w n : Nat} {A : xQ} (hn : n ≤ 512) (hI : Inv T R w n A) (hz : z + 1 ≤ 1000000) : ∃ (code z1 : Nat) (R1 : Nat → Nat → Option Nat) (w1 : Nat) (A1 : xQ) (x : Int64) (A2 : xQ), xF yw aw (xm z T R A) (.inr (some (.int (nI code))), xm z1 T R1 A1) ∧ z1 ≤ z + 1 ∧ code < 4 ∧ xF ym (.ref 189 :: as) (xm z1 T R1 A1) (.inr (some (.long x)), xm z1 T R1 A2) ∧ nI (A2.1 189 14) = nI code ∧ (code = 0 → A2.2 229 0 = x) ∧ xLay T R1 w1 ∧ Inv T R1 w1 (n + 1) A2 := by
  obtain ⟨rc, z1, R1, w1, A1, hc, hrc, href⟩ := hp z T R w n A hn hI
  have hL := hI.1
  have rtx : ∀ (S : xS) (vm : Value) (S1 : xS), xF ym (.ref 189 :: as) S (.inr (some vm), S1) → ∃ x, vm = .long x := fun S vm S1 h => (xF_rt hyM h vm rfl).2 hret
  rcases hrc with ⟨ex, h1, h2, h3⟩ | ⟨v, h1, h2, h3⟩
  · obtain ⟨p, p1, p2, p3⟩ := mpO_in h2
    obtain ⟨vm, A2, g1, g2, g3, g4, g5⟩ := href (A1.2 229 0)
    rw [xsJ_self] at g1
    obtain ⟨x, hx⟩ := rtx _ _ _ g1
    subst hx
    rw [h1, ← p2] at hc
    obtain ⟨w1', w2'⟩ := we z z1 T R R1 A A1 w p p1 hL hc (by omega)
    refine ⟨p.2, z1, R1, w1, A1, x, A2, w1', by omega, w2', g1, ?_, fun q => ?_, g5.1, g5⟩
    · rw [g3 ex h1]
      show nI ((l.lookup ex).getD 0) = _
      rw [p3]
    · exact absurd (p3.symm.trans q) h2
  · obtain ⟨vm0, A20, k1, -, -, k4, k5⟩ := href 0
    obtain ⟨x, hx⟩ := rtx _ _ _ k1
    have hv : v = .long x := (k4 v h1).2.symm.trans hx
    subst hv
    rw [h1] at hc
    have hw := wr z z1 T R R1 A A1 w w1 x hL k5.1 hc
    obtain ⟨vm, A2, g1, g2, g3, g4, g5⟩ := href (x)
    obtain ⟨q1, q2⟩ := g4 _ h1
    subst q2
    exact ⟨0, z1, R1, w1, _, x, A2, hw, by omega, by omega, g1, q1, fun _ => g2, g5.1, g5⟩
set_option maxRecDepth 8000 in
theorem law_function {a1 a2 : Nat} {L : Nat} {xs : Nat → Int32} {P : xR → Prop} {z : Nat} {T : Nat → Option xT} {R : Nat → Nat → Option Nat} {w n : Nat} {A : xQ} {c q i k0 : Nat} (hL2 : L ≤ 2560) (hi : i + 5 ≤ L) (hin : i = 5 * n) (hI : Inv T R w n A) (hz : z ≤ 300 + n) (hcb : c ≤ 300 + n) (hqb : q ≤ 40000 + 6 * n) (hN : ∀ (z1 : Nat) (R1 : Nat → Nat → Option Nat) (w1 : Nat) (A1 : xQ) (c1 q1 : Nat), Inv T R1 w1 (n + 1) A1 → z1 ≤ 300 + (n + 1) → c1 ≤ 300 + (n + 1) → q1 ≤ 40000 + 6 * (n + 1) → xPL L xs 23 [(0, .ref 1000003), (1, .ref 0), (2, .ref 189), (3, .ref 229), (4, .int (nI (i + 5)))] [] c1 q1 (xm z1 T R1 A1) P) (e0 : xs i = nI k0) (hop : k0 % 16 = 0) (e1 : xs (i + 1) = nI a1) (l1 : a1 < 2 ^ 32) (e2 : xs (i + 2) = nI a2) (l2 : a2 < 2 ^ 32) : xPL L xs 23 [(0, .ref 1000003), (1, .ref 0), (2, .ref 189), (3, .ref 229), (4, .int (nI i))] [] c q (xm z T R A) P := by
  have hL := hI.1
  have cm : xc_mc 186 = 601024 := rfl
  have cs : xc_ms 186 = 7293034 := rfl
  have m111a : xc_mc 111 = 0 := rfl
  have m111b : xc_ms 111 = 0 := rfl
  have mA : xc_mc 173 = 1 := rfl
  have mB : xc_ms 173 = 6 := rfl
  have mC : xc_mc 114 = 0 := rfl
  have mD : xc_ms 114 = 0 := rfl
  obtain ⟨code, z1, R1, w1, A1, x, A2, h1, h2, h3c, h4, h5, h6, h7, h8⟩ := arm_int (yw := 173) (aw := [.ref 0, .int (nI a1), .int (nI a2), .ref 229]) (pub_function a1 a2 l1 l2) rfl rfl (fun z z1 T R R1 A A1 w w1 v b1 b2 b3 => w173 b1 b2 b3) (fun z z1 T R R1 A A1 w p b0 b1 b2 b3 => by
    simp only [List.mem_cons, List.not_mem_nil, or_false] at b0
    subst b0
    exact ⟨w173_0 b1 b2 b3, by decide⟩) (by omega) hI (z := z) (by omega)
  refine xpL_iload rfl rfl ?_
  refine xpL_aload_n rfl rfl ?_
  refine xpL_ln rfl ?_
  refine xpL_iconst (n := 5) rfl (by decide) ?_
  refine xpL_isub rfl (by omega) ?_
  refine xpL_icgt 977 rfl (by decide) (by omega) (by omega) (fun h29 => ?_) (fun h29 => ?_)
  · exfalso; omega
  · skip
    refine xpL_aload_n rfl rfl ?_
    refine xpL_iload rfl rfl ?_
    refine xpL_ld rfl (by omega) (by omega) ?_
    rw [e0]
    refine xpL_bipush (n := 15) rfl (by decide) ?_
    refine xpL_iand rfl ?_
    rw [nI_and15, hop]
    refine xpL_tsw 108 rfl (by omega) (by first | rfl | (rw [if_pos (by omega)]) | (rw [if_neg (by omega)]; rfl)) (by decide) ?_
    refine xpL_aload_n rfl rfl ?_
    refine xpL_aload_n rfl rfl ?_
    refine xpL_iload rfl rfl ?_
    refine xpL_iconst (n := 1) rfl (by decide) ?_
    refine xpL_iadd rfl ?_
    refine xpL_ld rfl (by omega) (by omega) ?_
    rw [e1]
    refine xpL_aload_n rfl rfl ?_
    refine xpL_iload rfl rfl ?_
    refine xpL_iconst (n := 2) rfl (by decide) ?_
    refine xpL_iadd rfl ?_
    refine xpL_ld rfl (by omega) (by omega) ?_
    rw [e2]
    refine xpL_aload_n rfl rfl ?_
    refine xpL_w rfl rfl (Nat.le_of_ble_eq_true rfl) (by decide) (by omega) (by omega) (Nat.le_of_ble_eq_true rfl) rfl h1 rfl ?_
    refine xpL_istore rfl (by decide) ?_
    refine xpL_aload_n rfl rfl ?_
    refine xpL_aload_n rfl rfl ?_
    refine xpL_iload rfl rfl ?_
    refine xpL_iconst (n := 1) rfl (by decide) ?_
    refine xpL_iadd rfl ?_
    refine xpL_ld rfl (by omega) (by omega) ?_
    rw [e1]
    refine xpL_aload_n rfl rfl ?_
    refine xpL_iload rfl rfl ?_
    refine xpL_iconst (n := 2) rfl (by decide) ?_
    refine xpL_iadd rfl ?_
    refine xpL_ld rfl (by omega) (by omega) ?_
    rw [e2]
    refine xpL_iv rfl rfl (Nat.le_of_ble_eq_true rfl) (by decide) (by omega) (by omega) (Nat.le_of_ble_eq_true rfl) rfl (xrcv1 (by decide) (by first | assumption | exact hL.t rfl)) h4 rfl ?_
    refine xpL_istore rfl (by decide) ?_
    refine xpL_aload_n rfl rfl ?_
    refine xpL_iv rfl rfl (Nat.le_of_ble_eq_true rfl) (by decide) (by omega) (by omega) (Nat.le_of_ble_eq_true rfl) rfl (xrcv1 (by decide) (by first | assumption | exact hL.t rfl)) (m111 h7) rfl ?_
    rw [h5]
    refine xpL_iload rfl rfl ?_
    refine xpL_iceq 156 rfl (by decide) (by omega) (by omega) (fun h151 => ?_) (fun h151 => ?_)
    · skip
      refine xpL_iload rfl rfl ?_
      refine xpL_ifne 173 rfl (by decide) (by omega) (fun h158 => ?_) (fun h158 => ?_)
      · skip
        refine xpL_goto 971 rfl (by decide) ?_
        refine xpL_iinc rfl rfl (by decide) (nI_inc5 _) ?_
        refine xpL_goto 23 rfl (by decide) ?_
        refine xpL_weak [(0, .ref 1000003), (1, .ref 0), (2, .ref 189), (3, .ref 229), (4, .int (nI (i + 5)))] (xle_cons rfl (xle_cons rfl (xle_cons rfl (xle_cons rfl (xle_cons rfl (xle_nil _)))))) (by simp [xnd]) ?_
        exact hN _ _ _ _ _ _ h8 (by omega) (by omega) (by omega)
      · skip
        refine xpL_aload_n rfl rfl ?_
        refine xpL_iconst (n := 0) rfl (by decide) ?_
        refine xpL_lald rfl (by first | assumption | exact hL.t rfl) (by omega) (by omega) ?_
        refine xpL_iload rfl rfl ?_
        refine xpL_i2l rfl ?_
        refine xpL_lceq 173 rfl rfl (by decide) (fun h167 => ?_) (fun h167 => ?_)
        · skip
          refine xpL_goto 971 rfl (by decide) ?_
          refine xpL_iinc rfl rfl (by decide) (nI_inc5 _) ?_
          refine xpL_goto 23 rfl (by decide) ?_
          refine xpL_weak [(0, .ref 1000003), (1, .ref 0), (2, .ref 189), (3, .ref 229), (4, .int (nI (i + 5)))] (xle_cons rfl (xle_cons rfl (xle_cons rfl (xle_cons rfl (xle_cons rfl (xle_nil _)))))) (by simp [xnd]) ?_
          exact hN _ _ _ _ _ _ h8 (by omega) (by omega) (by omega)
        · exact absurd (h6 (by omega)) h167
    · exfalso; omega
set_option maxRecDepth 8000 in
theorem law_add {a1 a2 a3 a4 : Nat} {L : Nat} {xs : Nat → Int32} {P : xR → Prop} {z : Nat} {T : Nat → Option xT} {R : Nat → Nat → Option Nat} {w n : Nat} {A : xQ} {c q i k0 : Nat} (hL2 : L ≤ 2560) (hi : i + 5 ≤ L) (hin : i = 5 * n) (hI : Inv T R w n A) (hz : z ≤ 300 + n) (hcb : c ≤ 300 + n) (hqb : q ≤ 40000 + 6 * n) (hN : ∀ (z1 : Nat) (R1 : Nat → Nat → Option Nat) (w1 : Nat) (A1 : xQ) (c1 q1 : Nat), Inv T R1 w1 (n + 1) A1 → z1 ≤ 300 + (n + 1) → c1 ≤ 300 + (n + 1) → q1 ≤ 40000 + 6 * (n + 1) → xPL L xs 23 [(0, .ref 1000003), (1, .ref 0), (2, .ref 189), (3, .ref 229), (4, .int (nI (i + 5)))] [] c1 q1 (xm z1 T R1 A1) P) (e0 : xs i = nI k0) (hop : k0 % 16 = 1) (e1 : xs (i + 1) = nI a1) (l1 : a1 < 2 ^ 32) (e2 : xs (i + 2) = nI a2) (l2 : a2 < 2 ^ 32) (e3 : xs (i + 3) = nI a3) (l3 : a3 < 2 ^ 32) (e4 : xs (i + 4) = nI a4) (l4 : a4 < 2 ^ 32) : xPL L xs 23 [(0, .ref 1000003), (1, .ref 0), (2, .ref 189), (3, .ref 229), (4, .int (nI i))] [] c q (xm z T R A) P := by
  have hL := hI.1
  have cm : xc_mc 186 = 601024 := rfl
  have cs : xc_ms 186 = 7293034 := rfl
  have m111a : xc_mc 111 = 0 := rfl
  have m111b : xc_ms 111 = 0 := rfl
  have mA : xc_mc 174 = 1 := rfl
  have mB : xc_ms 174 = 6 := rfl
  have mC : xc_mc 117 = 0 := rfl
  have mD : xc_ms 117 = 0 := rfl
  obtain ⟨code, z1, R1, w1, A1, x, A2, h1, h2, h3c, h4, h5, h6, h7, h8⟩ := arm_int (yw := 174) (aw := [.ref 0, .int (nI a1), .int (nI a2), .int (nI a3), .int (nI a4), .ref 229]) (pub_add a1 a2 a3 a4 l1 l2 l3 l4) rfl rfl (fun z z1 T R R1 A A1 w w1 v b1 b2 b3 => w174 b1 b2 b3) (fun z z1 T R R1 A A1 w p b0 b1 b2 b3 => by
    simp only [List.mem_cons, List.not_mem_nil, or_false] at b0
    rcases b0 with rfl | rfl
    · exact ⟨w174_0 b1 b2 b3, by decide⟩
    · exact ⟨w174_1 b1 b2 b3, by decide⟩) (by omega) hI (z := z) (by omega)
  refine xpL_iload rfl rfl ?_
  refine xpL_aload_n rfl rfl ?_
  refine xpL_ln rfl ?_
  refine xpL_iconst (n := 5) rfl (by decide) ?_
  refine xpL_isub rfl (by omega) ?_
  refine xpL_icgt 977 rfl (by decide) (by omega) (by omega) (fun h29 => ?_) (fun h29 => ?_)
  · exfalso; omega
  · skip
    refine xpL_aload_n rfl rfl ?_
    refine xpL_iload rfl rfl ?_
    refine xpL_ld rfl (by omega) (by omega) ?_
    rw [e0]
    refine xpL_bipush (n := 15) rfl (by decide) ?_
    refine xpL_iand rfl ?_
    rw [nI_and15, hop]
    refine xpL_tsw 176 rfl (by omega) (by first | rfl | (rw [if_pos (by omega)]) | (rw [if_neg (by omega)]; rfl)) (by decide) ?_
    refine xpL_aload_n rfl rfl ?_
    refine xpL_aload_n rfl rfl ?_
    refine xpL_iload rfl rfl ?_
    refine xpL_iconst (n := 1) rfl (by decide) ?_
    refine xpL_iadd rfl ?_
    refine xpL_ld rfl (by omega) (by omega) ?_
    rw [e1]
    refine xpL_aload_n rfl rfl ?_
    refine xpL_iload rfl rfl ?_
    refine xpL_iconst (n := 2) rfl (by decide) ?_
    refine xpL_iadd rfl ?_
    refine xpL_ld rfl (by omega) (by omega) ?_
    rw [e2]
    refine xpL_aload_n rfl rfl ?_
    refine xpL_iload rfl rfl ?_
    refine xpL_iconst (n := 3) rfl (by decide) ?_
    refine xpL_iadd rfl ?_
    refine xpL_ld rfl (by omega) (by omega) ?_
    rw [e3]
    refine xpL_aload_n rfl rfl ?_
    refine xpL_iload rfl rfl ?_
    refine xpL_iconst (n := 4) rfl (by decide) ?_
    refine xpL_iadd rfl ?_
    refine xpL_ld rfl (by omega) (by omega) ?_
    rw [e4]
    refine xpL_aload_n rfl rfl ?_
    refine xpL_w rfl rfl (Nat.le_of_ble_eq_true rfl) (by decide) (by omega) (by omega) (Nat.le_of_ble_eq_true rfl) rfl h1 rfl ?_
    refine xpL_istore rfl (by decide) ?_
    refine xpL_aload_n rfl rfl ?_
    refine xpL_aload_n rfl rfl ?_
    refine xpL_iload rfl rfl ?_
    refine xpL_iconst (n := 1) rfl (by decide) ?_
    refine xpL_iadd rfl ?_
    refine xpL_ld rfl (by omega) (by omega) ?_
    rw [e1]
    refine xpL_aload_n rfl rfl ?_
    refine xpL_iload rfl rfl ?_
    refine xpL_iconst (n := 2) rfl (by decide) ?_
    refine xpL_iadd rfl ?_
    refine xpL_ld rfl (by omega) (by omega) ?_
    rw [e2]
    refine xpL_aload_n rfl rfl ?_
    refine xpL_iload rfl rfl ?_
    refine xpL_iconst (n := 3) rfl (by decide) ?_
    refine xpL_iadd rfl ?_
    refine xpL_ld rfl (by omega) (by omega) ?_
    rw [e3]
    refine xpL_aload_n rfl rfl ?_
    refine xpL_iload rfl rfl ?_
    refine xpL_iconst (n := 4) rfl (by decide) ?_
    refine xpL_iadd rfl ?_
    refine xpL_ld rfl (by omega) (by omega) ?_
    rw [e4]
    refine xpL_iv rfl rfl (Nat.le_of_ble_eq_true rfl) (by decide) (by omega) (by omega) (Nat.le_of_ble_eq_true rfl) rfl (xrcv1 (by decide) (by first | assumption | exact hL.t rfl)) h4 rfl ?_
    refine xpL_istore rfl (by decide) ?_
    refine xpL_aload_n rfl rfl ?_
    refine xpL_iv rfl rfl (Nat.le_of_ble_eq_true rfl) (by decide) (by omega) (by omega) (Nat.le_of_ble_eq_true rfl) rfl (xrcv1 (by decide) (by first | assumption | exact hL.t rfl)) (m111 h7) rfl ?_
    rw [h5]
    refine xpL_iload rfl rfl ?_
    refine xpL_iceq 248 rfl (by decide) (by omega) (by omega) (fun h243 => ?_) (fun h243 => ?_)
    · skip
      refine xpL_iload rfl rfl ?_
      refine xpL_ifne 265 rfl (by decide) (by omega) (fun h250 => ?_) (fun h250 => ?_)
      · skip
        refine xpL_goto 971 rfl (by decide) ?_
        refine xpL_iinc rfl rfl (by decide) (nI_inc5 _) ?_
        refine xpL_goto 23 rfl (by decide) ?_
        refine xpL_weak [(0, .ref 1000003), (1, .ref 0), (2, .ref 189), (3, .ref 229), (4, .int (nI (i + 5)))] (xle_cons rfl (xle_cons rfl (xle_cons rfl (xle_cons rfl (xle_cons rfl (xle_nil _)))))) (by simp [xnd]) ?_
        exact hN _ _ _ _ _ _ h8 (by omega) (by omega) (by omega)
      · skip
        refine xpL_aload_n rfl rfl ?_
        refine xpL_iconst (n := 0) rfl (by decide) ?_
        refine xpL_lald rfl (by first | assumption | exact hL.t rfl) (by omega) (by omega) ?_
        refine xpL_iload rfl rfl ?_
        refine xpL_i2l rfl ?_
        refine xpL_lceq 265 rfl rfl (by decide) (fun h259 => ?_) (fun h259 => ?_)
        · skip
          refine xpL_goto 971 rfl (by decide) ?_
          refine xpL_iinc rfl rfl (by decide) (nI_inc5 _) ?_
          refine xpL_goto 23 rfl (by decide) ?_
          refine xpL_weak [(0, .ref 1000003), (1, .ref 0), (2, .ref 189), (3, .ref 229), (4, .int (nI (i + 5)))] (xle_cons rfl (xle_cons rfl (xle_cons rfl (xle_cons rfl (xle_cons rfl (xle_nil _)))))) (by simp [xnd]) ?_
          exact hN _ _ _ _ _ _ h8 (by omega) (by omega) (by omega)
        · exact absurd (h6 (by omega)) h259
    · exfalso; omega
set_option maxRecDepth 8000 in
theorem law_handle {a1 a2 a3 a4 : Nat} {L : Nat} {xs : Nat → Int32} {P : xR → Prop} {z : Nat} {T : Nat → Option xT} {R : Nat → Nat → Option Nat} {w n : Nat} {A : xQ} {c q i k0 : Nat} (hL2 : L ≤ 2560) (hi : i + 5 ≤ L) (hin : i = 5 * n) (hI : Inv T R w n A) (hz : z ≤ 300 + n) (hcb : c ≤ 300 + n) (hqb : q ≤ 40000 + 6 * n) (hN : ∀ (z1 : Nat) (R1 : Nat → Nat → Option Nat) (w1 : Nat) (A1 : xQ) (c1 q1 : Nat), Inv T R1 w1 (n + 1) A1 → z1 ≤ 300 + (n + 1) → c1 ≤ 300 + (n + 1) → q1 ≤ 40000 + 6 * (n + 1) → xPL L xs 23 [(0, .ref 1000003), (1, .ref 0), (2, .ref 189), (3, .ref 229), (4, .int (nI (i + 5)))] [] c1 q1 (xm z1 T R1 A1) P) (e0 : xs i = nI k0) (hop : k0 % 16 = 2) (e1 : xs (i + 1) = nI a1) (l1 : a1 < 2 ^ 32) (e2 : xs (i + 2) = nI a2) (l2 : a2 < 2 ^ 32) (e3 : xs (i + 3) = nI a3) (l3 : a3 < 2 ^ 32) (e4 : xs (i + 4) = nI a4) (l4 : a4 < 2 ^ 32) : xPL L xs 23 [(0, .ref 1000003), (1, .ref 0), (2, .ref 189), (3, .ref 229), (4, .int (nI i))] [] c q (xm z T R A) P := by
  have hL := hI.1
  have cm : xc_mc 186 = 601024 := rfl
  have cs : xc_ms 186 = 7293034 := rfl
  have m111a : xc_mc 111 = 0 := rfl
  have m111b : xc_ms 111 = 0 := rfl
  have mA : xc_mc 175 = 1 := rfl
  have mB : xc_ms 175 = 6 := rfl
  have mC : xc_mc 118 = 0 := rfl
  have mD : xc_ms 118 = 0 := rfl
  obtain ⟨code, z1, R1, w1, A1, x, A2, h1, h2, h3c, h4, h5, h6, h7, h8⟩ := arm_int (yw := 175) (aw := [.ref 0, .int (nI a1), .int (nI a2), .int (nI a3), .int (nI a4), .ref 229]) (pub_handle a1 a2 a3 a4 l1 l2 l3 l4) rfl rfl (fun z z1 T R R1 A A1 w w1 v b1 b2 b3 => w175 b1 b2 b3) (fun z z1 T R R1 A A1 w p b0 b1 b2 b3 => by
    simp only [List.mem_cons, List.not_mem_nil, or_false] at b0
    rcases b0 with rfl | rfl
    · exact ⟨w175_0 b1 b2 b3, by decide⟩
    · exact ⟨w175_1 b1 b2 b3, by decide⟩) (by omega) hI (z := z) (by omega)
  refine xpL_iload rfl rfl ?_
  refine xpL_aload_n rfl rfl ?_
  refine xpL_ln rfl ?_
  refine xpL_iconst (n := 5) rfl (by decide) ?_
  refine xpL_isub rfl (by omega) ?_
  refine xpL_icgt 977 rfl (by decide) (by omega) (by omega) (fun h29 => ?_) (fun h29 => ?_)
  · exfalso; omega
  · skip
    refine xpL_aload_n rfl rfl ?_
    refine xpL_iload rfl rfl ?_
    refine xpL_ld rfl (by omega) (by omega) ?_
    rw [e0]
    refine xpL_bipush (n := 15) rfl (by decide) ?_
    refine xpL_iand rfl ?_
    rw [nI_and15, hop]
    refine xpL_tsw 268 rfl (by omega) (by first | rfl | (rw [if_pos (by omega)]) | (rw [if_neg (by omega)]; rfl)) (by decide) ?_
    refine xpL_aload_n rfl rfl ?_
    refine xpL_aload_n rfl rfl ?_
    refine xpL_iload rfl rfl ?_
    refine xpL_iconst (n := 1) rfl (by decide) ?_
    refine xpL_iadd rfl ?_
    refine xpL_ld rfl (by omega) (by omega) ?_
    rw [e1]
    refine xpL_aload_n rfl rfl ?_
    refine xpL_iload rfl rfl ?_
    refine xpL_iconst (n := 2) rfl (by decide) ?_
    refine xpL_iadd rfl ?_
    refine xpL_ld rfl (by omega) (by omega) ?_
    rw [e2]
    refine xpL_aload_n rfl rfl ?_
    refine xpL_iload rfl rfl ?_
    refine xpL_iconst (n := 3) rfl (by decide) ?_
    refine xpL_iadd rfl ?_
    refine xpL_ld rfl (by omega) (by omega) ?_
    rw [e3]
    refine xpL_aload_n rfl rfl ?_
    refine xpL_iload rfl rfl ?_
    refine xpL_iconst (n := 4) rfl (by decide) ?_
    refine xpL_iadd rfl ?_
    refine xpL_ld rfl (by omega) (by omega) ?_
    rw [e4]
    refine xpL_aload_n rfl rfl ?_
    refine xpL_w rfl rfl (Nat.le_of_ble_eq_true rfl) (by decide) (by omega) (by omega) (Nat.le_of_ble_eq_true rfl) rfl h1 rfl ?_
    refine xpL_istore rfl (by decide) ?_
    refine xpL_aload_n rfl rfl ?_
    refine xpL_aload_n rfl rfl ?_
    refine xpL_iload rfl rfl ?_
    refine xpL_iconst (n := 1) rfl (by decide) ?_
    refine xpL_iadd rfl ?_
    refine xpL_ld rfl (by omega) (by omega) ?_
    rw [e1]
    refine xpL_aload_n rfl rfl ?_
    refine xpL_iload rfl rfl ?_
    refine xpL_iconst (n := 2) rfl (by decide) ?_
    refine xpL_iadd rfl ?_
    refine xpL_ld rfl (by omega) (by omega) ?_
    rw [e2]
    refine xpL_aload_n rfl rfl ?_
    refine xpL_iload rfl rfl ?_
    refine xpL_iconst (n := 3) rfl (by decide) ?_
    refine xpL_iadd rfl ?_
    refine xpL_ld rfl (by omega) (by omega) ?_
    rw [e3]
    refine xpL_aload_n rfl rfl ?_
    refine xpL_iload rfl rfl ?_
    refine xpL_iconst (n := 4) rfl (by decide) ?_
    refine xpL_iadd rfl ?_
    refine xpL_ld rfl (by omega) (by omega) ?_
    rw [e4]
    refine xpL_iv rfl rfl (Nat.le_of_ble_eq_true rfl) (by decide) (by omega) (by omega) (Nat.le_of_ble_eq_true rfl) rfl (xrcv1 (by decide) (by first | assumption | exact hL.t rfl)) h4 rfl ?_
    refine xpL_istore rfl (by decide) ?_
    refine xpL_aload_n rfl rfl ?_
    refine xpL_iv rfl rfl (Nat.le_of_ble_eq_true rfl) (by decide) (by omega) (by omega) (Nat.le_of_ble_eq_true rfl) rfl (xrcv1 (by decide) (by first | assumption | exact hL.t rfl)) (m111 h7) rfl ?_
    rw [h5]
    refine xpL_iload rfl rfl ?_
    refine xpL_iceq 340 rfl (by decide) (by omega) (by omega) (fun h335 => ?_) (fun h335 => ?_)
    · skip
      refine xpL_iload rfl rfl ?_
      refine xpL_ifne 357 rfl (by decide) (by omega) (fun h342 => ?_) (fun h342 => ?_)
      · skip
        refine xpL_goto 971 rfl (by decide) ?_
        refine xpL_iinc rfl rfl (by decide) (nI_inc5 _) ?_
        refine xpL_goto 23 rfl (by decide) ?_
        refine xpL_weak [(0, .ref 1000003), (1, .ref 0), (2, .ref 189), (3, .ref 229), (4, .int (nI (i + 5)))] (xle_cons rfl (xle_cons rfl (xle_cons rfl (xle_cons rfl (xle_cons rfl (xle_nil _)))))) (by simp [xnd]) ?_
        exact hN _ _ _ _ _ _ h8 (by omega) (by omega) (by omega)
      · skip
        refine xpL_aload_n rfl rfl ?_
        refine xpL_iconst (n := 0) rfl (by decide) ?_
        refine xpL_lald rfl (by first | assumption | exact hL.t rfl) (by omega) (by omega) ?_
        refine xpL_iload rfl rfl ?_
        refine xpL_i2l rfl ?_
        refine xpL_lceq 357 rfl rfl (by decide) (fun h351 => ?_) (fun h351 => ?_)
        · skip
          refine xpL_goto 971 rfl (by decide) ?_
          refine xpL_iinc rfl rfl (by decide) (nI_inc5 _) ?_
          refine xpL_goto 23 rfl (by decide) ?_
          refine xpL_weak [(0, .ref 1000003), (1, .ref 0), (2, .ref 189), (3, .ref 229), (4, .int (nI (i + 5)))] (xle_cons rfl (xle_cons rfl (xle_cons rfl (xle_cons rfl (xle_cons rfl (xle_nil _)))))) (by simp [xnd]) ?_
          exact hN _ _ _ _ _ _ h8 (by omega) (by omega) (by omega)
        · exact absurd (h6 (by omega)) h351
    · exfalso; omega
set_option maxRecDepth 8000 in
theorem law_start {a1 a2 a3 : Nat} {L : Nat} {xs : Nat → Int32} {P : xR → Prop} {z : Nat} {T : Nat → Option xT} {R : Nat → Nat → Option Nat} {w n : Nat} {A : xQ} {c q i k0 : Nat} (hL2 : L ≤ 2560) (hi : i + 5 ≤ L) (hin : i = 5 * n) (hI : Inv T R w n A) (hz : z ≤ 300 + n) (hcb : c ≤ 300 + n) (hqb : q ≤ 40000 + 6 * n) (hN : ∀ (z1 : Nat) (R1 : Nat → Nat → Option Nat) (w1 : Nat) (A1 : xQ) (c1 q1 : Nat), Inv T R1 w1 (n + 1) A1 → z1 ≤ 300 + (n + 1) → c1 ≤ 300 + (n + 1) → q1 ≤ 40000 + 6 * (n + 1) → xPL L xs 23 [(0, .ref 1000003), (1, .ref 0), (2, .ref 189), (3, .ref 229), (4, .int (nI (i + 5)))] [] c1 q1 (xm z1 T R1 A1) P) (e0 : xs i = nI k0) (hop : k0 % 16 = 3) (e1 : xs (i + 1) = nI a1) (l1 : a1 < 2 ^ 32) (e2 : xs (i + 2) = nI a2) (l2 : a2 < 2 ^ 32) (e3 : xs (i + 3) = nI a3) (l3 : a3 < 2 ^ 32) : xPL L xs 23 [(0, .ref 1000003), (1, .ref 0), (2, .ref 189), (3, .ref 229), (4, .int (nI i))] [] c q (xm z T R A) P := by
  have hL := hI.1
  have cm : xc_mc 186 = 601024 := rfl
  have cs : xc_ms 186 = 7293034 := rfl
  have m111a : xc_mc 111 = 0 := rfl
  have m111b : xc_ms 111 = 0 := rfl
  have mA : xc_mc 176 = 1 := rfl
  have mB : xc_ms 176 = 6 := rfl
  have mC : xc_mc 127 = 0 := rfl
  have mD : xc_ms 127 = 0 := rfl
  obtain ⟨code, z1, R1, w1, A1, x, A2, h1, h2, h3c, h4, h5, h6, h7, h8⟩ := arm_int (yw := 176) (aw := [.ref 0, .int (nI a1), .int (nI a2), .int (nI a3), .ref 229]) (pub_start a1 (nI a2) (nI a3) l1) rfl rfl (fun z z1 T R R1 A A1 w w1 v b1 b2 b3 => w176 b1 b2 b3) (fun z z1 T R R1 A A1 w p b0 b1 b2 b3 => by
    simp only [List.mem_cons, List.not_mem_nil, or_false] at b0
    subst b0
    exact ⟨w176_0 b1 b2 b3, by decide⟩) (by omega) hI (z := z) (by omega)
  refine xpL_iload rfl rfl ?_
  refine xpL_aload_n rfl rfl ?_
  refine xpL_ln rfl ?_
  refine xpL_iconst (n := 5) rfl (by decide) ?_
  refine xpL_isub rfl (by omega) ?_
  refine xpL_icgt 977 rfl (by decide) (by omega) (by omega) (fun h29 => ?_) (fun h29 => ?_)
  · exfalso; omega
  · skip
    refine xpL_aload_n rfl rfl ?_
    refine xpL_iload rfl rfl ?_
    refine xpL_ld rfl (by omega) (by omega) ?_
    rw [e0]
    refine xpL_bipush (n := 15) rfl (by decide) ?_
    refine xpL_iand rfl ?_
    rw [nI_and15, hop]
    refine xpL_tsw 360 rfl (by omega) (by first | rfl | (rw [if_pos (by omega)]) | (rw [if_neg (by omega)]; rfl)) (by decide) ?_
    refine xpL_aload_n rfl rfl ?_
    refine xpL_aload_n rfl rfl ?_
    refine xpL_iload rfl rfl ?_
    refine xpL_iconst (n := 1) rfl (by decide) ?_
    refine xpL_iadd rfl ?_
    refine xpL_ld rfl (by omega) (by omega) ?_
    rw [e1]
    refine xpL_aload_n rfl rfl ?_
    refine xpL_iload rfl rfl ?_
    refine xpL_iconst (n := 2) rfl (by decide) ?_
    refine xpL_iadd rfl ?_
    refine xpL_ld rfl (by omega) (by omega) ?_
    rw [e2]
    refine xpL_aload_n rfl rfl ?_
    refine xpL_iload rfl rfl ?_
    refine xpL_iconst (n := 3) rfl (by decide) ?_
    refine xpL_iadd rfl ?_
    refine xpL_ld rfl (by omega) (by omega) ?_
    rw [e3]
    refine xpL_aload_n rfl rfl ?_
    refine xpL_w rfl rfl (Nat.le_of_ble_eq_true rfl) (by decide) (by omega) (by omega) (Nat.le_of_ble_eq_true rfl) rfl h1 rfl ?_
    refine xpL_istore rfl (by decide) ?_
    refine xpL_aload_n rfl rfl ?_
    refine xpL_aload_n rfl rfl ?_
    refine xpL_iload rfl rfl ?_
    refine xpL_iconst (n := 1) rfl (by decide) ?_
    refine xpL_iadd rfl ?_
    refine xpL_ld rfl (by omega) (by omega) ?_
    rw [e1]
    refine xpL_aload_n rfl rfl ?_
    refine xpL_iload rfl rfl ?_
    refine xpL_iconst (n := 2) rfl (by decide) ?_
    refine xpL_iadd rfl ?_
    refine xpL_ld rfl (by omega) (by omega) ?_
    rw [e2]
    refine xpL_aload_n rfl rfl ?_
    refine xpL_iload rfl rfl ?_
    refine xpL_iconst (n := 3) rfl (by decide) ?_
    refine xpL_iadd rfl ?_
    refine xpL_ld rfl (by omega) (by omega) ?_
    rw [e3]
    refine xpL_iv rfl rfl (Nat.le_of_ble_eq_true rfl) (by decide) (by omega) (by omega) (Nat.le_of_ble_eq_true rfl) rfl (xrcv1 (by decide) (by first | assumption | exact hL.t rfl)) h4 rfl ?_
    refine xpL_istore rfl (by decide) ?_
    refine xpL_aload_n rfl rfl ?_
    refine xpL_iv rfl rfl (Nat.le_of_ble_eq_true rfl) (by decide) (by omega) (by omega) (Nat.le_of_ble_eq_true rfl) rfl (xrcv1 (by decide) (by first | assumption | exact hL.t rfl)) (m111 h7) rfl ?_
    rw [h5]
    refine xpL_iload rfl rfl ?_
    refine xpL_iceq 420 rfl (by decide) (by omega) (by omega) (fun h415 => ?_) (fun h415 => ?_)
    · skip
      refine xpL_iload rfl rfl ?_
      refine xpL_ifne 437 rfl (by decide) (by omega) (fun h422 => ?_) (fun h422 => ?_)
      · skip
        refine xpL_goto 971 rfl (by decide) ?_
        refine xpL_iinc rfl rfl (by decide) (nI_inc5 _) ?_
        refine xpL_goto 23 rfl (by decide) ?_
        refine xpL_weak [(0, .ref 1000003), (1, .ref 0), (2, .ref 189), (3, .ref 229), (4, .int (nI (i + 5)))] (xle_cons rfl (xle_cons rfl (xle_cons rfl (xle_cons rfl (xle_cons rfl (xle_nil _)))))) (by simp [xnd]) ?_
        exact hN _ _ _ _ _ _ h8 (by omega) (by omega) (by omega)
      · skip
        refine xpL_aload_n rfl rfl ?_
        refine xpL_iconst (n := 0) rfl (by decide) ?_
        refine xpL_lald rfl (by first | assumption | exact hL.t rfl) (by omega) (by omega) ?_
        refine xpL_iload rfl rfl ?_
        refine xpL_i2l rfl ?_
        refine xpL_lceq 437 rfl rfl (by decide) (fun h431 => ?_) (fun h431 => ?_)
        · skip
          refine xpL_goto 971 rfl (by decide) ?_
          refine xpL_iinc rfl rfl (by decide) (nI_inc5 _) ?_
          refine xpL_goto 23 rfl (by decide) ?_
          refine xpL_weak [(0, .ref 1000003), (1, .ref 0), (2, .ref 189), (3, .ref 229), (4, .int (nI (i + 5)))] (xle_cons rfl (xle_cons rfl (xle_cons rfl (xle_cons rfl (xle_cons rfl (xle_nil _)))))) (by simp [xnd]) ?_
          exact hN _ _ _ _ _ _ h8 (by omega) (by omega) (by omega)
        · exact absurd (h6 (by omega)) h431
    · exfalso; omega
set_option maxRecDepth 8000 in
theorem law_run {a1 : Nat} {L : Nat} {xs : Nat → Int32} {P : xR → Prop} {z : Nat} {T : Nat → Option xT} {R : Nat → Nat → Option Nat} {w n : Nat} {A : xQ} {c q i k0 : Nat} (hL2 : L ≤ 2560) (hi : i + 5 ≤ L) (hin : i = 5 * n) (hI : Inv T R w n A) (hz : z ≤ 300 + n) (hcb : c ≤ 300 + n) (hqb : q ≤ 40000 + 6 * n) (hN : ∀ (z1 : Nat) (R1 : Nat → Nat → Option Nat) (w1 : Nat) (A1 : xQ) (c1 q1 : Nat), Inv T R1 w1 (n + 1) A1 → z1 ≤ 300 + (n + 1) → c1 ≤ 300 + (n + 1) → q1 ≤ 40000 + 6 * (n + 1) → xPL L xs 23 [(0, .ref 1000003), (1, .ref 0), (2, .ref 189), (3, .ref 229), (4, .int (nI (i + 5)))] [] c1 q1 (xm z1 T R1 A1) P) (e0 : xs i = nI k0) (hop : k0 % 16 = 4) (e1 : xs (i + 1) = nI a1) (l1 : a1 < 2 ^ 32) : xPL L xs 23 [(0, .ref 1000003), (1, .ref 0), (2, .ref 189), (3, .ref 229), (4, .int (nI i))] [] c q (xm z T R A) P := by
  have hL := hI.1
  have cm : xc_mc 186 = 601024 := rfl
  have cs : xc_ms 186 = 7293034 := rfl
  have m111a : xc_mc 111 = 0 := rfl
  have m111b : xc_ms 111 = 0 := rfl
  have mA : xc_mc 177 = 1 := rfl
  have mB : xc_ms 177 = 6 := rfl
  have mC : xc_mc 148 = 0 := rfl
  have mD : xc_ms 148 = 0 := rfl
  obtain ⟨code, z1, R1, w1, A1, x, A2, h1, h2, h3c, h4, h5, h6, h7, h8⟩ := arm_int (yw := 177) (aw := [.ref 0, .int (nI a1), .ref 229]) (pub_run a1 l1) rfl rfl (fun z z1 T R R1 A A1 w w1 v b1 b2 b3 => w177 b1 b2 b3) (fun z z1 T R R1 A A1 w p b0 b1 b2 b3 => by
    simp only [List.mem_cons, List.not_mem_nil, or_false] at b0
    rcases b0 with rfl | rfl
    · exact ⟨w177_0 b1 b2 b3, by decide⟩
    · exact ⟨w177_1 b1 b2 b3, by decide⟩) (by omega) hI (z := z) (by omega)
  refine xpL_iload rfl rfl ?_
  refine xpL_aload_n rfl rfl ?_
  refine xpL_ln rfl ?_
  refine xpL_iconst (n := 5) rfl (by decide) ?_
  refine xpL_isub rfl (by omega) ?_
  refine xpL_icgt 977 rfl (by decide) (by omega) (by omega) (fun h29 => ?_) (fun h29 => ?_)
  · exfalso; omega
  · skip
    refine xpL_aload_n rfl rfl ?_
    refine xpL_iload rfl rfl ?_
    refine xpL_ld rfl (by omega) (by omega) ?_
    rw [e0]
    refine xpL_bipush (n := 15) rfl (by decide) ?_
    refine xpL_iand rfl ?_
    rw [nI_and15, hop]
    refine xpL_tsw 440 rfl (by omega) (by first | rfl | (rw [if_pos (by omega)]) | (rw [if_neg (by omega)]; rfl)) (by decide) ?_
    refine xpL_aload_n rfl rfl ?_
    refine xpL_aload_n rfl rfl ?_
    refine xpL_iload rfl rfl ?_
    refine xpL_iconst (n := 1) rfl (by decide) ?_
    refine xpL_iadd rfl ?_
    refine xpL_ld rfl (by omega) (by omega) ?_
    rw [e1]
    refine xpL_aload_n rfl rfl ?_
    refine xpL_w rfl rfl (Nat.le_of_ble_eq_true rfl) (by decide) (by omega) (by omega) (Nat.le_of_ble_eq_true rfl) rfl h1 rfl ?_
    refine xpL_istore rfl (by decide) ?_
    refine xpL_aload_n rfl rfl ?_
    refine xpL_aload_n rfl rfl ?_
    refine xpL_iload rfl rfl ?_
    refine xpL_iconst (n := 1) rfl (by decide) ?_
    refine xpL_iadd rfl ?_
    refine xpL_ld rfl (by omega) (by omega) ?_
    rw [e1]
    refine xpL_iv rfl rfl (Nat.le_of_ble_eq_true rfl) (by decide) (by omega) (by omega) (Nat.le_of_ble_eq_true rfl) rfl (xrcv1 (by decide) (by first | assumption | exact hL.t rfl)) h4 rfl ?_
    refine xpL_istore rfl (by decide) ?_
    refine xpL_aload_n rfl rfl ?_
    refine xpL_iv rfl rfl (Nat.le_of_ble_eq_true rfl) (by decide) (by omega) (by omega) (Nat.le_of_ble_eq_true rfl) rfl (xrcv1 (by decide) (by first | assumption | exact hL.t rfl)) (m111 h7) rfl ?_
    rw [h5]
    refine xpL_iload rfl rfl ?_
    refine xpL_iceq 476 rfl (by decide) (by omega) (by omega) (fun h471 => ?_) (fun h471 => ?_)
    · skip
      refine xpL_iload rfl rfl ?_
      refine xpL_ifne 493 rfl (by decide) (by omega) (fun h478 => ?_) (fun h478 => ?_)
      · skip
        refine xpL_goto 971 rfl (by decide) ?_
        refine xpL_iinc rfl rfl (by decide) (nI_inc5 _) ?_
        refine xpL_goto 23 rfl (by decide) ?_
        refine xpL_weak [(0, .ref 1000003), (1, .ref 0), (2, .ref 189), (3, .ref 229), (4, .int (nI (i + 5)))] (xle_cons rfl (xle_cons rfl (xle_cons rfl (xle_cons rfl (xle_cons rfl (xle_nil _)))))) (by simp [xnd]) ?_
        exact hN _ _ _ _ _ _ h8 (by omega) (by omega) (by omega)
      · skip
        refine xpL_aload_n rfl rfl ?_
        refine xpL_iconst (n := 0) rfl (by decide) ?_
        refine xpL_lald rfl (by first | assumption | exact hL.t rfl) (by omega) (by omega) ?_
        refine xpL_iload rfl rfl ?_
        refine xpL_i2l rfl ?_
        refine xpL_lceq 493 rfl rfl (by decide) (fun h487 => ?_) (fun h487 => ?_)
        · skip
          refine xpL_goto 971 rfl (by decide) ?_
          refine xpL_iinc rfl rfl (by decide) (nI_inc5 _) ?_
          refine xpL_goto 23 rfl (by decide) ?_
          refine xpL_weak [(0, .ref 1000003), (1, .ref 0), (2, .ref 189), (3, .ref 229), (4, .int (nI (i + 5)))] (xle_cons rfl (xle_cons rfl (xle_cons rfl (xle_cons rfl (xle_cons rfl (xle_nil _)))))) (by simp [xnd]) ?_
          exact hN _ _ _ _ _ _ h8 (by omega) (by omega) (by omega)
        · exact absurd (h6 (by omega)) h487
    · exfalso; omega
set_option maxRecDepth 8000 in
theorem law_said {a1 : Nat} {L : Nat} {xs : Nat → Int32} {P : xR → Prop} {z : Nat} {T : Nat → Option xT} {R : Nat → Nat → Option Nat} {w n : Nat} {A : xQ} {c q i k0 : Nat} (hL2 : L ≤ 2560) (hi : i + 5 ≤ L) (hin : i = 5 * n) (hI : Inv T R w n A) (hz : z ≤ 300 + n) (hcb : c ≤ 300 + n) (hqb : q ≤ 40000 + 6 * n) (hN : ∀ (z1 : Nat) (R1 : Nat → Nat → Option Nat) (w1 : Nat) (A1 : xQ) (c1 q1 : Nat), Inv T R1 w1 (n + 1) A1 → z1 ≤ 300 + (n + 1) → c1 ≤ 300 + (n + 1) → q1 ≤ 40000 + 6 * (n + 1) → xPL L xs 23 [(0, .ref 1000003), (1, .ref 0), (2, .ref 189), (3, .ref 229), (4, .int (nI (i + 5)))] [] c1 q1 (xm z1 T R1 A1) P) (e0 : xs i = nI k0) (hop : k0 % 16 = 5) (e1 : xs (i + 1) = nI a1) (l1 : a1 < 2 ^ 32) : xPL L xs 23 [(0, .ref 1000003), (1, .ref 0), (2, .ref 189), (3, .ref 229), (4, .int (nI i))] [] c q (xm z T R A) P := by
  have hL := hI.1
  have cm : xc_mc 186 = 601024 := rfl
  have cs : xc_ms 186 = 7293034 := rfl
  have m111a : xc_mc 111 = 0 := rfl
  have m111b : xc_ms 111 = 0 := rfl
  have mA : xc_mc 178 = 1 := rfl
  have mB : xc_ms 178 = 6 := rfl
  have mC : xc_mc 149 = 0 := rfl
  have mD : xc_ms 149 = 0 := rfl
  obtain ⟨code, z1, R1, w1, A1, x, A2, h1, h2, h3c, h4, h5, h6, h7, h8⟩ := arm_long (yw := 178) (aw := [.ref 0, .int (nI a1), .ref 229]) (pub_said a1 l1) rfl rfl (fun z z1 T R R1 A A1 w w1 v b1 b2 b3 => w178 b1 b2 b3) (fun z z1 T R R1 A A1 w p b0 b1 b2 b3 => by
    simp only [List.mem_cons, List.not_mem_nil, or_false] at b0
    subst b0
    exact ⟨w178_2 b1 b2 b3, by decide⟩) (by omega) hI (z := z) (by omega)
  refine xpL_iload rfl rfl ?_
  refine xpL_aload_n rfl rfl ?_
  refine xpL_ln rfl ?_
  refine xpL_iconst (n := 5) rfl (by decide) ?_
  refine xpL_isub rfl (by omega) ?_
  refine xpL_icgt 977 rfl (by decide) (by omega) (by omega) (fun h29 => ?_) (fun h29 => ?_)
  · exfalso; omega
  · skip
    refine xpL_aload_n rfl rfl ?_
    refine xpL_iload rfl rfl ?_
    refine xpL_ld rfl (by omega) (by omega) ?_
    rw [e0]
    refine xpL_bipush (n := 15) rfl (by decide) ?_
    refine xpL_iand rfl ?_
    rw [nI_and15, hop]
    refine xpL_tsw 496 rfl (by omega) (by first | rfl | (rw [if_pos (by omega)]) | (rw [if_neg (by omega)]; rfl)) (by decide) ?_
    refine xpL_aload_n rfl rfl ?_
    refine xpL_aload_n rfl rfl ?_
    refine xpL_iload rfl rfl ?_
    refine xpL_iconst (n := 1) rfl (by decide) ?_
    refine xpL_iadd rfl ?_
    refine xpL_ld rfl (by omega) (by omega) ?_
    rw [e1]
    refine xpL_aload_n rfl rfl ?_
    refine xpL_w rfl rfl (Nat.le_of_ble_eq_true rfl) (by decide) (by omega) (by omega) (Nat.le_of_ble_eq_true rfl) rfl h1 rfl ?_
    refine xpL_istore rfl (by decide) ?_
    refine xpL_aload_n rfl rfl ?_
    refine xpL_aload_n rfl rfl ?_
    refine xpL_iload rfl rfl ?_
    refine xpL_iconst (n := 1) rfl (by decide) ?_
    refine xpL_iadd rfl ?_
    refine xpL_ld rfl (by omega) (by omega) ?_
    rw [e1]
    refine xpL_iv rfl rfl (Nat.le_of_ble_eq_true rfl) (by decide) (by omega) (by omega) (Nat.le_of_ble_eq_true rfl) rfl (xrcv1 (by decide) (by first | assumption | exact hL.t rfl)) h4 rfl ?_
    refine xpL_lstore rfl (by decide) ?_
    refine xpL_aload_n rfl rfl ?_
    refine xpL_iv rfl rfl (Nat.le_of_ble_eq_true rfl) (by decide) (by omega) (by omega) (Nat.le_of_ble_eq_true rfl) rfl (xrcv1 (by decide) (by first | assumption | exact hL.t rfl)) (m111 h7) rfl ?_
    rw [h5]
    refine xpL_iload rfl rfl ?_
    refine xpL_iceq 532 rfl (by decide) (by omega) (by omega) (fun h527 => ?_) (fun h527 => ?_)
    · skip
      refine xpL_iload rfl rfl ?_
      refine xpL_ifne 548 rfl (by decide) (by omega) (fun h534 => ?_) (fun h534 => ?_)
      · skip
        refine xpL_goto 971 rfl (by decide) ?_
        refine xpL_iinc rfl rfl (by decide) (nI_inc5 _) ?_
        refine xpL_goto 23 rfl (by decide) ?_
        refine xpL_weak [(0, .ref 1000003), (1, .ref 0), (2, .ref 189), (3, .ref 229), (4, .int (nI (i + 5)))] (xle_cons rfl (xle_cons rfl (xle_cons rfl (xle_cons rfl (xle_cons rfl (xle_nil _)))))) (by simp [xnd]) ?_
        exact hN _ _ _ _ _ _ h8 (by omega) (by omega) (by omega)
      · skip
        refine xpL_aload_n rfl rfl ?_
        refine xpL_iconst (n := 0) rfl (by decide) ?_
        refine xpL_lald rfl (by first | assumption | exact hL.t rfl) (by omega) (by omega) ?_
        refine xpL_lload rfl rfl ?_
        refine xpL_lceq 548 rfl rfl (by decide) (fun h542 => ?_) (fun h542 => ?_)
        · skip
          refine xpL_goto 971 rfl (by decide) ?_
          refine xpL_iinc rfl rfl (by decide) (nI_inc5 _) ?_
          refine xpL_goto 23 rfl (by decide) ?_
          refine xpL_weak [(0, .ref 1000003), (1, .ref 0), (2, .ref 189), (3, .ref 229), (4, .int (nI (i + 5)))] (xle_cons rfl (xle_cons rfl (xle_cons rfl (xle_cons rfl (xle_cons rfl (xle_nil _)))))) (by simp [xnd]) ?_
          exact hN _ _ _ _ _ _ h8 (by omega) (by omega) (by omega)
        · exact absurd (h6 (by omega)) h542
    · exfalso; omega
set_option maxRecDepth 8000 in
theorem law_value {a1 : Nat} {L : Nat} {xs : Nat → Int32} {P : xR → Prop} {z : Nat} {T : Nat → Option xT} {R : Nat → Nat → Option Nat} {w n : Nat} {A : xQ} {c q i k0 : Nat} (hL2 : L ≤ 2560) (hi : i + 5 ≤ L) (hin : i = 5 * n) (hI : Inv T R w n A) (hz : z ≤ 300 + n) (hcb : c ≤ 300 + n) (hqb : q ≤ 40000 + 6 * n) (hN : ∀ (z1 : Nat) (R1 : Nat → Nat → Option Nat) (w1 : Nat) (A1 : xQ) (c1 q1 : Nat), Inv T R1 w1 (n + 1) A1 → z1 ≤ 300 + (n + 1) → c1 ≤ 300 + (n + 1) → q1 ≤ 40000 + 6 * (n + 1) → xPL L xs 23 [(0, .ref 1000003), (1, .ref 0), (2, .ref 189), (3, .ref 229), (4, .int (nI (i + 5)))] [] c1 q1 (xm z1 T R1 A1) P) (e0 : xs i = nI k0) (hop : k0 % 16 = 6) (e1 : xs (i + 1) = nI a1) (l1 : a1 < 2 ^ 32) : xPL L xs 23 [(0, .ref 1000003), (1, .ref 0), (2, .ref 189), (3, .ref 229), (4, .int (nI i))] [] c q (xm z T R A) P := by
  have hL := hI.1
  have cm : xc_mc 186 = 601024 := rfl
  have cs : xc_ms 186 = 7293034 := rfl
  have m111a : xc_mc 111 = 0 := rfl
  have m111b : xc_ms 111 = 0 := rfl
  have mA : xc_mc 179 = 1 := rfl
  have mB : xc_ms 179 = 6 := rfl
  have mC : xc_mc 150 = 0 := rfl
  have mD : xc_ms 150 = 0 := rfl
  obtain ⟨code, z1, R1, w1, A1, x, A2, h1, h2, h3c, h4, h5, h6, h7, h8⟩ := arm_long (yw := 179) (aw := [.ref 0, .int (nI a1), .ref 229]) (pub_value a1 l1) rfl rfl (fun z z1 T R R1 A A1 w w1 v b1 b2 b3 => w179 b1 b2 b3) (fun z z1 T R R1 A A1 w p b0 b1 b2 b3 => by
    simp only [List.mem_cons, List.not_mem_nil, or_false] at b0
    rcases b0 with rfl | rfl | rfl
    · exact ⟨w179_2 b1 b2 b3, by decide⟩
    · exact ⟨w179_1 b1 b2 b3, by decide⟩
    · exact ⟨w179_3 b1 b2 b3, by decide⟩) (by omega) hI (z := z) (by omega)
  refine xpL_iload rfl rfl ?_
  refine xpL_aload_n rfl rfl ?_
  refine xpL_ln rfl ?_
  refine xpL_iconst (n := 5) rfl (by decide) ?_
  refine xpL_isub rfl (by omega) ?_
  refine xpL_icgt 977 rfl (by decide) (by omega) (by omega) (fun h29 => ?_) (fun h29 => ?_)
  · exfalso; omega
  · skip
    refine xpL_aload_n rfl rfl ?_
    refine xpL_iload rfl rfl ?_
    refine xpL_ld rfl (by omega) (by omega) ?_
    rw [e0]
    refine xpL_bipush (n := 15) rfl (by decide) ?_
    refine xpL_iand rfl ?_
    rw [nI_and15, hop]
    refine xpL_tsw 551 rfl (by omega) (by first | rfl | (rw [if_pos (by omega)]) | (rw [if_neg (by omega)]; rfl)) (by decide) ?_
    refine xpL_aload_n rfl rfl ?_
    refine xpL_aload_n rfl rfl ?_
    refine xpL_iload rfl rfl ?_
    refine xpL_iconst (n := 1) rfl (by decide) ?_
    refine xpL_iadd rfl ?_
    refine xpL_ld rfl (by omega) (by omega) ?_
    rw [e1]
    refine xpL_aload_n rfl rfl ?_
    refine xpL_w rfl rfl (Nat.le_of_ble_eq_true rfl) (by decide) (by omega) (by omega) (Nat.le_of_ble_eq_true rfl) rfl h1 rfl ?_
    refine xpL_istore rfl (by decide) ?_
    refine xpL_aload_n rfl rfl ?_
    refine xpL_aload_n rfl rfl ?_
    refine xpL_iload rfl rfl ?_
    refine xpL_iconst (n := 1) rfl (by decide) ?_
    refine xpL_iadd rfl ?_
    refine xpL_ld rfl (by omega) (by omega) ?_
    rw [e1]
    refine xpL_iv rfl rfl (Nat.le_of_ble_eq_true rfl) (by decide) (by omega) (by omega) (Nat.le_of_ble_eq_true rfl) rfl (xrcv1 (by decide) (by first | assumption | exact hL.t rfl)) h4 rfl ?_
    refine xpL_lstore rfl (by decide) ?_
    refine xpL_aload_n rfl rfl ?_
    refine xpL_iv rfl rfl (Nat.le_of_ble_eq_true rfl) (by decide) (by omega) (by omega) (Nat.le_of_ble_eq_true rfl) rfl (xrcv1 (by decide) (by first | assumption | exact hL.t rfl)) (m111 h7) rfl ?_
    rw [h5]
    refine xpL_iload rfl rfl ?_
    refine xpL_iceq 587 rfl (by decide) (by omega) (by omega) (fun h582 => ?_) (fun h582 => ?_)
    · skip
      refine xpL_iload rfl rfl ?_
      refine xpL_ifne 603 rfl (by decide) (by omega) (fun h589 => ?_) (fun h589 => ?_)
      · skip
        refine xpL_goto 971 rfl (by decide) ?_
        refine xpL_iinc rfl rfl (by decide) (nI_inc5 _) ?_
        refine xpL_goto 23 rfl (by decide) ?_
        refine xpL_weak [(0, .ref 1000003), (1, .ref 0), (2, .ref 189), (3, .ref 229), (4, .int (nI (i + 5)))] (xle_cons rfl (xle_cons rfl (xle_cons rfl (xle_cons rfl (xle_cons rfl (xle_nil _)))))) (by simp [xnd]) ?_
        exact hN _ _ _ _ _ _ h8 (by omega) (by omega) (by omega)
      · skip
        refine xpL_aload_n rfl rfl ?_
        refine xpL_iconst (n := 0) rfl (by decide) ?_
        refine xpL_lald rfl (by first | assumption | exact hL.t rfl) (by omega) (by omega) ?_
        refine xpL_lload rfl rfl ?_
        refine xpL_lceq 603 rfl rfl (by decide) (fun h597 => ?_) (fun h597 => ?_)
        · skip
          refine xpL_goto 971 rfl (by decide) ?_
          refine xpL_iinc rfl rfl (by decide) (nI_inc5 _) ?_
          refine xpL_goto 23 rfl (by decide) ?_
          refine xpL_weak [(0, .ref 1000003), (1, .ref 0), (2, .ref 189), (3, .ref 229), (4, .int (nI (i + 5)))] (xle_cons rfl (xle_cons rfl (xle_cons rfl (xle_cons rfl (xle_cons rfl (xle_nil _)))))) (by simp [xnd]) ?_
          exact hN _ _ _ _ _ _ h8 (by omega) (by omega) (by omega)
        · exact absurd (h6 (by omega)) h597
    · exfalso; omega
set_option maxRecDepth 8000 in
theorem law_told {a1 : Nat} {L : Nat} {xs : Nat → Int32} {P : xR → Prop} {z : Nat} {T : Nat → Option xT} {R : Nat → Nat → Option Nat} {w n : Nat} {A : xQ} {c q i k0 : Nat} (hL2 : L ≤ 2560) (hi : i + 5 ≤ L) (hin : i = 5 * n) (hI : Inv T R w n A) (hz : z ≤ 300 + n) (hcb : c ≤ 300 + n) (hqb : q ≤ 40000 + 6 * n) (hN : ∀ (z1 : Nat) (R1 : Nat → Nat → Option Nat) (w1 : Nat) (A1 : xQ) (c1 q1 : Nat), Inv T R1 w1 (n + 1) A1 → z1 ≤ 300 + (n + 1) → c1 ≤ 300 + (n + 1) → q1 ≤ 40000 + 6 * (n + 1) → xPL L xs 23 [(0, .ref 1000003), (1, .ref 0), (2, .ref 189), (3, .ref 229), (4, .int (nI (i + 5)))] [] c1 q1 (xm z1 T R1 A1) P) (e0 : xs i = nI k0) (hop : k0 % 16 = 7) (e1 : xs (i + 1) = nI a1) (l1 : a1 < 2 ^ 32) : xPL L xs 23 [(0, .ref 1000003), (1, .ref 0), (2, .ref 189), (3, .ref 229), (4, .int (nI i))] [] c q (xm z T R A) P := by
  have hL := hI.1
  have cm : xc_mc 186 = 601024 := rfl
  have cs : xc_ms 186 = 7293034 := rfl
  have m111a : xc_mc 111 = 0 := rfl
  have m111b : xc_ms 111 = 0 := rfl
  have mA : xc_mc 180 = 1 := rfl
  have mB : xc_ms 180 = 6 := rfl
  have mC : xc_mc 151 = 0 := rfl
  have mD : xc_ms 151 = 0 := rfl
  obtain ⟨code, z1, R1, w1, A1, x, A2, h1, h2, h3c, h4, h5, h6, h7, h8⟩ := arm_int (yw := 180) (aw := [.ref 0, .int (nI a1), .ref 229]) (pub_told a1 l1) rfl rfl (fun z z1 T R R1 A A1 w w1 v b1 b2 b3 => w180 b1 b2 b3) (fun z z1 T R R1 A A1 w p b0 b1 b2 b3 => by
    simp only [List.mem_cons, List.not_mem_nil, or_false] at b0
    subst b0
    exact ⟨w180_0 b1 b2 b3, by decide⟩) (by omega) hI (z := z) (by omega)
  refine xpL_iload rfl rfl ?_
  refine xpL_aload_n rfl rfl ?_
  refine xpL_ln rfl ?_
  refine xpL_iconst (n := 5) rfl (by decide) ?_
  refine xpL_isub rfl (by omega) ?_
  refine xpL_icgt 977 rfl (by decide) (by omega) (by omega) (fun h29 => ?_) (fun h29 => ?_)
  · exfalso; omega
  · skip
    refine xpL_aload_n rfl rfl ?_
    refine xpL_iload rfl rfl ?_
    refine xpL_ld rfl (by omega) (by omega) ?_
    rw [e0]
    refine xpL_bipush (n := 15) rfl (by decide) ?_
    refine xpL_iand rfl ?_
    rw [nI_and15, hop]
    refine xpL_tsw 606 rfl (by omega) (by first | rfl | (rw [if_pos (by omega)]) | (rw [if_neg (by omega)]; rfl)) (by decide) ?_
    refine xpL_aload_n rfl rfl ?_
    refine xpL_aload_n rfl rfl ?_
    refine xpL_iload rfl rfl ?_
    refine xpL_iconst (n := 1) rfl (by decide) ?_
    refine xpL_iadd rfl ?_
    refine xpL_ld rfl (by omega) (by omega) ?_
    rw [e1]
    refine xpL_aload_n rfl rfl ?_
    refine xpL_w rfl rfl (Nat.le_of_ble_eq_true rfl) (by decide) (by omega) (by omega) (Nat.le_of_ble_eq_true rfl) rfl h1 rfl ?_
    refine xpL_istore rfl (by decide) ?_
    refine xpL_aload_n rfl rfl ?_
    refine xpL_aload_n rfl rfl ?_
    refine xpL_iload rfl rfl ?_
    refine xpL_iconst (n := 1) rfl (by decide) ?_
    refine xpL_iadd rfl ?_
    refine xpL_ld rfl (by omega) (by omega) ?_
    rw [e1]
    refine xpL_iv rfl rfl (Nat.le_of_ble_eq_true rfl) (by decide) (by omega) (by omega) (Nat.le_of_ble_eq_true rfl) rfl (xrcv1 (by decide) (by first | assumption | exact hL.t rfl)) h4 rfl ?_
    refine xpL_istore rfl (by decide) ?_
    refine xpL_aload_n rfl rfl ?_
    refine xpL_iv rfl rfl (Nat.le_of_ble_eq_true rfl) (by decide) (by omega) (by omega) (Nat.le_of_ble_eq_true rfl) rfl (xrcv1 (by decide) (by first | assumption | exact hL.t rfl)) (m111 h7) rfl ?_
    rw [h5]
    refine xpL_iload rfl rfl ?_
    refine xpL_iceq 642 rfl (by decide) (by omega) (by omega) (fun h637 => ?_) (fun h637 => ?_)
    · skip
      refine xpL_iload rfl rfl ?_
      refine xpL_ifne 659 rfl (by decide) (by omega) (fun h644 => ?_) (fun h644 => ?_)
      · skip
        refine xpL_goto 971 rfl (by decide) ?_
        refine xpL_iinc rfl rfl (by decide) (nI_inc5 _) ?_
        refine xpL_goto 23 rfl (by decide) ?_
        refine xpL_weak [(0, .ref 1000003), (1, .ref 0), (2, .ref 189), (3, .ref 229), (4, .int (nI (i + 5)))] (xle_cons rfl (xle_cons rfl (xle_cons rfl (xle_cons rfl (xle_cons rfl (xle_nil _)))))) (by simp [xnd]) ?_
        exact hN _ _ _ _ _ _ h8 (by omega) (by omega) (by omega)
      · skip
        refine xpL_aload_n rfl rfl ?_
        refine xpL_iconst (n := 0) rfl (by decide) ?_
        refine xpL_lald rfl (by first | assumption | exact hL.t rfl) (by omega) (by omega) ?_
        refine xpL_iload rfl rfl ?_
        refine xpL_i2l rfl ?_
        refine xpL_lceq 659 rfl rfl (by decide) (fun h653 => ?_) (fun h653 => ?_)
        · skip
          refine xpL_goto 971 rfl (by decide) ?_
          refine xpL_iinc rfl rfl (by decide) (nI_inc5 _) ?_
          refine xpL_goto 23 rfl (by decide) ?_
          refine xpL_weak [(0, .ref 1000003), (1, .ref 0), (2, .ref 189), (3, .ref 229), (4, .int (nI (i + 5)))] (xle_cons rfl (xle_cons rfl (xle_cons rfl (xle_cons rfl (xle_cons rfl (xle_nil _)))))) (by simp [xnd]) ?_
          exact hN _ _ _ _ _ _ h8 (by omega) (by omega) (by omega)
        · exact absurd (h6 (by omega)) h653
    · exfalso; omega
set_option maxRecDepth 8000 in
theorem law_snapshot {L : Nat} {xs : Nat → Int32} {P : xR → Prop} {z : Nat} {T : Nat → Option xT} {R : Nat → Nat → Option Nat} {w n : Nat} {A : xQ} {c q i k0 : Nat} (hL2 : L ≤ 2560) (hi : i + 5 ≤ L) (hin : i = 5 * n) (hI : Inv T R w n A) (hz : z ≤ 300 + n) (hcb : c ≤ 300 + n) (hqb : q ≤ 40000 + 6 * n) (hN : ∀ (z1 : Nat) (R1 : Nat → Nat → Option Nat) (w1 : Nat) (A1 : xQ) (c1 q1 : Nat), Inv T R1 w1 (n + 1) A1 → z1 ≤ 300 + (n + 1) → c1 ≤ 300 + (n + 1) → q1 ≤ 40000 + 6 * (n + 1) → xPL L xs 23 [(0, .ref 1000003), (1, .ref 0), (2, .ref 189), (3, .ref 229), (4, .int (nI (i + 5)))] [] c1 q1 (xm z1 T R1 A1) P) (e0 : xs i = nI k0) (hop : k0 % 16 = 8)  : xPL L xs 23 [(0, .ref 1000003), (1, .ref 0), (2, .ref 189), (3, .ref 229), (4, .int (nI i))] [] c q (xm z T R A) P := by
  have hL := hI.1
  have cm : xc_mc 186 = 601024 := rfl
  have cs : xc_ms 186 = 7293034 := rfl
  have m111a : xc_mc 111 = 0 := rfl
  have m111b : xc_ms 111 = 0 := rfl
  have mA : xc_mc 181 = 1 := rfl
  have mB : xc_ms 181 = 6 := rfl
  have mC : xc_mc 159 = 0 := rfl
  have mD : xc_ms 159 = 0 := rfl
  obtain ⟨code, z1, R1, w1, A1, x, A2, h1, h2, h3c, h4, h5, h6, h7, h8⟩ := arm_int (yw := 181) (aw := [.ref 0, .ref 229]) (pub_snapshot) rfl rfl (fun z z1 T R R1 A A1 w w1 v b1 b2 b3 => w181 b1 b2 b3) (fun z z1 T R R1 A A1 w p b0 b1 b2 b3 => by
    simp only [List.mem_cons, List.not_mem_nil, or_false] at b0
    subst b0
    exact ⟨w181_1 b1 b2 b3, by decide⟩) (by omega) hI (z := z) (by omega)
  refine xpL_iload rfl rfl ?_
  refine xpL_aload_n rfl rfl ?_
  refine xpL_ln rfl ?_
  refine xpL_iconst (n := 5) rfl (by decide) ?_
  refine xpL_isub rfl (by omega) ?_
  refine xpL_icgt 977 rfl (by decide) (by omega) (by omega) (fun h29 => ?_) (fun h29 => ?_)
  · exfalso; omega
  · skip
    refine xpL_aload_n rfl rfl ?_
    refine xpL_iload rfl rfl ?_
    refine xpL_ld rfl (by omega) (by omega) ?_
    rw [e0]
    refine xpL_bipush (n := 15) rfl (by decide) ?_
    refine xpL_iand rfl ?_
    rw [nI_and15, hop]
    refine xpL_tsw 662 rfl (by omega) (by first | rfl | (rw [if_pos (by omega)]) | (rw [if_neg (by omega)]; rfl)) (by decide) ?_
    refine xpL_aload_n rfl rfl ?_
    refine xpL_aload_n rfl rfl ?_
    refine xpL_w rfl rfl (Nat.le_of_ble_eq_true rfl) (by decide) (by omega) (by omega) (Nat.le_of_ble_eq_true rfl) rfl h1 rfl ?_
    refine xpL_istore rfl (by decide) ?_
    refine xpL_aload_n rfl rfl ?_
    refine xpL_iv rfl rfl (Nat.le_of_ble_eq_true rfl) (by decide) (by omega) (by omega) (Nat.le_of_ble_eq_true rfl) rfl (xrcv1 (by decide) (by first | assumption | exact hL.t rfl)) h4 rfl ?_
    refine xpL_istore rfl (by decide) ?_
    refine xpL_aload_n rfl rfl ?_
    refine xpL_iv rfl rfl (Nat.le_of_ble_eq_true rfl) (by decide) (by omega) (by omega) (Nat.le_of_ble_eq_true rfl) rfl (xrcv1 (by decide) (by first | assumption | exact hL.t rfl)) (m111 h7) rfl ?_
    rw [h5]
    refine xpL_iload rfl rfl ?_
    refine xpL_iceq 686 rfl (by decide) (by omega) (by omega) (fun h681 => ?_) (fun h681 => ?_)
    · skip
      refine xpL_iload rfl rfl ?_
      refine xpL_ifne 703 rfl (by decide) (by omega) (fun h688 => ?_) (fun h688 => ?_)
      · skip
        refine xpL_goto 971 rfl (by decide) ?_
        refine xpL_iinc rfl rfl (by decide) (nI_inc5 _) ?_
        refine xpL_goto 23 rfl (by decide) ?_
        refine xpL_weak [(0, .ref 1000003), (1, .ref 0), (2, .ref 189), (3, .ref 229), (4, .int (nI (i + 5)))] (xle_cons rfl (xle_cons rfl (xle_cons rfl (xle_cons rfl (xle_cons rfl (xle_nil _)))))) (by simp [xnd]) ?_
        exact hN _ _ _ _ _ _ h8 (by omega) (by omega) (by omega)
      · skip
        refine xpL_aload_n rfl rfl ?_
        refine xpL_iconst (n := 0) rfl (by decide) ?_
        refine xpL_lald rfl (by first | assumption | exact hL.t rfl) (by omega) (by omega) ?_
        refine xpL_iload rfl rfl ?_
        refine xpL_i2l rfl ?_
        refine xpL_lceq 703 rfl rfl (by decide) (fun h697 => ?_) (fun h697 => ?_)
        · skip
          refine xpL_goto 971 rfl (by decide) ?_
          refine xpL_iinc rfl rfl (by decide) (nI_inc5 _) ?_
          refine xpL_goto 23 rfl (by decide) ?_
          refine xpL_weak [(0, .ref 1000003), (1, .ref 0), (2, .ref 189), (3, .ref 229), (4, .int (nI (i + 5)))] (xle_cons rfl (xle_cons rfl (xle_cons rfl (xle_cons rfl (xle_cons rfl (xle_nil _)))))) (by simp [xnd]) ?_
          exact hN _ _ _ _ _ _ h8 (by omega) (by omega) (by omega)
        · exact absurd (h6 (by omega)) h697
    · exfalso; omega
set_option maxRecDepth 8000 in
theorem law_load {L : Nat} {xs : Nat → Int32} {P : xR → Prop} {z : Nat} {T : Nat → Option xT} {R : Nat → Nat → Option Nat} {w n : Nat} {A : xQ} {c q i k0 : Nat} (hL2 : L ≤ 2560) (hi : i + 5 ≤ L) (hin : i = 5 * n) (hI : Inv T R w n A) (hz : z ≤ 300 + n) (hcb : c ≤ 300 + n) (hqb : q ≤ 40000 + 6 * n) (hN : ∀ (z1 : Nat) (R1 : Nat → Nat → Option Nat) (w1 : Nat) (A1 : xQ) (c1 q1 : Nat), Inv T R1 w1 (n + 1) A1 → z1 ≤ 300 + (n + 1) → c1 ≤ 300 + (n + 1) → q1 ≤ 40000 + 6 * (n + 1) → xPL L xs 23 [(0, .ref 1000003), (1, .ref 0), (2, .ref 189), (3, .ref 229), (4, .int (nI (i + 5)))] [] c1 q1 (xm z1 T R1 A1) P) (e0 : xs i = nI k0) (hop : k0 % 16 = 9)  : xPL L xs 23 [(0, .ref 1000003), (1, .ref 0), (2, .ref 189), (3, .ref 229), (4, .int (nI i))] [] c q (xm z T R A) P := by
  have hL := hI.1
  have cm : xc_mc 186 = 601024 := rfl
  have cs : xc_ms 186 = 7293034 := rfl
  have m111a : xc_mc 111 = 0 := rfl
  have m111b : xc_ms 111 = 0 := rfl
  have mA : xc_mc 182 = 1 := rfl
  have mB : xc_ms 182 = 6 := rfl
  have mC : xc_mc 168 = 0 := rfl
  have mD : xc_ms 168 = 0 := rfl
  obtain ⟨code, z1, R1, w1, A1, x, A2, h1, h2, h3c, h4, h5, h6, h7, h8⟩ := arm_int (yw := 182) (aw := [.ref 0, .ref 229]) (pub_load) rfl rfl (fun z z1 T R R1 A A1 w w1 v b1 b2 b3 => w182 b1 b2 b3) (fun z z1 T R R1 A A1 w p b0 b1 b2 b3 => by
    simp only [List.mem_cons, List.not_mem_nil, or_false] at b0
    rcases b0 with rfl | rfl
    · exact ⟨w182_0 b1 b2 b3, by decide⟩
    · exact ⟨w182_3 b1 b2 b3, by decide⟩) (by omega) hI (z := z) (by omega)
  refine xpL_iload rfl rfl ?_
  refine xpL_aload_n rfl rfl ?_
  refine xpL_ln rfl ?_
  refine xpL_iconst (n := 5) rfl (by decide) ?_
  refine xpL_isub rfl (by omega) ?_
  refine xpL_icgt 977 rfl (by decide) (by omega) (by omega) (fun h29 => ?_) (fun h29 => ?_)
  · exfalso; omega
  · skip
    refine xpL_aload_n rfl rfl ?_
    refine xpL_iload rfl rfl ?_
    refine xpL_ld rfl (by omega) (by omega) ?_
    rw [e0]
    refine xpL_bipush (n := 15) rfl (by decide) ?_
    refine xpL_iand rfl ?_
    rw [nI_and15, hop]
    refine xpL_tsw 706 rfl (by omega) (by first | rfl | (rw [if_pos (by omega)]) | (rw [if_neg (by omega)]; rfl)) (by decide) ?_
    refine xpL_aload_n rfl rfl ?_
    refine xpL_aload_n rfl rfl ?_
    refine xpL_w rfl rfl (Nat.le_of_ble_eq_true rfl) (by decide) (by omega) (by omega) (Nat.le_of_ble_eq_true rfl) rfl h1 rfl ?_
    refine xpL_istore rfl (by decide) ?_
    refine xpL_aload_n rfl rfl ?_
    refine xpL_iv rfl rfl (Nat.le_of_ble_eq_true rfl) (by decide) (by omega) (by omega) (Nat.le_of_ble_eq_true rfl) rfl (xrcv1 (by decide) (by first | assumption | exact hL.t rfl)) h4 rfl ?_
    refine xpL_istore rfl (by decide) ?_
    refine xpL_aload_n rfl rfl ?_
    refine xpL_iv rfl rfl (Nat.le_of_ble_eq_true rfl) (by decide) (by omega) (by omega) (Nat.le_of_ble_eq_true rfl) rfl (xrcv1 (by decide) (by first | assumption | exact hL.t rfl)) (m111 h7) rfl ?_
    rw [h5]
    refine xpL_iload rfl rfl ?_
    refine xpL_iceq 730 rfl (by decide) (by omega) (by omega) (fun h725 => ?_) (fun h725 => ?_)
    · skip
      refine xpL_iload rfl rfl ?_
      refine xpL_ifne 747 rfl (by decide) (by omega) (fun h732 => ?_) (fun h732 => ?_)
      · skip
        refine xpL_goto 971 rfl (by decide) ?_
        refine xpL_iinc rfl rfl (by decide) (nI_inc5 _) ?_
        refine xpL_goto 23 rfl (by decide) ?_
        refine xpL_weak [(0, .ref 1000003), (1, .ref 0), (2, .ref 189), (3, .ref 229), (4, .int (nI (i + 5)))] (xle_cons rfl (xle_cons rfl (xle_cons rfl (xle_cons rfl (xle_cons rfl (xle_nil _)))))) (by simp [xnd]) ?_
        exact hN _ _ _ _ _ _ h8 (by omega) (by omega) (by omega)
      · skip
        refine xpL_aload_n rfl rfl ?_
        refine xpL_iconst (n := 0) rfl (by decide) ?_
        refine xpL_lald rfl (by first | assumption | exact hL.t rfl) (by omega) (by omega) ?_
        refine xpL_iload rfl rfl ?_
        refine xpL_i2l rfl ?_
        refine xpL_lceq 747 rfl rfl (by decide) (fun h741 => ?_) (fun h741 => ?_)
        · skip
          refine xpL_goto 971 rfl (by decide) ?_
          refine xpL_iinc rfl rfl (by decide) (nI_inc5 _) ?_
          refine xpL_goto 23 rfl (by decide) ?_
          refine xpL_weak [(0, .ref 1000003), (1, .ref 0), (2, .ref 189), (3, .ref 229), (4, .int (nI (i + 5)))] (xle_cons rfl (xle_cons rfl (xle_cons rfl (xle_cons rfl (xle_cons rfl (xle_nil _)))))) (by simp [xnd]) ?_
          exact hN _ _ _ _ _ _ h8 (by omega) (by omega) (by omega)
        · exact absurd (h6 (by omega)) h741
    · exfalso; omega
set_option maxRecDepth 8000 in
theorem law_image {a1 : Nat} {L : Nat} {xs : Nat → Int32} {P : xR → Prop} {z : Nat} {T : Nat → Option xT} {R : Nat → Nat → Option Nat} {w n : Nat} {A : xQ} {c q i k0 : Nat} (hL2 : L ≤ 2560) (hi : i + 5 ≤ L) (hin : i = 5 * n) (hI : Inv T R w n A) (hz : z ≤ 300 + n) (hcb : c ≤ 300 + n) (hqb : q ≤ 40000 + 6 * n) (hN : ∀ (z1 : Nat) (R1 : Nat → Nat → Option Nat) (w1 : Nat) (A1 : xQ) (c1 q1 : Nat), Inv T R1 w1 (n + 1) A1 → z1 ≤ 300 + (n + 1) → c1 ≤ 300 + (n + 1) → q1 ≤ 40000 + 6 * (n + 1) → xPL L xs 23 [(0, .ref 1000003), (1, .ref 0), (2, .ref 189), (3, .ref 229), (4, .int (nI (i + 5)))] [] c1 q1 (xm z1 T R1 A1) P) (e0 : xs i = nI k0) (hop : k0 % 16 = 11) (e1 : xs (i + 1) = nI a1) (l1 : a1 < 2 ^ 32) : xPL L xs 23 [(0, .ref 1000003), (1, .ref 0), (2, .ref 189), (3, .ref 229), (4, .int (nI i))] [] c q (xm z T R A) P := by
  have hL := hI.1
  have cm : xc_mc 186 = 601024 := rfl
  have cs : xc_ms 186 = 7293034 := rfl
  have m111a : xc_mc 111 = 0 := rfl
  have m111b : xc_ms 111 = 0 := rfl
  have mA : xc_mc 183 = 1 := rfl
  have mB : xc_ms 183 = 6 := rfl
  have mC : xc_mc 170 = 0 := rfl
  have mD : xc_ms 170 = 0 := rfl
  obtain ⟨code, z1, R1, w1, A1, x, A2, h1, h2, h3c, h4, h5, h6, h7, h8⟩ := arm_int (yw := 183) (aw := [.ref 0, .int (nI a1), .ref 229]) (pub_image a1 l1) rfl rfl (fun z z1 T R R1 A A1 w w1 v b1 b2 b3 => w183 b1 b2 b3) (fun z z1 T R R1 A A1 w p b0 b1 b2 b3 => by
    simp only [List.mem_cons, List.not_mem_nil, or_false] at b0
    subst b0
    exact ⟨w183_2 b1 b2 b3, by decide⟩) (by omega) hI (z := z) (by omega)
  refine xpL_iload rfl rfl ?_
  refine xpL_aload_n rfl rfl ?_
  refine xpL_ln rfl ?_
  refine xpL_iconst (n := 5) rfl (by decide) ?_
  refine xpL_isub rfl (by omega) ?_
  refine xpL_icgt 977 rfl (by decide) (by omega) (by omega) (fun h29 => ?_) (fun h29 => ?_)
  · exfalso; omega
  · skip
    refine xpL_aload_n rfl rfl ?_
    refine xpL_iload rfl rfl ?_
    refine xpL_ld rfl (by omega) (by omega) ?_
    rw [e0]
    refine xpL_bipush (n := 15) rfl (by decide) ?_
    refine xpL_iand rfl ?_
    rw [nI_and15, hop]
    refine xpL_tsw 763 rfl (by omega) (by first | rfl | (rw [if_pos (by omega)]) | (rw [if_neg (by omega)]; rfl)) (by decide) ?_
    refine xpL_aload_n rfl rfl ?_
    refine xpL_aload_n rfl rfl ?_
    refine xpL_iload rfl rfl ?_
    refine xpL_iconst (n := 1) rfl (by decide) ?_
    refine xpL_iadd rfl ?_
    refine xpL_ld rfl (by omega) (by omega) ?_
    rw [e1]
    refine xpL_aload_n rfl rfl ?_
    refine xpL_w rfl rfl (Nat.le_of_ble_eq_true rfl) (by decide) (by omega) (by omega) (Nat.le_of_ble_eq_true rfl) rfl h1 rfl ?_
    refine xpL_istore rfl (by decide) ?_
    refine xpL_aload_n rfl rfl ?_
    refine xpL_aload_n rfl rfl ?_
    refine xpL_iload rfl rfl ?_
    refine xpL_iconst (n := 1) rfl (by decide) ?_
    refine xpL_iadd rfl ?_
    refine xpL_ld rfl (by omega) (by omega) ?_
    rw [e1]
    refine xpL_iv rfl rfl (Nat.le_of_ble_eq_true rfl) (by decide) (by omega) (by omega) (Nat.le_of_ble_eq_true rfl) rfl (xrcv1 (by decide) (by first | assumption | exact hL.t rfl)) h4 rfl ?_
    refine xpL_istore rfl (by decide) ?_
    refine xpL_aload_n rfl rfl ?_
    refine xpL_iv rfl rfl (Nat.le_of_ble_eq_true rfl) (by decide) (by omega) (by omega) (Nat.le_of_ble_eq_true rfl) rfl (xrcv1 (by decide) (by first | assumption | exact hL.t rfl)) (m111 h7) rfl ?_
    rw [h5]
    refine xpL_iload rfl rfl ?_
    refine xpL_iceq 799 rfl (by decide) (by omega) (by omega) (fun h794 => ?_) (fun h794 => ?_)
    · skip
      refine xpL_iload rfl rfl ?_
      refine xpL_ifne 816 rfl (by decide) (by omega) (fun h801 => ?_) (fun h801 => ?_)
      · skip
        refine xpL_goto 971 rfl (by decide) ?_
        refine xpL_iinc rfl rfl (by decide) (nI_inc5 _) ?_
        refine xpL_goto 23 rfl (by decide) ?_
        refine xpL_weak [(0, .ref 1000003), (1, .ref 0), (2, .ref 189), (3, .ref 229), (4, .int (nI (i + 5)))] (xle_cons rfl (xle_cons rfl (xle_cons rfl (xle_cons rfl (xle_cons rfl (xle_nil _)))))) (by simp [xnd]) ?_
        exact hN _ _ _ _ _ _ h8 (by omega) (by omega) (by omega)
      · skip
        refine xpL_aload_n rfl rfl ?_
        refine xpL_iconst (n := 0) rfl (by decide) ?_
        refine xpL_lald rfl (by first | assumption | exact hL.t rfl) (by omega) (by omega) ?_
        refine xpL_iload rfl rfl ?_
        refine xpL_i2l rfl ?_
        refine xpL_lceq 816 rfl rfl (by decide) (fun h810 => ?_) (fun h810 => ?_)
        · skip
          refine xpL_goto 971 rfl (by decide) ?_
          refine xpL_iinc rfl rfl (by decide) (nI_inc5 _) ?_
          refine xpL_goto 23 rfl (by decide) ?_
          refine xpL_weak [(0, .ref 1000003), (1, .ref 0), (2, .ref 189), (3, .ref 229), (4, .int (nI (i + 5)))] (xle_cons rfl (xle_cons rfl (xle_cons rfl (xle_cons rfl (xle_cons rfl (xle_nil _)))))) (by simp [xnd]) ?_
          exact hN _ _ _ _ _ _ h8 (by omega) (by omega) (by omega)
        · exact absurd (h6 (by omega)) h810
    · exfalso; omega
set_option maxRecDepth 8000 in
theorem law_patch0 {a1 a2 a3 : Nat} {L : Nat} {xs : Nat → Int32} {P : xR → Prop} {z : Nat} {T : Nat → Option xT} {R : Nat → Nat → Option Nat} {w n : Nat} {A : xQ} {c q i k0 : Nat} (hL2 : L ≤ 2560) (hi : i + 5 ≤ L) (hin : i = 5 * n) (hI : Inv T R w n A) (hz : z ≤ 300 + n) (hcb : c ≤ 300 + n) (hqb : q ≤ 40000 + 6 * n) (hN : ∀ (z1 : Nat) (R1 : Nat → Nat → Option Nat) (w1 : Nat) (A1 : xQ) (c1 q1 : Nat), Inv T R1 w1 (n + 1) A1 → z1 ≤ 300 + (n + 1) → c1 ≤ 300 + (n + 1) → q1 ≤ 40000 + 6 * (n + 1) → xPL L xs 23 [(0, .ref 1000003), (1, .ref 0), (2, .ref 189), (3, .ref 229), (4, .int (nI (i + 5)))] [] c1 q1 (xm z1 T R1 A1) P) (e0 : xs i = nI k0) (hop : k0 % 16 = 12) (e1 : xs (i + 1) = nI a1) (l1 : a1 < 2 ^ 32) (e2 : xs (i + 2) = nI a2) (l2 : a2 < 2 ^ 32) (e3 : xs (i + 3) = nI a3) (l3 : a3 < 2 ^ 32) (h3 : a3 = 0) : xPL L xs 23 [(0, .ref 1000003), (1, .ref 0), (2, .ref 189), (3, .ref 229), (4, .int (nI i))] [] c q (xm z T R A) P := by
  have hL := hI.1
  have cm : xc_mc 186 = 601024 := rfl
  have cs : xc_ms 186 = 7293034 := rfl
  have m111a : xc_mc 111 = 0 := rfl
  have m111b : xc_ms 111 = 0 := rfl
  have mA : xc_mc 184 = 1 := rfl
  have mB : xc_ms 184 = 6 := rfl
  have mC : xc_mc 171 = 0 := rfl
  have mD : xc_ms 171 = 0 := rfl
  obtain ⟨code, z1, R1, w1, A1, x, A2, h1, h2, h3c, h4, h5, h6, h7, h8⟩ := arm_int (yw := 184) (aw := [.ref 0, .int (nI a1), .int (nI a2), .int (nI 0), .ref 229]) (pub_patch a1 a2 0 l1 l2 (by omega)) rfl rfl (fun z z1 T R R1 A A1 w w1 v b1 b2 b3 => w184 b1 b2 b3) (fun z z1 T R R1 A A1 w p b0 b1 b2 b3 => by
    simp only [List.mem_cons, List.not_mem_nil, or_false] at b0
    rcases b0 with rfl | rfl
    · exact ⟨w184_0 b1 b2 b3, by decide⟩
    · exact ⟨w184_2 b1 b2 b3, by decide⟩) (by omega) hI (z := z) (by omega)
  refine xpL_iload rfl rfl ?_
  refine xpL_aload_n rfl rfl ?_
  refine xpL_ln rfl ?_
  refine xpL_iconst (n := 5) rfl (by decide) ?_
  refine xpL_isub rfl (by omega) ?_
  refine xpL_icgt 977 rfl (by decide) (by omega) (by omega) (fun h29 => ?_) (fun h29 => ?_)
  · exfalso; omega
  · skip
    refine xpL_aload_n rfl rfl ?_
    refine xpL_iload rfl rfl ?_
    refine xpL_ld rfl (by omega) (by omega) ?_
    rw [e0]
    refine xpL_bipush (n := 15) rfl (by decide) ?_
    refine xpL_iand rfl ?_
    rw [nI_and15, hop]
    refine xpL_tsw 819 rfl (by omega) (by first | rfl | (rw [if_pos (by omega)]) | (rw [if_neg (by omega)]; rfl)) (by decide) ?_
    refine xpL_aload_n rfl rfl ?_
    refine xpL_aload_n rfl rfl ?_
    refine xpL_iload rfl rfl ?_
    refine xpL_iconst (n := 1) rfl (by decide) ?_
    refine xpL_iadd rfl ?_
    refine xpL_ld rfl (by omega) (by omega) ?_
    rw [e1]
    refine xpL_aload_n rfl rfl ?_
    refine xpL_iload rfl rfl ?_
    refine xpL_iconst (n := 2) rfl (by decide) ?_
    refine xpL_iadd rfl ?_
    refine xpL_ld rfl (by omega) (by omega) ?_
    rw [e2]
    refine xpL_aload_n rfl rfl ?_
    refine xpL_iload rfl rfl ?_
    refine xpL_iconst (n := 3) rfl (by decide) ?_
    refine xpL_iadd rfl ?_
    refine xpL_ld rfl (by omega) (by omega) ?_
    rw [e3]
    refine xpL_ifeq 845 rfl (by decide) (by omega) (fun h838 => ?_) (fun h838 => ?_)
    · skip
      refine xpL_iconst (n := 0) rfl (by decide) ?_
      refine xpL_aload_n rfl rfl ?_
      refine xpL_w rfl rfl (Nat.le_of_ble_eq_true rfl) (by decide) (by omega) (by omega) (Nat.le_of_ble_eq_true rfl) rfl h1 rfl ?_
      refine xpL_istore rfl (by decide) ?_
      refine xpL_aload_n rfl rfl ?_
      refine xpL_aload_n rfl rfl ?_
      refine xpL_iload rfl rfl ?_
      refine xpL_iconst (n := 1) rfl (by decide) ?_
      refine xpL_iadd rfl ?_
      refine xpL_ld rfl (by omega) (by omega) ?_
      rw [e1]
      refine xpL_aload_n rfl rfl ?_
      refine xpL_iload rfl rfl ?_
      refine xpL_iconst (n := 2) rfl (by decide) ?_
      refine xpL_iadd rfl ?_
      refine xpL_ld rfl (by omega) (by omega) ?_
      rw [e2]
      refine xpL_aload_n rfl rfl ?_
      refine xpL_iload rfl rfl ?_
      refine xpL_iconst (n := 3) rfl (by decide) ?_
      refine xpL_iadd rfl ?_
      refine xpL_ld rfl (by omega) (by omega) ?_
      rw [e3]
      refine xpL_ifeq 878 rfl (by decide) (by omega) (fun h871 => ?_) (fun h871 => ?_)
      · skip
        refine xpL_iconst (n := 0) rfl (by decide) ?_
        refine xpL_iv rfl rfl (Nat.le_of_ble_eq_true rfl) (by decide) (by omega) (by omega) (Nat.le_of_ble_eq_true rfl) rfl (xrcv1 (by decide) (by first | assumption | exact hL.t rfl)) h4 rfl ?_
        refine xpL_istore rfl (by decide) ?_
        refine xpL_aload_n rfl rfl ?_
        refine xpL_iv rfl rfl (Nat.le_of_ble_eq_true rfl) (by decide) (by omega) (by omega) (Nat.le_of_ble_eq_true rfl) rfl (xrcv1 (by decide) (by first | assumption | exact hL.t rfl)) (m111 h7) rfl ?_
        rw [h5]
        refine xpL_iload rfl rfl ?_
        refine xpL_iceq 895 rfl (by decide) (by omega) (by omega) (fun h890 => ?_) (fun h890 => ?_)
        · skip
          refine xpL_iload rfl rfl ?_
          refine xpL_ifne 912 rfl (by decide) (by omega) (fun h897 => ?_) (fun h897 => ?_)
          · skip
            refine xpL_goto 971 rfl (by decide) ?_
            refine xpL_iinc rfl rfl (by decide) (nI_inc5 _) ?_
            refine xpL_goto 23 rfl (by decide) ?_
            refine xpL_weak [(0, .ref 1000003), (1, .ref 0), (2, .ref 189), (3, .ref 229), (4, .int (nI (i + 5)))] (xle_cons rfl (xle_cons rfl (xle_cons rfl (xle_cons rfl (xle_cons rfl (xle_nil _)))))) (by simp [xnd]) ?_
            exact hN _ _ _ _ _ _ h8 (by omega) (by omega) (by omega)
          · skip
            refine xpL_aload_n rfl rfl ?_
            refine xpL_iconst (n := 0) rfl (by decide) ?_
            refine xpL_lald rfl (by first | assumption | exact hL.t rfl) (by omega) (by omega) ?_
            refine xpL_iload rfl rfl ?_
            refine xpL_i2l rfl ?_
            refine xpL_lceq 912 rfl rfl (by decide) (fun h906 => ?_) (fun h906 => ?_)
            · skip
              refine xpL_goto 971 rfl (by decide) ?_
              refine xpL_iinc rfl rfl (by decide) (nI_inc5 _) ?_
              refine xpL_goto 23 rfl (by decide) ?_
              refine xpL_weak [(0, .ref 1000003), (1, .ref 0), (2, .ref 189), (3, .ref 229), (4, .int (nI (i + 5)))] (xle_cons rfl (xle_cons rfl (xle_cons rfl (xle_cons rfl (xle_cons rfl (xle_nil _)))))) (by simp [xnd]) ?_
              exact hN _ _ _ _ _ _ h8 (by omega) (by omega) (by omega)
            · exact absurd (h6 (by omega)) h906
        · exfalso; omega
      · exfalso; omega
    · exfalso; omega
set_option maxRecDepth 8000 in
theorem law_patch1 {a1 a2 a3 : Nat} {L : Nat} {xs : Nat → Int32} {P : xR → Prop} {z : Nat} {T : Nat → Option xT} {R : Nat → Nat → Option Nat} {w n : Nat} {A : xQ} {c q i k0 : Nat} (hL2 : L ≤ 2560) (hi : i + 5 ≤ L) (hin : i = 5 * n) (hI : Inv T R w n A) (hz : z ≤ 300 + n) (hcb : c ≤ 300 + n) (hqb : q ≤ 40000 + 6 * n) (hN : ∀ (z1 : Nat) (R1 : Nat → Nat → Option Nat) (w1 : Nat) (A1 : xQ) (c1 q1 : Nat), Inv T R1 w1 (n + 1) A1 → z1 ≤ 300 + (n + 1) → c1 ≤ 300 + (n + 1) → q1 ≤ 40000 + 6 * (n + 1) → xPL L xs 23 [(0, .ref 1000003), (1, .ref 0), (2, .ref 189), (3, .ref 229), (4, .int (nI (i + 5)))] [] c1 q1 (xm z1 T R1 A1) P) (e0 : xs i = nI k0) (hop : k0 % 16 = 12) (e1 : xs (i + 1) = nI a1) (l1 : a1 < 2 ^ 32) (e2 : xs (i + 2) = nI a2) (l2 : a2 < 2 ^ 32) (e3 : xs (i + 3) = nI a3) (l3 : a3 < 2 ^ 32) (h3 : ¬ a3 = 0) : xPL L xs 23 [(0, .ref 1000003), (1, .ref 0), (2, .ref 189), (3, .ref 229), (4, .int (nI i))] [] c q (xm z T R A) P := by
  have hL := hI.1
  have cm : xc_mc 186 = 601024 := rfl
  have cs : xc_ms 186 = 7293034 := rfl
  have m111a : xc_mc 111 = 0 := rfl
  have m111b : xc_ms 111 = 0 := rfl
  have mA : xc_mc 184 = 1 := rfl
  have mB : xc_ms 184 = 6 := rfl
  have mC : xc_mc 171 = 0 := rfl
  have mD : xc_ms 171 = 0 := rfl
  obtain ⟨code, z1, R1, w1, A1, x, A2, h1, h2, h3c, h4, h5, h6, h7, h8⟩ := arm_int (yw := 184) (aw := [.ref 0, .int (nI a1), .int (nI a2), .int (nI 1), .ref 229]) (pub_patch a1 a2 1 l1 l2 (by omega)) rfl rfl (fun z z1 T R R1 A A1 w w1 v b1 b2 b3 => w184 b1 b2 b3) (fun z z1 T R R1 A A1 w p b0 b1 b2 b3 => by
    simp only [List.mem_cons, List.not_mem_nil, or_false] at b0
    rcases b0 with rfl | rfl
    · exact ⟨w184_0 b1 b2 b3, by decide⟩
    · exact ⟨w184_2 b1 b2 b3, by decide⟩) (by omega) hI (z := z) (by omega)
  refine xpL_iload rfl rfl ?_
  refine xpL_aload_n rfl rfl ?_
  refine xpL_ln rfl ?_
  refine xpL_iconst (n := 5) rfl (by decide) ?_
  refine xpL_isub rfl (by omega) ?_
  refine xpL_icgt 977 rfl (by decide) (by omega) (by omega) (fun h29 => ?_) (fun h29 => ?_)
  · exfalso; omega
  · skip
    refine xpL_aload_n rfl rfl ?_
    refine xpL_iload rfl rfl ?_
    refine xpL_ld rfl (by omega) (by omega) ?_
    rw [e0]
    refine xpL_bipush (n := 15) rfl (by decide) ?_
    refine xpL_iand rfl ?_
    rw [nI_and15, hop]
    refine xpL_tsw 819 rfl (by omega) (by first | rfl | (rw [if_pos (by omega)]) | (rw [if_neg (by omega)]; rfl)) (by decide) ?_
    refine xpL_aload_n rfl rfl ?_
    refine xpL_aload_n rfl rfl ?_
    refine xpL_iload rfl rfl ?_
    refine xpL_iconst (n := 1) rfl (by decide) ?_
    refine xpL_iadd rfl ?_
    refine xpL_ld rfl (by omega) (by omega) ?_
    rw [e1]
    refine xpL_aload_n rfl rfl ?_
    refine xpL_iload rfl rfl ?_
    refine xpL_iconst (n := 2) rfl (by decide) ?_
    refine xpL_iadd rfl ?_
    refine xpL_ld rfl (by omega) (by omega) ?_
    rw [e2]
    refine xpL_aload_n rfl rfl ?_
    refine xpL_iload rfl rfl ?_
    refine xpL_iconst (n := 3) rfl (by decide) ?_
    refine xpL_iadd rfl ?_
    refine xpL_ld rfl (by omega) (by omega) ?_
    rw [e3]
    refine xpL_ifeq 845 rfl (by decide) (by omega) (fun h838 => ?_) (fun h838 => ?_)
    · exfalso; omega
    · skip
      refine xpL_iconst (n := 1) rfl (by decide) ?_
      refine xpL_goto 846 rfl (by decide) ?_
      refine xpL_aload_n rfl rfl ?_
      refine xpL_w rfl rfl (Nat.le_of_ble_eq_true rfl) (by decide) (by omega) (by omega) (Nat.le_of_ble_eq_true rfl) rfl h1 rfl ?_
      refine xpL_istore rfl (by decide) ?_
      refine xpL_aload_n rfl rfl ?_
      refine xpL_aload_n rfl rfl ?_
      refine xpL_iload rfl rfl ?_
      refine xpL_iconst (n := 1) rfl (by decide) ?_
      refine xpL_iadd rfl ?_
      refine xpL_ld rfl (by omega) (by omega) ?_
      rw [e1]
      refine xpL_aload_n rfl rfl ?_
      refine xpL_iload rfl rfl ?_
      refine xpL_iconst (n := 2) rfl (by decide) ?_
      refine xpL_iadd rfl ?_
      refine xpL_ld rfl (by omega) (by omega) ?_
      rw [e2]
      refine xpL_aload_n rfl rfl ?_
      refine xpL_iload rfl rfl ?_
      refine xpL_iconst (n := 3) rfl (by decide) ?_
      refine xpL_iadd rfl ?_
      refine xpL_ld rfl (by omega) (by omega) ?_
      rw [e3]
      refine xpL_ifeq 878 rfl (by decide) (by omega) (fun h871 => ?_) (fun h871 => ?_)
      · exfalso; omega
      · skip
        refine xpL_iconst (n := 1) rfl (by decide) ?_
        refine xpL_goto 879 rfl (by decide) ?_
        refine xpL_iv rfl rfl (Nat.le_of_ble_eq_true rfl) (by decide) (by omega) (by omega) (Nat.le_of_ble_eq_true rfl) rfl (xrcv1 (by decide) (by first | assumption | exact hL.t rfl)) h4 rfl ?_
        refine xpL_istore rfl (by decide) ?_
        refine xpL_aload_n rfl rfl ?_
        refine xpL_iv rfl rfl (Nat.le_of_ble_eq_true rfl) (by decide) (by omega) (by omega) (Nat.le_of_ble_eq_true rfl) rfl (xrcv1 (by decide) (by first | assumption | exact hL.t rfl)) (m111 h7) rfl ?_
        rw [h5]
        refine xpL_iload rfl rfl ?_
        refine xpL_iceq 895 rfl (by decide) (by omega) (by omega) (fun h890 => ?_) (fun h890 => ?_)
        · skip
          refine xpL_iload rfl rfl ?_
          refine xpL_ifne 912 rfl (by decide) (by omega) (fun h897 => ?_) (fun h897 => ?_)
          · skip
            refine xpL_goto 971 rfl (by decide) ?_
            refine xpL_iinc rfl rfl (by decide) (nI_inc5 _) ?_
            refine xpL_goto 23 rfl (by decide) ?_
            refine xpL_weak [(0, .ref 1000003), (1, .ref 0), (2, .ref 189), (3, .ref 229), (4, .int (nI (i + 5)))] (xle_cons rfl (xle_cons rfl (xle_cons rfl (xle_cons rfl (xle_cons rfl (xle_nil _)))))) (by simp [xnd]) ?_
            exact hN _ _ _ _ _ _ h8 (by omega) (by omega) (by omega)
          · skip
            refine xpL_aload_n rfl rfl ?_
            refine xpL_iconst (n := 0) rfl (by decide) ?_
            refine xpL_lald rfl (by first | assumption | exact hL.t rfl) (by omega) (by omega) ?_
            refine xpL_iload rfl rfl ?_
            refine xpL_i2l rfl ?_
            refine xpL_lceq 912 rfl rfl (by decide) (fun h906 => ?_) (fun h906 => ?_)
            · skip
              refine xpL_goto 971 rfl (by decide) ?_
              refine xpL_iinc rfl rfl (by decide) (nI_inc5 _) ?_
              refine xpL_goto 23 rfl (by decide) ?_
              refine xpL_weak [(0, .ref 1000003), (1, .ref 0), (2, .ref 189), (3, .ref 229), (4, .int (nI (i + 5)))] (xle_cons rfl (xle_cons rfl (xle_cons rfl (xle_cons rfl (xle_cons rfl (xle_nil _)))))) (by simp [xnd]) ?_
              exact hN _ _ _ _ _ _ h8 (by omega) (by omega) (by omega)
            · exact absurd (h6 (by omega)) h906
        · exfalso; omega
set_option maxRecDepth 8000 in
theorem law_cut {a1 : Nat} {L : Nat} {xs : Nat → Int32} {P : xR → Prop} {z : Nat} {T : Nat → Option xT} {R : Nat → Nat → Option Nat} {w n : Nat} {A : xQ} {c q i k0 : Nat} (hL2 : L ≤ 2560) (hi : i + 5 ≤ L) (hin : i = 5 * n) (hI : Inv T R w n A) (hz : z ≤ 300 + n) (hcb : c ≤ 300 + n) (hqb : q ≤ 40000 + 6 * n) (hN : ∀ (z1 : Nat) (R1 : Nat → Nat → Option Nat) (w1 : Nat) (A1 : xQ) (c1 q1 : Nat), Inv T R1 w1 (n + 1) A1 → z1 ≤ 300 + (n + 1) → c1 ≤ 300 + (n + 1) → q1 ≤ 40000 + 6 * (n + 1) → xPL L xs 23 [(0, .ref 1000003), (1, .ref 0), (2, .ref 189), (3, .ref 229), (4, .int (nI (i + 5)))] [] c1 q1 (xm z1 T R1 A1) P) (e0 : xs i = nI k0) (hop : k0 % 16 = 13) (e1 : xs (i + 1) = nI a1) (l1 : a1 < 2 ^ 32) : xPL L xs 23 [(0, .ref 1000003), (1, .ref 0), (2, .ref 189), (3, .ref 229), (4, .int (nI i))] [] c q (xm z T R A) P := by
  have hL := hI.1
  have cm : xc_mc 186 = 601024 := rfl
  have cs : xc_ms 186 = 7293034 := rfl
  have m111a : xc_mc 111 = 0 := rfl
  have m111b : xc_ms 111 = 0 := rfl
  have mA : xc_mc 185 = 1 := rfl
  have mB : xc_ms 185 = 6 := rfl
  have mC : xc_mc 172 = 0 := rfl
  have mD : xc_ms 172 = 0 := rfl
  obtain ⟨code, z1, R1, w1, A1, x, A2, h1, h2, h3c, h4, h5, h6, h7, h8⟩ := arm_int (yw := 185) (aw := [.ref 0, .int (nI a1), .ref 229]) (pub_cut a1 l1) rfl rfl (fun z z1 T R R1 A A1 w w1 v b1 b2 b3 => w185 b1 b2 b3) (fun z z1 T R R1 A A1 w p b0 b1 b2 b3 => by
    simp only [List.mem_cons, List.not_mem_nil, or_false] at b0
    subst b0
    exact ⟨w185_0 b1 b2 b3, by decide⟩) (by omega) hI (z := z) (by omega)
  refine xpL_iload rfl rfl ?_
  refine xpL_aload_n rfl rfl ?_
  refine xpL_ln rfl ?_
  refine xpL_iconst (n := 5) rfl (by decide) ?_
  refine xpL_isub rfl (by omega) ?_
  refine xpL_icgt 977 rfl (by decide) (by omega) (by omega) (fun h29 => ?_) (fun h29 => ?_)
  · exfalso; omega
  · skip
    refine xpL_aload_n rfl rfl ?_
    refine xpL_iload rfl rfl ?_
    refine xpL_ld rfl (by omega) (by omega) ?_
    rw [e0]
    refine xpL_bipush (n := 15) rfl (by decide) ?_
    refine xpL_iand rfl ?_
    rw [nI_and15, hop]
    refine xpL_tsw 915 rfl (by omega) (by first | rfl | (rw [if_pos (by omega)]) | (rw [if_neg (by omega)]; rfl)) (by decide) ?_
    refine xpL_aload_n rfl rfl ?_
    refine xpL_aload_n rfl rfl ?_
    refine xpL_iload rfl rfl ?_
    refine xpL_iconst (n := 1) rfl (by decide) ?_
    refine xpL_iadd rfl ?_
    refine xpL_ld rfl (by omega) (by omega) ?_
    rw [e1]
    refine xpL_aload_n rfl rfl ?_
    refine xpL_w rfl rfl (Nat.le_of_ble_eq_true rfl) (by decide) (by omega) (by omega) (Nat.le_of_ble_eq_true rfl) rfl h1 rfl ?_
    refine xpL_istore rfl (by decide) ?_
    refine xpL_aload_n rfl rfl ?_
    refine xpL_aload_n rfl rfl ?_
    refine xpL_iload rfl rfl ?_
    refine xpL_iconst (n := 1) rfl (by decide) ?_
    refine xpL_iadd rfl ?_
    refine xpL_ld rfl (by omega) (by omega) ?_
    rw [e1]
    refine xpL_iv rfl rfl (Nat.le_of_ble_eq_true rfl) (by decide) (by omega) (by omega) (Nat.le_of_ble_eq_true rfl) rfl (xrcv1 (by decide) (by first | assumption | exact hL.t rfl)) h4 rfl ?_
    refine xpL_istore rfl (by decide) ?_
    refine xpL_aload_n rfl rfl ?_
    refine xpL_iv rfl rfl (Nat.le_of_ble_eq_true rfl) (by decide) (by omega) (by omega) (Nat.le_of_ble_eq_true rfl) rfl (xrcv1 (by decide) (by first | assumption | exact hL.t rfl)) (m111 h7) rfl ?_
    rw [h5]
    refine xpL_iload rfl rfl ?_
    refine xpL_iceq 951 rfl (by decide) (by omega) (by omega) (fun h946 => ?_) (fun h946 => ?_)
    · skip
      refine xpL_iload rfl rfl ?_
      refine xpL_ifne 968 rfl (by decide) (by omega) (fun h953 => ?_) (fun h953 => ?_)
      · skip
        refine xpL_goto 971 rfl (by decide) ?_
        refine xpL_iinc rfl rfl (by decide) (nI_inc5 _) ?_
        refine xpL_goto 23 rfl (by decide) ?_
        refine xpL_weak [(0, .ref 1000003), (1, .ref 0), (2, .ref 189), (3, .ref 229), (4, .int (nI (i + 5)))] (xle_cons rfl (xle_cons rfl (xle_cons rfl (xle_cons rfl (xle_cons rfl (xle_nil _)))))) (by simp [xnd]) ?_
        exact hN _ _ _ _ _ _ h8 (by omega) (by omega) (by omega)
      · skip
        refine xpL_aload_n rfl rfl ?_
        refine xpL_iconst (n := 0) rfl (by decide) ?_
        refine xpL_lald rfl (by first | assumption | exact hL.t rfl) (by omega) (by omega) ?_
        refine xpL_iload rfl rfl ?_
        refine xpL_i2l rfl ?_
        refine xpL_lceq 968 rfl rfl (by decide) (fun h962 => ?_) (fun h962 => ?_)
        · skip
          refine xpL_goto 971 rfl (by decide) ?_
          refine xpL_iinc rfl rfl (by decide) (nI_inc5 _) ?_
          refine xpL_goto 23 rfl (by decide) ?_
          refine xpL_weak [(0, .ref 1000003), (1, .ref 0), (2, .ref 189), (3, .ref 229), (4, .int (nI (i + 5)))] (xle_cons rfl (xle_cons rfl (xle_cons rfl (xle_cons rfl (xle_cons rfl (xle_nil _)))))) (by simp [xnd]) ?_
          exact hN _ _ _ _ _ _ h8 (by omega) (by omega) (by omega)
        · exact absurd (h6 (by omega)) h962
    · exfalso; omega
set_option maxRecDepth 8000 in
theorem law_where {L : Nat} {xs : Nat → Int32} {P : xR → Prop} {z : Nat} {T : Nat → Option xT} {R : Nat → Nat → Option Nat} {w n : Nat} {A : xQ} {c q i k0 : Nat} (hL2 : L ≤ 2560) (hi : i + 5 ≤ L) (hin : i = 5 * n) (hI : Inv T R w n A) (hz : z ≤ 300 + n) (hcb : c ≤ 300 + n) (hqb : q ≤ 40000 + 6 * n) (hN : ∀ (z1 : Nat) (R1 : Nat → Nat → Option Nat) (w1 : Nat) (A1 : xQ) (c1 q1 : Nat), Inv T R1 w1 (n + 1) A1 → z1 ≤ 300 + (n + 1) → c1 ≤ 300 + (n + 1) → q1 ≤ 40000 + 6 * (n + 1) → xPL L xs 23 [(0, .ref 1000003), (1, .ref 0), (2, .ref 189), (3, .ref 229), (4, .int (nI (i + 5)))] [] c1 q1 (xm z1 T R1 A1) P) (e0 : xs i = nI k0) (hop : k0 % 16 = 10) : xPL L xs 23 [(0, .ref 1000003), (1, .ref 0), (2, .ref 189), (3, .ref 229), (4, .int (nI i))] [] c q (xm z T R A) P := by
  have hL := hI.1
  have cm : xc_mc 186 = 601024 := rfl
  have cs : xc_ms 186 = 7293034 := rfl
  have mA : xc_mc 11 = 0 := rfl
  have mB : xc_ms 11 = 0 := rfl
  have mC : xc_mc 169 = 0 := rfl
  have mD : xc_ms 169 = 0 := rfl
  obtain ⟨rc, z1, R1, w1, A1, hc, hrc, href⟩ := pub_where z T R w n A (by omega) hI
  rcases hrc with ⟨ex, h1, h2, h3⟩ | ⟨v, h1, h2, h3⟩
  · exact absurd rfl h2
  · obtain ⟨vm, A2, g1, g2, g3, g4, h8⟩ := href (A1.2 229 0)
    rw [xsJ_self] at g1
    obtain ⟨x, hx⟩ := (xF_rt rfl g1 vm rfl).1 rfl
    obtain ⟨q1, q2⟩ := g4 v h1
    subst hx
    subst q2
    rw [h1] at hc
    obtain ⟨kx, kl, ke⟩ := nI_ex x
    rw [ke] at hc g1
    refine xpL_iload rfl rfl ?_
    refine xpL_aload_n rfl rfl ?_
    refine xpL_ln rfl ?_
    refine xpL_iconst (n := 5) rfl (by decide) ?_
    refine xpL_isub rfl (by omega) ?_
    refine xpL_icgt 977 rfl (by decide) (by omega) (by omega) (fun h29 => ?_) (fun h29 => ?_)
    · exfalso; omega
    · skip
      refine xpL_aload_n rfl rfl ?_
      refine xpL_iload rfl rfl ?_
      refine xpL_ld rfl (by omega) (by omega) ?_
      rw [e0]
      refine xpL_bipush (n := 15) rfl (by decide) ?_
      refine xpL_iand rfl ?_
      rw [nI_and15, hop]
      refine xpL_tsw 750 rfl (by omega) (by first | rfl | (rw [if_pos (by omega)]) | (rw [if_neg (by omega)]; rfl)) (by decide) ?_
      refine xpL_aload_n rfl rfl ?_
      refine xpL_iv rfl rfl (Nat.le_of_ble_eq_true rfl) (by decide) (by omega) (by omega) (Nat.le_of_ble_eq_true rfl) rfl (xrcv1 (by decide) (by first | assumption | exact hL.t rfl)) hc rfl ?_
      refine xpL_aload_n rfl rfl ?_
      refine xpL_iv rfl rfl (Nat.le_of_ble_eq_true rfl) (by decide) (by omega) (by omega) (Nat.le_of_ble_eq_true rfl) rfl (xrcv1 (by decide) (by first | assumption | exact hL.t rfl)) g1 rfl ?_
      refine xpL_iceq 971 rfl (by decide) (by omega) (by omega) (fun h758 => ?_) (fun h758 => ?_)
      · skip
        refine xpL_iinc rfl rfl (by decide) (nI_inc5 _) ?_
        refine xpL_goto 23 rfl (by decide) ?_
        refine xpL_weak [(0, .ref 1000003), (1, .ref 0), (2, .ref 189), (3, .ref 229), (4, .int (nI (i + 5)))] (xle_cons rfl (xle_cons rfl (xle_cons rfl (xle_cons rfl (xle_cons rfl (xle_nil _)))))) (by simp [xnd]) ?_
        exact hN _ _ _ _ _ _ h8 (by omega) (by omega) (by omega)
      · exfalso; omega
set_option maxRecDepth 8000 in
theorem law_none {L : Nat} {xs : Nat → Int32} {P : xR → Prop} {z : Nat} {T : Nat → Option xT} {R : Nat → Nat → Option Nat} {w n : Nat} {A : xQ} {c q i k0 : Nat} (hL2 : L ≤ 2560) (hi : i + 5 ≤ L) (hin : i = 5 * n) (hI : Inv T R w n A) (hz : z ≤ 300 + n) (hcb : c ≤ 300 + n) (hqb : q ≤ 40000 + 6 * n) (hN : ∀ (z1 : Nat) (R1 : Nat → Nat → Option Nat) (w1 : Nat) (A1 : xQ) (c1 q1 : Nat), Inv T R1 w1 (n + 1) A1 → z1 ≤ 300 + (n + 1) → c1 ≤ 300 + (n + 1) → q1 ≤ 40000 + 6 * (n + 1) → xPL L xs 23 [(0, .ref 1000003), (1, .ref 0), (2, .ref 189), (3, .ref 229), (4, .int (nI (i + 5)))] [] c1 q1 (xm z1 T R1 A1) P) (e0 : xs i = nI k0) (hop : k0 % 16 = 14 ∨ k0 % 16 = 15) : xPL L xs 23 [(0, .ref 1000003), (1, .ref 0), (2, .ref 189), (3, .ref 229), (4, .int (nI i))] [] c q (xm z T R A) P := by
  have h8 : Inv T R w (n + 1) A := by
    obtain ⟨i1, i2, i3, i4, i5, i6, i7⟩ := hI
    exact ⟨i1, i2, i3, i4, i5, by omega, by omega⟩
  rcases hop with hop | hop
  · skip
    refine xpL_iload rfl rfl ?_
    refine xpL_aload_n rfl rfl ?_
    refine xpL_ln rfl ?_
    refine xpL_iconst (n := 5) rfl (by decide) ?_
    refine xpL_isub rfl (by omega) ?_
    refine xpL_icgt 977 rfl (by decide) (by omega) (by omega) (fun h29 => ?_) (fun h29 => ?_)
    · exfalso; omega
    · skip
      refine xpL_aload_n rfl rfl ?_
      refine xpL_iload rfl rfl ?_
      refine xpL_ld rfl (by omega) (by omega) ?_
      rw [e0]
      refine xpL_bipush (n := 15) rfl (by decide) ?_
      refine xpL_iand rfl ?_
      rw [nI_and15, hop]
      refine xpL_tsw 971 rfl (by omega) (by first | rfl | (rw [if_pos (by omega)]) | (rw [if_neg (by omega)]; rfl)) (by decide) ?_
      refine xpL_iinc rfl rfl (by decide) (nI_inc5 _) ?_
      refine xpL_goto 23 rfl (by decide) ?_
      refine xpL_weak [(0, .ref 1000003), (1, .ref 0), (2, .ref 189), (3, .ref 229), (4, .int (nI (i + 5)))] (xle_cons rfl (xle_cons rfl (xle_cons rfl (xle_cons rfl (xle_cons rfl (xle_nil _)))))) (by simp [xnd]) ?_
      exact hN _ _ _ _ _ _ h8 (by omega) (by omega) (by omega)
  · skip
    refine xpL_iload rfl rfl ?_
    refine xpL_aload_n rfl rfl ?_
    refine xpL_ln rfl ?_
    refine xpL_iconst (n := 5) rfl (by decide) ?_
    refine xpL_isub rfl (by omega) ?_
    refine xpL_icgt 977 rfl (by decide) (by omega) (by omega) (fun h29 => ?_) (fun h29 => ?_)
    · exfalso; omega
    · skip
      refine xpL_aload_n rfl rfl ?_
      refine xpL_iload rfl rfl ?_
      refine xpL_ld rfl (by omega) (by omega) ?_
      rw [e0]
      refine xpL_bipush (n := 15) rfl (by decide) ?_
      refine xpL_iand rfl ?_
      rw [nI_and15, hop]
      refine xpL_tsw 971 rfl (by omega) (by first | rfl | (rw [if_pos (by omega)]) | (rw [if_neg (by omega)]; rfl)) (by decide) ?_
      refine xpL_iinc rfl rfl (by decide) (nI_inc5 _) ?_
      refine xpL_goto 23 rfl (by decide) ?_
      refine xpL_weak [(0, .ref 1000003), (1, .ref 0), (2, .ref 189), (3, .ref 229), (4, .int (nI (i + 5)))] (xle_cons rfl (xle_cons rfl (xle_cons rfl (xle_cons rfl (xle_cons rfl (xle_nil _)))))) (by simp [xnd]) ?_
      exact hN _ _ _ _ _ _ h8 (by omega) (by omega) (by omega)
set_option maxRecDepth 8000 in
theorem law_end {L : Nat} {xs : Nat → Int32} {S : xS} {c q i : Nat} (hL2 : L ≤ 2560) (hi : L < i + 5) (hi2 : i ≤ 2560) (hcb : c ≤ 900) (hqb : q ≤ 50000) : xPL L xs 23 [(0, .ref 1000003), (1, .ref 0), (2, .ref 189), (3, .ref 229), (4, .int (nI i))] [] c q S (fun r => ∃ S1, r = (.inr (some (.int 1)), S1)) := by
  have cm : xc_mc 186 = 601024 := rfl
  have cs : xc_ms 186 = 7293034 := rfl
  by_cases h5 : 5 ≤ L
  · skip
    refine xpL_iload rfl rfl ?_
    refine xpL_aload_n rfl rfl ?_
    refine xpL_ln rfl ?_
    refine xpL_iconst (n := 5) rfl (by decide) ?_
    refine xpL_isub rfl (by omega) ?_
    refine xpL_icgt 977 rfl (by decide) (by omega) (by omega) (fun h29 => ?_) (fun h29 => ?_)
    · skip
      refine xpL_iconst (n := 1) rfl (by decide) ?_
      refine xpL_zreturn rfl (by omega) (by omega) (by decide) (by omega) ?_
      exact ⟨_, rfl⟩
    · exfalso; omega
  · have e5 : ∃ k, nI L - nI 5 = nI k ∧ 2 ^ 31 ≤ k ∧ k < 2 ^ 32 := by
      have h : L = 0 ∨ L = 1 ∨ L = 2 ∨ L = 3 ∨ L = 4 := by omega
      rcases h with rfl | rfl | rfl | rfl | rfl
      · exact ⟨4294967291, by decide, by decide, by decide⟩
      · exact ⟨4294967292, by decide, by decide, by decide⟩
      · exact ⟨4294967293, by decide, by decide, by decide⟩
      · exact ⟨4294967294, by decide, by decide, by decide⟩
      · exact ⟨4294967295, by decide, by decide, by decide⟩
    obtain ⟨k, k1, k2, k3⟩ := e5
    have k4 : sg k < 0 := by rw [sg_n k2]; omega
    have k5 : sg i = i := sg_p (by omega)
    refine xpL_iload rfl rfl ?_
    refine xpL_aload_n rfl rfl ?_
    refine xpL_ln rfl ?_
    refine xpL_iconst (n := 5) rfl (by decide) ?_
    refine xpL_isubR rfl ?_
    rw [k1]
    refine xpL_icgtS 977 rfl (by decide) (by omega) (by omega) (fun h29 => ?_) (fun h29 => ?_)
    · skip
      refine xpL_iconst (n := 1) rfl (by decide) ?_
      refine xpL_zreturn rfl (by omega) (by omega) (by decide) (by omega) ?_
      exact ⟨_, rfl⟩
    · exfalso; omega
theorem law_loop {L : Nat} {xs : Nat → Int32} {T : Nat → Option xT} (hL2 : L ≤ 2560) : ∀ (m n : Nat) (z : Nat) (R : Nat → Nat → Option Nat) (w : Nat) (A : xQ) (c q : Nat), n + m = 513 → Inv T R w n A → z ≤ 300 + n → c ≤ 300 + n → q ≤ 40000 + 6 * n → n ≤ 512 → xPL L xs 23 [(0, .ref 1000003), (1, .ref 0), (2, .ref 189), (3, .ref 229), (4, .int (nI (5 * n)))] [] c q (xm z T R A) (fun r => ∃ S1, r = (.inr (some (.int 1)), S1)) := by
  intro m
  induction m with
  | zero => intro n z R w A c q h; omega
  | succ m ih =>
    intro n z R w A c q hm hI hz hcb hqb hn
    by_cases hi : 5 * n + 5 ≤ L
    · have hN : ∀ (z1 : Nat) (R1 : Nat → Nat → Option Nat) (w1 : Nat) (A1 : xQ) (c1 q1 : Nat), Inv T R1 w1 (n + 1) A1 → z1 ≤ 300 + (n + 1) → c1 ≤ 300 + (n + 1) → q1 ≤ 40000 + 6 * (n + 1) → xPL L xs 23 [(0, .ref 1000003), (1, .ref 0), (2, .ref 189), (3, .ref 229), (4, .int (nI (5 * n + 5)))] [] c1 q1 (xm z1 T R1 A1) (fun r => ∃ S1, r = (.inr (some (.int 1)), S1)) := fun z1 R1 w1 A1 c1 q1 b1 b2 b3 b4 => ih (n + 1) z1 R1 w1 A1 c1 q1 (by omega) b1 b2 b3 b4 (by omega)
      obtain ⟨k0, -, e0⟩ := nI_ex (xs (5 * n))
      obtain ⟨a1, l1, e1⟩ := nI_ex (xs (5 * n + 1))
      obtain ⟨a2, l2, e2⟩ := nI_ex (xs (5 * n + 2))
      obtain ⟨a3, l3, e3⟩ := nI_ex (xs (5 * n + 3))
      obtain ⟨a4, l4, e4⟩ := nI_ex (xs (5 * n + 4))
      have h16 : k0 % 16 < 16 := Nat.mod_lt _ (by decide)
      have hc : k0 % 16 = 0 ∨ k0 % 16 = 1 ∨ k0 % 16 = 2 ∨ k0 % 16 = 3 ∨ k0 % 16 = 4 ∨ k0 % 16 = 5 ∨ k0 % 16 = 6 ∨ k0 % 16 = 7 ∨ k0 % 16 = 8 ∨ k0 % 16 = 9 ∨ k0 % 16 = 10 ∨ k0 % 16 = 11 ∨ k0 % 16 = 12 ∨ k0 % 16 = 13 ∨ (k0 % 16 = 14 ∨ k0 % 16 = 15) := by omega
      rcases hc with hop | hop | hop | hop | hop | hop | hop | hop | hop | hop | hop | hop | hop | hop | hop
      · exact law_function hL2 hi rfl hI hz hcb hqb hN e0 hop e1 l1 e2 l2
      · exact law_add hL2 hi rfl hI hz hcb hqb hN e0 hop e1 l1 e2 l2 e3 l3 e4 l4
      · exact law_handle hL2 hi rfl hI hz hcb hqb hN e0 hop e1 l1 e2 l2 e3 l3 e4 l4
      · exact law_start hL2 hi rfl hI hz hcb hqb hN e0 hop e1 l1 e2 l2 e3 l3
      · exact law_run hL2 hi rfl hI hz hcb hqb hN e0 hop e1 l1
      · exact law_said hL2 hi rfl hI hz hcb hqb hN e0 hop e1 l1
      · exact law_value hL2 hi rfl hI hz hcb hqb hN e0 hop e1 l1
      · exact law_told hL2 hi rfl hI hz hcb hqb hN e0 hop e1 l1
      · exact law_snapshot hL2 hi rfl hI hz hcb hqb hN e0 hop 
      · exact law_load hL2 hi rfl hI hz hcb hqb hN e0 hop 
      · exact law_where hL2 hi rfl hI hz hcb hqb hN e0 hop
      · exact law_image hL2 hi rfl hI hz hcb hqb hN e0 hop e1 l1
      · by_cases h3 : a3 = 0
        · exact law_patch0 hL2 hi rfl hI hz hcb hqb hN e0 hop e1 l1 e2 l2 e3 l3 h3
        · exact law_patch1 hL2 hi rfl hI hz hcb hqb hN e0 hop e1 l1 e2 l2 e3 l3 h3
      · exact law_cut hL2 hi rfl hI hz hcb hqb hN e0 hop e1 l1
      · exact law_none hL2 hi rfl hI hz hcb hqb hN e0 hop
    · exact law_end hL2 (by omega) (by omega) (by omega) (by omega)
