-- A CALL, in general; run
/-- all is well after n calls -/
def Inv (T : Nat → Option xT) (R : Nat → Nat → Option Nat) (w n : Nat) (A : xQ) : Prop := xLay T R w ∧ (∀ b, R 102 1 = some b → b = 12 ∨ b = 103) ∧ COk w A ∧ TOk w A ∧ Rel w A A ∧ A.1 11 3 ≤ 300 * n ∧ A.1 11 4 ≤ 300 * n
/-- what a call must do: the class first (an exception ex is the wrapper's number mp ex), then the reference, on a memory that differs at most at out -/
def Pub (y ym : Nat) (mp : Nat → Nat) (as : List Value) : Prop := ∀ (z : Nat) (T : Nat → Option xT) (R : Nat → Nat → Option Nat) (w n : Nat) (A : xQ), n ≤ 512 → Inv T R w n A → ∃ (rc : Nat ⊕ Option Value) (z1 : Nat) (R1 : Nat → Nat → Option Nat) (w1 : Nat) (A1 : xQ), xF y (.ref 0 :: as) (xm z T R A) (rc, xm z1 T R1 A1) ∧ ((∃ ex, rc = .inl ex ∧ mp ex ≠ 0 ∧ z1 = z + 1) ∨ (∃ v, rc = .inr (some v) ∧ (∃ x, v = .int x ∨ (∃ u, v = .long u)) ∧ z1 = z)) ∧ ∀ (o : Int64), ∃ (vm : Value) (A2 : xQ), xF ym (.ref 189 :: as) (xm z1 T R1 (xsJ A1 229 0 o)) (.inr (some vm), xm z1 T R1 A2) ∧ A2.2 229 0 = o ∧ (∀ ex, rc = .inl ex → nI (A2.1 189 14) = nI (mp ex)) ∧ (∀ v, rc = .inr (some v) → nI (A2.1 189 14) = nI 0 ∧ vm = v) ∧ Inv T R1 w1 (n + 1) A2
theorem mIn_p {v lo hi : Nat} (h1 : v < 2 ^ 31) (h2 : lo < 2 ^ 31) (h3 : hi < 2 ^ 31) : mIn v lo hi = if lo ≤ v ∧ v ≤ hi then 1 else 0 := by
  unfold mIn
  rw [sg_p h1, sg_p h2, sg_p h3]
  by_cases q : lo ≤ v ∧ v ≤ hi
  · rw [if_pos q, if_pos (by omega)]
  · rw [if_neg q, if_neg (by omega)]
theorem mIn_n {v lo hi : Nat} (h1 : 2 ^ 31 ≤ v) (h1b : v < 2 ^ 32) (h2 : lo < 2 ^ 31) : mIn v lo hi = 0 := by
  unfold mIn
  rw [sg_n h1, sg_p h2, if_neg (by omega)]
theorem TOk.ext {w : Nat} {A A2 : xQ} (h : TOk w A) (hw : w = 12 ∨ w = 103) (hc : A.1 w 2 ≤ 3) (ht : A.1 w 3 < 3) (h1 : ∀ a j, a ≤ 188 → A2.1 a j = A.1 a j) : TOk w A2 := by
  intro hn
  rw [h1 w 2 (by omega)] at hn ⊢
  obtain ⟨g1, g2, g3⟩ := h hn
  rw [h1 w 3 (by omega), h1 w 4 (by omega)]
  refine ⟨g1, g2, fun ⟨t, q1, q2⟩ => ?_⟩
  rw [h1 w 2 (by omega)] at q1
  rw [h1 _ 2 (by omega)] at q2
  have := g3 ⟨t, q1, q2⟩
  unfold aSt at this ⊢
  rw [h1 w 3 (by omega), h1 _ 2 (by omega)]
  exact this
/-- the reference has answered: all is well again -/
theorem Inv.close {T : Nat → Option xT} {R : Nat → Nat → Option Nat} {w n : Nat} {A1 B B2 : xQ} (hL : xLay T R w) (hr : ∀ b, R 102 1 = some b → b = 12 ∨ b = 103) (hc : COk w A1) (ht : TOk w A1) (hR : Rel w A1 B2) (h3 : A1.1 11 3 ≤ 300 * n) (h4 : A1.1 11 4 ≤ 300 * n) (hB : ∀ a j, a ≤ 188 → B.1 a j = A1.1 a j ∧ B.2 a j = A1.2 a j) : Inv T R w n (mrg B B2) := by
  have e1 : ∀ a j, a ≤ 188 → (mrg B B2).1 a j = A1.1 a j := fun a j h => (mrg_lo (Or.inl h)).1.trans (hB a j h).1
  have e2 : ∀ a j, a ≤ 188 → (mrg B B2).2 a j = A1.2 a j := fun a j h => (mrg_lo (Or.inl h)).2.trans (hB a j h).2
  refine ⟨hL, hr, hc.ext e1 e2, ht.ext hc.1 hc.cnt hc.2.2.2.2.2 e1, hR.ext hc e1 e2 (fun a j q => (mrg_hi (by unfold relB at q; omega)).1) (fun a j q => (mrg_hi (by omega)).2), ?_, ?_⟩
  · rw [e1 11 3 (by omega)]; exact h3
  · rw [e1 11 4 (by omega)]; exact h4
/-- the class has refused: nothing has changed -/
theorem aRunN_ok {T : Nat → Option xT} {R : Nat → Nat → Option Nat} {w : Nat} (hW : xW0 T R w) : ∀ (n : Nat) (A : xQ), COk w A → TOk w A → A.1 w 2 ≠ 0 → COk w (aRunN w n A) ∧ TOk w (aRunN w n A) ∧ (aRunN w n A).1 w 2 ≠ 0 ∧ (aRunN w n A).1 11 3 ≤ A.1 11 3 + n ∧ (aRunN w n A).1 11 4 ≤ A.1 11 4 + n := by
  intro n
  induction n with
  | zero => intro A h1 h2 h3; exact ⟨h1, h2, h3, Nat.le_refl _, Nat.le_refl _⟩
  | succ n ih =>
    intro A h1 h2 h3
    unfold aRunN
    by_cases hq : aRuns w A (A.1 w 2) 0 = 1
    · rw [if_pos hq]
      obtain ⟨t1, t2, t3⟩ := h2.r hq
      obtain ⟨c1, c2, c3, c4, c5, c6⟩ := h1.step hW t1 t3 t2
      obtain ⟨g1, g2, g3, g4, g5⟩ := ih _ c1 c2 (by omega)
      exact ⟨g1, g2, g3, by omega, by omega⟩
    · rw [if_neg hq]
      exact ⟨h1, h2, h3, by omega, by omega⟩
theorem l5 {z : Nat} {T : Nat → Option xT} {R : Nat → Nat → Option Nat} {w lim : Nat} (hL : xLay T R w) (hl : lim ≤ 300) : ∀ (n i : Nat) (A : xQ), i + n = lim → COk w A → TOk w A → A.1 w 2 ≠ 0 → A.1 11 3 + n < 2 ^ 31 → xP 5 42 [(0, .ref 0), (1, .int (nI lim)), (2, .int (nI i))] [] 0 0 (xm z T R A) (fun r => r = (.inr (some (.int (nI (aRuns w (aRunN w n A) ((aRunN w n A).1 w 2) 0)))), xm z T R (aRunN w n A))) := by
  have hW := hL.w hL.1
  have w1 := hW.1
  intro n
  induction n with
  | zero =>
    intro i A hi hc hT hn hsd
    have hru := c99 (z := z) (A := A) hW hc.cnt (fun t ht => by have := (hc.st ht).1; omega)
    have hle := aRuns_le w A (A.1 w 2) 0
    show xP _ _ _ _ _ _ _ (fun r => r = (.inr (some (.int (nI (aRuns w A (A.1 w 2) 0)))), xm z T R A))
    generalize aRuns w A (A.1 w 2) 0 = ru at hru hle
    refine xp_iload_n rfl rfl ?_
    refine xp_iload_n rfl rfl ?_
    refine xp_icge 73 rfl (by decide) (by omega) (by omega) (fun h44 => ?_) (fun h44 => ?_)
    · skip
      refine xp_aload_n rfl rfl ?_
      refine xp_gfa rfl rfl (by decide) (by decide) (by first | assumption | exact hL.t rfl) (by first | assumption | exact hL.r rfl | exact hL.2.2.2.2.2) ?_
      refine xp_gfa rfl rfl (by decide) (by decide) (by first | assumption | exact hL.t rfl) (by first | assumption | exact hL.r rfl | exact hL.2.2.2.2.2) ?_
      refine xp_iv rfl rfl (Nat.le_of_ble_eq_true rfl) (by decide) (by decide) (by decide) (Nat.le_of_ble_eq_true rfl) rfl (xrcv1 (by decide) (by first | assumption | exact hL.t rfl)) (hru) rfl ?_
      refine xp_ifeq 90 rfl (by decide) (by omega) (fun h83 => ?_) (fun h83 => ?_)
      · skip
        refine xp_iconst (n := 0) rfl (by decide) ?_
        refine xp_ireturn rfl (by decide) (by decide) (by decide) ?_
        first | (rw [show ru = 1 by omega]) | (rw [show ru = 0 by omega])
      · skip
        refine xp_iconst (n := 1) rfl (by decide) ?_
        refine xp_goto 91 rfl (by decide) ?_
        refine xp_ireturn rfl (by decide) (by decide) (by decide) ?_
        first | (rw [show ru = 1 by omega]) | (rw [show ru = 0 by omega])
    · exfalso; omega
  | succ n ih =>
    intro i A hi hc hT hn hsd
    have hru := c99 (z := z) (A := A) hW hc.cnt (fun t ht => by have := (hc.st ht).1; omega)
    have hle := aRuns_le w A (A.1 w 2) 0
    unfold aRunN
    by_cases hq : aRuns w A (A.1 w 2) 0 = 1
    · rw [if_pos hq]
      rw [hq] at hru
      obtain ⟨t1, t2, t3⟩ := hT.r hq
      obtain ⟨d1, d2, d3, d4, d5, d6⟩ := hc.step hW t1 t3 t2
      refine xp_iload_n rfl rfl ?_
      refine xp_iload_n rfl rfl ?_
      refine xp_icge 73 rfl (by decide) (by omega) (by omega) (fun h44 => ?_) (fun h44 => ?_)
      · exfalso; omega
      · skip
        refine xp_aload_n rfl rfl ?_
        refine xp_gfa rfl rfl (by decide) (by decide) (by first | assumption | exact hL.t rfl) (by first | assumption | exact hL.r rfl | exact hL.2.2.2.2.2) ?_
        refine xp_gfa rfl rfl (by decide) (by decide) (by first | assumption | exact hL.t rfl) (by first | assumption | exact hL.r rfl | exact hL.2.2.2.2.2) ?_
        refine xp_iv rfl rfl (Nat.le_of_ble_eq_true rfl) (by decide) (by decide) (by decide) (Nat.le_of_ble_eq_true rfl) rfl (xrcv1 (by decide) (by first | assumption | exact hL.t rfl)) (hru) rfl ?_
        refine xp_ifeq 73 rfl (by decide) (by omega) (fun h57 => ?_) (fun h57 => ?_)
        · exfalso; omega
        · skip
          refine xp_aload_n rfl rfl ?_
          refine xp_gfa rfl rfl (by decide) (by decide) (by first | assumption | exact hL.t rfl) (by first | assumption | exact hL.r rfl | exact hL.2.2.2.2.2) ?_
          refine xp_iv rfl rfl (Nat.le_of_ble_eq_true rfl) (by decide) (by decide) (by decide) (Nat.le_of_ble_eq_true rfl) rfl (xrcv1 (by decide) (by first | assumption | exact hL.t rfl)) (c30 hL hc t1 t3 t2 (by omega)) rfl ?_
          refine xp_iinc rfl rfl (by decide) (nI_inc _) ?_
          refine xp_goto 42 rfl (by decide) ?_
          refine xp_weak [(0, .ref 0), (1, .int (nI lim)), (2, .int (nI (i + 1)))] (xle_cons rfl (xle_cons rfl (xle_cons rfl (xle_nil _)))) (by simp [xnd]) ?_
          exact ih (i + 1) _ (by omega) d1 d2 (by omega) (by omega)
    · rw [if_neg hq]
      have hru0 : aRuns w A (A.1 w 2) 0 = 0 := by omega
      rw [hru0] at hru ⊢
      refine xp_iload_n rfl rfl ?_
      refine xp_iload_n rfl rfl ?_
      refine xp_icge 73 rfl (by decide) (by omega) (by omega) (fun h44 => ?_) (fun h44 => ?_)
      · exfalso; omega
      · skip
        refine xp_aload_n rfl rfl ?_
        refine xp_gfa rfl rfl (by decide) (by decide) (by first | assumption | exact hL.t rfl) (by first | assumption | exact hL.r rfl | exact hL.2.2.2.2.2) ?_
        refine xp_gfa rfl rfl (by decide) (by decide) (by first | assumption | exact hL.t rfl) (by first | assumption | exact hL.r rfl | exact hL.2.2.2.2.2) ?_
        refine xp_iv rfl rfl (Nat.le_of_ble_eq_true rfl) (by decide) (by decide) (by decide) (Nat.le_of_ble_eq_true rfl) rfl (xrcv1 (by decide) (by first | assumption | exact hL.t rfl)) (hru) rfl ?_
        refine xp_ifeq 73 rfl (by decide) (by omega) (fun h57 => ?_) (fun h57 => ?_)
        · skip
          refine xp_aload_n rfl rfl ?_
          refine xp_gfa rfl rfl (by decide) (by decide) (by first | assumption | exact hL.t rfl) (by first | assumption | exact hL.r rfl | exact hL.2.2.2.2.2) ?_
          refine xp_gfa rfl rfl (by decide) (by decide) (by first | assumption | exact hL.t rfl) (by first | assumption | exact hL.r rfl | exact hL.2.2.2.2.2) ?_
          refine xp_iv rfl rfl (Nat.le_of_ble_eq_true rfl) (by decide) (by decide) (by decide) (Nat.le_of_ble_eq_true rfl) rfl (xrcv1 (by decide) (by first | assumption | exact hL.t rfl)) (hru) rfl ?_
          refine xp_ifeq 90 rfl (by decide) (by omega) (fun h83 => ?_) (fun h83 => ?_)
          · skip
            refine xp_iconst (n := 0) rfl (by decide) ?_
            refine xp_ireturn rfl (by decide) (by decide) (by decide) ?_
            rfl
          · exfalso; omega
        · exfalso; omega
theorem c5 {z : Nat} {T : Nat → Option xT} {R : Nat → Nat → Option Nat} {A : xQ} {w lim : Nat} (hL : xLay T R w) (hl : lim ≤ 300) (hc : COk w A) (hT : TOk w A) (hn : A.1 w 2 ≠ 0) (hsd : A.1 11 3 + lim < 2 ^ 31) : xF 5 [.ref 0, .int (nI lim)] (xm z T R A) (.inr (some (.int (nI (aRuns w (aRunN w lim A) ((aRunN w lim A).1 w 2) 0)))), xm z T R (aRunN w lim A)) := by
  have hW := hL.w hL.1
  have w1 := hW.1
  have hem := c98 (z := z) (A := A) hW hc.cnt
  rw [if_neg hn] at hem
  refine xF_eq (xF_p (Nat.le_of_ble_eq_true rfl) ?_)
  refine xp_iload_n rfl rfl ?_
  refine xp_iflt 11 rfl (by decide) (by omega) (fun h1 => ?_) (fun h1 => ?_)
  · exfalso; omega
  · skip
    refine xp_iload_n rfl rfl ?_
    refine xp_sipush (n := 300) rfl (by decide) ?_
    refine xp_icle 19 rfl (by decide) (by omega) (by omega) (fun h8 => ?_) (fun h8 => ?_)
    · skip
      refine xp_aload_n rfl rfl ?_
      refine xp_gfa rfl rfl (by decide) (by decide) (by first | assumption | exact hL.t rfl) (by first | assumption | exact hL.r rfl | exact hL.2.2.2.2.2) ?_
      refine xp_gfa rfl rfl (by decide) (by decide) (by first | assumption | exact hL.t rfl) (by first | assumption | exact hL.r rfl | exact hL.2.2.2.2.2) ?_
      refine xp_iv rfl rfl (Nat.le_of_ble_eq_true rfl) (by decide) (by decide) (by decide) (Nat.le_of_ble_eq_true rfl) rfl (xrcv1 (by decide) (by first | assumption | exact hL.t rfl)) (hem) rfl ?_
      refine xp_ifeq 40 rfl (by decide) (by omega) (fun h29 => ?_) (fun h29 => ?_)
      · skip
        refine xp_iconst (n := 0) rfl (by decide) ?_
        refine xp_istore_n rfl (by decide) ?_
        refine xp_weak [(0, .ref 0), (1, .int (nI lim)), (2, .int (nI 0))] (xle_cons rfl (xle_cons rfl (xle_cons rfl (xle_nil _)))) (by simp [xnd]) ?_
        exact l5 hL hl lim 0 A (by omega) hc hT hn hsd
      · exfalso; omega
    · exfalso; omega
theorem c5a {z : Nat} {T : Nat → Option xT} {R : Nat → Nat → Option Nat} {A : xQ} {w lim : Nat} (hL : xLay T R w) (hl : lim < 2 ^ 32) (hq : ¬ lim ≤ 300) : xF 5 [.ref 0, .int (nI lim)] (xm z T R A) (.inl 0, xm (z + 1) T R A) := by
  refine xF_eq (xF_p (Nat.le_of_ble_eq_true rfl) ?_)
  refine xp_iload_n rfl rfl ?_
  refine xp_iflt 11 rfl (by decide) (by omega) (fun h1 => ?_) (fun h1 => ?_)
  · skip
    refine xp_throw rfl rfl (Nat.le_of_ble_eq_true rfl) (by decide) (by decide) (by decide) ?_
    rfl
  · skip
    refine xp_iload_n rfl rfl ?_
    refine xp_sipush (n := 300) rfl (by decide) ?_
    refine xp_icle 19 rfl (by decide) (by omega) (by omega) (fun h8 => ?_) (fun h8 => ?_)
    · exfalso; omega
    · skip
      refine xp_throw rfl rfl (Nat.le_of_ble_eq_true rfl) (by decide) (by decide) (by decide) ?_
      rfl
theorem c5b {z : Nat} {T : Nat → Option xT} {R : Nat → Nat → Option Nat} {A : xQ} {w lim : Nat} (hL : xLay T R w) (hl : lim ≤ 300) (hc : COk w A) (hn : A.1 w 2 = 0) : xF 5 [.ref 0, .int (nI lim)] (xm z T R A) (.inl 1, xm (z + 1) T R A) := by
  have hW := hL.w hL.1
  have w1 := hW.1
  have hem := c98 (z := z) (A := A) hW hc.cnt
  rw [if_pos hn] at hem
  refine xF_eq (xF_p (Nat.le_of_ble_eq_true rfl) ?_)
  refine xp_iload_n rfl rfl ?_
  refine xp_iflt 11 rfl (by decide) (by omega) (fun h1 => ?_) (fun h1 => ?_)
  · exfalso; omega
  · skip
    refine xp_iload_n rfl rfl ?_
    refine xp_sipush (n := 300) rfl (by decide) ?_
    refine xp_icle 19 rfl (by decide) (by omega) (by omega) (fun h8 => ?_) (fun h8 => ?_)
    · skip
      refine xp_aload_n rfl rfl ?_
      refine xp_gfa rfl rfl (by decide) (by decide) (by first | assumption | exact hL.t rfl) (by first | assumption | exact hL.r rfl | exact hL.2.2.2.2.2) ?_
      refine xp_gfa rfl rfl (by decide) (by decide) (by first | assumption | exact hL.t rfl) (by first | assumption | exact hL.r rfl | exact hL.2.2.2.2.2) ?_
      refine xp_iv rfl rfl (Nat.le_of_ble_eq_true rfl) (by decide) (by decide) (by decide) (Nat.le_of_ble_eq_true rfl) rfl (xrcv1 (by decide) (by first | assumption | exact hL.t rfl)) (hem) rfl ?_
      refine xp_ifeq 40 rfl (by decide) (by omega) (fun h29 => ?_) (fun h29 => ?_)
      · exfalso; omega
      · skip
        refine xp_throw rfl rfl (Nat.le_of_ble_eq_true rfl) (by decide) (by decide) (by decide) ?_
        rfl
    · exfalso; omega
theorem m148a {z : Nat} {T : Nat → Option xT} {R : Nat → Nat → Option Nat} {B : xQ} {w lim : Nat} (hL : xLay T R w) (hl : lim < 2 ^ 32) (hq : ¬ lim ≤ 300) : xF 148 [.ref 189, .int (nI lim)] (xm z T R B) (.inr (some (.int (nI 0))), xm z T R (xsI B 189 14 1)) := by
  have e : mIn lim 0 300 = 0 := by
    by_cases q : lim < 2 ^ 31
    · rw [mIn_p q (by omega) (by omega), if_neg (by omega)]
    · exact mIn_n (by omega) hl (by omega)
  refine xF_eq (xF_p (Nat.le_of_ble_eq_true rfl) ?_)
  refine xp_iload_n rfl rfl ?_
  refine xp_iconst (n := 0) rfl (by decide) ?_
  refine xp_sipush (n := 300) rfl (by decide) ?_
  refine xp_is rfl rfl rfl (Nat.le_of_ble_eq_true rfl) (by decide) (by decide) (by decide) (Nat.le_of_ble_eq_true rfl) rfl (xrcv0 (by decide) _ _) (m112 hl (by omega) (by omega)) rfl ?_
  rw [e]
  refine xp_ifne 17 rfl (by decide) (by omega) (fun h8 => ?_) (fun h8 => ?_)
  · exfalso; omega
  · skip
    refine xp_aload_n rfl rfl ?_
    refine xp_iconst (n := 1) rfl (by decide) ?_
    refine xp_iv rfl rfl (Nat.le_of_ble_eq_true rfl) (by decide) (by decide) (by decide) (Nat.le_of_ble_eq_true rfl) rfl (xrcv1 (by decide) (by first | assumption | exact hL.t rfl)) (m113 hL) rfl ?_
    refine xp_ireturn rfl (by decide) (by decide) (by decide) ?_
    rfl
theorem m148b {z : Nat} {T : Nat → Option xT} {R : Nat → Nat → Option Nat} {B : xQ} {w lim : Nat} (hL : xLay T R w) (hl : lim ≤ 300) (hq : B.1 189 16 = 0) : xF 148 [.ref 189, .int (nI lim)] (xm z T R B) (.inr (some (.int (nI 0))), xm z T R (xsI B 189 14 2)) := by
  have e : mIn lim 0 300 = 1 := by rw [mIn_p (by omega) (by omega) (by omega), if_pos (by omega)]
  refine xF_eq (xF_p (Nat.le_of_ble_eq_true rfl) ?_)
  refine xp_iload_n rfl rfl ?_
  refine xp_iconst (n := 0) rfl (by decide) ?_
  refine xp_sipush (n := 300) rfl (by decide) ?_
  refine xp_is rfl rfl rfl (Nat.le_of_ble_eq_true rfl) (by decide) (by decide) (by decide) (Nat.le_of_ble_eq_true rfl) rfl (xrcv0 (by decide) _ _) (m112 (by omega) (by omega) (by omega)) rfl ?_
  rw [e]
  refine xp_ifne 17 rfl (by decide) (by omega) (fun h8 => ?_) (fun h8 => ?_)
  · skip
    refine xp_aload_n rfl rfl ?_
    refine xp_gfi rfl rfl (by decide) (by decide) (by first | assumption | exact hL.t rfl) ?_
    rw [hq]
    refine xp_ifne 30 rfl (by decide) (by omega) (fun h21 => ?_) (fun h21 => ?_)
    · exfalso; omega
    · skip
      refine xp_aload_n rfl rfl ?_
      refine xp_iconst (n := 2) rfl (by decide) ?_
      refine xp_iv rfl rfl (Nat.le_of_ble_eq_true rfl) (by decide) (by decide) (by decide) (Nat.le_of_ble_eq_true rfl) rfl (xrcv1 (by decide) (by first | assumption | exact hL.t rfl)) (m113 hL) rfl ?_
      refine xp_ireturn rfl (by decide) (by decide) (by decide) ?_
      rfl
  · exfalso; omega
theorem m148 {z : Nat} {T : Nat → Option xT} {R : Nat → Nat → Option Nat} {A B : xQ} {w lim : Nat} (hL : xLay T R w) (hl : lim ≤ 300) (hc : COk w A) (hT : TOk w A) (hn : A.1 w 2 ≠ 0) (hR : Rel w A B) (hsd : A.1 11 3 + lim < 2 ^ 31) : ∃ B2, xF 148 [.ref 189, .int (nI lim)] (xm z T R B) (.inr (some (.int (nI (aRuns w (aRunN w lim A) ((aRunN w lim A).1 w 2) 0)))), xm z T R B2) ∧ Rel w (aRunN w lim A) B2 ∧ nI (B2.1 189 14) = nI 0 := by
  have e : mIn lim 0 300 = 1 := by rw [mIn_p (by omega) (by omega) (by omega), if_pos (by omega)]
  have e16 : B.1 189 16 = 1 := by rw [hR.2.2.1.2.2.2.2.2.2.1, if_neg hn]
  have hfi := l148 (z := z) hL hl lim 0 A (xsI B 189 14 0) (by omega) hc hT hn (hR.thr hc) hsd
  rw [show (xsI B 189 14 0).1 189 14 = 0 from xsI_eq] at hfi
  refine xF_x (Q := fun B2 => Rel w (aRunN w lim A) B2 ∧ nI (B2.1 189 14) = nI 0) (xF_p (Nat.le_of_ble_eq_true rfl) ?_)
  refine xp_iload_n rfl rfl ?_
  refine xp_iconst (n := 0) rfl (by decide) ?_
  refine xp_sipush (n := 300) rfl (by decide) ?_
  refine xp_is rfl rfl rfl (Nat.le_of_ble_eq_true rfl) (by decide) (by decide) (by decide) (Nat.le_of_ble_eq_true rfl) rfl (xrcv0 (by decide) _ _) (m112 (by omega) (by omega) (by omega)) rfl ?_
  rw [e]
  refine xp_ifne 17 rfl (by decide) (by omega) (fun h8 => ?_) (fun h8 => ?_)
  · skip
    refine xp_aload_n rfl rfl ?_
    refine xp_gfi rfl rfl (by decide) (by decide) (by first | assumption | exact hL.t rfl) ?_
    rw [e16]
    refine xp_ifne 30 rfl (by decide) (by omega) (fun h21 => ?_) (fun h21 => ?_)
    · skip
      refine xp_aload_n rfl rfl ?_
      refine xp_iconst (n := 0) rfl (by decide) ?_
      refine xp_pfi rfl rfl (by decide) (by decide) (by decide) (by first | assumption | exact hL.t rfl) ?_
      refine xp_iconst (n := 0) rfl (by decide) ?_
      refine xp_istore_n rfl (by decide) ?_
      refine xp_weak [(0, .ref 189), (1, .int (nI lim)), (2, .int (nI 0))] (xle_cons rfl (xle_cons rfl (xle_cons rfl (xle_nil _)))) (by simp [xnd]) ?_
      exact hfi
    · exfalso; omega
  · exfalso; omega
theorem xsJ_lo {A : xQ} {o : Int64} : ∀ a j, a ≤ 188 → (xsJ A 229 0 o).1 a j = A.1 a j ∧ (xsJ A 229 0 o).2 a j = A.2 a j := fun a j h => ⟨rfl, xsJ_ne (Or.inl (by omega))⟩
theorem Rel.out {w : Nat} {A B : xQ} {o : Int64} (h : Rel w A B) (hc : COk w A) : Rel w A (xsJ B 229 0 o) := h.ext hc (fun _ _ _ => rfl) (fun _ _ _ => rfl) (fun _ _ _ => rfl) (fun a j q => xsJ_ne (Or.inl (by omega)))
/-- how a call is put together, where the references stay -/
theorem Pub.mk {y ym : Nat} {mp : Nat → Nat} {as : List Value} (hy : yC y = true) (hym : yM ym = true) (hsC : gS dC (.ref 0 :: as)) (hsM : gS dM (.ref 189 :: as)) (h : ∀ (z : Nat) (T : Nat → Option xT) (R : Nat → Nat → Option Nat) (w n : Nat) (A : xQ), n ≤ 512 → Inv T R w n A → (∃ ex, mp ex ≠ 0 ∧ xF y (.ref 0 :: as) (xm z T R A) (.inl ex, xm (z + 1) T R A) ∧ ∀ B, Rel w A B → ∃ vm B2, xF ym (.ref 189 :: as) (xm (z + 1) T R B) (.inr (some vm), xm (z + 1) T R B2) ∧ nI (B2.1 189 14) = nI (mp ex) ∧ Rel w A B2) ∨ (∃ v A1, (∃ x, v = .int x ∨ (∃ u, v = .long u)) ∧ xF y (.ref 0 :: as) (xm z T R A) (.inr (some v), xm z T R A1) ∧ COk w A1 ∧ TOk w A1 ∧ A1.1 11 3 ≤ 300 * (n + 1) ∧ A1.1 11 4 ≤ 300 * (n + 1) ∧ ∀ B, Rel w A B → ∃ B2, xF ym (.ref 189 :: as) (xm z T R B) (.inr (some v), xm z T R B2) ∧ nI (B2.1 189 14) = nI 0 ∧ Rel w A1 B2)) : Pub y ym mp as := by
  intro z T R w n A hn hI
  obtain ⟨hL, hr, hc, hT, hR, h3, h4⟩ := hI
  have e14 : ∀ (X Y : xQ), (mrg X Y).1 189 14 = Y.1 189 14 := fun X Y => (mrg_hi ⟨by omega, by omega⟩).1
  rcases h z T R w n A hn ⟨hL, hr, hc, hT, hR, h3, h4⟩ with ⟨ex, h1, h2, h5⟩ | ⟨v, A1, h1, h2, c1, t1, b3, b4, h5⟩
  · refine ⟨.inl ex, z + 1, R, w, A, h2, Or.inl ⟨ex, rfl, h1, rfl⟩, fun o => ?_⟩
    obtain ⟨vm, B2, g1, g2, g3⟩ := h5 (xsJ A 229 0 o) (hR.out hc)
    obtain ⟨B3, k1, k2, k3⟩ := keepM (Q := fun B2 => nI (B2.1 189 14) = nI (mp ex) ∧ Rel w A B2) hL hym hsM ⟨B2, g1, g2, g3⟩
    refine ⟨vm, _, k1, ?_, fun e he => ?_, fun v he => (by cases he), Inv.close hL hr hc hT k3 (by omega) (by omega) (fun a j q => xsJ_lo a j q)⟩
    · rw [(mrg_lo (Or.inr rfl)).2, xsJ_eq]
    · cases he
      rw [e14]
      exact k2
  · have h2' := keepC hL hr hy hsC h2
    refine ⟨.inr (some v), z, R, w, mrg A1 A, h2', Or.inr ⟨v, rfl, h1, rfl⟩, fun o => ?_⟩
    have hRm : Rel w A (xsJ (mrg A1 A) 229 0 o) := hR.ext hc (fun _ _ _ => rfl) (fun _ _ _ => rfl) (fun a j q => (mrg_hi (by unfold relB at q; omega)).1) (fun a j q => by rw [xsJ_ne (Or.inl (by omega))]; exact (mrg_hi (by omega)).2)
    obtain ⟨B2, g1, g2, g3⟩ := h5 _ hRm
    obtain ⟨B3, k1, k2, k3⟩ := keepM (Q := fun B2 => nI (B2.1 189 14) = nI 0 ∧ Rel w A1 B2) hL hym hsM ⟨B2, g1, g2, g3⟩
    refine ⟨v, _, k1, ?_, fun e he => (by cases he), fun u he => ?_, Inv.close hL hr c1 t1 k3 b3 b4 (fun a j q => ?_)⟩
    · rw [(mrg_lo (Or.inr rfl)).2, xsJ_eq]
    · cases he
      rw [e14]
      exact ⟨k2, rfl⟩
    · obtain ⟨q1, q2⟩ := xsJ_lo (A := mrg A1 A) (o := o) a j q
      rw [q1, q2]
      exact mrg_lo (Or.inl q)
/-- the wrapper's number of an exception -/
def mpO (l : List (Nat × Nat)) (ex : Nat) : Nat := (l.lookup ex).getD 0
theorem pub_run (lim : Nat) (hl : lim < 2 ^ 32) : Pub 5 148 (mpO [(0, 1), (1, 2)]) [.int (nI lim)] := by
  refine Pub.mk rfl rfl gC1 gM1 (fun z T R w n A hn hI => ?_)
  obtain ⟨hL, hr, hc, hT, hR, h3, h4⟩ := hI
  by_cases h300 : lim ≤ 300
  · by_cases h0 : A.1 w 2 = 0
    · refine Or.inl ⟨1, by decide, c5b hL h300 hc h0, fun B hB => ⟨_, _, m148b hL h300 (by rw [hB.2.2.1.2.2.2.2.2.2.1, if_pos h0]), by rw [xsI_eq]; rfl, hB.thr hc⟩⟩
    · obtain ⟨g1, g2, g3, g4, g5⟩ := aRunN_ok (hL.w hL.1) lim A hc hT h0
      refine Or.inr ⟨_, _, ⟨_, Or.inl rfl⟩, c5 hL h300 hc hT h0 (by omega), g1, g2, by omega, by omega, fun B hB => ?_⟩
      obtain ⟨B2, k1, k2, k3⟩ := m148 (z := z) hL h300 hc hT h0 hB (by omega)
      exact ⟨B2, k1, k3, k2⟩
  · exact Or.inl ⟨0, by decide, c5a hL hl h300, fun B hB => ⟨_, _, m148a hL hl h300, by rw [xsI_eq]; rfl, hB.thr hc⟩⟩
