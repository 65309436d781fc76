-- told, the reference
def mTo0 (B : xQ) (k : Nat) : Nat := if B.1 189 16 = 0 then 0 else match k with
  | 0 => B.1 189 9
  | 1 => B.1 189 10
  | 2 => B.1 189 11
  | 3 => B.1 189 15
  | 4 => B.1 189 12
  | _ => B.1 189 13
def mTo1 (B : xQ) (t g : Nat) : Nat := match g with
  | 1 => B.1 199 t
  | 2 => if B.1 199 t = 0 then B.1 201 t else 0
  | 3 => B.1 200 t
  | 4 => if B.1 199 t = 0 then B.1 205 (5 * t + B.1 201 t - 1) else 4294967295
  | 5 => if B.1 199 t = 0 then B.1 203 (5 * t + B.1 201 t - 1) else 4294967295
  | _ => if B.1 199 t = 0 then B.1 202 (5 * t + B.1 201 t - 1) else 4294967295
theorem nI_divn {k : Nat} (h1 : 2 ^ 31 ≤ k) (h2 : k < 2 ^ 32) : ∃ g, g < 2 ^ 32 ∧ nI k / nI 10 = nI g ∧ mIn g 1 6 = 0 := by
  obtain ⟨g, hg, e⟩ := nI_ex (nI k / nI 10)
  refine ⟨g, hg, e, ?_⟩
  have e2 : (nI k / nI 10).toInt ≤ 0 := by
    rw [Int32.toInt_div, nI_sg h2, nI_sg (by omega), sg_n h1, sg_p (n := 10) (by omega)]
    have h3 : ((k : Int) - 2 ^ 32).tdiv ((10 : Nat) : Int) ≤ 0 := by
      have : ((k : Int) - 2 ^ 32).tdiv ((10 : Nat) : Int) = - ((2 ^ 32 - (k : Int)).tdiv ((10 : Nat) : Int)) := by
        rw [← Int.neg_tdiv]; congr 1; omega
      rw [this]
      have : 0 ≤ (2 ^ 32 - (k : Int)).tdiv ((10 : Nat) : Int) := Int.tdiv_nonneg (by omega) (by omega)
      omega
    have h4 : -(2 ^ 31) ≤ ((k : Int) - 2 ^ 32).tdiv ((10 : Nat) : Int) := by
      have : ((k : Int) - 2 ^ 32).tdiv ((10 : Nat) : Int) = - ((2 ^ 32 - (k : Int)).tdiv ((10 : Nat) : Int)) := by
        rw [← Int.neg_tdiv]; congr 1; omega
      rw [this]
      have : (2 ^ 32 - (k : Int)).tdiv ((10 : Nat) : Int) ≤ 2 ^ 32 - (k : Int) := Int.tdiv_le_self _ (by omega)
      omega
    generalize ((k : Int) - 2 ^ 32).tdiv ((10 : Nat) : Int) = q at *
    simp only [Int.bmod]
    omega
  rw [e, nI_sg hg] at e2
  unfold mIn
  rw [sg_p (n := 1) (by omega), if_neg (by omega)]
theorem m151 {z : Nat} {T : Nat → Option xT} {R : Nat → Nat → Option Nat} {B : xQ} {w k : Nat} (hL : xLay T R w) (hk : k ≤ 5) (h16 : B.1 189 16 ≤ 1) : xF 151 [.ref 189, .int (nI k)] (xm z T R B) (.inr (some (.int (nI (mTo0 B k)))), xm z T R (xsI B 189 14 0)) := by
  have xx : ∀ a j, (a ≠ 189 ∨ j ≠ 14) → (xsI B 189 14 0).1 a j = B.1 a j := fun a j q => xsI_ne q
  have er := nI_rem (m := k) (n := 10) (by omega) (by omega) (by omega)
  have ed := nI_div (m := k) (n := 10) (by omega) (by omega) (by omega)
  have e1 : mIn k 0 5 = 1 := by rw [mIn_any (by omega) (by omega) (by omega), if_pos (by omega)]
  have e16 : (xsI B 189 14 0).1 189 16 = B.1 189 16 := xx _ _ (by omega)
  unfold mTo0
  by_cases hz : B.1 189 16 = 0
  · rw [if_pos hz]
    refine xF_eq (xF_p (Nat.le_of_ble_eq_true rfl) ?_)
    refine xp_iload_n rfl rfl ?_
    refine xp_bipush (n := 10) rfl (by decide) ?_
    refine xp_idiv rfl (by decide) ?_
    rw [ed]
    refine xp_istore_n rfl (by decide) ?_
    refine xp_iload_n rfl rfl ?_
    refine xp_bipush (n := 10) rfl (by decide) ?_
    refine xp_irem rfl (by decide) ?_
    rw [er]
    refine xp_istore_n rfl (by decide) ?_
    refine xp_iload_n rfl rfl ?_
    refine xp_iconst (n := 0) rfl (by decide) ?_
    refine xp_iconst (n := 5) rfl (by decide) ?_
    refine xp_is rfl rfl rfl (Nat.le_of_ble_eq_true rfl) (by decide) (by decide) (by decide) (Nat.le_of_ble_eq_true rfl) rfl (xrcv0 (by decide) _ _) (m112 (by omega) (by omega) (by omega)) rfl ?_
    rw [e1]
    refine xp_ifne 44 rfl (by decide) (by omega) (fun h16 => ?_) (fun h16 => ?_)
    · skip
      refine xp_aload_n rfl rfl ?_
      refine xp_iconst (n := 0) rfl (by decide) ?_
      refine xp_pfi rfl rfl (by decide) (by decide) (by decide) (by first | assumption | exact hL.t rfl) ?_
      refine xp_iload_n rfl rfl ?_
      refine xp_bipush (n := 6) rfl (by decide) ?_
      refine xp_icge 130 rfl (by decide) (by omega) (by omega) (fun h52 => ?_) (fun h52 => ?_)
      · exfalso; omega
      · skip
        refine xp_aload_n rfl rfl ?_
        refine xp_gfi rfl rfl (by decide) (by decide) (by first | assumption | exact hL.t rfl) ?_
        rw [e16]
        refine xp_ifne 66 rfl (by decide) (by omega) (fun h59 => ?_) (fun h59 => ?_)
        · exfalso; omega
        · skip
          refine xp_iconst (n := 0) rfl (by decide) ?_
          refine xp_goto 129 rfl (by decide) ?_
          refine xp_ireturn rfl (by decide) (by decide) (by decide) ?_
          rfl
    · exfalso; omega
  · rw [if_neg hz]
    have hk6 : k = 0 ∨ k = 1 ∨ k = 2 ∨ k = 3 ∨ k = 4 ∨ k = 5 := by omega
    rcases hk6 with rfl | rfl | rfl | rfl | rfl | rfl
    · skip
      refine xF_eq (xF_p (Nat.le_of_ble_eq_true rfl) ?_)
      refine xp_iload_n rfl rfl ?_
      refine xp_bipush (n := 10) rfl (by decide) ?_
      refine xp_idiv rfl (by decide) ?_
      rw [ed]
      refine xp_istore_n rfl (by decide) ?_
      refine xp_iload_n rfl rfl ?_
      refine xp_bipush (n := 10) rfl (by decide) ?_
      refine xp_irem rfl (by decide) ?_
      rw [er]
      refine xp_istore_n rfl (by decide) ?_
      refine xp_iload_n rfl rfl ?_
      refine xp_iconst (n := 0) rfl (by decide) ?_
      refine xp_iconst (n := 5) rfl (by decide) ?_
      refine xp_is rfl rfl rfl (Nat.le_of_ble_eq_true rfl) (by decide) (by decide) (by decide) (Nat.le_of_ble_eq_true rfl) rfl (xrcv0 (by decide) _ _) (m112 (by omega) (by omega) (by omega)) rfl ?_
      rw [e1]
      refine xp_ifne 44 rfl (by decide) (by omega) (fun h16 => ?_) (fun h16 => ?_)
      · skip
        refine xp_aload_n rfl rfl ?_
        refine xp_iconst (n := 0) rfl (by decide) ?_
        refine xp_pfi rfl rfl (by decide) (by decide) (by decide) (by first | assumption | exact hL.t rfl) ?_
        refine xp_iload_n rfl rfl ?_
        refine xp_bipush (n := 6) rfl (by decide) ?_
        refine xp_icge 130 rfl (by decide) (by omega) (by omega) (fun h52 => ?_) (fun h52 => ?_)
        · exfalso; omega
        · skip
          refine xp_aload_n rfl rfl ?_
          refine xp_gfi rfl rfl (by decide) (by decide) (by first | assumption | exact hL.t rfl) ?_
          rw [e16]
          refine xp_ifne 66 rfl (by decide) (by omega) (fun h59 => ?_) (fun h59 => ?_)
          · skip
            refine xp_iload_n rfl rfl ?_
            refine xp_ifne 77 rfl (by decide) (by omega) (fun h67 => ?_) (fun h67 => ?_)
            · exfalso; omega
            · skip
              refine xp_aload_n rfl rfl ?_
              refine xp_gfi rfl rfl (by decide) (by decide) (by first | assumption | exact hL.t rfl) ?_
              try rw [xx 189 9 (by omega)]
              refine xp_goto 129 rfl (by decide) ?_
              try rw [xx 189 13 (by omega)]
              refine xp_ireturn rfl (by decide) (by decide) (by decide) ?_
              rfl
          · exfalso; omega
      · exfalso; omega
    · skip
      refine xF_eq (xF_p (Nat.le_of_ble_eq_true rfl) ?_)
      refine xp_iload_n rfl rfl ?_
      refine xp_bipush (n := 10) rfl (by decide) ?_
      refine xp_idiv rfl (by decide) ?_
      rw [ed]
      refine xp_istore_n rfl (by decide) ?_
      refine xp_iload_n rfl rfl ?_
      refine xp_bipush (n := 10) rfl (by decide) ?_
      refine xp_irem rfl (by decide) ?_
      rw [er]
      refine xp_istore_n rfl (by decide) ?_
      refine xp_iload_n rfl rfl ?_
      refine xp_iconst (n := 0) rfl (by decide) ?_
      refine xp_iconst (n := 5) rfl (by decide) ?_
      refine xp_is rfl rfl rfl (Nat.le_of_ble_eq_true rfl) (by decide) (by decide) (by decide) (Nat.le_of_ble_eq_true rfl) rfl (xrcv0 (by decide) _ _) (m112 (by omega) (by omega) (by omega)) rfl ?_
      rw [e1]
      refine xp_ifne 44 rfl (by decide) (by omega) (fun h16 => ?_) (fun h16 => ?_)
      · skip
        refine xp_aload_n rfl rfl ?_
        refine xp_iconst (n := 0) rfl (by decide) ?_
        refine xp_pfi rfl rfl (by decide) (by decide) (by decide) (by first | assumption | exact hL.t rfl) ?_
        refine xp_iload_n rfl rfl ?_
        refine xp_bipush (n := 6) rfl (by decide) ?_
        refine xp_icge 130 rfl (by decide) (by omega) (by omega) (fun h52 => ?_) (fun h52 => ?_)
        · exfalso; omega
        · skip
          refine xp_aload_n rfl rfl ?_
          refine xp_gfi rfl rfl (by decide) (by decide) (by first | assumption | exact hL.t rfl) ?_
          rw [e16]
          refine xp_ifne 66 rfl (by decide) (by omega) (fun h59 => ?_) (fun h59 => ?_)
          · skip
            refine xp_iload_n rfl rfl ?_
            refine xp_ifne 77 rfl (by decide) (by omega) (fun h67 => ?_) (fun h67 => ?_)
            · skip
              refine xp_iload_n rfl rfl ?_
              refine xp_iconst (n := 1) rfl (by decide) ?_
              refine xp_icne 89 rfl (by decide) (by omega) (by omega) (fun h79 => ?_) (fun h79 => ?_)
              · exfalso; omega
              · skip
                refine xp_aload_n rfl rfl ?_
                refine xp_gfi rfl rfl (by decide) (by decide) (by first | assumption | exact hL.t rfl) ?_
                try rw [xx 189 10 (by omega)]
                refine xp_goto 129 rfl (by decide) ?_
                try rw [xx 189 13 (by omega)]
                refine xp_ireturn rfl (by decide) (by decide) (by decide) ?_
                rfl
            · exfalso; omega
          · exfalso; omega
      · exfalso; omega
    · skip
      refine xF_eq (xF_p (Nat.le_of_ble_eq_true rfl) ?_)
      refine xp_iload_n rfl rfl ?_
      refine xp_bipush (n := 10) rfl (by decide) ?_
      refine xp_idiv rfl (by decide) ?_
      rw [ed]
      refine xp_istore_n rfl (by decide) ?_
      refine xp_iload_n rfl rfl ?_
      refine xp_bipush (n := 10) rfl (by decide) ?_
      refine xp_irem rfl (by decide) ?_
      rw [er]
      refine xp_istore_n rfl (by decide) ?_
      refine xp_iload_n rfl rfl ?_
      refine xp_iconst (n := 0) rfl (by decide) ?_
      refine xp_iconst (n := 5) rfl (by decide) ?_
      refine xp_is rfl rfl rfl (Nat.le_of_ble_eq_true rfl) (by decide) (by decide) (by decide) (Nat.le_of_ble_eq_true rfl) rfl (xrcv0 (by decide) _ _) (m112 (by omega) (by omega) (by omega)) rfl ?_
      rw [e1]
      refine xp_ifne 44 rfl (by decide) (by omega) (fun h16 => ?_) (fun h16 => ?_)
      · skip
        refine xp_aload_n rfl rfl ?_
        refine xp_iconst (n := 0) rfl (by decide) ?_
        refine xp_pfi rfl rfl (by decide) (by decide) (by decide) (by first | assumption | exact hL.t rfl) ?_
        refine xp_iload_n rfl rfl ?_
        refine xp_bipush (n := 6) rfl (by decide) ?_
        refine xp_icge 130 rfl (by decide) (by omega) (by omega) (fun h52 => ?_) (fun h52 => ?_)
        · exfalso; omega
        · skip
          refine xp_aload_n rfl rfl ?_
          refine xp_gfi rfl rfl (by decide) (by decide) (by first | assumption | exact hL.t rfl) ?_
          rw [e16]
          refine xp_ifne 66 rfl (by decide) (by omega) (fun h59 => ?_) (fun h59 => ?_)
          · skip
            refine xp_iload_n rfl rfl ?_
            refine xp_ifne 77 rfl (by decide) (by omega) (fun h67 => ?_) (fun h67 => ?_)
            · skip
              refine xp_iload_n rfl rfl ?_
              refine xp_iconst (n := 1) rfl (by decide) ?_
              refine xp_icne 89 rfl (by decide) (by omega) (by omega) (fun h79 => ?_) (fun h79 => ?_)
              · skip
                refine xp_iload_n rfl rfl ?_
                refine xp_iconst (n := 2) rfl (by decide) ?_
                refine xp_icne 101 rfl (by decide) (by omega) (by omega) (fun h91 => ?_) (fun h91 => ?_)
                · exfalso; omega
                · skip
                  refine xp_aload_n rfl rfl ?_
                  refine xp_gfi rfl rfl (by decide) (by decide) (by first | assumption | exact hL.t rfl) ?_
                  try rw [xx 189 11 (by omega)]
                  refine xp_goto 129 rfl (by decide) ?_
                  try rw [xx 189 13 (by omega)]
                  refine xp_ireturn rfl (by decide) (by decide) (by decide) ?_
                  rfl
              · exfalso; omega
            · exfalso; omega
          · exfalso; omega
      · exfalso; omega
    · skip
      refine xF_eq (xF_p (Nat.le_of_ble_eq_true rfl) ?_)
      refine xp_iload_n rfl rfl ?_
      refine xp_bipush (n := 10) rfl (by decide) ?_
      refine xp_idiv rfl (by decide) ?_
      rw [ed]
      refine xp_istore_n rfl (by decide) ?_
      refine xp_iload_n rfl rfl ?_
      refine xp_bipush (n := 10) rfl (by decide) ?_
      refine xp_irem rfl (by decide) ?_
      rw [er]
      refine xp_istore_n rfl (by decide) ?_
      refine xp_iload_n rfl rfl ?_
      refine xp_iconst (n := 0) rfl (by decide) ?_
      refine xp_iconst (n := 5) rfl (by decide) ?_
      refine xp_is rfl rfl rfl (Nat.le_of_ble_eq_true rfl) (by decide) (by decide) (by decide) (Nat.le_of_ble_eq_true rfl) rfl (xrcv0 (by decide) _ _) (m112 (by omega) (by omega) (by omega)) rfl ?_
      rw [e1]
      refine xp_ifne 44 rfl (by decide) (by omega) (fun h16 => ?_) (fun h16 => ?_)
      · skip
        refine xp_aload_n rfl rfl ?_
        refine xp_iconst (n := 0) rfl (by decide) ?_
        refine xp_pfi rfl rfl (by decide) (by decide) (by decide) (by first | assumption | exact hL.t rfl) ?_
        refine xp_iload_n rfl rfl ?_
        refine xp_bipush (n := 6) rfl (by decide) ?_
        refine xp_icge 130 rfl (by decide) (by omega) (by omega) (fun h52 => ?_) (fun h52 => ?_)
        · exfalso; omega
        · skip
          refine xp_aload_n rfl rfl ?_
          refine xp_gfi rfl rfl (by decide) (by decide) (by first | assumption | exact hL.t rfl) ?_
          rw [e16]
          refine xp_ifne 66 rfl (by decide) (by omega) (fun h59 => ?_) (fun h59 => ?_)
          · skip
            refine xp_iload_n rfl rfl ?_
            refine xp_ifne 77 rfl (by decide) (by omega) (fun h67 => ?_) (fun h67 => ?_)
            · skip
              refine xp_iload_n rfl rfl ?_
              refine xp_iconst (n := 1) rfl (by decide) ?_
              refine xp_icne 89 rfl (by decide) (by omega) (by omega) (fun h79 => ?_) (fun h79 => ?_)
              · skip
                refine xp_iload_n rfl rfl ?_
                refine xp_iconst (n := 2) rfl (by decide) ?_
                refine xp_icne 101 rfl (by decide) (by omega) (by omega) (fun h91 => ?_) (fun h91 => ?_)
                · skip
                  refine xp_iload_n rfl rfl ?_
                  refine xp_iconst (n := 3) rfl (by decide) ?_
                  refine xp_icne 113 rfl (by decide) (by omega) (by omega) (fun h103 => ?_) (fun h103 => ?_)
                  · exfalso; omega
                  · skip
                    refine xp_aload_n rfl rfl ?_
                    refine xp_gfi rfl rfl (by decide) (by decide) (by first | assumption | exact hL.t rfl) ?_
                    try rw [xx 189 15 (by omega)]
                    refine xp_goto 129 rfl (by decide) ?_
                    try rw [xx 189 13 (by omega)]
                    refine xp_ireturn rfl (by decide) (by decide) (by decide) ?_
                    rfl
                · exfalso; omega
              · exfalso; omega
            · exfalso; omega
          · exfalso; omega
      · exfalso; omega
    · skip
      refine xF_eq (xF_p (Nat.le_of_ble_eq_true rfl) ?_)
      refine xp_iload_n rfl rfl ?_
      refine xp_bipush (n := 10) rfl (by decide) ?_
      refine xp_idiv rfl (by decide) ?_
      rw [ed]
      refine xp_istore_n rfl (by decide) ?_
      refine xp_iload_n rfl rfl ?_
      refine xp_bipush (n := 10) rfl (by decide) ?_
      refine xp_irem rfl (by decide) ?_
      rw [er]
      refine xp_istore_n rfl (by decide) ?_
      refine xp_iload_n rfl rfl ?_
      refine xp_iconst (n := 0) rfl (by decide) ?_
      refine xp_iconst (n := 5) rfl (by decide) ?_
      refine xp_is rfl rfl rfl (Nat.le_of_ble_eq_true rfl) (by decide) (by decide) (by decide) (Nat.le_of_ble_eq_true rfl) rfl (xrcv0 (by decide) _ _) (m112 (by omega) (by omega) (by omega)) rfl ?_
      rw [e1]
      refine xp_ifne 44 rfl (by decide) (by omega) (fun h16 => ?_) (fun h16 => ?_)
      · skip
        refine xp_aload_n rfl rfl ?_
        refine xp_iconst (n := 0) rfl (by decide) ?_
        refine xp_pfi rfl rfl (by decide) (by decide) (by decide) (by first | assumption | exact hL.t rfl) ?_
        refine xp_iload_n rfl rfl ?_
        refine xp_bipush (n := 6) rfl (by decide) ?_
        refine xp_icge 130 rfl (by decide) (by omega) (by omega) (fun h52 => ?_) (fun h52 => ?_)
        · exfalso; omega
        · skip
          refine xp_aload_n rfl rfl ?_
          refine xp_gfi rfl rfl (by decide) (by decide) (by first | assumption | exact hL.t rfl) ?_
          rw [e16]
          refine xp_ifne 66 rfl (by decide) (by omega) (fun h59 => ?_) (fun h59 => ?_)
          · skip
            refine xp_iload_n rfl rfl ?_
            refine xp_ifne 77 rfl (by decide) (by omega) (fun h67 => ?_) (fun h67 => ?_)
            · skip
              refine xp_iload_n rfl rfl ?_
              refine xp_iconst (n := 1) rfl (by decide) ?_
              refine xp_icne 89 rfl (by decide) (by omega) (by omega) (fun h79 => ?_) (fun h79 => ?_)
              · skip
                refine xp_iload_n rfl rfl ?_
                refine xp_iconst (n := 2) rfl (by decide) ?_
                refine xp_icne 101 rfl (by decide) (by omega) (by omega) (fun h91 => ?_) (fun h91 => ?_)
                · skip
                  refine xp_iload_n rfl rfl ?_
                  refine xp_iconst (n := 3) rfl (by decide) ?_
                  refine xp_icne 113 rfl (by decide) (by omega) (by omega) (fun h103 => ?_) (fun h103 => ?_)
                  · skip
                    refine xp_iload_n rfl rfl ?_
                    refine xp_iconst (n := 4) rfl (by decide) ?_
                    refine xp_icne 125 rfl (by decide) (by omega) (by omega) (fun h115 => ?_) (fun h115 => ?_)
                    · exfalso; omega
                    · skip
                      refine xp_aload_n rfl rfl ?_
                      refine xp_gfi rfl rfl (by decide) (by decide) (by first | assumption | exact hL.t rfl) ?_
                      try rw [xx 189 12 (by omega)]
                      refine xp_goto 129 rfl (by decide) ?_
                      try rw [xx 189 13 (by omega)]
                      refine xp_ireturn rfl (by decide) (by decide) (by decide) ?_
                      rfl
                  · exfalso; omega
                · exfalso; omega
              · exfalso; omega
            · exfalso; omega
          · exfalso; omega
      · exfalso; omega
    · skip
      refine xF_eq (xF_p (Nat.le_of_ble_eq_true rfl) ?_)
      refine xp_iload_n rfl rfl ?_
      refine xp_bipush (n := 10) rfl (by decide) ?_
      refine xp_idiv rfl (by decide) ?_
      rw [ed]
      refine xp_istore_n rfl (by decide) ?_
      refine xp_iload_n rfl rfl ?_
      refine xp_bipush (n := 10) rfl (by decide) ?_
      refine xp_irem rfl (by decide) ?_
      rw [er]
      refine xp_istore_n rfl (by decide) ?_
      refine xp_iload_n rfl rfl ?_
      refine xp_iconst (n := 0) rfl (by decide) ?_
      refine xp_iconst (n := 5) rfl (by decide) ?_
      refine xp_is rfl rfl rfl (Nat.le_of_ble_eq_true rfl) (by decide) (by decide) (by decide) (Nat.le_of_ble_eq_true rfl) rfl (xrcv0 (by decide) _ _) (m112 (by omega) (by omega) (by omega)) rfl ?_
      rw [e1]
      refine xp_ifne 44 rfl (by decide) (by omega) (fun h16 => ?_) (fun h16 => ?_)
      · skip
        refine xp_aload_n rfl rfl ?_
        refine xp_iconst (n := 0) rfl (by decide) ?_
        refine xp_pfi rfl rfl (by decide) (by decide) (by decide) (by first | assumption | exact hL.t rfl) ?_
        refine xp_iload_n rfl rfl ?_
        refine xp_bipush (n := 6) rfl (by decide) ?_
        refine xp_icge 130 rfl (by decide) (by omega) (by omega) (fun h52 => ?_) (fun h52 => ?_)
        · exfalso; omega
        · skip
          refine xp_aload_n rfl rfl ?_
          refine xp_gfi rfl rfl (by decide) (by decide) (by first | assumption | exact hL.t rfl) ?_
          rw [e16]
          refine xp_ifne 66 rfl (by decide) (by omega) (fun h59 => ?_) (fun h59 => ?_)
          · skip
            refine xp_iload_n rfl rfl ?_
            refine xp_ifne 77 rfl (by decide) (by omega) (fun h67 => ?_) (fun h67 => ?_)
            · skip
              refine xp_iload_n rfl rfl ?_
              refine xp_iconst (n := 1) rfl (by decide) ?_
              refine xp_icne 89 rfl (by decide) (by omega) (by omega) (fun h79 => ?_) (fun h79 => ?_)
              · skip
                refine xp_iload_n rfl rfl ?_
                refine xp_iconst (n := 2) rfl (by decide) ?_
                refine xp_icne 101 rfl (by decide) (by omega) (by omega) (fun h91 => ?_) (fun h91 => ?_)
                · skip
                  refine xp_iload_n rfl rfl ?_
                  refine xp_iconst (n := 3) rfl (by decide) ?_
                  refine xp_icne 113 rfl (by decide) (by omega) (by omega) (fun h103 => ?_) (fun h103 => ?_)
                  · skip
                    refine xp_iload_n rfl rfl ?_
                    refine xp_iconst (n := 4) rfl (by decide) ?_
                    refine xp_icne 125 rfl (by decide) (by omega) (by omega) (fun h115 => ?_) (fun h115 => ?_)
                    · skip
                      refine xp_aload_n rfl rfl ?_
                      refine xp_gfi rfl rfl (by decide) (by decide) (by first | assumption | exact hL.t rfl) ?_
                      try rw [xx 189 13 (by omega)]
                      refine xp_ireturn rfl (by decide) (by decide) (by decide) ?_
                      rfl
                    · exfalso; omega
                  · exfalso; omega
                · exfalso; omega
              · exfalso; omega
            · exfalso; omega
          · exfalso; omega
      · exfalso; omega
theorem m151m {z : Nat} {T : Nat → Option xT} {R : Nat → Nat → Option Nat} {B : xQ} {w k : Nat} (hL : xLay T R w) (hk : 10 ≤ k) (hk2 : k < 70) (ht : k % 10 < 3) (hc : B.1 189 9 ≤ 3) (h16 : B.1 189 16 ≤ 1) (hq : B.1 189 16 = 0 ∨ ¬ k % 10 < B.1 189 9) : xF 151 [.ref 189, .int (nI k)] (xm z T R B) (.inr (some (.int (nI 4294967295))), xm z T R (xsI B 189 14 0)) := by
  have xx : ∀ a j, (a ≠ 189 ∨ j ≠ 14) → (xsI B 189 14 0).1 a j = B.1 a j := fun a j q => xsI_ne q
  have er := nI_rem (m := k) (n := 10) (by omega) (by omega) (by omega)
  have ed := nI_div (m := k) (n := 10) (by omega) (by omega) (by omega)
  have e1 : mIn k 0 5 = 0 := by rw [mIn_any (by omega) (by omega) (by omega), if_neg (by omega)]
  have e2 : mIn (k / 10) 1 6 = 1 := by rw [mIn_any (by omega) (by omega) (by omega), if_pos (by omega)]
  have e3 : mIn (k % 10) 0 2 = 1 := by rw [mIn_any (by omega) (by omega) (by omega), if_pos (by omega)]
  have e16 : (xsI B 189 14 0).1 189 16 = B.1 189 16 := xx _ _ (by omega)
  have e9 : (xsI B 189 14 0).1 189 9 = B.1 189 9 := xx _ _ (by omega)
  refine xF_eq (xF_p (Nat.le_of_ble_eq_true rfl) ?_)
  refine xp_iload_n rfl rfl ?_
  refine xp_bipush (n := 10) rfl (by decide) ?_
  refine xp_idiv rfl (by decide) ?_
  rw [ed]
  refine xp_istore_n rfl (by decide) ?_
  refine xp_iload_n rfl rfl ?_
  refine xp_bipush (n := 10) rfl (by decide) ?_
  refine xp_irem rfl (by decide) ?_
  rw [er]
  refine xp_istore_n rfl (by decide) ?_
  refine xp_iload_n rfl rfl ?_
  refine xp_iconst (n := 0) rfl (by decide) ?_
  refine xp_iconst (n := 5) rfl (by decide) ?_
  refine xp_is rfl rfl rfl (Nat.le_of_ble_eq_true rfl) (by decide) (by decide) (by decide) (Nat.le_of_ble_eq_true rfl) rfl (xrcv0 (by decide) _ _) (m112 (by omega) (by omega) (by omega)) rfl ?_
  rw [e1]
  refine xp_ifne 44 rfl (by decide) (by omega) (fun h16 => ?_) (fun h16 => ?_)
  · exfalso; omega
  · skip
    refine xp_iload_n rfl rfl ?_
    refine xp_iconst (n := 1) rfl (by decide) ?_
    refine xp_bipush (n := 6) rfl (by decide) ?_
    refine xp_is rfl rfl rfl (Nat.le_of_ble_eq_true rfl) (by decide) (by decide) (by decide) (Nat.le_of_ble_eq_true rfl) rfl (xrcv0 (by decide) _ _) (m112 (by omega) (by omega) (by omega)) rfl ?_
    rw [e2]
    refine xp_ifeq 38 rfl (by decide) (by omega) (fun h26 => ?_) (fun h26 => ?_)
    · exfalso; omega
    · skip
      refine xp_iload_n rfl rfl ?_
      refine xp_iconst (n := 0) rfl (by decide) ?_
      refine xp_iconst (n := 2) rfl (by decide) ?_
      refine xp_is rfl rfl rfl (Nat.le_of_ble_eq_true rfl) (by decide) (by decide) (by decide) (Nat.le_of_ble_eq_true rfl) rfl (xrcv0 (by decide) _ _) (m112 (by omega) (by omega) (by omega)) rfl ?_
      rw [e3]
      refine xp_ifne 44 rfl (by decide) (by omega) (fun h35 => ?_) (fun h35 => ?_)
      · skip
        refine xp_aload_n rfl rfl ?_
        refine xp_iconst (n := 0) rfl (by decide) ?_
        refine xp_pfi rfl rfl (by decide) (by decide) (by decide) (by first | assumption | exact hL.t rfl) ?_
        refine xp_iload_n rfl rfl ?_
        refine xp_bipush (n := 6) rfl (by decide) ?_
        refine xp_icge 130 rfl (by decide) (by omega) (by omega) (fun h52 => ?_) (fun h52 => ?_)
        · skip
          refine xp_aload_n rfl rfl ?_
          refine xp_gfi rfl rfl (by decide) (by decide) (by first | assumption | exact hL.t rfl) ?_
          rw [e16]
          refine xp_ifeq 159 rfl (by decide) (by omega) (fun h134 => ?_) (fun h134 => ?_)
          · skip
            refine xp_iconst (n := 4294967295) rfl (by decide) ?_
            refine xp_ireturn rfl (by decide) (by decide) (by decide) ?_
            rfl
          · skip
            refine xp_iload_n rfl rfl ?_
            refine xp_aload_n rfl rfl ?_
            refine xp_gfi rfl rfl (by decide) (by decide) (by first | assumption | exact hL.t rfl) ?_
            rw [e9]
            refine xp_icge 159 rfl (by decide) (by omega) (by omega) (fun h142 => ?_) (fun h142 => ?_)
            · skip
              refine xp_iconst (n := 4294967295) rfl (by decide) ?_
              refine xp_ireturn rfl (by decide) (by decide) (by decide) ?_
              rfl
            · exfalso; omega
        · exfalso; omega
      · exfalso; omega
theorem m151s {z : Nat} {T : Nat → Option xT} {R : Nat → Nat → Option Nat} {B : xQ} {w k : Nat} (hL : xLay T R w) (hk : 10 ≤ k) (hk2 : k < 70) (ht : k % 10 < 3) (hc : B.1 189 9 ≤ 3) (h16 : B.1 189 16 ≤ 1) (hz : B.1 189 16 = 1) (hq : k % 10 < B.1 189 9) (hp1 : B.1 199 (k % 10) = 0 → 1 ≤ B.1 201 (k % 10)) (hp5 : B.1 201 (k % 10) ≤ 5) (hp2 : B.1 199 (k % 10) ≤ 2) : xF 151 [.ref 189, .int (nI k)] (xm z T R B) (.inr (some (.int (nI (mTo1 B (k % 10) (k / 10))))), xm z T R (xsI B 189 14 0)) := by
  have xx : ∀ a j, (a ≠ 189 ∨ j ≠ 14) → (xsI B 189 14 0).1 a j = B.1 a j := fun a j q => xsI_ne q
  have er := nI_rem (m := k) (n := 10) (by omega) (by omega) (by omega)
  have ed := nI_div (m := k) (n := 10) (by omega) (by omega) (by omega)
  have e1 : mIn k 0 5 = 0 := by rw [mIn_any (by omega) (by omega) (by omega), if_neg (by omega)]
  have e2 : mIn (k / 10) 1 6 = 1 := by rw [mIn_any (by omega) (by omega) (by omega), if_pos (by omega)]
  have e3 : mIn (k % 10) 0 2 = 1 := by rw [mIn_any (by omega) (by omega) (by omega), if_pos (by omega)]
  have e16 : (xsI B 189 14 0).1 189 16 = B.1 189 16 := xx _ _ (by omega)
  have e9 : (xsI B 189 14 0).1 189 9 = B.1 189 9 := xx _ _ (by omega)
  have x199 : (xsI B 189 14 0).1 199 (k % 10) = B.1 199 (k % 10) := xx _ _ (by omega)
  have x200 : (xsI B 189 14 0).1 200 (k % 10) = B.1 200 (k % 10) := xx _ _ (by omega)
  have x201 : (xsI B 189 14 0).1 201 (k % 10) = B.1 201 (k % 10) := xx _ _ (by omega)
  have x202 : (xsI B 189 14 0).1 202 (5 * (k % 10) + B.1 201 (k % 10) - 1) = B.1 202 (5 * (k % 10) + B.1 201 (k % 10) - 1) := xx _ _ (by omega)
  have x203 : (xsI B 189 14 0).1 203 (5 * (k % 10) + B.1 201 (k % 10) - 1) = B.1 203 (5 * (k % 10) + B.1 201 (k % 10) - 1) := xx _ _ (by omega)
  have x205 : (xsI B 189 14 0).1 205 (5 * (k % 10) + B.1 201 (k % 10) - 1) = B.1 205 (5 * (k % 10) + B.1 201 (k % 10) - 1) := xx _ _ (by omega)
  have hg : k / 10 = 1 ∨ k / 10 = 2 ∨ k / 10 = 3 ∨ k / 10 = 4 ∨ k / 10 = 5 ∨ k / 10 = 6 := by omega
  rcases hg with hg | hg | hg | hg | hg | hg
  · rw [hg] at ed e2 ⊢
    refine xF_eq (xF_p (Nat.le_of_ble_eq_true rfl) ?_)
    refine xp_iload_n rfl rfl ?_
    refine xp_bipush (n := 10) rfl (by decide) ?_
    refine xp_idiv rfl (by decide) ?_
    rw [ed]
    refine xp_istore_n rfl (by decide) ?_
    refine xp_iload_n rfl rfl ?_
    refine xp_bipush (n := 10) rfl (by decide) ?_
    refine xp_irem rfl (by decide) ?_
    rw [er]
    refine xp_istore_n rfl (by decide) ?_
    refine xp_iload_n rfl rfl ?_
    refine xp_iconst (n := 0) rfl (by decide) ?_
    refine xp_iconst (n := 5) rfl (by decide) ?_
    refine xp_is rfl rfl rfl (Nat.le_of_ble_eq_true rfl) (by decide) (by decide) (by decide) (Nat.le_of_ble_eq_true rfl) rfl (xrcv0 (by decide) _ _) (m112 (by omega) (by omega) (by omega)) rfl ?_
    rw [e1]
    refine xp_ifne 44 rfl (by decide) (by omega) (fun h16 => ?_) (fun h16 => ?_)
    · exfalso; omega
    · skip
      refine xp_iload_n rfl rfl ?_
      refine xp_iconst (n := 1) rfl (by decide) ?_
      refine xp_bipush (n := 6) rfl (by decide) ?_
      refine xp_is rfl rfl rfl (Nat.le_of_ble_eq_true rfl) (by decide) (by decide) (by decide) (Nat.le_of_ble_eq_true rfl) rfl (xrcv0 (by decide) _ _) (m112 (by omega) (by omega) (by omega)) rfl ?_
      rw [e2]
      refine xp_ifeq 38 rfl (by decide) (by omega) (fun h26 => ?_) (fun h26 => ?_)
      · exfalso; omega
      · skip
        refine xp_iload_n rfl rfl ?_
        refine xp_iconst (n := 0) rfl (by decide) ?_
        refine xp_iconst (n := 2) rfl (by decide) ?_
        refine xp_is rfl rfl rfl (Nat.le_of_ble_eq_true rfl) (by decide) (by decide) (by decide) (Nat.le_of_ble_eq_true rfl) rfl (xrcv0 (by decide) _ _) (m112 (by omega) (by omega) (by omega)) rfl ?_
        rw [e3]
        refine xp_ifne 44 rfl (by decide) (by omega) (fun h35 => ?_) (fun h35 => ?_)
        · skip
          refine xp_aload_n rfl rfl ?_
          refine xp_iconst (n := 0) rfl (by decide) ?_
          refine xp_pfi rfl rfl (by decide) (by decide) (by decide) (by first | assumption | exact hL.t rfl) ?_
          refine xp_iload_n rfl rfl ?_
          refine xp_bipush (n := 6) rfl (by decide) ?_
          refine xp_icge 130 rfl (by decide) (by omega) (by omega) (fun h52 => ?_) (fun h52 => ?_)
          · skip
            refine xp_aload_n rfl rfl ?_
            refine xp_gfi rfl rfl (by decide) (by decide) (by first | assumption | exact hL.t rfl) ?_
            rw [e16]
            refine xp_ifeq 159 rfl (by decide) (by omega) (fun h134 => ?_) (fun h134 => ?_)
            · exfalso; omega
            · skip
              refine xp_iload_n rfl rfl ?_
              refine xp_aload_n rfl rfl ?_
              refine xp_gfi rfl rfl (by decide) (by decide) (by first | assumption | exact hL.t rfl) ?_
              rw [e9]
              refine xp_icge 159 rfl (by decide) (by omega) (by omega) (fun h142 => ?_) (fun h142 => ?_)
              · exfalso; omega
              · skip
                refine xp_iload_n rfl rfl ?_
                refine xp_iconst (n := 3) rfl (by decide) ?_
                refine xp_icle 161 rfl (by decide) (by omega) (by omega) (fun h147 => ?_) (fun h147 => ?_)
                · skip
                  refine xp_iconst (n := 5) rfl (by decide) ?_
                  refine xp_iload_n rfl rfl ?_
                  refine xp_imul rfl ?_
                  refine xp_aload_n rfl rfl ?_
                  refine xp_gfa rfl rfl (by decide) (by decide) (by first | assumption | exact hL.t rfl) (by first | assumption | exact hL.r rfl | exact hL.2.2.2.2.2) ?_
                  refine xp_iload_n rfl rfl ?_
                  refine xp_iald rfl (by first | assumption | exact hL.t rfl) (by omega) (by omega) ?_
                  rw [x201]
                  refine xp_iadd rfl ?_
                  refine xp_iconst (n := 1) rfl (by decide) ?_
                  refine xp_isubR rfl ?_
                  rw [nI_subm2]
                  refine xp_istore rfl (by decide) ?_
                  refine xp_iload_n rfl rfl ?_
                  refine xp_iconst (n := 1) rfl (by decide) ?_
                  refine xp_icne 189 rfl (by decide) (by omega) (by omega) (fun h177 => ?_) (fun h177 => ?_)
                  · exfalso; omega
                  · skip
                    refine xp_aload_n rfl rfl ?_
                    refine xp_gfa rfl rfl (by decide) (by decide) (by first | assumption | exact hL.t rfl) (by first | assumption | exact hL.r rfl | exact hL.2.2.2.2.2) ?_
                    refine xp_iload_n rfl rfl ?_
                    refine xp_iald rfl (by first | assumption | exact hL.t rfl) (by omega) (by omega) ?_
                    rw [x199]
                    refine xp_goto 267 rfl (by decide) ?_
                    refine xp_ireturn rfl (by decide) (by decide) (by decide) ?_
                    rfl
                · exfalso; omega
          · exfalso; omega
        · exfalso; omega
  · rw [hg] at ed e2 ⊢
    show xF 151 _ _ (.inr (some (.int (nI (if B.1 199 (k % 10) = 0 then B.1 201 (k % 10) else 0)))), _)
    by_cases hs : B.1 199 (k % 10) = 0
    · rw [if_pos hs]
      refine xF_eq (xF_p (Nat.le_of_ble_eq_true rfl) ?_)
      refine xp_iload_n rfl rfl ?_
      refine xp_bipush (n := 10) rfl (by decide) ?_
      refine xp_idiv rfl (by decide) ?_
      rw [ed]
      refine xp_istore_n rfl (by decide) ?_
      refine xp_iload_n rfl rfl ?_
      refine xp_bipush (n := 10) rfl (by decide) ?_
      refine xp_irem rfl (by decide) ?_
      rw [er]
      refine xp_istore_n rfl (by decide) ?_
      refine xp_iload_n rfl rfl ?_
      refine xp_iconst (n := 0) rfl (by decide) ?_
      refine xp_iconst (n := 5) rfl (by decide) ?_
      refine xp_is rfl rfl rfl (Nat.le_of_ble_eq_true rfl) (by decide) (by decide) (by decide) (Nat.le_of_ble_eq_true rfl) rfl (xrcv0 (by decide) _ _) (m112 (by omega) (by omega) (by omega)) rfl ?_
      rw [e1]
      refine xp_ifne 44 rfl (by decide) (by omega) (fun h16 => ?_) (fun h16 => ?_)
      · exfalso; omega
      · skip
        refine xp_iload_n rfl rfl ?_
        refine xp_iconst (n := 1) rfl (by decide) ?_
        refine xp_bipush (n := 6) rfl (by decide) ?_
        refine xp_is rfl rfl rfl (Nat.le_of_ble_eq_true rfl) (by decide) (by decide) (by decide) (Nat.le_of_ble_eq_true rfl) rfl (xrcv0 (by decide) _ _) (m112 (by omega) (by omega) (by omega)) rfl ?_
        rw [e2]
        refine xp_ifeq 38 rfl (by decide) (by omega) (fun h26 => ?_) (fun h26 => ?_)
        · exfalso; omega
        · skip
          refine xp_iload_n rfl rfl ?_
          refine xp_iconst (n := 0) rfl (by decide) ?_
          refine xp_iconst (n := 2) rfl (by decide) ?_
          refine xp_is rfl rfl rfl (Nat.le_of_ble_eq_true rfl) (by decide) (by decide) (by decide) (Nat.le_of_ble_eq_true rfl) rfl (xrcv0 (by decide) _ _) (m112 (by omega) (by omega) (by omega)) rfl ?_
          rw [e3]
          refine xp_ifne 44 rfl (by decide) (by omega) (fun h35 => ?_) (fun h35 => ?_)
          · skip
            refine xp_aload_n rfl rfl ?_
            refine xp_iconst (n := 0) rfl (by decide) ?_
            refine xp_pfi rfl rfl (by decide) (by decide) (by decide) (by first | assumption | exact hL.t rfl) ?_
            refine xp_iload_n rfl rfl ?_
            refine xp_bipush (n := 6) rfl (by decide) ?_
            refine xp_icge 130 rfl (by decide) (by omega) (by omega) (fun h52 => ?_) (fun h52 => ?_)
            · skip
              refine xp_aload_n rfl rfl ?_
              refine xp_gfi rfl rfl (by decide) (by decide) (by first | assumption | exact hL.t rfl) ?_
              rw [e16]
              refine xp_ifeq 159 rfl (by decide) (by omega) (fun h134 => ?_) (fun h134 => ?_)
              · exfalso; omega
              · skip
                refine xp_iload_n rfl rfl ?_
                refine xp_aload_n rfl rfl ?_
                refine xp_gfi rfl rfl (by decide) (by decide) (by first | assumption | exact hL.t rfl) ?_
                rw [e9]
                refine xp_icge 159 rfl (by decide) (by omega) (by omega) (fun h142 => ?_) (fun h142 => ?_)
                · exfalso; omega
                · skip
                  refine xp_iload_n rfl rfl ?_
                  refine xp_iconst (n := 3) rfl (by decide) ?_
                  refine xp_icle 161 rfl (by decide) (by omega) (by omega) (fun h147 => ?_) (fun h147 => ?_)
                  · skip
                    refine xp_iconst (n := 5) rfl (by decide) ?_
                    refine xp_iload_n rfl rfl ?_
                    refine xp_imul rfl ?_
                    refine xp_aload_n rfl rfl ?_
                    refine xp_gfa rfl rfl (by decide) (by decide) (by first | assumption | exact hL.t rfl) (by first | assumption | exact hL.r rfl | exact hL.2.2.2.2.2) ?_
                    refine xp_iload_n rfl rfl ?_
                    refine xp_iald rfl (by first | assumption | exact hL.t rfl) (by omega) (by omega) ?_
                    rw [x201]
                    refine xp_iadd rfl ?_
                    refine xp_iconst (n := 1) rfl (by decide) ?_
                    refine xp_isubR rfl ?_
                    rw [nI_subm2]
                    refine xp_istore rfl (by decide) ?_
                    refine xp_iload_n rfl rfl ?_
                    refine xp_iconst (n := 1) rfl (by decide) ?_
                    refine xp_icne 189 rfl (by decide) (by omega) (by omega) (fun h177 => ?_) (fun h177 => ?_)
                    · skip
                      refine xp_iload_n rfl rfl ?_
                      refine xp_iconst (n := 2) rfl (by decide) ?_
                      refine xp_icne 216 rfl (by decide) (by omega) (by omega) (fun h191 => ?_) (fun h191 => ?_)
                      · exfalso; omega
                      · skip
                        refine xp_aload_n rfl rfl ?_
                        refine xp_gfa rfl rfl (by decide) (by decide) (by first | assumption | exact hL.t rfl) (by first | assumption | exact hL.r rfl | exact hL.2.2.2.2.2) ?_
                        refine xp_iload_n rfl rfl ?_
                        refine xp_iald rfl (by first | assumption | exact hL.t rfl) (by omega) (by omega) ?_
                        rw [x199]
                        refine xp_ifne 212 rfl (by decide) (by omega) (fun h200 => ?_) (fun h200 => ?_)
                        · exfalso; omega
                        · skip
                          refine xp_aload_n rfl rfl ?_
                          refine xp_gfa rfl rfl (by decide) (by decide) (by first | assumption | exact hL.t rfl) (by first | assumption | exact hL.r rfl | exact hL.2.2.2.2.2) ?_
                          refine xp_iload_n rfl rfl ?_
                          refine xp_iald rfl (by first | assumption | exact hL.t rfl) (by omega) (by omega) ?_
                          rw [x201]
                          refine xp_goto 267 rfl (by decide) ?_
                          refine xp_ireturn rfl (by decide) (by decide) (by decide) ?_
                          rfl
                    · exfalso; omega
                  · exfalso; omega
            · exfalso; omega
          · exfalso; omega
    · rw [if_neg hs]
      refine xF_eq (xF_p (Nat.le_of_ble_eq_true rfl) ?_)
      refine xp_iload_n rfl rfl ?_
      refine xp_bipush (n := 10) rfl (by decide) ?_
      refine xp_idiv rfl (by decide) ?_
      rw [ed]
      refine xp_istore_n rfl (by decide) ?_
      refine xp_iload_n rfl rfl ?_
      refine xp_bipush (n := 10) rfl (by decide) ?_
      refine xp_irem rfl (by decide) ?_
      rw [er]
      refine xp_istore_n rfl (by decide) ?_
      refine xp_iload_n rfl rfl ?_
      refine xp_iconst (n := 0) rfl (by decide) ?_
      refine xp_iconst (n := 5) rfl (by decide) ?_
      refine xp_is rfl rfl rfl (Nat.le_of_ble_eq_true rfl) (by decide) (by decide) (by decide) (Nat.le_of_ble_eq_true rfl) rfl (xrcv0 (by decide) _ _) (m112 (by omega) (by omega) (by omega)) rfl ?_
      rw [e1]
      refine xp_ifne 44 rfl (by decide) (by omega) (fun h16 => ?_) (fun h16 => ?_)
      · exfalso; omega
      · skip
        refine xp_iload_n rfl rfl ?_
        refine xp_iconst (n := 1) rfl (by decide) ?_
        refine xp_bipush (n := 6) rfl (by decide) ?_
        refine xp_is rfl rfl rfl (Nat.le_of_ble_eq_true rfl) (by decide) (by decide) (by decide) (Nat.le_of_ble_eq_true rfl) rfl (xrcv0 (by decide) _ _) (m112 (by omega) (by omega) (by omega)) rfl ?_
        rw [e2]
        refine xp_ifeq 38 rfl (by decide) (by omega) (fun h26 => ?_) (fun h26 => ?_)
        · exfalso; omega
        · skip
          refine xp_iload_n rfl rfl ?_
          refine xp_iconst (n := 0) rfl (by decide) ?_
          refine xp_iconst (n := 2) rfl (by decide) ?_
          refine xp_is rfl rfl rfl (Nat.le_of_ble_eq_true rfl) (by decide) (by decide) (by decide) (Nat.le_of_ble_eq_true rfl) rfl (xrcv0 (by decide) _ _) (m112 (by omega) (by omega) (by omega)) rfl ?_
          rw [e3]
          refine xp_ifne 44 rfl (by decide) (by omega) (fun h35 => ?_) (fun h35 => ?_)
          · skip
            refine xp_aload_n rfl rfl ?_
            refine xp_iconst (n := 0) rfl (by decide) ?_
            refine xp_pfi rfl rfl (by decide) (by decide) (by decide) (by first | assumption | exact hL.t rfl) ?_
            refine xp_iload_n rfl rfl ?_
            refine xp_bipush (n := 6) rfl (by decide) ?_
            refine xp_icge 130 rfl (by decide) (by omega) (by omega) (fun h52 => ?_) (fun h52 => ?_)
            · skip
              refine xp_aload_n rfl rfl ?_
              refine xp_gfi rfl rfl (by decide) (by decide) (by first | assumption | exact hL.t rfl) ?_
              rw [e16]
              refine xp_ifeq 159 rfl (by decide) (by omega) (fun h134 => ?_) (fun h134 => ?_)
              · exfalso; omega
              · skip
                refine xp_iload_n rfl rfl ?_
                refine xp_aload_n rfl rfl ?_
                refine xp_gfi rfl rfl (by decide) (by decide) (by first | assumption | exact hL.t rfl) ?_
                rw [e9]
                refine xp_icge 159 rfl (by decide) (by omega) (by omega) (fun h142 => ?_) (fun h142 => ?_)
                · exfalso; omega
                · skip
                  refine xp_iload_n rfl rfl ?_
                  refine xp_iconst (n := 3) rfl (by decide) ?_
                  refine xp_icle 161 rfl (by decide) (by omega) (by omega) (fun h147 => ?_) (fun h147 => ?_)
                  · skip
                    refine xp_iconst (n := 5) rfl (by decide) ?_
                    refine xp_iload_n rfl rfl ?_
                    refine xp_imul rfl ?_
                    refine xp_aload_n rfl rfl ?_
                    refine xp_gfa rfl rfl (by decide) (by decide) (by first | assumption | exact hL.t rfl) (by first | assumption | exact hL.r rfl | exact hL.2.2.2.2.2) ?_
                    refine xp_iload_n rfl rfl ?_
                    refine xp_iald rfl (by first | assumption | exact hL.t rfl) (by omega) (by omega) ?_
                    rw [x201]
                    refine xp_iadd rfl ?_
                    refine xp_iconst (n := 1) rfl (by decide) ?_
                    refine xp_isubR rfl ?_
                    rw [nI_subm2]
                    refine xp_istore rfl (by decide) ?_
                    refine xp_iload_n rfl rfl ?_
                    refine xp_iconst (n := 1) rfl (by decide) ?_
                    refine xp_icne 189 rfl (by decide) (by omega) (by omega) (fun h177 => ?_) (fun h177 => ?_)
                    · skip
                      refine xp_iload_n rfl rfl ?_
                      refine xp_iconst (n := 2) rfl (by decide) ?_
                      refine xp_icne 216 rfl (by decide) (by omega) (by omega) (fun h191 => ?_) (fun h191 => ?_)
                      · exfalso; omega
                      · skip
                        refine xp_aload_n rfl rfl ?_
                        refine xp_gfa rfl rfl (by decide) (by decide) (by first | assumption | exact hL.t rfl) (by first | assumption | exact hL.r rfl | exact hL.2.2.2.2.2) ?_
                        refine xp_iload_n rfl rfl ?_
                        refine xp_iald rfl (by first | assumption | exact hL.t rfl) (by omega) (by omega) ?_
                        rw [x199]
                        refine xp_ifne 212 rfl (by decide) (by omega) (fun h200 => ?_) (fun h200 => ?_)
                        · skip
                          refine xp_iconst (n := 0) rfl (by decide) ?_
                          refine xp_goto 267 rfl (by decide) ?_
                          refine xp_ireturn rfl (by decide) (by decide) (by decide) ?_
                          rfl
                        · exfalso; omega
                    · exfalso; omega
                  · exfalso; omega
            · exfalso; omega
          · exfalso; omega
  · rw [hg] at ed e2 ⊢
    refine xF_eq (xF_p (Nat.le_of_ble_eq_true rfl) ?_)
    refine xp_iload_n rfl rfl ?_
    refine xp_bipush (n := 10) rfl (by decide) ?_
    refine xp_idiv rfl (by decide) ?_
    rw [ed]
    refine xp_istore_n rfl (by decide) ?_
    refine xp_iload_n rfl rfl ?_
    refine xp_bipush (n := 10) rfl (by decide) ?_
    refine xp_irem rfl (by decide) ?_
    rw [er]
    refine xp_istore_n rfl (by decide) ?_
    refine xp_iload_n rfl rfl ?_
    refine xp_iconst (n := 0) rfl (by decide) ?_
    refine xp_iconst (n := 5) rfl (by decide) ?_
    refine xp_is rfl rfl rfl (Nat.le_of_ble_eq_true rfl) (by decide) (by decide) (by decide) (Nat.le_of_ble_eq_true rfl) rfl (xrcv0 (by decide) _ _) (m112 (by omega) (by omega) (by omega)) rfl ?_
    rw [e1]
    refine xp_ifne 44 rfl (by decide) (by omega) (fun h16 => ?_) (fun h16 => ?_)
    · exfalso; omega
    · skip
      refine xp_iload_n rfl rfl ?_
      refine xp_iconst (n := 1) rfl (by decide) ?_
      refine xp_bipush (n := 6) rfl (by decide) ?_
      refine xp_is rfl rfl rfl (Nat.le_of_ble_eq_true rfl) (by decide) (by decide) (by decide) (Nat.le_of_ble_eq_true rfl) rfl (xrcv0 (by decide) _ _) (m112 (by omega) (by omega) (by omega)) rfl ?_
      rw [e2]
      refine xp_ifeq 38 rfl (by decide) (by omega) (fun h26 => ?_) (fun h26 => ?_)
      · exfalso; omega
      · skip
        refine xp_iload_n rfl rfl ?_
        refine xp_iconst (n := 0) rfl (by decide) ?_
        refine xp_iconst (n := 2) rfl (by decide) ?_
        refine xp_is rfl rfl rfl (Nat.le_of_ble_eq_true rfl) (by decide) (by decide) (by decide) (Nat.le_of_ble_eq_true rfl) rfl (xrcv0 (by decide) _ _) (m112 (by omega) (by omega) (by omega)) rfl ?_
        rw [e3]
        refine xp_ifne 44 rfl (by decide) (by omega) (fun h35 => ?_) (fun h35 => ?_)
        · skip
          refine xp_aload_n rfl rfl ?_
          refine xp_iconst (n := 0) rfl (by decide) ?_
          refine xp_pfi rfl rfl (by decide) (by decide) (by decide) (by first | assumption | exact hL.t rfl) ?_
          refine xp_iload_n rfl rfl ?_
          refine xp_bipush (n := 6) rfl (by decide) ?_
          refine xp_icge 130 rfl (by decide) (by omega) (by omega) (fun h52 => ?_) (fun h52 => ?_)
          · skip
            refine xp_aload_n rfl rfl ?_
            refine xp_gfi rfl rfl (by decide) (by decide) (by first | assumption | exact hL.t rfl) ?_
            rw [e16]
            refine xp_ifeq 159 rfl (by decide) (by omega) (fun h134 => ?_) (fun h134 => ?_)
            · exfalso; omega
            · skip
              refine xp_iload_n rfl rfl ?_
              refine xp_aload_n rfl rfl ?_
              refine xp_gfi rfl rfl (by decide) (by decide) (by first | assumption | exact hL.t rfl) ?_
              rw [e9]
              refine xp_icge 159 rfl (by decide) (by omega) (by omega) (fun h142 => ?_) (fun h142 => ?_)
              · exfalso; omega
              · skip
                refine xp_iload_n rfl rfl ?_
                refine xp_iconst (n := 3) rfl (by decide) ?_
                refine xp_icle 161 rfl (by decide) (by omega) (by omega) (fun h147 => ?_) (fun h147 => ?_)
                · skip
                  refine xp_iconst (n := 5) rfl (by decide) ?_
                  refine xp_iload_n rfl rfl ?_
                  refine xp_imul rfl ?_
                  refine xp_aload_n rfl rfl ?_
                  refine xp_gfa rfl rfl (by decide) (by decide) (by first | assumption | exact hL.t rfl) (by first | assumption | exact hL.r rfl | exact hL.2.2.2.2.2) ?_
                  refine xp_iload_n rfl rfl ?_
                  refine xp_iald rfl (by first | assumption | exact hL.t rfl) (by omega) (by omega) ?_
                  rw [x201]
                  refine xp_iadd rfl ?_
                  refine xp_iconst (n := 1) rfl (by decide) ?_
                  refine xp_isubR rfl ?_
                  rw [nI_subm2]
                  refine xp_istore rfl (by decide) ?_
                  refine xp_iload_n rfl rfl ?_
                  refine xp_iconst (n := 1) rfl (by decide) ?_
                  refine xp_icne 189 rfl (by decide) (by omega) (by omega) (fun h177 => ?_) (fun h177 => ?_)
                  · skip
                    refine xp_iload_n rfl rfl ?_
                    refine xp_iconst (n := 2) rfl (by decide) ?_
                    refine xp_icne 216 rfl (by decide) (by omega) (by omega) (fun h191 => ?_) (fun h191 => ?_)
                    · skip
                      refine xp_iload_n rfl rfl ?_
                      refine xp_iconst (n := 3) rfl (by decide) ?_
                      refine xp_icne 230 rfl (by decide) (by omega) (by omega) (fun h218 => ?_) (fun h218 => ?_)
                      · exfalso; omega
                      · skip
                        refine xp_aload_n rfl rfl ?_
                        refine xp_gfa rfl rfl (by decide) (by decide) (by first | assumption | exact hL.t rfl) (by first | assumption | exact hL.r rfl | exact hL.2.2.2.2.2) ?_
                        refine xp_iload_n rfl rfl ?_
                        refine xp_iald rfl (by first | assumption | exact hL.t rfl) (by omega) (by omega) ?_
                        rw [x200]
                        refine xp_goto 267 rfl (by decide) ?_
                        refine xp_ireturn rfl (by decide) (by decide) (by decide) ?_
                        rfl
                    · exfalso; omega
                  · exfalso; omega
                · exfalso; omega
          · exfalso; omega
        · exfalso; omega
  · rw [hg] at ed e2 ⊢
    show xF 151 _ _ (.inr (some (.int (nI (if B.1 199 (k % 10) = 0 then B.1 205 (5 * (k % 10) + B.1 201 (k % 10) - 1) else 4294967295)))), _)
    by_cases hs : B.1 199 (k % 10) = 0
    · rw [if_pos hs]
      have hp := hp1 hs
      refine xF_eq (xF_p (Nat.le_of_ble_eq_true rfl) ?_)
      refine xp_iload_n rfl rfl ?_
      refine xp_bipush (n := 10) rfl (by decide) ?_
      refine xp_idiv rfl (by decide) ?_
      rw [ed]
      refine xp_istore_n rfl (by decide) ?_
      refine xp_iload_n rfl rfl ?_
      refine xp_bipush (n := 10) rfl (by decide) ?_
      refine xp_irem rfl (by decide) ?_
      rw [er]
      refine xp_istore_n rfl (by decide) ?_
      refine xp_iload_n rfl rfl ?_
      refine xp_iconst (n := 0) rfl (by decide) ?_
      refine xp_iconst (n := 5) rfl (by decide) ?_
      refine xp_is rfl rfl rfl (Nat.le_of_ble_eq_true rfl) (by decide) (by decide) (by decide) (Nat.le_of_ble_eq_true rfl) rfl (xrcv0 (by decide) _ _) (m112 (by omega) (by omega) (by omega)) rfl ?_
      rw [e1]
      refine xp_ifne 44 rfl (by decide) (by omega) (fun h16 => ?_) (fun h16 => ?_)
      · exfalso; omega
      · skip
        refine xp_iload_n rfl rfl ?_
        refine xp_iconst (n := 1) rfl (by decide) ?_
        refine xp_bipush (n := 6) rfl (by decide) ?_
        refine xp_is rfl rfl rfl (Nat.le_of_ble_eq_true rfl) (by decide) (by decide) (by decide) (Nat.le_of_ble_eq_true rfl) rfl (xrcv0 (by decide) _ _) (m112 (by omega) (by omega) (by omega)) rfl ?_
        rw [e2]
        refine xp_ifeq 38 rfl (by decide) (by omega) (fun h26 => ?_) (fun h26 => ?_)
        · exfalso; omega
        · skip
          refine xp_iload_n rfl rfl ?_
          refine xp_iconst (n := 0) rfl (by decide) ?_
          refine xp_iconst (n := 2) rfl (by decide) ?_
          refine xp_is rfl rfl rfl (Nat.le_of_ble_eq_true rfl) (by decide) (by decide) (by decide) (Nat.le_of_ble_eq_true rfl) rfl (xrcv0 (by decide) _ _) (m112 (by omega) (by omega) (by omega)) rfl ?_
          rw [e3]
          refine xp_ifne 44 rfl (by decide) (by omega) (fun h35 => ?_) (fun h35 => ?_)
          · skip
            refine xp_aload_n rfl rfl ?_
            refine xp_iconst (n := 0) rfl (by decide) ?_
            refine xp_pfi rfl rfl (by decide) (by decide) (by decide) (by first | assumption | exact hL.t rfl) ?_
            refine xp_iload_n rfl rfl ?_
            refine xp_bipush (n := 6) rfl (by decide) ?_
            refine xp_icge 130 rfl (by decide) (by omega) (by omega) (fun h52 => ?_) (fun h52 => ?_)
            · skip
              refine xp_aload_n rfl rfl ?_
              refine xp_gfi rfl rfl (by decide) (by decide) (by first | assumption | exact hL.t rfl) ?_
              rw [e16]
              refine xp_ifeq 159 rfl (by decide) (by omega) (fun h134 => ?_) (fun h134 => ?_)
              · exfalso; omega
              · skip
                refine xp_iload_n rfl rfl ?_
                refine xp_aload_n rfl rfl ?_
                refine xp_gfi rfl rfl (by decide) (by decide) (by first | assumption | exact hL.t rfl) ?_
                rw [e9]
                refine xp_icge 159 rfl (by decide) (by omega) (by omega) (fun h142 => ?_) (fun h142 => ?_)
                · exfalso; omega
                · skip
                  refine xp_iload_n rfl rfl ?_
                  refine xp_iconst (n := 3) rfl (by decide) ?_
                  refine xp_icle 161 rfl (by decide) (by omega) (by omega) (fun h147 => ?_) (fun h147 => ?_)
                  · exfalso; omega
                  · skip
                    refine xp_aload_n rfl rfl ?_
                    refine xp_gfa rfl rfl (by decide) (by decide) (by first | assumption | exact hL.t rfl) (by first | assumption | exact hL.r rfl | exact hL.2.2.2.2.2) ?_
                    refine xp_iload_n rfl rfl ?_
                    refine xp_iald rfl (by first | assumption | exact hL.t rfl) (by omega) (by omega) ?_
                    rw [x199]
                    refine xp_ifeq 161 rfl (by decide) (by omega) (fun h156 => ?_) (fun h156 => ?_)
                    · skip
                      refine xp_iconst (n := 5) rfl (by decide) ?_
                      refine xp_iload_n rfl rfl ?_
                      refine xp_imul rfl ?_
                      refine xp_aload_n rfl rfl ?_
                      refine xp_gfa rfl rfl (by decide) (by decide) (by first | assumption | exact hL.t rfl) (by first | assumption | exact hL.r rfl | exact hL.2.2.2.2.2) ?_
                      refine xp_iload_n rfl rfl ?_
                      refine xp_iald rfl (by first | assumption | exact hL.t rfl) (by omega) (by omega) ?_
                      rw [x201]
                      refine xp_iadd rfl ?_
                      refine xp_iconst (n := 1) rfl (by decide) ?_
                      refine xp_isubR rfl ?_
                      rw [nI_subm2]
                      rw [show (5 * (k % 10) + B.1 201 (k % 10) + 4294967295) % 2 ^ 32 = 5 * (k % 10) + B.1 201 (k % 10) - 1 by omega]
                      refine xp_istore rfl (by decide) ?_
                      refine xp_iload_n rfl rfl ?_
                      refine xp_iconst (n := 1) rfl (by decide) ?_
                      refine xp_icne 189 rfl (by decide) (by omega) (by omega) (fun h177 => ?_) (fun h177 => ?_)
                      · skip
                        refine xp_iload_n rfl rfl ?_
                        refine xp_iconst (n := 2) rfl (by decide) ?_
                        refine xp_icne 216 rfl (by decide) (by omega) (by omega) (fun h191 => ?_) (fun h191 => ?_)
                        · skip
                          refine xp_iload_n rfl rfl ?_
                          refine xp_iconst (n := 3) rfl (by decide) ?_
                          refine xp_icne 230 rfl (by decide) (by omega) (by omega) (fun h218 => ?_) (fun h218 => ?_)
                          · skip
                            refine xp_iload_n rfl rfl ?_
                            refine xp_iconst (n := 4) rfl (by decide) ?_
                            refine xp_icne 245 rfl (by decide) (by omega) (by omega) (fun h232 => ?_) (fun h232 => ?_)
                            · exfalso; omega
                            · skip
                              refine xp_aload_n rfl rfl ?_
                              refine xp_gfa rfl rfl (by decide) (by decide) (by first | assumption | exact hL.t rfl) (by first | assumption | exact hL.r rfl | exact hL.2.2.2.2.2) ?_
                              refine xp_iload rfl rfl ?_
                              refine xp_iald rfl (by first | assumption | exact hL.t rfl) (by omega) (by omega) ?_
                              try rw [x205]
                              refine xp_goto 267 rfl (by decide) ?_
                              refine xp_ireturn rfl (by decide) (by decide) (by decide) ?_
                              rfl
                          · exfalso; omega
                        · exfalso; omega
                      · exfalso; omega
                    · exfalso; omega
            · exfalso; omega
          · exfalso; omega
    · rw [if_neg hs]
      refine xF_eq (xF_p (Nat.le_of_ble_eq_true rfl) ?_)
      refine xp_iload_n rfl rfl ?_
      refine xp_bipush (n := 10) rfl (by decide) ?_
      refine xp_idiv rfl (by decide) ?_
      rw [ed]
      refine xp_istore_n rfl (by decide) ?_
      refine xp_iload_n rfl rfl ?_
      refine xp_bipush (n := 10) rfl (by decide) ?_
      refine xp_irem rfl (by decide) ?_
      rw [er]
      refine xp_istore_n rfl (by decide) ?_
      refine xp_iload_n rfl rfl ?_
      refine xp_iconst (n := 0) rfl (by decide) ?_
      refine xp_iconst (n := 5) rfl (by decide) ?_
      refine xp_is rfl rfl rfl (Nat.le_of_ble_eq_true rfl) (by decide) (by decide) (by decide) (Nat.le_of_ble_eq_true rfl) rfl (xrcv0 (by decide) _ _) (m112 (by omega) (by omega) (by omega)) rfl ?_
      rw [e1]
      refine xp_ifne 44 rfl (by decide) (by omega) (fun h16 => ?_) (fun h16 => ?_)
      · exfalso; omega
      · skip
        refine xp_iload_n rfl rfl ?_
        refine xp_iconst (n := 1) rfl (by decide) ?_
        refine xp_bipush (n := 6) rfl (by decide) ?_
        refine xp_is rfl rfl rfl (Nat.le_of_ble_eq_true rfl) (by decide) (by decide) (by decide) (Nat.le_of_ble_eq_true rfl) rfl (xrcv0 (by decide) _ _) (m112 (by omega) (by omega) (by omega)) rfl ?_
        rw [e2]
        refine xp_ifeq 38 rfl (by decide) (by omega) (fun h26 => ?_) (fun h26 => ?_)
        · exfalso; omega
        · skip
          refine xp_iload_n rfl rfl ?_
          refine xp_iconst (n := 0) rfl (by decide) ?_
          refine xp_iconst (n := 2) rfl (by decide) ?_
          refine xp_is rfl rfl rfl (Nat.le_of_ble_eq_true rfl) (by decide) (by decide) (by decide) (Nat.le_of_ble_eq_true rfl) rfl (xrcv0 (by decide) _ _) (m112 (by omega) (by omega) (by omega)) rfl ?_
          rw [e3]
          refine xp_ifne 44 rfl (by decide) (by omega) (fun h35 => ?_) (fun h35 => ?_)
          · skip
            refine xp_aload_n rfl rfl ?_
            refine xp_iconst (n := 0) rfl (by decide) ?_
            refine xp_pfi rfl rfl (by decide) (by decide) (by decide) (by first | assumption | exact hL.t rfl) ?_
            refine xp_iload_n rfl rfl ?_
            refine xp_bipush (n := 6) rfl (by decide) ?_
            refine xp_icge 130 rfl (by decide) (by omega) (by omega) (fun h52 => ?_) (fun h52 => ?_)
            · skip
              refine xp_aload_n rfl rfl ?_
              refine xp_gfi rfl rfl (by decide) (by decide) (by first | assumption | exact hL.t rfl) ?_
              rw [e16]
              refine xp_ifeq 159 rfl (by decide) (by omega) (fun h134 => ?_) (fun h134 => ?_)
              · exfalso; omega
              · skip
                refine xp_iload_n rfl rfl ?_
                refine xp_aload_n rfl rfl ?_
                refine xp_gfi rfl rfl (by decide) (by decide) (by first | assumption | exact hL.t rfl) ?_
                rw [e9]
                refine xp_icge 159 rfl (by decide) (by omega) (by omega) (fun h142 => ?_) (fun h142 => ?_)
                · exfalso; omega
                · skip
                  refine xp_iload_n rfl rfl ?_
                  refine xp_iconst (n := 3) rfl (by decide) ?_
                  refine xp_icle 161 rfl (by decide) (by omega) (by omega) (fun h147 => ?_) (fun h147 => ?_)
                  · exfalso; omega
                  · skip
                    refine xp_aload_n rfl rfl ?_
                    refine xp_gfa rfl rfl (by decide) (by decide) (by first | assumption | exact hL.t rfl) (by first | assumption | exact hL.r rfl | exact hL.2.2.2.2.2) ?_
                    refine xp_iload_n rfl rfl ?_
                    refine xp_iald rfl (by first | assumption | exact hL.t rfl) (by omega) (by omega) ?_
                    rw [x199]
                    refine xp_ifeq 161 rfl (by decide) (by omega) (fun h156 => ?_) (fun h156 => ?_)
                    · exfalso; omega
                    · skip
                      refine xp_iconst (n := 4294967295) rfl (by decide) ?_
                      refine xp_ireturn rfl (by decide) (by decide) (by decide) ?_
                      rfl
            · exfalso; omega
          · exfalso; omega
  · rw [hg] at ed e2 ⊢
    show xF 151 _ _ (.inr (some (.int (nI (if B.1 199 (k % 10) = 0 then B.1 203 (5 * (k % 10) + B.1 201 (k % 10) - 1) else 4294967295)))), _)
    by_cases hs : B.1 199 (k % 10) = 0
    · rw [if_pos hs]
      have hp := hp1 hs
      refine xF_eq (xF_p (Nat.le_of_ble_eq_true rfl) ?_)
      refine xp_iload_n rfl rfl ?_
      refine xp_bipush (n := 10) rfl (by decide) ?_
      refine xp_idiv rfl (by decide) ?_
      rw [ed]
      refine xp_istore_n rfl (by decide) ?_
      refine xp_iload_n rfl rfl ?_
      refine xp_bipush (n := 10) rfl (by decide) ?_
      refine xp_irem rfl (by decide) ?_
      rw [er]
      refine xp_istore_n rfl (by decide) ?_
      refine xp_iload_n rfl rfl ?_
      refine xp_iconst (n := 0) rfl (by decide) ?_
      refine xp_iconst (n := 5) rfl (by decide) ?_
      refine xp_is rfl rfl rfl (Nat.le_of_ble_eq_true rfl) (by decide) (by decide) (by decide) (Nat.le_of_ble_eq_true rfl) rfl (xrcv0 (by decide) _ _) (m112 (by omega) (by omega) (by omega)) rfl ?_
      rw [e1]
      refine xp_ifne 44 rfl (by decide) (by omega) (fun h16 => ?_) (fun h16 => ?_)
      · exfalso; omega
      · skip
        refine xp_iload_n rfl rfl ?_
        refine xp_iconst (n := 1) rfl (by decide) ?_
        refine xp_bipush (n := 6) rfl (by decide) ?_
        refine xp_is rfl rfl rfl (Nat.le_of_ble_eq_true rfl) (by decide) (by decide) (by decide) (Nat.le_of_ble_eq_true rfl) rfl (xrcv0 (by decide) _ _) (m112 (by omega) (by omega) (by omega)) rfl ?_
        rw [e2]
        refine xp_ifeq 38 rfl (by decide) (by omega) (fun h26 => ?_) (fun h26 => ?_)
        · exfalso; omega
        · skip
          refine xp_iload_n rfl rfl ?_
          refine xp_iconst (n := 0) rfl (by decide) ?_
          refine xp_iconst (n := 2) rfl (by decide) ?_
          refine xp_is rfl rfl rfl (Nat.le_of_ble_eq_true rfl) (by decide) (by decide) (by decide) (Nat.le_of_ble_eq_true rfl) rfl (xrcv0 (by decide) _ _) (m112 (by omega) (by omega) (by omega)) rfl ?_
          rw [e3]
          refine xp_ifne 44 rfl (by decide) (by omega) (fun h35 => ?_) (fun h35 => ?_)
          · skip
            refine xp_aload_n rfl rfl ?_
            refine xp_iconst (n := 0) rfl (by decide) ?_
            refine xp_pfi rfl rfl (by decide) (by decide) (by decide) (by first | assumption | exact hL.t rfl) ?_
            refine xp_iload_n rfl rfl ?_
            refine xp_bipush (n := 6) rfl (by decide) ?_
            refine xp_icge 130 rfl (by decide) (by omega) (by omega) (fun h52 => ?_) (fun h52 => ?_)
            · skip
              refine xp_aload_n rfl rfl ?_
              refine xp_gfi rfl rfl (by decide) (by decide) (by first | assumption | exact hL.t rfl) ?_
              rw [e16]
              refine xp_ifeq 159 rfl (by decide) (by omega) (fun h134 => ?_) (fun h134 => ?_)
              · exfalso; omega
              · skip
                refine xp_iload_n rfl rfl ?_
                refine xp_aload_n rfl rfl ?_
                refine xp_gfi rfl rfl (by decide) (by decide) (by first | assumption | exact hL.t rfl) ?_
                rw [e9]
                refine xp_icge 159 rfl (by decide) (by omega) (by omega) (fun h142 => ?_) (fun h142 => ?_)
                · exfalso; omega
                · skip
                  refine xp_iload_n rfl rfl ?_
                  refine xp_iconst (n := 3) rfl (by decide) ?_
                  refine xp_icle 161 rfl (by decide) (by omega) (by omega) (fun h147 => ?_) (fun h147 => ?_)
                  · exfalso; omega
                  · skip
                    refine xp_aload_n rfl rfl ?_
                    refine xp_gfa rfl rfl (by decide) (by decide) (by first | assumption | exact hL.t rfl) (by first | assumption | exact hL.r rfl | exact hL.2.2.2.2.2) ?_
                    refine xp_iload_n rfl rfl ?_
                    refine xp_iald rfl (by first | assumption | exact hL.t rfl) (by omega) (by omega) ?_
                    rw [x199]
                    refine xp_ifeq 161 rfl (by decide) (by omega) (fun h156 => ?_) (fun h156 => ?_)
                    · skip
                      refine xp_iconst (n := 5) rfl (by decide) ?_
                      refine xp_iload_n rfl rfl ?_
                      refine xp_imul rfl ?_
                      refine xp_aload_n rfl rfl ?_
                      refine xp_gfa rfl rfl (by decide) (by decide) (by first | assumption | exact hL.t rfl) (by first | assumption | exact hL.r rfl | exact hL.2.2.2.2.2) ?_
                      refine xp_iload_n rfl rfl ?_
                      refine xp_iald rfl (by first | assumption | exact hL.t rfl) (by omega) (by omega) ?_
                      rw [x201]
                      refine xp_iadd rfl ?_
                      refine xp_iconst (n := 1) rfl (by decide) ?_
                      refine xp_isubR rfl ?_
                      rw [nI_subm2]
                      rw [show (5 * (k % 10) + B.1 201 (k % 10) + 4294967295) % 2 ^ 32 = 5 * (k % 10) + B.1 201 (k % 10) - 1 by omega]
                      refine xp_istore rfl (by decide) ?_
                      refine xp_iload_n rfl rfl ?_
                      refine xp_iconst (n := 1) rfl (by decide) ?_
                      refine xp_icne 189 rfl (by decide) (by omega) (by omega) (fun h177 => ?_) (fun h177 => ?_)
                      · skip
                        refine xp_iload_n rfl rfl ?_
                        refine xp_iconst (n := 2) rfl (by decide) ?_
                        refine xp_icne 216 rfl (by decide) (by omega) (by omega) (fun h191 => ?_) (fun h191 => ?_)
                        · skip
                          refine xp_iload_n rfl rfl ?_
                          refine xp_iconst (n := 3) rfl (by decide) ?_
                          refine xp_icne 230 rfl (by decide) (by omega) (by omega) (fun h218 => ?_) (fun h218 => ?_)
                          · skip
                            refine xp_iload_n rfl rfl ?_
                            refine xp_iconst (n := 4) rfl (by decide) ?_
                            refine xp_icne 245 rfl (by decide) (by omega) (by omega) (fun h232 => ?_) (fun h232 => ?_)
                            · skip
                              refine xp_iload_n rfl rfl ?_
                              refine xp_iconst (n := 5) rfl (by decide) ?_
                              refine xp_icne 260 rfl (by decide) (by omega) (by omega) (fun h247 => ?_) (fun h247 => ?_)
                              · exfalso; omega
                              · skip
                                refine xp_aload_n rfl rfl ?_
                                refine xp_gfa rfl rfl (by decide) (by decide) (by first | assumption | exact hL.t rfl) (by first | assumption | exact hL.r rfl | exact hL.2.2.2.2.2) ?_
                                refine xp_iload rfl rfl ?_
                                refine xp_iald rfl (by first | assumption | exact hL.t rfl) (by omega) (by omega) ?_
                                try rw [x203]
                                refine xp_goto 267 rfl (by decide) ?_
                                refine xp_ireturn rfl (by decide) (by decide) (by decide) ?_
                                rfl
                            · exfalso; omega
                          · exfalso; omega
                        · exfalso; omega
                      · exfalso; omega
                    · exfalso; omega
            · exfalso; omega
          · exfalso; omega
    · rw [if_neg hs]
      refine xF_eq (xF_p (Nat.le_of_ble_eq_true rfl) ?_)
      refine xp_iload_n rfl rfl ?_
      refine xp_bipush (n := 10) rfl (by decide) ?_
      refine xp_idiv rfl (by decide) ?_
      rw [ed]
      refine xp_istore_n rfl (by decide) ?_
      refine xp_iload_n rfl rfl ?_
      refine xp_bipush (n := 10) rfl (by decide) ?_
      refine xp_irem rfl (by decide) ?_
      rw [er]
      refine xp_istore_n rfl (by decide) ?_
      refine xp_iload_n rfl rfl ?_
      refine xp_iconst (n := 0) rfl (by decide) ?_
      refine xp_iconst (n := 5) rfl (by decide) ?_
      refine xp_is rfl rfl rfl (Nat.le_of_ble_eq_true rfl) (by decide) (by decide) (by decide) (Nat.le_of_ble_eq_true rfl) rfl (xrcv0 (by decide) _ _) (m112 (by omega) (by omega) (by omega)) rfl ?_
      rw [e1]
      refine xp_ifne 44 rfl (by decide) (by omega) (fun h16 => ?_) (fun h16 => ?_)
      · exfalso; omega
      · skip
        refine xp_iload_n rfl rfl ?_
        refine xp_iconst (n := 1) rfl (by decide) ?_
        refine xp_bipush (n := 6) rfl (by decide) ?_
        refine xp_is rfl rfl rfl (Nat.le_of_ble_eq_true rfl) (by decide) (by decide) (by decide) (Nat.le_of_ble_eq_true rfl) rfl (xrcv0 (by decide) _ _) (m112 (by omega) (by omega) (by omega)) rfl ?_
        rw [e2]
        refine xp_ifeq 38 rfl (by decide) (by omega) (fun h26 => ?_) (fun h26 => ?_)
        · exfalso; omega
        · skip
          refine xp_iload_n rfl rfl ?_
          refine xp_iconst (n := 0) rfl (by decide) ?_
          refine xp_iconst (n := 2) rfl (by decide) ?_
          refine xp_is rfl rfl rfl (Nat.le_of_ble_eq_true rfl) (by decide) (by decide) (by decide) (Nat.le_of_ble_eq_true rfl) rfl (xrcv0 (by decide) _ _) (m112 (by omega) (by omega) (by omega)) rfl ?_
          rw [e3]
          refine xp_ifne 44 rfl (by decide) (by omega) (fun h35 => ?_) (fun h35 => ?_)
          · skip
            refine xp_aload_n rfl rfl ?_
            refine xp_iconst (n := 0) rfl (by decide) ?_
            refine xp_pfi rfl rfl (by decide) (by decide) (by decide) (by first | assumption | exact hL.t rfl) ?_
            refine xp_iload_n rfl rfl ?_
            refine xp_bipush (n := 6) rfl (by decide) ?_
            refine xp_icge 130 rfl (by decide) (by omega) (by omega) (fun h52 => ?_) (fun h52 => ?_)
            · skip
              refine xp_aload_n rfl rfl ?_
              refine xp_gfi rfl rfl (by decide) (by decide) (by first | assumption | exact hL.t rfl) ?_
              rw [e16]
              refine xp_ifeq 159 rfl (by decide) (by omega) (fun h134 => ?_) (fun h134 => ?_)
              · exfalso; omega
              · skip
                refine xp_iload_n rfl rfl ?_
                refine xp_aload_n rfl rfl ?_
                refine xp_gfi rfl rfl (by decide) (by decide) (by first | assumption | exact hL.t rfl) ?_
                rw [e9]
                refine xp_icge 159 rfl (by decide) (by omega) (by omega) (fun h142 => ?_) (fun h142 => ?_)
                · exfalso; omega
                · skip
                  refine xp_iload_n rfl rfl ?_
                  refine xp_iconst (n := 3) rfl (by decide) ?_
                  refine xp_icle 161 rfl (by decide) (by omega) (by omega) (fun h147 => ?_) (fun h147 => ?_)
                  · exfalso; omega
                  · skip
                    refine xp_aload_n rfl rfl ?_
                    refine xp_gfa rfl rfl (by decide) (by decide) (by first | assumption | exact hL.t rfl) (by first | assumption | exact hL.r rfl | exact hL.2.2.2.2.2) ?_
                    refine xp_iload_n rfl rfl ?_
                    refine xp_iald rfl (by first | assumption | exact hL.t rfl) (by omega) (by omega) ?_
                    rw [x199]
                    refine xp_ifeq 161 rfl (by decide) (by omega) (fun h156 => ?_) (fun h156 => ?_)
                    · exfalso; omega
                    · skip
                      refine xp_iconst (n := 4294967295) rfl (by decide) ?_
                      refine xp_ireturn rfl (by decide) (by decide) (by decide) ?_
                      rfl
            · exfalso; omega
          · exfalso; omega
  · rw [hg] at ed e2 ⊢
    show xF 151 _ _ (.inr (some (.int (nI (if B.1 199 (k % 10) = 0 then B.1 202 (5 * (k % 10) + B.1 201 (k % 10) - 1) else 4294967295)))), _)
    by_cases hs : B.1 199 (k % 10) = 0
    · rw [if_pos hs]
      have hp := hp1 hs
      refine xF_eq (xF_p (Nat.le_of_ble_eq_true rfl) ?_)
      refine xp_iload_n rfl rfl ?_
      refine xp_bipush (n := 10) rfl (by decide) ?_
      refine xp_idiv rfl (by decide) ?_
      rw [ed]
      refine xp_istore_n rfl (by decide) ?_
      refine xp_iload_n rfl rfl ?_
      refine xp_bipush (n := 10) rfl (by decide) ?_
      refine xp_irem rfl (by decide) ?_
      rw [er]
      refine xp_istore_n rfl (by decide) ?_
      refine xp_iload_n rfl rfl ?_
      refine xp_iconst (n := 0) rfl (by decide) ?_
      refine xp_iconst (n := 5) rfl (by decide) ?_
      refine xp_is rfl rfl rfl (Nat.le_of_ble_eq_true rfl) (by decide) (by decide) (by decide) (Nat.le_of_ble_eq_true rfl) rfl (xrcv0 (by decide) _ _) (m112 (by omega) (by omega) (by omega)) rfl ?_
      rw [e1]
      refine xp_ifne 44 rfl (by decide) (by omega) (fun h16 => ?_) (fun h16 => ?_)
      · exfalso; omega
      · skip
        refine xp_iload_n rfl rfl ?_
        refine xp_iconst (n := 1) rfl (by decide) ?_
        refine xp_bipush (n := 6) rfl (by decide) ?_
        refine xp_is rfl rfl rfl (Nat.le_of_ble_eq_true rfl) (by decide) (by decide) (by decide) (Nat.le_of_ble_eq_true rfl) rfl (xrcv0 (by decide) _ _) (m112 (by omega) (by omega) (by omega)) rfl ?_
        rw [e2]
        refine xp_ifeq 38 rfl (by decide) (by omega) (fun h26 => ?_) (fun h26 => ?_)
        · exfalso; omega
        · skip
          refine xp_iload_n rfl rfl ?_
          refine xp_iconst (n := 0) rfl (by decide) ?_
          refine xp_iconst (n := 2) rfl (by decide) ?_
          refine xp_is rfl rfl rfl (Nat.le_of_ble_eq_true rfl) (by decide) (by decide) (by decide) (Nat.le_of_ble_eq_true rfl) rfl (xrcv0 (by decide) _ _) (m112 (by omega) (by omega) (by omega)) rfl ?_
          rw [e3]
          refine xp_ifne 44 rfl (by decide) (by omega) (fun h35 => ?_) (fun h35 => ?_)
          · skip
            refine xp_aload_n rfl rfl ?_
            refine xp_iconst (n := 0) rfl (by decide) ?_
            refine xp_pfi rfl rfl (by decide) (by decide) (by decide) (by first | assumption | exact hL.t rfl) ?_
            refine xp_iload_n rfl rfl ?_
            refine xp_bipush (n := 6) rfl (by decide) ?_
            refine xp_icge 130 rfl (by decide) (by omega) (by omega) (fun h52 => ?_) (fun h52 => ?_)
            · skip
              refine xp_aload_n rfl rfl ?_
              refine xp_gfi rfl rfl (by decide) (by decide) (by first | assumption | exact hL.t rfl) ?_
              rw [e16]
              refine xp_ifeq 159 rfl (by decide) (by omega) (fun h134 => ?_) (fun h134 => ?_)
              · exfalso; omega
              · skip
                refine xp_iload_n rfl rfl ?_
                refine xp_aload_n rfl rfl ?_
                refine xp_gfi rfl rfl (by decide) (by decide) (by first | assumption | exact hL.t rfl) ?_
                rw [e9]
                refine xp_icge 159 rfl (by decide) (by omega) (by omega) (fun h142 => ?_) (fun h142 => ?_)
                · exfalso; omega
                · skip
                  refine xp_iload_n rfl rfl ?_
                  refine xp_iconst (n := 3) rfl (by decide) ?_
                  refine xp_icle 161 rfl (by decide) (by omega) (by omega) (fun h147 => ?_) (fun h147 => ?_)
                  · exfalso; omega
                  · skip
                    refine xp_aload_n rfl rfl ?_
                    refine xp_gfa rfl rfl (by decide) (by decide) (by first | assumption | exact hL.t rfl) (by first | assumption | exact hL.r rfl | exact hL.2.2.2.2.2) ?_
                    refine xp_iload_n rfl rfl ?_
                    refine xp_iald rfl (by first | assumption | exact hL.t rfl) (by omega) (by omega) ?_
                    rw [x199]
                    refine xp_ifeq 161 rfl (by decide) (by omega) (fun h156 => ?_) (fun h156 => ?_)
                    · skip
                      refine xp_iconst (n := 5) rfl (by decide) ?_
                      refine xp_iload_n rfl rfl ?_
                      refine xp_imul rfl ?_
                      refine xp_aload_n rfl rfl ?_
                      refine xp_gfa rfl rfl (by decide) (by decide) (by first | assumption | exact hL.t rfl) (by first | assumption | exact hL.r rfl | exact hL.2.2.2.2.2) ?_
                      refine xp_iload_n rfl rfl ?_
                      refine xp_iald rfl (by first | assumption | exact hL.t rfl) (by omega) (by omega) ?_
                      rw [x201]
                      refine xp_iadd rfl ?_
                      refine xp_iconst (n := 1) rfl (by decide) ?_
                      refine xp_isubR rfl ?_
                      rw [nI_subm2]
                      rw [show (5 * (k % 10) + B.1 201 (k % 10) + 4294967295) % 2 ^ 32 = 5 * (k % 10) + B.1 201 (k % 10) - 1 by omega]
                      refine xp_istore rfl (by decide) ?_
                      refine xp_iload_n rfl rfl ?_
                      refine xp_iconst (n := 1) rfl (by decide) ?_
                      refine xp_icne 189 rfl (by decide) (by omega) (by omega) (fun h177 => ?_) (fun h177 => ?_)
                      · skip
                        refine xp_iload_n rfl rfl ?_
                        refine xp_iconst (n := 2) rfl (by decide) ?_
                        refine xp_icne 216 rfl (by decide) (by omega) (by omega) (fun h191 => ?_) (fun h191 => ?_)
                        · skip
                          refine xp_iload_n rfl rfl ?_
                          refine xp_iconst (n := 3) rfl (by decide) ?_
                          refine xp_icne 230 rfl (by decide) (by omega) (by omega) (fun h218 => ?_) (fun h218 => ?_)
                          · skip
                            refine xp_iload_n rfl rfl ?_
                            refine xp_iconst (n := 4) rfl (by decide) ?_
                            refine xp_icne 245 rfl (by decide) (by omega) (by omega) (fun h232 => ?_) (fun h232 => ?_)
                            · skip
                              refine xp_iload_n rfl rfl ?_
                              refine xp_iconst (n := 5) rfl (by decide) ?_
                              refine xp_icne 260 rfl (by decide) (by omega) (by omega) (fun h247 => ?_) (fun h247 => ?_)
                              · skip
                                refine xp_aload_n rfl rfl ?_
                                refine xp_gfa rfl rfl (by decide) (by decide) (by first | assumption | exact hL.t rfl) (by first | assumption | exact hL.r rfl | exact hL.2.2.2.2.2) ?_
                                refine xp_iload rfl rfl ?_
                                refine xp_iald rfl (by first | assumption | exact hL.t rfl) (by omega) (by omega) ?_
                                try rw [x202]
                                refine xp_ireturn rfl (by decide) (by decide) (by decide) ?_
                                rfl
                              · exfalso; omega
                            · exfalso; omega
                          · exfalso; omega
                        · exfalso; omega
                      · exfalso; omega
                    · exfalso; omega
            · exfalso; omega
          · exfalso; omega
    · rw [if_neg hs]
      refine xF_eq (xF_p (Nat.le_of_ble_eq_true rfl) ?_)
      refine xp_iload_n rfl rfl ?_
      refine xp_bipush (n := 10) rfl (by decide) ?_
      refine xp_idiv rfl (by decide) ?_
      rw [ed]
      refine xp_istore_n rfl (by decide) ?_
      refine xp_iload_n rfl rfl ?_
      refine xp_bipush (n := 10) rfl (by decide) ?_
      refine xp_irem rfl (by decide) ?_
      rw [er]
      refine xp_istore_n rfl (by decide) ?_
      refine xp_iload_n rfl rfl ?_
      refine xp_iconst (n := 0) rfl (by decide) ?_
      refine xp_iconst (n := 5) rfl (by decide) ?_
      refine xp_is rfl rfl rfl (Nat.le_of_ble_eq_true rfl) (by decide) (by decide) (by decide) (Nat.le_of_ble_eq_true rfl) rfl (xrcv0 (by decide) _ _) (m112 (by omega) (by omega) (by omega)) rfl ?_
      rw [e1]
      refine xp_ifne 44 rfl (by decide) (by omega) (fun h16 => ?_) (fun h16 => ?_)
      · exfalso; omega
      · skip
        refine xp_iload_n rfl rfl ?_
        refine xp_iconst (n := 1) rfl (by decide) ?_
        refine xp_bipush (n := 6) rfl (by decide) ?_
        refine xp_is rfl rfl rfl (Nat.le_of_ble_eq_true rfl) (by decide) (by decide) (by decide) (Nat.le_of_ble_eq_true rfl) rfl (xrcv0 (by decide) _ _) (m112 (by omega) (by omega) (by omega)) rfl ?_
        rw [e2]
        refine xp_ifeq 38 rfl (by decide) (by omega) (fun h26 => ?_) (fun h26 => ?_)
        · exfalso; omega
        · skip
          refine xp_iload_n rfl rfl ?_
          refine xp_iconst (n := 0) rfl (by decide) ?_
          refine xp_iconst (n := 2) rfl (by decide) ?_
          refine xp_is rfl rfl rfl (Nat.le_of_ble_eq_true rfl) (by decide) (by decide) (by decide) (Nat.le_of_ble_eq_true rfl) rfl (xrcv0 (by decide) _ _) (m112 (by omega) (by omega) (by omega)) rfl ?_
          rw [e3]
          refine xp_ifne 44 rfl (by decide) (by omega) (fun h35 => ?_) (fun h35 => ?_)
          · skip
            refine xp_aload_n rfl rfl ?_
            refine xp_iconst (n := 0) rfl (by decide) ?_
            refine xp_pfi rfl rfl (by decide) (by decide) (by decide) (by first | assumption | exact hL.t rfl) ?_
            refine xp_iload_n rfl rfl ?_
            refine xp_bipush (n := 6) rfl (by decide) ?_
            refine xp_icge 130 rfl (by decide) (by omega) (by omega) (fun h52 => ?_) (fun h52 => ?_)
            · skip
              refine xp_aload_n rfl rfl ?_
              refine xp_gfi rfl rfl (by decide) (by decide) (by first | assumption | exact hL.t rfl) ?_
              rw [e16]
              refine xp_ifeq 159 rfl (by decide) (by omega) (fun h134 => ?_) (fun h134 => ?_)
              · exfalso; omega
              · skip
                refine xp_iload_n rfl rfl ?_
                refine xp_aload_n rfl rfl ?_
                refine xp_gfi rfl rfl (by decide) (by decide) (by first | assumption | exact hL.t rfl) ?_
                rw [e9]
                refine xp_icge 159 rfl (by decide) (by omega) (by omega) (fun h142 => ?_) (fun h142 => ?_)
                · exfalso; omega
                · skip
                  refine xp_iload_n rfl rfl ?_
                  refine xp_iconst (n := 3) rfl (by decide) ?_
                  refine xp_icle 161 rfl (by decide) (by omega) (by omega) (fun h147 => ?_) (fun h147 => ?_)
                  · exfalso; omega
                  · skip
                    refine xp_aload_n rfl rfl ?_
                    refine xp_gfa rfl rfl (by decide) (by decide) (by first | assumption | exact hL.t rfl) (by first | assumption | exact hL.r rfl | exact hL.2.2.2.2.2) ?_
                    refine xp_iload_n rfl rfl ?_
                    refine xp_iald rfl (by first | assumption | exact hL.t rfl) (by omega) (by omega) ?_
                    rw [x199]
                    refine xp_ifeq 161 rfl (by decide) (by omega) (fun h156 => ?_) (fun h156 => ?_)
                    · exfalso; omega
                    · skip
                      refine xp_iconst (n := 4294967295) rfl (by decide) ?_
                      refine xp_ireturn rfl (by decide) (by decide) (by decide) ?_
                      rfl
            · exfalso; omega
          · exfalso; omega
theorem m151a {z : Nat} {T : Nat → Option xT} {R : Nat → Nat → Option Nat} {B : xQ} {w k : Nat} (hL : xLay T R w) (hk0 : ¬ k ≤ 5) (hk : k < 2 ^ 31) (hq : ¬ (10 ≤ k ∧ k < 70 ∧ k % 10 < 3)) : xF 151 [.ref 189, .int (nI k)] (xm z T R B) (.inr (some (.int (nI 0))), xm z T R (xsI B 189 14 1)) := by
  have er := nI_rem (m := k) (n := 10) (by omega) (by omega) (by omega)
  have ed := nI_div (m := k) (n := 10) (by omega) (by omega) (by omega)
  have e1 : mIn k 0 5 = 0 := by rw [mIn_any (by omega) (by omega) (by omega), if_neg (by omega)]
  have e2 : mIn (k / 10) 1 6 = if 1 ≤ k / 10 ∧ k / 10 ≤ 6 then 1 else 0 := mIn_any (by omega) (by omega) (by omega)
  have e3 : mIn (k % 10) 0 2 = if 0 ≤ k % 10 ∧ k % 10 ≤ 2 then 1 else 0 := mIn_any (by omega) (by omega) (by omega)
  have l2 := mIn_le (k / 10) 1 6
  have l3 := mIn_le (k % 10) 0 2
  refine xF_eq (xF_p (Nat.le_of_ble_eq_true rfl) ?_)
  refine xp_iload_n rfl rfl ?_
  refine xp_bipush (n := 10) rfl (by decide) ?_
  refine xp_idiv rfl (by decide) ?_
  rw [ed]
  refine xp_istore_n rfl (by decide) ?_
  refine xp_iload_n rfl rfl ?_
  refine xp_bipush (n := 10) rfl (by decide) ?_
  refine xp_irem rfl (by decide) ?_
  rw [er]
  refine xp_istore_n rfl (by decide) ?_
  refine xp_iload_n rfl rfl ?_
  refine xp_iconst (n := 0) rfl (by decide) ?_
  refine xp_iconst (n := 5) rfl (by decide) ?_
  refine xp_is rfl rfl rfl (Nat.le_of_ble_eq_true rfl) (by decide) (by decide) (by decide) (Nat.le_of_ble_eq_true rfl) rfl (xrcv0 (by decide) _ _) (m112 (by omega) (by omega) (by omega)) rfl ?_
  rw [e1]
  refine xp_ifne 44 rfl (by decide) (by omega) (fun h16 => ?_) (fun h16 => ?_)
  · exfalso; omega
  · skip
    refine xp_iload_n rfl rfl ?_
    refine xp_iconst (n := 1) rfl (by decide) ?_
    refine xp_bipush (n := 6) rfl (by decide) ?_
    refine xp_is rfl rfl rfl (Nat.le_of_ble_eq_true rfl) (by decide) (by decide) (by decide) (Nat.le_of_ble_eq_true rfl) rfl (xrcv0 (by decide) _ _) (m112 (by omega) (by omega) (by omega)) rfl ?_
    refine xp_ifeq 38 rfl (by decide) (by omega) (fun h26 => ?_) (fun h26 => ?_)
    · skip
      refine xp_aload_n rfl rfl ?_
      refine xp_iconst (n := 1) rfl (by decide) ?_
      refine xp_iv rfl rfl (Nat.le_of_ble_eq_true rfl) (by decide) (by decide) (by decide) (Nat.le_of_ble_eq_true rfl) rfl (xrcv1 (by decide) (by first | assumption | exact hL.t rfl)) (m113 hL) rfl ?_
      refine xp_ireturn rfl (by decide) (by decide) (by decide) ?_
      rfl
    · skip
      refine xp_iload_n rfl rfl ?_
      refine xp_iconst (n := 0) rfl (by decide) ?_
      refine xp_iconst (n := 2) rfl (by decide) ?_
      refine xp_is rfl rfl rfl (Nat.le_of_ble_eq_true rfl) (by decide) (by decide) (by decide) (Nat.le_of_ble_eq_true rfl) rfl (xrcv0 (by decide) _ _) (m112 (by omega) (by omega) (by omega)) rfl ?_
      refine xp_ifne 44 rfl (by decide) (by omega) (fun h35 => ?_) (fun h35 => ?_)
      · exfalso; rw [e2] at h26; rw [e3] at h35; split at h26 <;> split at h35 <;> omega
      · skip
        refine xp_aload_n rfl rfl ?_
        refine xp_iconst (n := 1) rfl (by decide) ?_
        refine xp_iv rfl rfl (Nat.le_of_ble_eq_true rfl) (by decide) (by decide) (by decide) (Nat.le_of_ble_eq_true rfl) rfl (xrcv1 (by decide) (by first | assumption | exact hL.t rfl)) (m113 hL) rfl ?_
        refine xp_ireturn rfl (by decide) (by decide) (by decide) ?_
        rfl
theorem m151n {z : Nat} {T : Nat → Option xT} {R : Nat → Nat → Option Nat} {B : xQ} {w k : Nat} (hL : xLay T R w) (hk : 2 ^ 31 ≤ k) (hk2 : k < 2 ^ 32) : xF 151 [.ref 189, .int (nI k)] (xm z T R B) (.inr (some (.int (nI 0))), xm z T R (xsI B 189 14 1)) := by
  have e1 : mIn k 0 5 = 0 := by rw [mIn_any (by omega) (by omega) (by omega), if_neg (by omega)]
  obtain ⟨g, hg, ed, e2⟩ := nI_divn hk hk2
  obtain ⟨r, hr, er⟩ := nI_ex (nI k - nI k / nI 10 * nI 10)
  refine xF_eq (xF_p (Nat.le_of_ble_eq_true rfl) ?_)
  refine xp_iload_n rfl rfl ?_
  refine xp_bipush (n := 10) rfl (by decide) ?_
  refine xp_idiv rfl (by decide) ?_
  rw [ed]
  refine xp_istore_n rfl (by decide) ?_
  refine xp_iload_n rfl rfl ?_
  refine xp_bipush (n := 10) rfl (by decide) ?_
  refine xp_irem rfl (by decide) ?_
  rw [er]
  refine xp_istore_n rfl (by decide) ?_
  refine xp_iload_n rfl rfl ?_
  refine xp_iconst (n := 0) rfl (by decide) ?_
  refine xp_iconst (n := 5) rfl (by decide) ?_
  refine xp_is rfl rfl rfl (Nat.le_of_ble_eq_true rfl) (by decide) (by decide) (by decide) (Nat.le_of_ble_eq_true rfl) rfl (xrcv0 (by decide) _ _) (m112 (by omega) (by omega) (by omega)) rfl ?_
  rw [e1]
  refine xp_ifne 44 rfl (by decide) (by omega) (fun h16 => ?_) (fun h16 => ?_)
  · exfalso; omega
  · skip
    refine xp_iload_n rfl rfl ?_
    refine xp_iconst (n := 1) rfl (by decide) ?_
    refine xp_bipush (n := 6) rfl (by decide) ?_
    refine xp_is rfl rfl rfl (Nat.le_of_ble_eq_true rfl) (by decide) (by decide) (by decide) (Nat.le_of_ble_eq_true rfl) rfl (xrcv0 (by decide) _ _) (m112 (by omega) (by omega) (by omega)) rfl ?_
    rw [e2]
    refine xp_ifeq 38 rfl (by decide) (by omega) (fun h26 => ?_) (fun h26 => ?_)
    · skip
      refine xp_aload_n rfl rfl ?_
      refine xp_iconst (n := 1) rfl (by decide) ?_
      refine xp_iv rfl rfl (Nat.le_of_ble_eq_true rfl) (by decide) (by decide) (by decide) (Nat.le_of_ble_eq_true rfl) rfl (xrcv1 (by decide) (by first | assumption | exact hL.t rfl)) (m113 hL) rfl ?_
      refine xp_ireturn rfl (by decide) (by decide) (by decide) ?_
      rfl
    · exfalso; omega
theorem pub_told (k : Nat) (hk : k < 2 ^ 32) : Pub 8 151 (mpO [(0, 1)]) [.int (nI k)] := by
  refine Pub.mk rfl rfl gC1 gM1 (fun z T R w n A hn hI => ?_)
  obtain ⟨hL, hr, hc, hT, hR, h3, h4⟩ := hI
  have hc3 := hc.cnt
  by_cases h5 : k ≤ 5
  · refine Or.inr ⟨_, A, ⟨_, Or.inl rfl⟩, c8 hL h5, hc, hT, by omega, by omega, fun B hB => ?_⟩
    obtain ⟨q1, q2, q3, q4, q5, q6, q7, q8, q9⟩ := hB.2.2.1
    have m := m151 (z := z) (B := B) hL h5 (by rw [q7]; split <;> omega)
    have e : mTo0 B k = aTo0 w A k := by
      have hk6 : k = 0 ∨ k = 1 ∨ k = 2 ∨ k = 3 ∨ k = 4 ∨ k = 5 := by omega
      unfold mTo0
      rw [q7]
      by_cases h0 : A.1 w 2 = 0
      · obtain ⟨p1, p2, p3, p4, p5⟩ := q8 h0
        rw [if_pos h0, if_pos rfl]
        rcases hk6 with rfl | rfl | rfl | rfl | rfl | rfl
        · exact h0.symm
        · exact p1.symm
        · exact p2.symm
        · exact p3.symm
        · exact p4.symm
        · exact p5.symm
      · rw [if_neg h0, if_neg (by omega)]
        rcases hk6 with rfl | rfl | rfl | rfl | rfl | rfl
        · exact q1
        · exact q2
        · exact q3
        · exact q4
        · exact q5
        · exact q6
    rw [e] at m
    exact ⟨_, m, by rw [xsI_eq], hB.thr hc⟩
  · by_cases hn1 : k < 2 ^ 31
    · by_cases hq : 10 ≤ k ∧ k < 70 ∧ k % 10 < 3
      · obtain ⟨u1, u2, u3⟩ := hq
        by_cases ht : k % 10 < A.1 w 2
        · have hS := hc.st ht
          refine Or.inr ⟨_, A, ⟨_, Or.inl rfl⟩, c8s hL u1 u2 u3 hc3 ht hS.2.2.1 hS.2.1 hS.1, hc, hT, by omega, by omega, fun B hB => ?_⟩
          obtain ⟨q1, q2, q3, q4, q5, q6, q7, q8, q9⟩ := hB.2.2.1
          obtain ⟨s1, s2, s3, s4, s5⟩ := hB.2.2.2.1 _ ht
          rw [if_neg (by omega)] at q7
          have m := m151s (z := z) (B := B) (k := k) hL u1 u2 u3 (by omega) (by omega) q7 (by omega) (by rw [s1, s3]; exact hS.2.2.1) (by rw [s3]; exact hS.2.1) (by rw [s1]; exact hS.1)
          have e : mTo1 B (k % 10) (k / 10) = aTo1 A (w + 11 + 25 * (k % 10)) (k / 10) := by
            have hF : A.1 (w + 11 + 25 * (k % 10)) 2 = 0 → RelF (w + 11 + 25 * (k % 10) + 5 + 4 * (A.1 (w + 11 + 25 * (k % 10)) 3 - 1)) (5 * (k % 10) + A.1 (w + 11 + 25 * (k % 10)) 3 - 1) A B := fun q => by
              have q1 := hS.2.2.1 q
              have := s5 (A.1 (w + 11 + 25 * (k % 10)) 3 - 1) (by omega)
              rw [show 5 * (k % 10) + A.1 (w + 11 + 25 * (k % 10)) 3 - 1 = 5 * (k % 10) + (A.1 (w + 11 + 25 * (k % 10)) 3 - 1) by omega]
              exact this
            have hg : k / 10 = 1 ∨ k / 10 = 2 ∨ k / 10 = 3 ∨ k / 10 = 4 ∨ k / 10 = 5 ∨ k / 10 = 6 := by omega
            rcases hg with hg | hg | hg | hg | hg | hg <;> rw [hg]
            · exact s1
            · show (if B.1 199 (k % 10) = 0 then B.1 201 (k % 10) else 0) = A.1 _ 3
              rw [s1, s3]
              split
              · rfl
              · rename_i q; exact (hS.2.2.2.1 q).symm
            · exact s2.1
            · show (if B.1 199 (k % 10) = 0 then B.1 205 (5 * (k % 10) + B.1 201 (k % 10) - 1) else 4294967295) = (if A.1 _ 2 = 0 then _ else 4294967295)
              rw [s1, s3]
              split
              · rename_i q; exact (hF q).2.2.1
              · rfl
            · show (if B.1 199 (k % 10) = 0 then B.1 203 (5 * (k % 10) + B.1 201 (k % 10) - 1) else 4294967295) = (if A.1 _ 2 = 0 then _ else 4294967295)
              rw [s1, s3]
              split
              · rename_i q; exact (hF q).2.1
              · rfl
            · show (if B.1 199 (k % 10) = 0 then B.1 202 (5 * (k % 10) + B.1 201 (k % 10) - 1) else 4294967295) = (if A.1 _ 2 = 0 then _ else 4294967295)
              rw [s1, s3]
              split
              · rename_i q; exact (hF q).1
              · rfl
          rw [e] at m
          exact ⟨_, m, by rw [xsI_eq], hB.thr hc⟩
        · refine Or.inr ⟨_, A, ⟨_, Or.inl rfl⟩, c8m hL u1 u2 u3 hc3 ht, hc, hT, by omega, by omega, fun B hB => ?_⟩
          obtain ⟨q1, q2, q3, q4, q5, q6, q7, q8, q9⟩ := hB.2.2.1
          exact ⟨_, m151m (z := z) (B := B) (k := k) hL u1 u2 u3 (by omega) (by rw [q7]; split <;> omega) (Or.inr (by omega)), by rw [xsI_eq], hB.thr hc⟩
      · exact Or.inl ⟨0, by decide, c8a hL h5 hn1 hq, fun B hB => ⟨_, _, m151a hL h5 hn1 hq, by rw [xsI_eq]; rfl, hB.thr hc⟩⟩
    · exact Or.inl ⟨0, by decide, c8n hL (by omega) hk, fun B hB => ⟨_, _, m151n hL (by omega) hk, by rw [xsI_eq]; rfl, hB.thr hc⟩⟩
