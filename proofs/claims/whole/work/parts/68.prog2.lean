-- handle, add
def aHdl (A : xQ) (f fr to at_ : Nat) : xQ := xsI (xsI (xsI (xsI A 8 (f * 3 + A.1 7 f) fr) 9 (f * 3 + A.1 7 f) to) 10 (f * 3 + A.1 7 f) at_) 7 f (A.1 7 f + 1)
theorem c73 {z : Nat} {T : Nat → Option xT} {R : Nat → Nat → Option Nat} {A : xQ} {w f fr to at_ : Nat} (hL : xLay T R w) (hf : f < 6) (h7 : A.1 7 f < 3) : xF 73 [.ref 1, .int (nI f), .int (nI fr), .int (nI to), .int (nI at_)] (xm z T R A) (.inr (none), xm z T R (aHdl A f fr to at_)) := by
  have e7 : (xsI (xsI (xsI A 8 (f * 3 + A.1 7 f) fr) 9 (f * 3 + A.1 7 f) to) 10 (f * 3 + A.1 7 f) at_).1 7 f = A.1 7 f := by rw [xsI_ne (by omega), xsI_ne (by omega), xsI_ne (by omega)]
  refine xF_eq (xF_p (Nat.le_of_ble_eq_true rfl) ?_)
  refine xp_iload_n rfl rfl ?_
  refine xp_iconst (n := 3) rfl (by decide) ?_
  refine xp_imul rfl ?_
  refine xp_aload_n rfl rfl ?_
  refine xp_gfa rfl rfl (by decide) (by decide) (by first | assumption | exact hL.t rfl) (by first | assumption | exact hL.r rfl | exact hL.2.2.2.2.2) ?_
  refine xp_iload_n rfl rfl ?_
  refine xp_iald rfl (by first | assumption | exact hL.t rfl) (by omega) (by omega) ?_
  refine xp_iadd rfl ?_
  refine xp_istore rfl (by decide) ?_
  refine xp_aload_n rfl rfl ?_
  refine xp_gfa rfl rfl (by decide) (by decide) (by first | assumption | exact hL.t rfl) (by first | assumption | exact hL.r rfl | exact hL.2.2.2.2.2) ?_
  refine xp_iload rfl rfl ?_
  refine xp_iload_n rfl rfl ?_
  refine xp_iast rfl (by first | assumption | exact hL.t rfl) (by omega) (by omega) ?_
  refine xp_aload_n rfl rfl ?_
  refine xp_gfa rfl rfl (by decide) (by decide) (by first | assumption | exact hL.t rfl) (by first | assumption | exact hL.r rfl | exact hL.2.2.2.2.2) ?_
  refine xp_iload rfl rfl ?_
  refine xp_iload_n rfl rfl ?_
  refine xp_iast rfl (by first | assumption | exact hL.t rfl) (by omega) (by omega) ?_
  refine xp_aload_n rfl rfl ?_
  refine xp_gfa rfl rfl (by decide) (by decide) (by first | assumption | exact hL.t rfl) (by first | assumption | exact hL.r rfl | exact hL.2.2.2.2.2) ?_
  refine xp_iload rfl rfl ?_
  refine xp_iload rfl rfl ?_
  refine xp_iast rfl (by first | assumption | exact hL.t rfl) (by omega) (by omega) ?_
  refine xp_aload_n rfl rfl ?_
  refine xp_gfa rfl rfl (by decide) (by decide) (by first | assumption | exact hL.t rfl) (by first | assumption | exact hL.r rfl | exact hL.2.2.2.2.2) ?_
  refine xp_iload_n rfl rfl ?_
  refine xp_dup2 rfl rfl rfl ?_
  refine xp_iald rfl (by first | assumption | exact hL.t rfl) (by omega) (by omega) ?_
  rw [e7]
  refine xp_iconst (n := 1) rfl (by decide) ?_
  refine xp_iadd rfl ?_
  refine xp_iast rfl (by first | assumption | exact hL.t rfl) (by omega) (by omega) ?_
  refine xp_return rfl (by decide) (by decide) (by decide) ?_
  rfl
theorem c3 {z : Nat} {T : Nat → Option xT} {R : Nat → Nat → Option Nat} {A : xQ} {w f fr to at_ : Nat} (hL : xLay T R w) (hf : f < 6) (hfr : fr < 30) (hat : at_ < 30) (hto : fr < to) (hto2 : to ≤ 30) (h7 : A.1 7 f < 3) : xF 3 [.ref 0, .int (nI f), .int (nI fr), .int (nI to), .int (nI at_)] (xm z T R A) (.inr (some (.int (nI (A.1 7 f + 1)))), xm z T R (aHdl A f fr to at_)) := by
  have i6 : (if f < 6 then 1 else 0) = 1 := if_pos hf
  have j1 : (if fr < 30 then 1 else 0) = 1 := if_pos hfr
  have j2 : (if at_ < 30 then 1 else 0) = 1 := if_pos hat
  have s1 := sg_p (n := to) (by omega)
  have s2 := sg_p (n := fr) (by omega)
  have e7 : (aHdl A f fr to at_).1 7 f = A.1 7 f + 1 := xsI_eq
  refine xF_eq (xF_p (Nat.le_of_ble_eq_true rfl) ?_)
  refine xp_iload_n rfl rfl ?_
  refine xp_is rfl rfl rfl (Nat.le_of_ble_eq_true rfl) (by decide) (by decide) (by decide) (Nat.le_of_ble_eq_true rfl) rfl (xrcv0 (by decide) _ _) (c15 (by omega)) rfl ?_
  rw [i6]
  refine xp_ifeq 33 rfl (by decide) (by omega) (fun h4 => ?_) (fun h4 => ?_)
  · exfalso; omega
  · skip
    refine xp_iload_n rfl rfl ?_
    refine xp_is rfl rfl rfl (Nat.le_of_ble_eq_true rfl) (by decide) (by decide) (by decide) (Nat.le_of_ble_eq_true rfl) rfl (xrcv0 (by decide) _ _) (c16 (by omega)) rfl ?_
    rw [j1]
    refine xp_ifeq 33 rfl (by decide) (by omega) (fun h11 => ?_) (fun h11 => ?_)
    · exfalso; omega
    · skip
      refine xp_iload rfl rfl ?_
      refine xp_is rfl rfl rfl (Nat.le_of_ble_eq_true rfl) (by decide) (by decide) (by decide) (Nat.le_of_ble_eq_true rfl) rfl (xrcv0 (by decide) _ _) (c16 (by omega)) rfl ?_
      rw [j2]
      refine xp_ifeq 33 rfl (by decide) (by omega) (fun h19 => ?_) (fun h19 => ?_)
      · exfalso; omega
      · skip
        refine xp_iload_n rfl rfl ?_
        refine xp_iload_n rfl rfl ?_
        refine xp_icleS 33 rfl (by decide) (by omega) (by omega) (fun h24 => ?_) (fun h24 => ?_)
        · exfalso; omega
        · skip
          refine xp_iload_n rfl rfl ?_
          refine xp_bipush (n := 30) rfl (by decide) ?_
          refine xp_icle 41 rfl (by decide) (by omega) (by omega) (fun h30 => ?_) (fun h30 => ?_)
          · skip
            refine xp_aload_n rfl rfl ?_
            refine xp_gfa rfl rfl (by decide) (by decide) (by first | assumption | exact hL.t rfl) (by first | assumption | exact hL.r rfl | exact hL.2.2.2.2.2) ?_
            refine xp_gfa rfl rfl (by decide) (by decide) (by first | assumption | exact hL.t rfl) (by first | assumption | exact hL.r rfl | exact hL.2.2.2.2.2) ?_
            refine xp_iload_n rfl rfl ?_
            refine xp_iald rfl (by first | assumption | exact hL.t rfl) (by omega) (by omega) ?_
            refine xp_iconst (n := 3) rfl (by decide) ?_
            refine xp_icne 62 rfl (by decide) (by omega) (by omega) (fun h51 => ?_) (fun h51 => ?_)
            · skip
              refine xp_aload_n rfl rfl ?_
              refine xp_gfa rfl rfl (by decide) (by decide) (by first | assumption | exact hL.t rfl) (by first | assumption | exact hL.r rfl | exact hL.2.2.2.2.2) ?_
              refine xp_iload_n rfl rfl ?_
              refine xp_iload_n rfl rfl ?_
              refine xp_iload_n rfl rfl ?_
              refine xp_iload rfl rfl ?_
              refine xp_iv rfl rfl (Nat.le_of_ble_eq_true rfl) (by decide) (by decide) (by decide) (Nat.le_of_ble_eq_true rfl) rfl (xrcv1 (by decide) (by first | assumption | exact hL.t rfl)) (c73 hL hf h7) rfl ?_
              refine xp_aload_n rfl rfl ?_
              refine xp_gfa rfl rfl (by decide) (by decide) (by first | assumption | exact hL.t rfl) (by first | assumption | exact hL.r rfl | exact hL.2.2.2.2.2) ?_
              refine xp_gfa rfl rfl (by decide) (by decide) (by first | assumption | exact hL.t rfl) (by first | assumption | exact hL.r rfl | exact hL.2.2.2.2.2) ?_
              refine xp_iload_n rfl rfl ?_
              refine xp_iald rfl (by first | assumption | exact hL.t rfl) (by omega) (by omega) ?_
              rw [e7]
              refine xp_ireturn rfl (by decide) (by decide) (by decide) ?_
              rfl
            · exfalso; omega
          · exfalso; omega
theorem c3b {z : Nat} {T : Nat → Option xT} {R : Nat → Nat → Option Nat} {A : xQ} {w f fr to at_ : Nat} (hL : xLay T R w) (hf : f < 6) (hfr : fr < 30) (hat : at_ < 30) (hto : fr < to) (hto2 : to ≤ 30) (h7 : A.1 7 f = 3) : xF 3 [.ref 0, .int (nI f), .int (nI fr), .int (nI to), .int (nI at_)] (xm z T R A) (.inl 1, xm (z + 1) T R A) := by
  have i6 : (if f < 6 then 1 else 0) = 1 := if_pos hf
  have j1 : (if fr < 30 then 1 else 0) = 1 := if_pos hfr
  have j2 : (if at_ < 30 then 1 else 0) = 1 := if_pos hat
  have s1 := sg_p (n := to) (by omega)
  have s2 := sg_p (n := fr) (by omega)
  refine xF_eq (xF_p (Nat.le_of_ble_eq_true rfl) ?_)
  refine xp_iload_n rfl rfl ?_
  refine xp_is rfl rfl rfl (Nat.le_of_ble_eq_true rfl) (by decide) (by decide) (by decide) (Nat.le_of_ble_eq_true rfl) rfl (xrcv0 (by decide) _ _) (c15 (by omega)) rfl ?_
  rw [i6]
  refine xp_ifeq 33 rfl (by decide) (by omega) (fun h4 => ?_) (fun h4 => ?_)
  · exfalso; omega
  · skip
    refine xp_iload_n rfl rfl ?_
    refine xp_is rfl rfl rfl (Nat.le_of_ble_eq_true rfl) (by decide) (by decide) (by decide) (Nat.le_of_ble_eq_true rfl) rfl (xrcv0 (by decide) _ _) (c16 (by omega)) rfl ?_
    rw [j1]
    refine xp_ifeq 33 rfl (by decide) (by omega) (fun h11 => ?_) (fun h11 => ?_)
    · exfalso; omega
    · skip
      refine xp_iload rfl rfl ?_
      refine xp_is rfl rfl rfl (Nat.le_of_ble_eq_true rfl) (by decide) (by decide) (by decide) (Nat.le_of_ble_eq_true rfl) rfl (xrcv0 (by decide) _ _) (c16 (by omega)) rfl ?_
      rw [j2]
      refine xp_ifeq 33 rfl (by decide) (by omega) (fun h19 => ?_) (fun h19 => ?_)
      · exfalso; omega
      · skip
        refine xp_iload_n rfl rfl ?_
        refine xp_iload_n rfl rfl ?_
        refine xp_icleS 33 rfl (by decide) (by omega) (by omega) (fun h24 => ?_) (fun h24 => ?_)
        · exfalso; omega
        · skip
          refine xp_iload_n rfl rfl ?_
          refine xp_bipush (n := 30) rfl (by decide) ?_
          refine xp_icle 41 rfl (by decide) (by omega) (by omega) (fun h30 => ?_) (fun h30 => ?_)
          · skip
            refine xp_aload_n rfl rfl ?_
            refine xp_gfa rfl rfl (by decide) (by decide) (by first | assumption | exact hL.t rfl) (by first | assumption | exact hL.r rfl | exact hL.2.2.2.2.2) ?_
            refine xp_gfa rfl rfl (by decide) (by decide) (by first | assumption | exact hL.t rfl) (by first | assumption | exact hL.r rfl | exact hL.2.2.2.2.2) ?_
            refine xp_iload_n rfl rfl ?_
            refine xp_iald rfl (by first | assumption | exact hL.t rfl) (by omega) (by omega) ?_
            refine xp_iconst (n := 3) rfl (by decide) ?_
            refine xp_icne 62 rfl (by decide) (by omega) (by omega) (fun h51 => ?_) (fun h51 => ?_)
            · exfalso; omega
            · skip
              refine xp_throw rfl rfl (Nat.le_of_ble_eq_true rfl) (by decide) (by decide) (by decide) ?_
              rfl
          · exfalso; omega
theorem c3a {z : Nat} {T : Nat → Option xT} {R : Nat → Nat → Option Nat} {A : xQ} {w f fr to at_ : Nat} (hL : xLay T R w) (hf : f < 2 ^ 32) (hfr : fr < 2 ^ 32) (hto : to < 2 ^ 32) (hat : at_ < 2 ^ 32) (hq : ¬ (f < 6 ∧ fr < 30 ∧ at_ < 30 ∧ fr < to ∧ to ≤ 30)) : xF 3 [.ref 0, .int (nI f), .int (nI fr), .int (nI to), .int (nI at_)] (xm z T R A) (.inl 0, xm (z + 1) T R A) := by
  have sg1 : ∀ k, k < 2 ^ 31 → sg k = k := fun k h => sg_p h
  have sg2 : ∀ k, 2 ^ 31 ≤ k → sg k = (k : Int) - 2 ^ 32 := fun k h => sg_n h
  refine xF_eq (xF_p (Nat.le_of_ble_eq_true rfl) ?_)
  refine xp_iload_n rfl rfl ?_
  refine xp_is rfl rfl rfl (Nat.le_of_ble_eq_true rfl) (by decide) (by decide) (by decide) (Nat.le_of_ble_eq_true rfl) rfl (xrcv0 (by decide) _ _) (c15 hf) rfl ?_
  refine xp_ifeq 33 rfl (by decide) (by split <;> omega) (fun h4 => ?_) (fun h4 => ?_)
  · skip
    have q4 : ¬ f < 6 := fun z => by rw [if_pos z] at h4; omega
    refine xp_throw rfl rfl (Nat.le_of_ble_eq_true rfl) (by decide) (by decide) (by decide) ?_
    rfl
  · skip
    have q4 : f < 6 := by
      by_cases q : f < 6
      · exact q
      · rw [if_neg q] at h4; omega
    refine xp_iload_n rfl rfl ?_
    refine xp_is rfl rfl rfl (Nat.le_of_ble_eq_true rfl) (by decide) (by decide) (by decide) (Nat.le_of_ble_eq_true rfl) rfl (xrcv0 (by decide) _ _) (c16 hfr) rfl ?_
    refine xp_ifeq 33 rfl (by decide) (by split <;> omega) (fun h11 => ?_) (fun h11 => ?_)
    · skip
      have q11 : ¬ fr < 30 := fun z => by rw [if_pos z] at h11; omega
      refine xp_throw rfl rfl (Nat.le_of_ble_eq_true rfl) (by decide) (by decide) (by decide) ?_
      rfl
    · skip
      have q11 : fr < 30 := by
        by_cases q : fr < 30
        · exact q
        · rw [if_neg q] at h11; omega
      refine xp_iload rfl rfl ?_
      refine xp_is rfl rfl rfl (Nat.le_of_ble_eq_true rfl) (by decide) (by decide) (by decide) (Nat.le_of_ble_eq_true rfl) rfl (xrcv0 (by decide) _ _) (c16 hat) rfl ?_
      refine xp_ifeq 33 rfl (by decide) (by split <;> omega) (fun h19 => ?_) (fun h19 => ?_)
      · skip
        have q19 : ¬ at_ < 30 := fun z => by rw [if_pos z] at h19; omega
        refine xp_throw rfl rfl (Nat.le_of_ble_eq_true rfl) (by decide) (by decide) (by decide) ?_
        rfl
      · skip
        have q19 : at_ < 30 := by
          by_cases q : at_ < 30
          · exact q
          · rw [if_neg q] at h19; omega
        refine xp_iload_n rfl rfl ?_
        refine xp_iload_n rfl rfl ?_
        refine xp_icleS 33 rfl (by decide) (by omega) (by omega) (fun h24 => ?_) (fun h24 => ?_)
        · skip
          refine xp_throw rfl rfl (Nat.le_of_ble_eq_true rfl) (by decide) (by decide) (by decide) ?_
          rfl
        · skip
          have t31 : to < 2 ^ 31 := by
            by_cases q : to < 2 ^ 31
            · exact q
            · rw [sg1 fr (by omega), sg2 to (by omega)] at h24; omega
          rw [sg1 fr (by omega), sg1 to t31] at h24
          refine xp_iload_n rfl rfl ?_
          refine xp_bipush (n := 30) rfl (by decide) ?_
          refine xp_icle 41 rfl (by decide) (by omega) (by omega) (fun h30 => ?_) (fun h30 => ?_)
          · exfalso; omega
          · skip
            refine xp_throw rfl rfl (Nat.le_of_ble_eq_true rfl) (by decide) (by decide) (by decide) ?_
            rfl
def mHdl (B : xQ) (f fr to at_ : Nat) : xQ := xsI (xsI (xsI (xsI (xsI B 189 14 0) 196 (3 * f + B.1 192 f) fr) 197 (3 * f + B.1 192 f) to) 198 (3 * f + B.1 192 f) at_) 192 f (B.1 192 f + 1)
theorem m118 {z : Nat} {T : Nat → Option xT} {R : Nat → Nat → Option Nat} {B : xQ} {w f fr to at_ : Nat} (hL : xLay T R w) (hf : f < 6) (hfr : fr < 30) (hat : at_ < 30) (hto : fr < to) (hto2 : to ≤ 30) (h7 : B.1 192 f < 3) : xF 118 [.ref 189, .int (nI f), .int (nI fr), .int (nI to), .int (nI at_)] (xm z T R B) (.inr (some (.int (nI (B.1 192 f + 1)))), xm z T R (mHdl B f fr to at_)) := by
  have e1 : mIn f 0 5 = 1 := by rw [mIn_any (by omega) (by omega) (by omega), if_pos (by omega)]
  have e2 : mIn fr 0 29 = 1 := by rw [mIn_any (by omega) (by omega) (by omega), if_pos (by omega)]
  have e3 : mIn at_ 0 29 = 1 := by rw [mIn_any (by omega) (by omega) (by omega), if_pos (by omega)]
  have e4 : mIn to (fr + 1) 30 = 1 := by rw [mIn_any (by omega) (by omega) (by omega), if_pos (by omega)]
  have x1 : (xsI B 189 14 0).1 192 f = B.1 192 f := xsI_ne (by omega)
  have x2 : (xsI (xsI (xsI (xsI B 189 14 0) 196 (3 * f + B.1 192 f) fr) 197 (3 * f + B.1 192 f) to) 198 (3 * f + B.1 192 f) at_).1 192 f = B.1 192 f := by rw [xsI_ne (by omega), xsI_ne (by omega), xsI_ne (by omega), xsI_ne (by omega)]
  have x3 : (mHdl B f fr to at_).1 192 f = B.1 192 f + 1 := xsI_eq
  refine xF_eq (xF_p (Nat.le_of_ble_eq_true rfl) ?_)
  refine xp_iload_n rfl rfl ?_
  refine xp_iconst (n := 0) rfl (by decide) ?_
  refine xp_iconst (n := 5) rfl (by decide) ?_
  refine xp_is rfl rfl rfl (Nat.le_of_ble_eq_true rfl) (by decide) (by decide) (by decide) (Nat.le_of_ble_eq_true rfl) rfl (xrcv0 (by decide) _ _) (m112 (by omega) (by omega) (by omega)) rfl ?_
  rw [e1]
  refine xp_ifeq 42 rfl (by decide) (by omega) (fun h6 => ?_) (fun h6 => ?_)
  · exfalso; omega
  · skip
    refine xp_iload_n rfl rfl ?_
    refine xp_iconst (n := 0) rfl (by decide) ?_
    refine xp_bipush (n := 29) rfl (by decide) ?_
    refine xp_is rfl rfl rfl (Nat.le_of_ble_eq_true rfl) (by decide) (by decide) (by decide) (Nat.le_of_ble_eq_true rfl) rfl (xrcv0 (by decide) _ _) (m112 (by omega) (by omega) (by omega)) rfl ?_
    rw [e2]
    refine xp_ifeq 42 rfl (by decide) (by omega) (fun h16 => ?_) (fun h16 => ?_)
    · exfalso; omega
    · skip
      refine xp_iload rfl rfl ?_
      refine xp_iconst (n := 0) rfl (by decide) ?_
      refine xp_bipush (n := 29) rfl (by decide) ?_
      refine xp_is rfl rfl rfl (Nat.le_of_ble_eq_true rfl) (by decide) (by decide) (by decide) (Nat.le_of_ble_eq_true rfl) rfl (xrcv0 (by decide) _ _) (m112 (by omega) (by omega) (by omega)) rfl ?_
      rw [e3]
      refine xp_ifeq 42 rfl (by decide) (by omega) (fun h27 => ?_) (fun h27 => ?_)
      · exfalso; omega
      · skip
        refine xp_iload_n rfl rfl ?_
        refine xp_iload_n rfl rfl ?_
        refine xp_iconst (n := 1) rfl (by decide) ?_
        refine xp_iadd rfl ?_
        refine xp_bipush (n := 30) rfl (by decide) ?_
        refine xp_is rfl rfl rfl (Nat.le_of_ble_eq_true rfl) (by decide) (by decide) (by decide) (Nat.le_of_ble_eq_true rfl) rfl (xrcv0 (by decide) _ _) (m112 (by omega) (by omega) (by omega)) rfl ?_
        rw [e4]
        refine xp_ifne 48 rfl (by decide) (by omega) (fun h39 => ?_) (fun h39 => ?_)
        · skip
          refine xp_aload_n rfl rfl ?_
          refine xp_gfa rfl rfl (by decide) (by decide) (by first | assumption | exact hL.t rfl) (by first | assumption | exact hL.r rfl | exact hL.2.2.2.2.2) ?_
          refine xp_iload_n rfl rfl ?_
          refine xp_iald rfl (by first | assumption | exact hL.t rfl) (by omega) (by omega) ?_
          refine xp_iconst (n := 3) rfl (by decide) ?_
          refine xp_icne 64 rfl (by decide) (by omega) (by omega) (fun h55 => ?_) (fun h55 => ?_)
          · skip
            refine xp_aload_n rfl rfl ?_
            refine xp_iconst (n := 0) rfl (by decide) ?_
            refine xp_pfi rfl rfl (by decide) (by decide) (by decide) (by first | assumption | exact hL.t rfl) ?_
            refine xp_iconst (n := 3) rfl (by decide) ?_
            refine xp_iload_n rfl rfl ?_
            refine xp_imul rfl ?_
            refine xp_aload_n rfl rfl ?_
            refine xp_gfa rfl rfl (by decide) (by decide) (by first | assumption | exact hL.t rfl) (by first | assumption | exact hL.r rfl | exact hL.2.2.2.2.2) ?_
            refine xp_iload_n rfl rfl ?_
            refine xp_iald rfl (by first | assumption | exact hL.t rfl) (by omega) (by omega) ?_
            rw [x1]
            refine xp_iadd rfl ?_
            refine xp_istore rfl (by decide) ?_
            refine xp_aload_n rfl rfl ?_
            refine xp_gfa rfl rfl (by decide) (by decide) (by first | assumption | exact hL.t rfl) (by first | assumption | exact hL.r rfl | exact hL.2.2.2.2.2) ?_
            refine xp_iload rfl rfl ?_
            refine xp_iload_n rfl rfl ?_
            refine xp_iast rfl (by first | assumption | exact hL.t rfl) (by omega) (by omega) ?_
            refine xp_aload_n rfl rfl ?_
            refine xp_gfa rfl rfl (by decide) (by decide) (by first | assumption | exact hL.t rfl) (by first | assumption | exact hL.r rfl | exact hL.2.2.2.2.2) ?_
            refine xp_iload rfl rfl ?_
            refine xp_iload_n rfl rfl ?_
            refine xp_iast rfl (by first | assumption | exact hL.t rfl) (by omega) (by omega) ?_
            refine xp_aload_n rfl rfl ?_
            refine xp_gfa rfl rfl (by decide) (by decide) (by first | assumption | exact hL.t rfl) (by first | assumption | exact hL.r rfl | exact hL.2.2.2.2.2) ?_
            refine xp_iload rfl rfl ?_
            refine xp_iload rfl rfl ?_
            refine xp_iast rfl (by first | assumption | exact hL.t rfl) (by omega) (by omega) ?_
            refine xp_aload_n rfl rfl ?_
            refine xp_gfa rfl rfl (by decide) (by decide) (by first | assumption | exact hL.t rfl) (by first | assumption | exact hL.r rfl | exact hL.2.2.2.2.2) ?_
            refine xp_iload_n rfl rfl ?_
            refine xp_dup2 rfl rfl rfl ?_
            refine xp_iald rfl (by first | assumption | exact hL.t rfl) (by omega) (by omega) ?_
            rw [x2]
            refine xp_iconst (n := 1) rfl (by decide) ?_
            refine xp_iadd rfl ?_
            refine xp_iast rfl (by first | assumption | exact hL.t rfl) (by omega) (by omega) ?_
            show xP _ _ _ _ _ _ (xm _ _ _ (mHdl B f fr to at_)) _
            refine xp_aload_n rfl rfl ?_
            refine xp_gfa rfl rfl (by decide) (by decide) (by first | assumption | exact hL.t rfl) (by first | assumption | exact hL.r rfl | exact hL.2.2.2.2.2) ?_
            refine xp_iload_n rfl rfl ?_
            refine xp_iald rfl (by first | assumption | exact hL.t rfl) (by omega) (by omega) ?_
            rw [x3]
            refine xp_ireturn rfl (by decide) (by decide) (by decide) ?_
            rfl
          · exfalso; omega
        · exfalso; omega
theorem m118b {z : Nat} {T : Nat → Option xT} {R : Nat → Nat → Option Nat} {B : xQ} {w f fr to at_ : Nat} (hL : xLay T R w) (hf : f < 6) (hfr : fr < 30) (hat : at_ < 30) (hto : fr < to) (hto2 : to ≤ 30) (h7 : B.1 192 f = 3) : xF 118 [.ref 189, .int (nI f), .int (nI fr), .int (nI to), .int (nI at_)] (xm z T R B) (.inr (some (.int (nI 0))), xm z T R (xsI B 189 14 2)) := by
  have e1 : mIn f 0 5 = 1 := by rw [mIn_any (by omega) (by omega) (by omega), if_pos (by omega)]
  have e2 : mIn fr 0 29 = 1 := by rw [mIn_any (by omega) (by omega) (by omega), if_pos (by omega)]
  have e3 : mIn at_ 0 29 = 1 := by rw [mIn_any (by omega) (by omega) (by omega), if_pos (by omega)]
  have e4 : mIn to (fr + 1) 30 = 1 := by rw [mIn_any (by omega) (by omega) (by omega), if_pos (by omega)]
  refine xF_eq (xF_p (Nat.le_of_ble_eq_true rfl) ?_)
  refine xp_iload_n rfl rfl ?_
  refine xp_iconst (n := 0) rfl (by decide) ?_
  refine xp_iconst (n := 5) rfl (by decide) ?_
  refine xp_is rfl rfl rfl (Nat.le_of_ble_eq_true rfl) (by decide) (by decide) (by decide) (Nat.le_of_ble_eq_true rfl) rfl (xrcv0 (by decide) _ _) (m112 (by omega) (by omega) (by omega)) rfl ?_
  rw [e1]
  refine xp_ifeq 42 rfl (by decide) (by omega) (fun h6 => ?_) (fun h6 => ?_)
  · exfalso; omega
  · skip
    refine xp_iload_n rfl rfl ?_
    refine xp_iconst (n := 0) rfl (by decide) ?_
    refine xp_bipush (n := 29) rfl (by decide) ?_
    refine xp_is rfl rfl rfl (Nat.le_of_ble_eq_true rfl) (by decide) (by decide) (by decide) (Nat.le_of_ble_eq_true rfl) rfl (xrcv0 (by decide) _ _) (m112 (by omega) (by omega) (by omega)) rfl ?_
    rw [e2]
    refine xp_ifeq 42 rfl (by decide) (by omega) (fun h16 => ?_) (fun h16 => ?_)
    · exfalso; omega
    · skip
      refine xp_iload rfl rfl ?_
      refine xp_iconst (n := 0) rfl (by decide) ?_
      refine xp_bipush (n := 29) rfl (by decide) ?_
      refine xp_is rfl rfl rfl (Nat.le_of_ble_eq_true rfl) (by decide) (by decide) (by decide) (Nat.le_of_ble_eq_true rfl) rfl (xrcv0 (by decide) _ _) (m112 (by omega) (by omega) (by omega)) rfl ?_
      rw [e3]
      refine xp_ifeq 42 rfl (by decide) (by omega) (fun h27 => ?_) (fun h27 => ?_)
      · exfalso; omega
      · skip
        refine xp_iload_n rfl rfl ?_
        refine xp_iload_n rfl rfl ?_
        refine xp_iconst (n := 1) rfl (by decide) ?_
        refine xp_iadd rfl ?_
        refine xp_bipush (n := 30) rfl (by decide) ?_
        refine xp_is rfl rfl rfl (Nat.le_of_ble_eq_true rfl) (by decide) (by decide) (by decide) (Nat.le_of_ble_eq_true rfl) rfl (xrcv0 (by decide) _ _) (m112 (by omega) (by omega) (by omega)) rfl ?_
        rw [e4]
        refine xp_ifne 48 rfl (by decide) (by omega) (fun h39 => ?_) (fun h39 => ?_)
        · skip
          refine xp_aload_n rfl rfl ?_
          refine xp_gfa rfl rfl (by decide) (by decide) (by first | assumption | exact hL.t rfl) (by first | assumption | exact hL.r rfl | exact hL.2.2.2.2.2) ?_
          refine xp_iload_n rfl rfl ?_
          refine xp_iald rfl (by first | assumption | exact hL.t rfl) (by omega) (by omega) ?_
          refine xp_iconst (n := 3) rfl (by decide) ?_
          refine xp_icne 64 rfl (by decide) (by omega) (by omega) (fun h55 => ?_) (fun h55 => ?_)
          · exfalso; omega
          · skip
            refine xp_aload_n rfl rfl ?_
            refine xp_iconst (n := 2) rfl (by decide) ?_
            refine xp_iv rfl rfl (Nat.le_of_ble_eq_true rfl) (by decide) (by decide) (by decide) (Nat.le_of_ble_eq_true rfl) rfl (xrcv1 (by decide) (by first | assumption | exact hL.t rfl)) (m113 hL) rfl ?_
            refine xp_ireturn rfl (by decide) (by decide) (by decide) ?_
            rfl
        · exfalso; omega
theorem m118a {z : Nat} {T : Nat → Option xT} {R : Nat → Nat → Option Nat} {B : xQ} {w f fr to at_ : Nat} (hL : xLay T R w) (hf : f < 2 ^ 32) (hfr : fr < 2 ^ 32) (hto : to < 2 ^ 32) (hat : at_ < 2 ^ 32) (hq : ¬ (f < 6 ∧ fr < 30 ∧ at_ < 30 ∧ fr < to ∧ to ≤ 30)) : xF 118 [.ref 189, .int (nI f), .int (nI fr), .int (nI to), .int (nI at_)] (xm z T R B) (.inr (some (.int (nI 0))), xm z T R (xsI B 189 14 1)) := by
  have l1 := mIn_le f 0 5
  have l2 := mIn_le fr 0 29
  have l3 := mIn_le at_ 0 29
  have l4 := mIn_le to (fr + 1) 30
  have e1 := mIn_any (v := f) (lo := 0) (hi := 5) hf (by omega) (by omega)
  have e2 := mIn_any (v := fr) (lo := 0) (hi := 29) hfr (by omega) (by omega)
  have e3 := mIn_any (v := at_) (lo := 0) (hi := 29) hat (by omega) (by omega)
  have y2f : mIn fr 0 29 = 1 → fr < 30 := fun x => by
    rw [e2] at x
    by_cases q : 0 ≤ fr ∧ fr ≤ 29
    · omega
    · rw [if_neg q] at x; omega
  have n4 : mIn f 0 5 = 1 → mIn fr 0 29 = 1 → mIn at_ 0 29 = 1 → mIn to (fr + 1) 30 = 0 := fun x1 x2 x3 => by
    rw [e1] at x1
    rw [e2] at x2
    rw [e3] at x3
    have y1 : f < 6 := by
      by_cases q : 0 ≤ f ∧ f ≤ 5
      · omega
      · rw [if_neg q] at x1; omega
    have y2 : fr < 30 := by
      by_cases q : 0 ≤ fr ∧ fr ≤ 29
      · omega
      · rw [if_neg q] at x2; omega
    have y3 : at_ < 30 := by
      by_cases q : 0 ≤ at_ ∧ at_ ≤ 29
      · omega
      · rw [if_neg q] at x3; omega
    rw [mIn_any hto (by omega) (by omega), if_neg (by omega)]
  refine xF_eq (xF_p (Nat.le_of_ble_eq_true rfl) ?_)
  refine xp_iload_n rfl rfl ?_
  refine xp_iconst (n := 0) rfl (by decide) ?_
  refine xp_iconst (n := 5) rfl (by decide) ?_
  refine xp_is rfl rfl rfl (Nat.le_of_ble_eq_true rfl) (by decide) (by decide) (by decide) (Nat.le_of_ble_eq_true rfl) rfl (xrcv0 (by decide) _ _) (m112 hf (by omega) (by omega)) rfl ?_
  refine xp_ifeq 42 rfl (by decide) (by omega) (fun h6 => ?_) (fun h6 => ?_)
  · skip
    refine xp_aload_n rfl rfl ?_
    refine xp_iconst (n := 1) rfl (by decide) ?_
    refine xp_iv rfl rfl (Nat.le_of_ble_eq_true rfl) (by decide) (by decide) (by decide) (Nat.le_of_ble_eq_true rfl) rfl (xrcv1 (by decide) (by first | assumption | exact hL.t rfl)) (m113 hL) rfl ?_
    refine xp_ireturn rfl (by decide) (by decide) (by decide) ?_
    rfl
  · skip
    refine xp_iload_n rfl rfl ?_
    refine xp_iconst (n := 0) rfl (by decide) ?_
    refine xp_bipush (n := 29) rfl (by decide) ?_
    refine xp_is rfl rfl rfl (Nat.le_of_ble_eq_true rfl) (by decide) (by decide) (by decide) (Nat.le_of_ble_eq_true rfl) rfl (xrcv0 (by decide) _ _) (m112 hfr (by omega) (by omega)) rfl ?_
    refine xp_ifeq 42 rfl (by decide) (by omega) (fun h16 => ?_) (fun h16 => ?_)
    · skip
      refine xp_aload_n rfl rfl ?_
      refine xp_iconst (n := 1) rfl (by decide) ?_
      refine xp_iv rfl rfl (Nat.le_of_ble_eq_true rfl) (by decide) (by decide) (by decide) (Nat.le_of_ble_eq_true rfl) rfl (xrcv1 (by decide) (by first | assumption | exact hL.t rfl)) (m113 hL) rfl ?_
      refine xp_ireturn rfl (by decide) (by decide) (by decide) ?_
      rfl
    · skip
      refine xp_iload rfl rfl ?_
      refine xp_iconst (n := 0) rfl (by decide) ?_
      refine xp_bipush (n := 29) rfl (by decide) ?_
      refine xp_is rfl rfl rfl (Nat.le_of_ble_eq_true rfl) (by decide) (by decide) (by decide) (Nat.le_of_ble_eq_true rfl) rfl (xrcv0 (by decide) _ _) (m112 hat (by omega) (by omega)) rfl ?_
      refine xp_ifeq 42 rfl (by decide) (by omega) (fun h27 => ?_) (fun h27 => ?_)
      · skip
        refine xp_aload_n rfl rfl ?_
        refine xp_iconst (n := 1) rfl (by decide) ?_
        refine xp_iv rfl rfl (Nat.le_of_ble_eq_true rfl) (by decide) (by decide) (by decide) (Nat.le_of_ble_eq_true rfl) rfl (xrcv1 (by decide) (by first | assumption | exact hL.t rfl)) (m113 hL) rfl ?_
        refine xp_ireturn rfl (by decide) (by decide) (by decide) ?_
        rfl
      · skip
        refine xp_iload_n rfl rfl ?_
        refine xp_iload_n rfl rfl ?_
        have y2 := y2f (by omega)
        refine xp_iconst (n := 1) rfl (by decide) ?_
        refine xp_iadd rfl ?_
        refine xp_bipush (n := 30) rfl (by decide) ?_
        refine xp_is rfl rfl rfl (Nat.le_of_ble_eq_true rfl) (by decide) (by decide) (by decide) (Nat.le_of_ble_eq_true rfl) rfl (xrcv0 (by decide) _ _) (m112 hto (by omega) (by omega)) rfl ?_
        refine xp_ifne 48 rfl (by decide) (by omega) (fun h39 => ?_) (fun h39 => ?_)
        · exfalso; have := n4 (by omega) (by omega) (by omega); omega
        · skip
          refine xp_aload_n rfl rfl ?_
          refine xp_iconst (n := 1) rfl (by decide) ?_
          refine xp_iv rfl rfl (Nat.le_of_ble_eq_true rfl) (by decide) (by decide) (by decide) (Nat.le_of_ble_eq_true rfl) rfl (xrcv1 (by decide) (by first | assumption | exact hL.t rfl)) (m113 hL) rfl ?_
          refine xp_ireturn rfl (by decide) (by decide) (by decide) ?_
          rfl
theorem pub_handle (f fr to at_ : Nat) (hf : f < 2 ^ 32) (hfr : fr < 2 ^ 32) (hto : to < 2 ^ 32) (hat : at_ < 2 ^ 32) : Pub 3 118 (mpO [(0, 1), (1, 2)]) [.int (nI f), .int (nI fr), .int (nI to), .int (nI at_)] := by
  refine Pub.mk rfl rfl gC4 gM4 (fun z T R w n A hn hI => ?_)
  obtain ⟨hL, hr, hc, hT, hR, h3, h4⟩ := hI
  have h0 := hc.1
  by_cases hq : f < 6 ∧ fr < 30 ∧ at_ < 30 ∧ fr < to ∧ to ≤ 30
  · obtain ⟨o1, o2, o3, o4, o5⟩ := hq
    obtain ⟨p1, p2, p3, p4, p5⟩ := hc.2.2.1 f o1
    by_cases h7 : A.1 7 f = 3
    · refine Or.inl ⟨1, by decide, c3b hL o1 o2 o3 o4 o5 h7, fun B hB => ⟨_, _, m118b hL o1 o2 o3 o4 o5 (by rw [(hB.1 f o1).2.2.1]; exact h7), by rw [xsI_eq]; rfl, hB.thr hc⟩⟩
    · have hcl := c3 (z := z) (A := A) hL o1 o2 o3 o4 o5 (by omega)
      have a1 : ∀ b j, (b ≠ 8 ∧ b ≠ 9 ∧ b ≠ 10) ∨ j ≠ f * 3 + A.1 7 f → (b ≠ 7 ∨ j ≠ f) → (aHdl A f fr to at_).1 b j = A.1 b j := fun b j q q2 => by unfold aHdl; rw [xsI_ne q2, xsI_ne (by omega), xsI_ne (by omega), xsI_ne (by omega)]
      have a7 : (aHdl A f fr to at_).1 7 f = A.1 7 f + 1 := xsI_eq
      have a8 : (aHdl A f fr to at_).1 8 (f * 3 + A.1 7 f) = fr := by unfold aHdl; rw [xsI_ne (by omega), xsI_ne (by omega), xsI_ne (by omega), xsI_eq]
      have a9 : (aHdl A f fr to at_).1 9 (f * 3 + A.1 7 f) = to := by unfold aHdl; rw [xsI_ne (by omega), xsI_ne (by omega), xsI_eq]
      have a10 : (aHdl A f fr to at_).1 10 (f * 3 + A.1 7 f) = at_ := by unfold aHdl; rw [xsI_ne (by omega), xsI_eq]
      have hj : (aHdl A f fr to at_).2 = A.2 := rfl
      generalize aHdl A f fr to at_ = A1 at a1 a7 a8 a9 a10 hcl hj
      have hP : POk A1 := fun g hg => by
        obtain ⟨q1, q2, q3, q4, q5⟩ := hc.2.2.1 g hg
        rw [a1 2 g (by omega) (by omega), a1 3 g (by omega) (by omega)]
        by_cases e : g = f
        · subst e
          rw [a7]
          refine ⟨q1, q2, by omega, fun j hj => ?_, fun j hj => ?_⟩
          · rw [a1 4 _ (by omega) (by omega), a1 5 _ (by omega) (by omega), a1 6 _ (by omega) (by omega)]; exact q4 j hj
          · by_cases ej : j = A.1 7 g
            · rw [ej, a8, a9, a10]; omega
            · rw [a1 8 _ (by omega) (by omega), a1 9 _ (by omega) (by omega), a1 10 _ (by omega) (by omega)]; exact q5 j (by omega)
        · rw [a1 7 g (by omega) (by omega)]
          refine ⟨q1, q2, q3, fun j hj => ?_, fun j hj => ?_⟩
          · rw [a1 4 _ (by omega) (by omega), a1 5 _ (by omega) (by omega), a1 6 _ (by omega) (by omega)]; exact q4 j hj
          · rw [a1 8 _ (by omega) (by omega), a1 9 _ (by omega) (by omega), a1 10 _ (by omega) (by omega)]; exact q5 j hj
      refine Or.inr ⟨_, A1, ⟨_, Or.inl rfl⟩, hcl, hc.prog (fun b j _ _ => a1 b j (by omega) (by omega)) (fun b j _ => by rw [hj]) hP, hT.oth hc.cnt hc.2.2.2.2.2 (fun b j q => a1 b j (by omega) (by omega)), by rw [a1 11 3 (by omega) (by omega)]; omega, by rw [a1 11 4 (by omega) (by omega)]; omega, fun B hB => ?_⟩
      have e192 := (hB.1 f o1).2.2.1
      have m := m118 (z := z) (B := B) hL o1 o2 o3 o4 o5 (by omega)
      have b1 : ∀ b j, (b ≠ 196 ∧ b ≠ 197 ∧ b ≠ 198) ∨ j ≠ 3 * f + B.1 192 f → (b ≠ 192 ∨ j ≠ f) → (b ≠ 189 ∨ j ≠ 14) → (mHdl B f fr to at_).1 b j = B.1 b j := fun b j q q2 q3 => by unfold mHdl; rw [xsI_ne q2, xsI_ne (by omega), xsI_ne (by omega), xsI_ne (by omega), xsI_ne q3]
      have b14 : (mHdl B f fr to at_).1 189 14 = 0 := by unfold mHdl; rw [xsI_ne (by omega), xsI_ne (by omega), xsI_ne (by omega), xsI_ne (by omega), xsI_eq]
      have b7 : (mHdl B f fr to at_).1 192 f = B.1 192 f + 1 := xsI_eq
      have b8 : (mHdl B f fr to at_).1 196 (3 * f + B.1 192 f) = fr := by unfold mHdl; rw [xsI_ne (by omega), xsI_ne (by omega), xsI_ne (by omega), xsI_eq]
      have b9 : (mHdl B f fr to at_).1 197 (3 * f + B.1 192 f) = to := by unfold mHdl; rw [xsI_ne (by omega), xsI_ne (by omega), xsI_eq]
      have b10 : (mHdl B f fr to at_).1 198 (3 * f + B.1 192 f) = at_ := by unfold mHdl; rw [xsI_ne (by omega), xsI_eq]
      have bj : (mHdl B f fr to at_).2 = B.2 := rfl
      rw [e192] at m b1 b7 b8 b9 b10
      generalize mHdl B f fr to at_ = B1 at m b1 b14 b7 b8 b9 b10 bj
      refine ⟨B1, m, by rw [b14], hB.prog hc (fun b j _ _ => a1 b j (by omega) (by omega)) (fun b j _ => by rw [hj]) (fun b j q q2 => by unfold relB at q; exact b1 b j (by omega) (by omega) (by omega)) (fun b j _ => by rw [bj]) (fun g hg => ?_)⟩
      obtain ⟨q1, q2, q3, q4, q5⟩ := hB.1 g hg
      rw [a1 2 g (by omega) (by omega), a1 3 g (by omega) (by omega), b1 190 g (by omega) (by omega) (by omega), b1 191 g (by omega) (by omega) (by omega)]
      by_cases e : g = f
      · subst e
        rw [a7, b7]
        refine ⟨q1, q2, rfl, fun j hj => ?_, fun j hj => ?_⟩
        · rw [a1 4 _ (by omega) (by omega), a1 5 _ (by omega) (by omega), a1 6 _ (by omega) (by omega), b1 193 _ (by omega) (by omega) (by omega), b1 194 _ (by omega) (by omega) (by omega), b1 195 _ (by omega) (by omega) (by omega)]; exact q4 j hj
        · by_cases ej : j = A.1 7 g
          · rw [ej, a8, a9, a10, b8, b9, b10]; exact ⟨rfl, rfl, rfl⟩
          · rw [a1 8 _ (by omega) (by omega), a1 9 _ (by omega) (by omega), a1 10 _ (by omega) (by omega), b1 196 _ (by omega) (by omega) (by omega), b1 197 _ (by omega) (by omega) (by omega), b1 198 _ (by omega) (by omega) (by omega)]; exact q5 j (by omega)
      · rw [a1 7 g (by omega) (by omega), b1 192 g (by omega) (by omega) (by omega)]
        refine ⟨q1, q2, q3, fun j hj => ?_, fun j hj => ?_⟩
        · rw [a1 4 _ (by omega) (by omega), a1 5 _ (by omega) (by omega), a1 6 _ (by omega) (by omega), b1 193 _ (by omega) (by omega) (by omega), b1 194 _ (by omega) (by omega) (by omega), b1 195 _ (by omega) (by omega) (by omega)]; exact q4 j hj
        · obtain ⟨_, _, c3, _, _⟩ := hc.2.2.1 g hg
          rw [a1 8 _ (by omega) (by omega), a1 9 _ (by omega) (by omega), a1 10 _ (by omega) (by omega), b1 196 _ (by omega) (by omega) (by omega), b1 197 _ (by omega) (by omega) (by omega), b1 198 _ (by omega) (by omega) (by omega)]; exact q5 j hj
  · exact Or.inl ⟨0, by decide, c3a hL hf hfr hto hat hq, fun B hB => ⟨_, _, m118a hL hf hfr hto hat hq, by rw [xsI_eq]; rfl, hB.thr hc⟩⟩
