-- patch
theorem nI_subg {m n : Nat} (h : n ≤ 4294967296) : nI m - nI n = nI (m + (4294967296 - n)) := by
  have h1 : nI (m + (4294967296 - n)) + nI n = nI m := by
    rw [nI_add, show m + (4294967296 - n) + n = m + 4294967296 by omega]
    have e : (m + 4294967296) % 2 ^ 32 = m % 2 ^ 32 := by omega
    rw [← nI_mod (m + 4294967296), e, nI_mod]
  rw [← h1, Int32.add_sub_cancel]
def aApd (A : xQ) (b : Nat) : xQ := xsI (xsI A 100 (A.1 99 1) (b % 256)) 99 1 (A.1 99 1 + 1)
def nSum (x b o : Nat) : Nat := (x + b + (4294967296 - o)) % 256
def aChg (A : xQ) (k b s : Nat) : xQ := if s = 1 ∧ k ≠ A.1 99 1 - 1 then xsI (xsI A 100 k b) 100 (A.1 99 1 - 1) (nSum (A.1 100 (A.1 99 1 - 1)) b (A.1 100 k)) else xsI A 100 k b
theorem c67 {z : Nat} {T : Nat → Option xT} {R : Nat → Nat → Option Nat} {A : xQ} {w b : Nat} (hL : xLay T R w) (hs : A.1 99 1 < 2400) : xF 67 [.ref 99, .int (nI b)] (xm z T R A) (.inr (none), xm z T R (aApd A b)) := by
  have e1 : (xsI A 100 (A.1 99 1) (b % 256)).1 99 1 = A.1 99 1 := xsI_ne (by omega)
  refine xF_eq (xF_p (Nat.le_of_ble_eq_true rfl) ?_)
  refine xp_aload_n rfl rfl ?_
  refine xp_gfi rfl rfl (by decide) (by decide) (by first | assumption | exact hL.t rfl) ?_
  refine xp_sipush (n := 2400) rfl (by decide) ?_
  refine xp_icge 34 rfl (by decide) (by omega) (by omega) (fun h7 => ?_) (fun h7 => ?_)
  · exfalso; omega
  · skip
    refine xp_aload_n rfl rfl ?_
    refine xp_gfa rfl rfl (by decide) (by decide) (by first | assumption | exact hL.t rfl) (by first | assumption | exact hL.r rfl | exact hL.2.2.2.2.2) ?_
    refine xp_aload_n rfl rfl ?_
    refine xp_gfi rfl rfl (by decide) (by decide) (by first | assumption | exact hL.t rfl) ?_
    refine xp_iload_n rfl rfl ?_
    refine xp_sipush (n := 255) rfl (by decide) ?_
    refine xp_iand rfl ?_
    rw [nI_and255]
    refine xp_iast rfl (by first | assumption | exact hL.t rfl) (by omega) (by omega) ?_
    refine xp_aload_n rfl rfl ?_
    refine xp_dup rfl rfl ?_
    refine xp_gfi rfl rfl (by decide) (by decide) (by first | assumption | exact hL.t rfl) ?_
    rw [e1]
    refine xp_iconst (n := 1) rfl (by decide) ?_
    refine xp_iadd rfl ?_
    refine xp_pfi rfl rfl (by decide) (by decide) (by decide) (by first | assumption | exact hL.t rfl) ?_
    refine xp_return rfl (by decide) (by decide) (by decide) ?_
    rfl
theorem c68 {z : Nat} {T : Nat → Option xT} {R : Nat → Nat → Option Nat} {A : xQ} {w k b s : Nat} (hL : xLay T R w) (hk : k < A.1 99 1) (hz : A.1 99 1 ≤ 2400) (hs : s = 0 ∨ s = 1) (ho : A.1 100 k < 256) : xF 68 [.ref 99, .int (nI k), .int (nI b), .int (nI s)] (xm z T R A) (.inr (some (.int (nI (A.1 100 k)))), xm z T R (aChg A k b s)) := by
  unfold aChg
  by_cases hq : s = 1 ∧ k ≠ A.1 99 1 - 1
  · rw [if_pos hq]
    have e2 : (xsI A 100 k b).1 100 (A.1 99 1 - 1) = A.1 100 (A.1 99 1 - 1) := xsI_ne (by omega)
    refine xF_eq (xF_p (Nat.le_of_ble_eq_true rfl) ?_)
    refine xp_aload_n rfl rfl ?_
    refine xp_gfa rfl rfl (by decide) (by decide) (by first | assumption | exact hL.t rfl) (by first | assumption | exact hL.r rfl | exact hL.2.2.2.2.2) ?_
    refine xp_iload_n rfl rfl ?_
    refine xp_iald rfl (by first | assumption | exact hL.t rfl) (by omega) (by omega) ?_
    refine xp_istore rfl (by decide) ?_
    refine xp_aload_n rfl rfl ?_
    refine xp_gfi rfl rfl (by decide) (by decide) (by first | assumption | exact hL.t rfl) ?_
    refine xp_iconst (n := 1) rfl (by decide) ?_
    refine xp_isub rfl (by omega) ?_
    refine xp_istore rfl (by decide) ?_
    refine xp_aload_n rfl rfl ?_
    refine xp_gfa rfl rfl (by decide) (by decide) (by first | assumption | exact hL.t rfl) (by first | assumption | exact hL.r rfl | exact hL.2.2.2.2.2) ?_
    refine xp_iload_n rfl rfl ?_
    refine xp_iload_n rfl rfl ?_
    refine xp_iast rfl (by first | assumption | exact hL.t rfl) (by omega) (by omega) ?_
    refine xp_iload_n rfl rfl ?_
    refine xp_ifeq 56 rfl (by decide) (by omega) (fun h24 => ?_) (fun h24 => ?_)
    · exfalso; omega
    · skip
      refine xp_iload_n rfl rfl ?_
      refine xp_iload rfl rfl ?_
      refine xp_iceq 56 rfl (by decide) (by omega) (by omega) (fun h30 => ?_) (fun h30 => ?_)
      · exfalso; omega
      · skip
        refine xp_aload_n rfl rfl ?_
        refine xp_gfa rfl rfl (by decide) (by decide) (by first | assumption | exact hL.t rfl) (by first | assumption | exact hL.r rfl | exact hL.2.2.2.2.2) ?_
        refine xp_iload rfl rfl ?_
        refine xp_aload_n rfl rfl ?_
        refine xp_gfa rfl rfl (by decide) (by decide) (by first | assumption | exact hL.t rfl) (by first | assumption | exact hL.r rfl | exact hL.2.2.2.2.2) ?_
        refine xp_iload rfl rfl ?_
        refine xp_iald rfl (by first | assumption | exact hL.t rfl) (by omega) (by omega) ?_
        rw [e2]
        refine xp_iload_n rfl rfl ?_
        refine xp_iadd rfl ?_
        refine xp_iload rfl rfl ?_
        refine xp_isubR rfl ?_
        rw [nI_subg (by omega)]
        refine xp_sipush (n := 255) rfl (by decide) ?_
        refine xp_iand rfl ?_
        rw [nI_and255]
        refine xp_iast rfl (by first | assumption | exact hL.t rfl) (by omega) (by omega) ?_
        refine xp_iload rfl rfl ?_
        refine xp_ireturn rfl (by decide) (by decide) (by decide) ?_
        rfl
  · rw [if_neg hq]
    refine xF_eq (xF_p (Nat.le_of_ble_eq_true rfl) ?_)
    refine xp_aload_n rfl rfl ?_
    refine xp_gfa rfl rfl (by decide) (by decide) (by first | assumption | exact hL.t rfl) (by first | assumption | exact hL.r rfl | exact hL.2.2.2.2.2) ?_
    refine xp_iload_n rfl rfl ?_
    refine xp_iald rfl (by first | assumption | exact hL.t rfl) (by omega) (by omega) ?_
    refine xp_istore rfl (by decide) ?_
    refine xp_aload_n rfl rfl ?_
    refine xp_gfi rfl rfl (by decide) (by decide) (by first | assumption | exact hL.t rfl) ?_
    refine xp_iconst (n := 1) rfl (by decide) ?_
    refine xp_isub rfl (by omega) ?_
    refine xp_istore rfl (by decide) ?_
    refine xp_aload_n rfl rfl ?_
    refine xp_gfa rfl rfl (by decide) (by decide) (by first | assumption | exact hL.t rfl) (by first | assumption | exact hL.r rfl | exact hL.2.2.2.2.2) ?_
    refine xp_iload_n rfl rfl ?_
    refine xp_iload_n rfl rfl ?_
    refine xp_iast rfl (by first | assumption | exact hL.t rfl) (by omega) (by omega) ?_
    refine xp_iload_n rfl rfl ?_
    refine xp_ifeq 56 rfl (by decide) (by omega) (fun h24 => ?_) (fun h24 => ?_)
    · skip
      refine xp_iload rfl rfl ?_
      refine xp_ireturn rfl (by decide) (by decide) (by decide) ?_
      rfl
    · skip
      refine xp_iload_n rfl rfl ?_
      refine xp_iload rfl rfl ?_
      refine xp_iceq 56 rfl (by decide) (by omega) (by omega) (fun h30 => ?_) (fun h30 => ?_)
      · skip
        refine xp_iload rfl rfl ?_
        refine xp_ireturn rfl (by decide) (by decide) (by decide) ?_
        rfl
      · exfalso; omega
theorem c13 {z : Nat} {T : Nat → Option xT} {R : Nat → Nat → Option Nat} {A : xQ} {w k b s : Nat} (hL : xLay T R w) (hb : b ≤ 255) (hk : k < A.1 99 1) (hz : A.1 99 1 < 2400) (hs : s = 0 ∨ s = 1) (ho : A.1 100 k < 256) : xF 13 [.ref 0, .int (nI k), .int (nI b), .int (nI s)] (xm z T R A) (.inr (some (.int (nI (A.1 100 k)))), xm z T R (aChg A k b s)) := by
  refine xF_eq (xF_p (Nat.le_of_ble_eq_true rfl) ?_)
  refine xp_iload_n rfl rfl ?_
  refine xp_iflt 11 rfl (by decide) (by omega) (fun h1 => ?_) (fun h1 => ?_)
  · exfalso; omega
  · skip
    refine xp_iload_n rfl rfl ?_
    refine xp_sipush (n := 255) rfl (by decide) ?_
    refine xp_icle 19 rfl (by decide) (by omega) (by omega) (fun h8 => ?_) (fun h8 => ?_)
    · skip
      refine xp_iload_n rfl rfl ?_
      refine xp_iflt 47 rfl (by decide) (by omega) (fun h20 => ?_) (fun h20 => ?_)
      · exfalso; omega
      · skip
        refine xp_iload_n rfl rfl ?_
        refine xp_aload_n rfl rfl ?_
        refine xp_gfa rfl rfl (by decide) (by decide) (by first | assumption | exact hL.t rfl) (by first | assumption | exact hL.r rfl | exact hL.2.2.2.2.2) ?_
        refine xp_gfi rfl rfl (by decide) (by decide) (by first | assumption | exact hL.t rfl) ?_
        refine xp_icgt 47 rfl (by decide) (by omega) (by omega) (fun h31 => ?_) (fun h31 => ?_)
        · exfalso; omega
        · skip
          refine xp_aload_n rfl rfl ?_
          refine xp_gfa rfl rfl (by decide) (by decide) (by first | assumption | exact hL.t rfl) (by first | assumption | exact hL.r rfl | exact hL.2.2.2.2.2) ?_
          refine xp_gfi rfl rfl (by decide) (by decide) (by first | assumption | exact hL.t rfl) ?_
          refine xp_sipush (n := 2400) rfl (by decide) ?_
          refine xp_icne 55 rfl (by decide) (by omega) (by omega) (fun h44 => ?_) (fun h44 => ?_)
          · skip
            refine xp_iload_n rfl rfl ?_
            refine xp_aload_n rfl rfl ?_
            refine xp_gfa rfl rfl (by decide) (by decide) (by first | assumption | exact hL.t rfl) (by first | assumption | exact hL.r rfl | exact hL.2.2.2.2.2) ?_
            refine xp_gfi rfl rfl (by decide) (by decide) (by first | assumption | exact hL.t rfl) ?_
            refine xp_icne 76 rfl (by decide) (by omega) (by omega) (fun h63 => ?_) (fun h63 => ?_)
            · skip
              refine xp_aload_n rfl rfl ?_
              refine xp_gfa rfl rfl (by decide) (by decide) (by first | assumption | exact hL.t rfl) (by first | assumption | exact hL.r rfl | exact hL.2.2.2.2.2) ?_
              refine xp_iload_n rfl rfl ?_
              refine xp_iload_n rfl rfl ?_
              refine xp_iload_n rfl rfl ?_
              refine xp_iv rfl rfl (Nat.le_of_ble_eq_true rfl) (by decide) (by decide) (by decide) (Nat.le_of_ble_eq_true rfl) rfl (xrcv1 (by decide) (by first | assumption | exact hL.t rfl)) (c68 hL hk (by omega) hs ho) rfl ?_
              refine xp_ireturn rfl (by decide) (by decide) (by decide) ?_
              rfl
            · exfalso; omega
          · exfalso; omega
    · exfalso; omega
theorem c13n {z : Nat} {T : Nat → Option xT} {R : Nat → Nat → Option Nat} {A : xQ} {w k b s : Nat} (hL : xLay T R w) (hb : b ≤ 255) (hk : k = A.1 99 1) (hz : A.1 99 1 < 2400) : xF 13 [.ref 0, .int (nI k), .int (nI b), .int (nI s)] (xm z T R A) (.inr (some (.int (nI 4294967295))), xm z T R (aApd A b)) := by
  refine xF_eq (xF_p (Nat.le_of_ble_eq_true rfl) ?_)
  refine xp_iload_n rfl rfl ?_
  refine xp_iflt 11 rfl (by decide) (by omega) (fun h1 => ?_) (fun h1 => ?_)
  · exfalso; omega
  · skip
    refine xp_iload_n rfl rfl ?_
    refine xp_sipush (n := 255) rfl (by decide) ?_
    refine xp_icle 19 rfl (by decide) (by omega) (by omega) (fun h8 => ?_) (fun h8 => ?_)
    · skip
      refine xp_iload_n rfl rfl ?_
      refine xp_iflt 47 rfl (by decide) (by omega) (fun h20 => ?_) (fun h20 => ?_)
      · exfalso; omega
      · skip
        refine xp_iload_n rfl rfl ?_
        refine xp_aload_n rfl rfl ?_
        refine xp_gfa rfl rfl (by decide) (by decide) (by first | assumption | exact hL.t rfl) (by first | assumption | exact hL.r rfl | exact hL.2.2.2.2.2) ?_
        refine xp_gfi rfl rfl (by decide) (by decide) (by first | assumption | exact hL.t rfl) ?_
        refine xp_icgt 47 rfl (by decide) (by omega) (by omega) (fun h31 => ?_) (fun h31 => ?_)
        · exfalso; omega
        · skip
          refine xp_aload_n rfl rfl ?_
          refine xp_gfa rfl rfl (by decide) (by decide) (by first | assumption | exact hL.t rfl) (by first | assumption | exact hL.r rfl | exact hL.2.2.2.2.2) ?_
          refine xp_gfi rfl rfl (by decide) (by decide) (by first | assumption | exact hL.t rfl) ?_
          refine xp_sipush (n := 2400) rfl (by decide) ?_
          refine xp_icne 55 rfl (by decide) (by omega) (by omega) (fun h44 => ?_) (fun h44 => ?_)
          · skip
            refine xp_iload_n rfl rfl ?_
            refine xp_aload_n rfl rfl ?_
            refine xp_gfa rfl rfl (by decide) (by decide) (by first | assumption | exact hL.t rfl) (by first | assumption | exact hL.r rfl | exact hL.2.2.2.2.2) ?_
            refine xp_gfi rfl rfl (by decide) (by decide) (by first | assumption | exact hL.t rfl) ?_
            refine xp_icne 76 rfl (by decide) (by omega) (by omega) (fun h63 => ?_) (fun h63 => ?_)
            · exfalso; omega
            · skip
              refine xp_aload_n rfl rfl ?_
              refine xp_gfa rfl rfl (by decide) (by decide) (by first | assumption | exact hL.t rfl) (by first | assumption | exact hL.r rfl | exact hL.2.2.2.2.2) ?_
              refine xp_iload_n rfl rfl ?_
              refine xp_iv rfl rfl (Nat.le_of_ble_eq_true rfl) (by decide) (by decide) (by decide) (Nat.le_of_ble_eq_true rfl) rfl (xrcv1 (by decide) (by first | assumption | exact hL.t rfl)) (c67 hL hz) rfl ?_
              refine xp_iconst (n := 4294967295) rfl (by decide) ?_
              refine xp_ireturn rfl (by decide) (by decide) (by decide) ?_
              rfl
          · exfalso; omega
    · exfalso; omega
theorem c13b {z : Nat} {T : Nat → Option xT} {R : Nat → Nat → Option Nat} {A : xQ} {w k b s : Nat} (hL : xLay T R w) (hb : b ≤ 255) (hk : k < 2 ^ 32) (hz : A.1 99 1 ≤ 2400) (hq : ¬ (k ≤ A.1 99 1 ∧ A.1 99 1 < 2400)) : xF 13 [.ref 0, .int (nI k), .int (nI b), .int (nI s)] (xm z T R A) (.inl 2, xm (z + 1) T R A) := by
  refine xF_eq (xF_p (Nat.le_of_ble_eq_true rfl) ?_)
  refine xp_iload_n rfl rfl ?_
  refine xp_iflt 11 rfl (by decide) (by omega) (fun h1 => ?_) (fun h1 => ?_)
  · exfalso; omega
  · skip
    refine xp_iload_n rfl rfl ?_
    refine xp_sipush (n := 255) rfl (by decide) ?_
    refine xp_icle 19 rfl (by decide) (by omega) (by omega) (fun h8 => ?_) (fun h8 => ?_)
    · skip
      refine xp_iload_n rfl rfl ?_
      refine xp_iflt 47 rfl (by decide) (by omega) (fun h20 => ?_) (fun h20 => ?_)
      · skip
        refine xp_throw rfl rfl (Nat.le_of_ble_eq_true rfl) (by decide) (by decide) (by decide) ?_
        rfl
      · skip
        refine xp_iload_n rfl rfl ?_
        refine xp_aload_n rfl rfl ?_
        refine xp_gfa rfl rfl (by decide) (by decide) (by first | assumption | exact hL.t rfl) (by first | assumption | exact hL.r rfl | exact hL.2.2.2.2.2) ?_
        refine xp_gfi rfl rfl (by decide) (by decide) (by first | assumption | exact hL.t rfl) ?_
        refine xp_icgt 47 rfl (by decide) (by omega) (by omega) (fun h31 => ?_) (fun h31 => ?_)
        · skip
          refine xp_throw rfl rfl (Nat.le_of_ble_eq_true rfl) (by decide) (by decide) (by decide) ?_
          rfl
        · skip
          refine xp_aload_n rfl rfl ?_
          refine xp_gfa rfl rfl (by decide) (by decide) (by first | assumption | exact hL.t rfl) (by first | assumption | exact hL.r rfl | exact hL.2.2.2.2.2) ?_
          refine xp_gfi rfl rfl (by decide) (by decide) (by first | assumption | exact hL.t rfl) ?_
          refine xp_sipush (n := 2400) rfl (by decide) ?_
          refine xp_icne 55 rfl (by decide) (by omega) (by omega) (fun h44 => ?_) (fun h44 => ?_)
          · exfalso; omega
          · skip
            refine xp_throw rfl rfl (Nat.le_of_ble_eq_true rfl) (by decide) (by decide) (by decide) ?_
            rfl
    · exfalso; omega
theorem c13a {z : Nat} {T : Nat → Option xT} {R : Nat → Nat → Option Nat} {A : xQ} {w k b s : Nat} (hL : xLay T R w) (hb : b < 2 ^ 32) (hq : ¬ b ≤ 255) : xF 13 [.ref 0, .int (nI k), .int (nI b), .int (nI s)] (xm z T R A) (.inl 0, xm (z + 1) T R A) := by
  refine xF_eq (xF_p (Nat.le_of_ble_eq_true rfl) ?_)
  refine xp_iload_n rfl rfl ?_
  refine xp_iflt 11 rfl (by decide) (by omega) (fun h1 => ?_) (fun h1 => ?_)
  · skip
    refine xp_throw rfl rfl (Nat.le_of_ble_eq_true rfl) (by decide) (by decide) (by decide) ?_
    rfl
  · skip
    refine xp_iload_n rfl rfl ?_
    refine xp_sipush (n := 255) rfl (by decide) ?_
    refine xp_icle 19 rfl (by decide) (by omega) (by omega) (fun h8 => ?_) (fun h8 => ?_)
    · exfalso; omega
    · skip
      refine xp_throw rfl rfl (Nat.le_of_ble_eq_true rfl) (by decide) (by decide) (by decide) ?_
      rfl
def mChg (B : xQ) (k b s : Nat) : xQ := if s = 1 ∧ k ≠ B.1 189 35 - 1 then xsI (xsI (xsI B 189 14 0) 214 k b) 214 (B.1 189 35 - 1) (nSum (B.1 214 (B.1 189 35 - 1)) b (B.1 214 k)) else xsI (xsI B 189 14 0) 214 k b
theorem m171 {z : Nat} {T : Nat → Option xT} {R : Nat → Nat → Option Nat} {B : xQ} {w k b s : Nat} (hL : xLay T R w) (hb : b ≤ 255) (hk : k < B.1 189 35) (hz : B.1 189 35 < 2400) (hs : s = 0 ∨ s = 1) (ho : B.1 214 k < 256) : xF 171 [.ref 189, .int (nI k), .int (nI b), .int (nI s)] (xm z T R B) (.inr (some (.int (nI (B.1 214 k)))), xm z T R (mChg B k b s)) := by
  have e1 : mIn b 0 255 = 1 := by rw [mIn_any (by omega) (by omega) (by omega), if_pos (by omega)]
  have e2 : mIn k 0 (B.1 189 35) = 1 := by rw [mIn_any (by omega) (by omega) (by omega), if_pos (by omega)]
  have x1 : (xsI B 189 14 0).1 189 35 = B.1 189 35 := xsI_ne (by omega)
  have x2 : (xsI B 189 14 0).1 214 k = B.1 214 k := xsI_ne (by omega)
  have x3 : (xsI (xsI B 189 14 0) 214 k b).1 189 35 = B.1 189 35 := by rw [xsI_ne (by omega)]; exact x1
  unfold mChg
  by_cases hq : s = 1 ∧ k ≠ B.1 189 35 - 1
  · rw [if_pos hq]
    have x4 : (xsI (xsI B 189 14 0) 214 k b).1 214 (B.1 189 35 - 1) = B.1 214 (B.1 189 35 - 1) := by rw [xsI_ne (by omega), xsI_ne (by omega)]
    refine xF_eq (xF_p (Nat.le_of_ble_eq_true rfl) ?_)
    refine xp_iload_n rfl rfl ?_
    refine xp_iconst (n := 0) rfl (by decide) ?_
    refine xp_sipush (n := 255) rfl (by decide) ?_
    refine xp_is rfl rfl rfl (Nat.le_of_ble_eq_true rfl) (by decide) (by decide) (by decide) (Nat.le_of_ble_eq_true rfl) rfl (xrcv0 (by decide) _ _) (m112 (by omega) (by omega) (by omega)) rfl ?_
    rw [e1]
    refine xp_ifne 17 rfl (by decide) (by omega) (fun h8 => ?_) (fun h8 => ?_)
    · skip
      refine xp_iload_n rfl rfl ?_
      refine xp_iconst (n := 0) rfl (by decide) ?_
      refine xp_aload_n rfl rfl ?_
      refine xp_gfi rfl rfl (by decide) (by decide) (by first | assumption | exact hL.t rfl) ?_
      refine xp_is rfl rfl rfl (Nat.le_of_ble_eq_true rfl) (by decide) (by decide) (by decide) (Nat.le_of_ble_eq_true rfl) rfl (xrcv0 (by decide) _ _) (m112 (by omega) (by omega) (by omega)) rfl ?_
      rw [e2]
      refine xp_ifeq 39 rfl (by decide) (by omega) (fun h26 => ?_) (fun h26 => ?_)
      · exfalso; omega
      · skip
        refine xp_aload_n rfl rfl ?_
        refine xp_gfi rfl rfl (by decide) (by decide) (by first | assumption | exact hL.t rfl) ?_
        refine xp_sipush (n := 2400) rfl (by decide) ?_
        refine xp_icne 45 rfl (by decide) (by omega) (by omega) (fun h36 => ?_) (fun h36 => ?_)
        · skip
          refine xp_aload_n rfl rfl ?_
          refine xp_iconst (n := 0) rfl (by decide) ?_
          refine xp_pfi rfl rfl (by decide) (by decide) (by decide) (by first | assumption | exact hL.t rfl) ?_
          refine xp_iload_n rfl rfl ?_
          refine xp_aload_n rfl rfl ?_
          refine xp_gfi rfl rfl (by decide) (by decide) (by first | assumption | exact hL.t rfl) ?_
          rw [x1]
          refine xp_icge 67 rfl (by decide) (by omega) (by omega) (fun h55 => ?_) (fun h55 => ?_)
          · exfalso; omega
          · skip
            refine xp_aload_n rfl rfl ?_
            refine xp_gfa rfl rfl (by decide) (by decide) (by first | assumption | exact hL.t rfl) (by first | assumption | exact hL.r rfl | exact hL.2.2.2.2.2) ?_
            refine xp_iload_n rfl rfl ?_
            refine xp_iald rfl (by first | assumption | exact hL.t rfl) (by omega) (by omega) ?_
            rw [x2]
            refine xp_goto 68 rfl (by decide) ?_
            refine xp_istore rfl (by decide) ?_
            refine xp_aload_n rfl rfl ?_
            refine xp_gfa rfl rfl (by decide) (by decide) (by first | assumption | exact hL.t rfl) (by first | assumption | exact hL.r rfl | exact hL.2.2.2.2.2) ?_
            refine xp_iload_n rfl rfl ?_
            refine xp_iload_n rfl rfl ?_
            refine xp_iast rfl (by first | assumption | exact hL.t rfl) (by omega) (by omega) ?_
            refine xp_iload_n rfl rfl ?_
            refine xp_aload_n rfl rfl ?_
            refine xp_gfi rfl rfl (by decide) (by decide) (by first | assumption | exact hL.t rfl) ?_
            rw [x3]
            refine xp_icne 98 rfl (by decide) (by omega) (by omega) (fun h82 => ?_) (fun h82 => ?_)
            · skip
              refine xp_iload_n rfl rfl ?_
              refine xp_ifeq 143 rfl (by decide) (by omega) (fun h99 => ?_) (fun h99 => ?_)
              · exfalso; omega
              · skip
                refine xp_iload_n rfl rfl ?_
                refine xp_aload_n rfl rfl ?_
                refine xp_gfi rfl rfl (by decide) (by decide) (by first | assumption | exact hL.t rfl) ?_
                rw [x3]
                refine xp_iconst (n := 1) rfl (by decide) ?_
                refine xp_isub rfl (by omega) ?_
                refine xp_icge 143 rfl (by decide) (by omega) (by omega) (fun h109 => ?_) (fun h109 => ?_)
                · exfalso; omega
                · skip
                  refine xp_aload_n rfl rfl ?_
                  refine xp_gfa rfl rfl (by decide) (by decide) (by first | assumption | exact hL.t rfl) (by first | assumption | exact hL.r rfl | exact hL.2.2.2.2.2) ?_
                  refine xp_aload_n rfl rfl ?_
                  refine xp_gfi rfl rfl (by decide) (by decide) (by first | assumption | exact hL.t rfl) ?_
                  rw [x3]
                  refine xp_iconst (n := 1) rfl (by decide) ?_
                  refine xp_isub rfl (by omega) ?_
                  refine xp_aload_n rfl rfl ?_
                  refine xp_gfa rfl rfl (by decide) (by decide) (by first | assumption | exact hL.t rfl) (by first | assumption | exact hL.r rfl | exact hL.2.2.2.2.2) ?_
                  refine xp_aload_n rfl rfl ?_
                  refine xp_gfi rfl rfl (by decide) (by decide) (by first | assumption | exact hL.t rfl) ?_
                  rw [x3]
                  refine xp_iconst (n := 1) rfl (by decide) ?_
                  refine xp_isub rfl (by omega) ?_
                  refine xp_iald rfl (by first | assumption | exact hL.t rfl) (by omega) (by omega) ?_
                  rw [x4]
                  refine xp_iload_n rfl rfl ?_
                  refine xp_iadd rfl ?_
                  refine xp_iload rfl rfl ?_
                  refine xp_isubR rfl ?_
                  rw [nI_subg (by omega)]
                  refine xp_sipush (n := 255) rfl (by decide) ?_
                  refine xp_iand rfl ?_
                  rw [nI_and255]
                  refine xp_iast rfl (by first | assumption | exact hL.t rfl) (by omega) (by omega) ?_
                  refine xp_iload rfl rfl ?_
                  refine xp_ireturn rfl (by decide) (by decide) (by decide) ?_
                  rfl
            · exfalso; omega
        · exfalso; omega
    · exfalso; omega
  · rw [if_neg hq]
    refine xF_eq (xF_p (Nat.le_of_ble_eq_true rfl) ?_)
    refine xp_iload_n rfl rfl ?_
    refine xp_iconst (n := 0) rfl (by decide) ?_
    refine xp_sipush (n := 255) rfl (by decide) ?_
    refine xp_is rfl rfl rfl (Nat.le_of_ble_eq_true rfl) (by decide) (by decide) (by decide) (Nat.le_of_ble_eq_true rfl) rfl (xrcv0 (by decide) _ _) (m112 (by omega) (by omega) (by omega)) rfl ?_
    rw [e1]
    refine xp_ifne 17 rfl (by decide) (by omega) (fun h8 => ?_) (fun h8 => ?_)
    · skip
      refine xp_iload_n rfl rfl ?_
      refine xp_iconst (n := 0) rfl (by decide) ?_
      refine xp_aload_n rfl rfl ?_
      refine xp_gfi rfl rfl (by decide) (by decide) (by first | assumption | exact hL.t rfl) ?_
      refine xp_is rfl rfl rfl (Nat.le_of_ble_eq_true rfl) (by decide) (by decide) (by decide) (Nat.le_of_ble_eq_true rfl) rfl (xrcv0 (by decide) _ _) (m112 (by omega) (by omega) (by omega)) rfl ?_
      rw [e2]
      refine xp_ifeq 39 rfl (by decide) (by omega) (fun h26 => ?_) (fun h26 => ?_)
      · exfalso; omega
      · skip
        refine xp_aload_n rfl rfl ?_
        refine xp_gfi rfl rfl (by decide) (by decide) (by first | assumption | exact hL.t rfl) ?_
        refine xp_sipush (n := 2400) rfl (by decide) ?_
        refine xp_icne 45 rfl (by decide) (by omega) (by omega) (fun h36 => ?_) (fun h36 => ?_)
        · skip
          refine xp_aload_n rfl rfl ?_
          refine xp_iconst (n := 0) rfl (by decide) ?_
          refine xp_pfi rfl rfl (by decide) (by decide) (by decide) (by first | assumption | exact hL.t rfl) ?_
          refine xp_iload_n rfl rfl ?_
          refine xp_aload_n rfl rfl ?_
          refine xp_gfi rfl rfl (by decide) (by decide) (by first | assumption | exact hL.t rfl) ?_
          rw [x1]
          refine xp_icge 67 rfl (by decide) (by omega) (by omega) (fun h55 => ?_) (fun h55 => ?_)
          · exfalso; omega
          · skip
            refine xp_aload_n rfl rfl ?_
            refine xp_gfa rfl rfl (by decide) (by decide) (by first | assumption | exact hL.t rfl) (by first | assumption | exact hL.r rfl | exact hL.2.2.2.2.2) ?_
            refine xp_iload_n rfl rfl ?_
            refine xp_iald rfl (by first | assumption | exact hL.t rfl) (by omega) (by omega) ?_
            rw [x2]
            refine xp_goto 68 rfl (by decide) ?_
            refine xp_istore rfl (by decide) ?_
            refine xp_aload_n rfl rfl ?_
            refine xp_gfa rfl rfl (by decide) (by decide) (by first | assumption | exact hL.t rfl) (by first | assumption | exact hL.r rfl | exact hL.2.2.2.2.2) ?_
            refine xp_iload_n rfl rfl ?_
            refine xp_iload_n rfl rfl ?_
            refine xp_iast rfl (by first | assumption | exact hL.t rfl) (by omega) (by omega) ?_
            refine xp_iload_n rfl rfl ?_
            refine xp_aload_n rfl rfl ?_
            refine xp_gfi rfl rfl (by decide) (by decide) (by first | assumption | exact hL.t rfl) ?_
            rw [x3]
            refine xp_icne 98 rfl (by decide) (by omega) (by omega) (fun h82 => ?_) (fun h82 => ?_)
            · skip
              refine xp_iload_n rfl rfl ?_
              refine xp_ifeq 143 rfl (by decide) (by omega) (fun h99 => ?_) (fun h99 => ?_)
              · skip
                refine xp_iload rfl rfl ?_
                refine xp_ireturn rfl (by decide) (by decide) (by decide) ?_
                rfl
              · skip
                refine xp_iload_n rfl rfl ?_
                refine xp_aload_n rfl rfl ?_
                refine xp_gfi rfl rfl (by decide) (by decide) (by first | assumption | exact hL.t rfl) ?_
                rw [x3]
                refine xp_iconst (n := 1) rfl (by decide) ?_
                refine xp_isub rfl (by omega) ?_
                refine xp_icge 143 rfl (by decide) (by omega) (by omega) (fun h109 => ?_) (fun h109 => ?_)
                · skip
                  refine xp_iload rfl rfl ?_
                  refine xp_ireturn rfl (by decide) (by decide) (by decide) ?_
                  rfl
                · exfalso; omega
            · exfalso; omega
        · exfalso; omega
    · exfalso; omega
def mApd (B : xQ) (b : Nat) : xQ := xsI (xsI (xsI B 189 14 0) 214 (B.1 189 35) b) 189 35 (B.1 189 35 + 1)
theorem m171n {z : Nat} {T : Nat → Option xT} {R : Nat → Nat → Option Nat} {B : xQ} {w k b s : Nat} (hL : xLay T R w) (hb : b ≤ 255) (hk : k = B.1 189 35) (hz : B.1 189 35 < 2400) : xF 171 [.ref 189, .int (nI k), .int (nI b), .int (nI s)] (xm z T R B) (.inr (some (.int (nI 4294967295))), xm z T R (mApd B b)) := by
  have e1 : mIn b 0 255 = 1 := by rw [mIn_any (by omega) (by omega) (by omega), if_pos (by omega)]
  have e2 : mIn k 0 (B.1 189 35) = 1 := by rw [mIn_any (by omega) (by omega) (by omega), if_pos (by omega)]
  have x1 : (xsI B 189 14 0).1 189 35 = B.1 189 35 := xsI_ne (by omega)
  have x3 : (xsI (xsI B 189 14 0) 214 k b).1 189 35 = B.1 189 35 := by rw [xsI_ne (by omega)]; exact x1
  refine xF_eq (xF_p (Nat.le_of_ble_eq_true rfl) ?_)
  refine xp_iload_n rfl rfl ?_
  refine xp_iconst (n := 0) rfl (by decide) ?_
  refine xp_sipush (n := 255) rfl (by decide) ?_
  refine xp_is rfl rfl rfl (Nat.le_of_ble_eq_true rfl) (by decide) (by decide) (by decide) (Nat.le_of_ble_eq_true rfl) rfl (xrcv0 (by decide) _ _) (m112 (by omega) (by omega) (by omega)) rfl ?_
  rw [e1]
  refine xp_ifne 17 rfl (by decide) (by omega) (fun h8 => ?_) (fun h8 => ?_)
  · skip
    refine xp_iload_n rfl rfl ?_
    refine xp_iconst (n := 0) rfl (by decide) ?_
    refine xp_aload_n rfl rfl ?_
    refine xp_gfi rfl rfl (by decide) (by decide) (by first | assumption | exact hL.t rfl) ?_
    refine xp_is rfl rfl rfl (Nat.le_of_ble_eq_true rfl) (by decide) (by decide) (by decide) (Nat.le_of_ble_eq_true rfl) rfl (xrcv0 (by decide) _ _) (m112 (by omega) (by omega) (by omega)) rfl ?_
    rw [e2]
    refine xp_ifeq 39 rfl (by decide) (by omega) (fun h26 => ?_) (fun h26 => ?_)
    · exfalso; omega
    · skip
      refine xp_aload_n rfl rfl ?_
      refine xp_gfi rfl rfl (by decide) (by decide) (by first | assumption | exact hL.t rfl) ?_
      refine xp_sipush (n := 2400) rfl (by decide) ?_
      refine xp_icne 45 rfl (by decide) (by omega) (by omega) (fun h36 => ?_) (fun h36 => ?_)
      · skip
        refine xp_aload_n rfl rfl ?_
        refine xp_iconst (n := 0) rfl (by decide) ?_
        refine xp_pfi rfl rfl (by decide) (by decide) (by decide) (by first | assumption | exact hL.t rfl) ?_
        refine xp_iload_n rfl rfl ?_
        refine xp_aload_n rfl rfl ?_
        refine xp_gfi rfl rfl (by decide) (by decide) (by first | assumption | exact hL.t rfl) ?_
        rw [x1]
        refine xp_icge 67 rfl (by decide) (by omega) (by omega) (fun h55 => ?_) (fun h55 => ?_)
        · skip
          refine xp_iconst (n := 4294967295) rfl (by decide) ?_
          refine xp_istore rfl (by decide) ?_
          refine xp_aload_n rfl rfl ?_
          refine xp_gfa rfl rfl (by decide) (by decide) (by first | assumption | exact hL.t rfl) (by first | assumption | exact hL.r rfl | exact hL.2.2.2.2.2) ?_
          refine xp_iload_n rfl rfl ?_
          refine xp_iload_n rfl rfl ?_
          refine xp_iast rfl (by first | assumption | exact hL.t rfl) (by omega) (by omega) ?_
          refine xp_iload_n rfl rfl ?_
          refine xp_aload_n rfl rfl ?_
          refine xp_gfi rfl rfl (by decide) (by decide) (by first | assumption | exact hL.t rfl) ?_
          rw [x3]
          refine xp_icne 98 rfl (by decide) (by omega) (by omega) (fun h82 => ?_) (fun h82 => ?_)
          · exfalso; omega
          · skip
            refine xp_aload_n rfl rfl ?_
            refine xp_dup rfl rfl ?_
            refine xp_gfi rfl rfl (by decide) (by decide) (by first | assumption | exact hL.t rfl) ?_
            rw [x3]
            refine xp_iconst (n := 1) rfl (by decide) ?_
            refine xp_iadd rfl ?_
            refine xp_pfi rfl rfl (by decide) (by decide) (by decide) (by first | assumption | exact hL.t rfl) ?_
            refine xp_goto 143 rfl (by decide) ?_
            refine xp_iload rfl rfl ?_
            refine xp_ireturn rfl (by decide) (by decide) (by decide) ?_
            rw [hk]
            rfl
        · exfalso; omega
      · exfalso; omega
  · exfalso; omega
theorem m171b {z : Nat} {T : Nat → Option xT} {R : Nat → Nat → Option Nat} {B : xQ} {w k b s : Nat} (hL : xLay T R w) (hb : b ≤ 255) (hk : k < 2 ^ 32) (hz : B.1 189 35 ≤ 2400) (hq : ¬ (k ≤ B.1 189 35 ∧ B.1 189 35 < 2400)) : xF 171 [.ref 189, .int (nI k), .int (nI b), .int (nI s)] (xm z T R B) (.inr (some (.int (nI 0))), xm z T R (xsI B 189 14 2)) := by
  have e1 : mIn b 0 255 = 1 := by rw [mIn_any (by omega) (by omega) (by omega), if_pos (by omega)]
  have l2 := mIn_le k 0 (B.1 189 35)
  have e2 : mIn k 0 (B.1 189 35) = 1 → k ≤ B.1 189 35 := fun x => by
    rw [mIn_any hk (by omega) (by omega)] at x
    by_cases q : 0 ≤ k ∧ k ≤ B.1 189 35
    · exact q.2
    · rw [if_neg q] at x; omega
  refine xF_eq (xF_p (Nat.le_of_ble_eq_true rfl) ?_)
  refine xp_iload_n rfl rfl ?_
  refine xp_iconst (n := 0) rfl (by decide) ?_
  refine xp_sipush (n := 255) rfl (by decide) ?_
  refine xp_is rfl rfl rfl (Nat.le_of_ble_eq_true rfl) (by decide) (by decide) (by decide) (Nat.le_of_ble_eq_true rfl) rfl (xrcv0 (by decide) _ _) (m112 (by omega) (by omega) (by omega)) rfl ?_
  rw [e1]
  refine xp_ifne 17 rfl (by decide) (by omega) (fun h8 => ?_) (fun h8 => ?_)
  · skip
    refine xp_iload_n rfl rfl ?_
    refine xp_iconst (n := 0) rfl (by decide) ?_
    refine xp_aload_n rfl rfl ?_
    refine xp_gfi rfl rfl (by decide) (by decide) (by first | assumption | exact hL.t rfl) ?_
    refine xp_is rfl rfl rfl (Nat.le_of_ble_eq_true rfl) (by decide) (by decide) (by decide) (Nat.le_of_ble_eq_true rfl) rfl (xrcv0 (by decide) _ _) (m112 hk (by omega) (by omega)) rfl ?_
    refine xp_ifeq 39 rfl (by decide) (by omega) (fun h26 => ?_) (fun h26 => ?_)
    · skip
      refine xp_aload_n rfl rfl ?_
      refine xp_iconst (n := 2) rfl (by decide) ?_
      refine xp_iv rfl rfl (Nat.le_of_ble_eq_true rfl) (by decide) (by decide) (by decide) (Nat.le_of_ble_eq_true rfl) rfl (xrcv1 (by decide) (by first | assumption | exact hL.t rfl)) (m113 hL) rfl ?_
      refine xp_ireturn rfl (by decide) (by decide) (by decide) ?_
      rfl
    · skip
      have y := e2 (by omega)
      refine xp_aload_n rfl rfl ?_
      refine xp_gfi rfl rfl (by decide) (by decide) (by first | assumption | exact hL.t rfl) ?_
      refine xp_sipush (n := 2400) rfl (by decide) ?_
      refine xp_icne 45 rfl (by decide) (by omega) (by omega) (fun h36 => ?_) (fun h36 => ?_)
      · exfalso; omega
      · skip
        refine xp_aload_n rfl rfl ?_
        refine xp_iconst (n := 2) rfl (by decide) ?_
        refine xp_iv rfl rfl (Nat.le_of_ble_eq_true rfl) (by decide) (by decide) (by decide) (Nat.le_of_ble_eq_true rfl) rfl (xrcv1 (by decide) (by first | assumption | exact hL.t rfl)) (m113 hL) rfl ?_
        refine xp_ireturn rfl (by decide) (by decide) (by decide) ?_
        rfl
  · exfalso; omega
theorem m171a {z : Nat} {T : Nat → Option xT} {R : Nat → Nat → Option Nat} {B : xQ} {w k b s : Nat} (hL : xLay T R w) (hb : b < 2 ^ 32) (hq : ¬ b ≤ 255) : xF 171 [.ref 189, .int (nI k), .int (nI b), .int (nI s)] (xm z T R B) (.inr (some (.int (nI 0))), xm z T R (xsI B 189 14 1)) := by
  have e1 : mIn b 0 255 = 0 := by rw [mIn_any hb (by omega) (by omega), if_neg (by omega)]
  refine xF_eq (xF_p (Nat.le_of_ble_eq_true rfl) ?_)
  refine xp_iload_n rfl rfl ?_
  refine xp_iconst (n := 0) rfl (by decide) ?_
  refine xp_sipush (n := 255) rfl (by decide) ?_
  refine xp_is rfl rfl rfl (Nat.le_of_ble_eq_true rfl) (by decide) (by decide) (by decide) (Nat.le_of_ble_eq_true rfl) rfl (xrcv0 (by decide) _ _) (m112 hb (by omega) (by omega)) rfl ?_
  rw [e1]
  refine xp_ifne 17 rfl (by decide) (by omega) (fun h8 => ?_) (fun h8 => ?_)
  · exfalso; omega
  · skip
    refine xp_aload_n rfl rfl ?_
    refine xp_iconst (n := 1) rfl (by decide) ?_
    refine xp_iv rfl rfl (Nat.le_of_ble_eq_true rfl) (by decide) (by decide) (by decide) (Nat.le_of_ble_eq_true rfl) rfl (xrcv1 (by decide) (by first | assumption | exact hL.t rfl)) (m113 hL) rfl ?_
    refine xp_ireturn rfl (by decide) (by decide) (by decide) ?_
    rfl
theorem pub_patch (k b s : Nat) (hk : k < 2 ^ 32) (hb : b < 2 ^ 32) (hs : s = 0 ∨ s = 1) : Pub 13 171 (mpO [(0, 1), (2, 2)]) [.int (nI k), .int (nI b), .int (nI s)] := by
  refine Pub.mk rfl rfl gC3 gM3 (fun z T R w n A hn hI => ?_)
  obtain ⟨hL, hr, hc, hT, hR, h3, h4⟩ := hI
  have h0 := hc.1
  have hz := hR.2.1.2.1
  by_cases hb2 : b ≤ 255
  · by_cases hq : k ≤ A.1 99 1 ∧ A.1 99 1 < 2400
    · by_cases hkn : k = A.1 99 1
      · have a1 : ∀ a j, a ≠ 99 → (a ≠ 100 ∨ j ≠ A.1 99 1) → (aApd A b).1 a j = A.1 a j := fun a j q q2 => by unfold aApd; rw [xsI_ne (Or.inl q), xsI_ne q2]
        have a2 : (aApd A b).1 99 1 = A.1 99 1 + 1 := xsI_eq
        have a3 : (aApd A b).1 100 (A.1 99 1) = b := by unfold aApd; rw [xsI_ne (by omega), xsI_eq]; omega
        refine Or.inr ⟨_, _, ⟨_, Or.inl rfl⟩, c13n hL hb2 hkn hq.2, hc.oth (fun a j q => a1 a j (by omega) (by omega)) (fun _ _ _ => rfl), hT.oth hc.cnt hc.2.2.2.2.2 (fun a j q => a1 a j (by omega) (by omega)), by rw [a1 11 3 (by omega) (by omega)]; omega, by rw [a1 11 4 (by omega) (by omega)]; omega, fun B hB => ?_⟩
        obtain ⟨i1, i2, i3, i4⟩ := hB.2.1
        have m := m171n (z := z) (B := B) (k := k) (b := b) (s := s) hL hb2 (by omega) (by omega)
        have b1 : ∀ a j, (a ≠ 189 ∨ (j ≠ 14 ∧ j ≠ 35)) → (a ≠ 214 ∨ j ≠ B.1 189 35) → (mApd B b).1 a j = B.1 a j := fun a j q q2 => by unfold mApd; rw [xsI_ne (by omega), xsI_ne q2, xsI_ne (by omega)]
        have b2 : (mApd B b).1 189 35 = B.1 189 35 + 1 := xsI_eq
        have b3 : (mApd B b).1 214 (B.1 189 35) = b := by unfold mApd; rw [xsI_ne (by omega), xsI_eq]
        have b4 : (mApd B b).1 189 14 = 0 := by unfold mApd; rw [xsI_ne (by omega), xsI_ne (by omega), xsI_eq]
        refine ⟨_, m, by rw [b4], hB.img hc (fun a j _ q q2 _ => a1 a j q (Or.inl q2)) (fun _ _ _ => rfl) (fun a j q q2 q3 => by unfold relB at q; exact b1 a j (by omega) (by omega)) (fun _ _ _ => rfl) ?_⟩
        unfold RelI
        rw [a2, b2, b1 _ _ (by omega) (by omega), a1 102 2 (by omega) (by omega), i1]
        refine ⟨rfl, by omega, i3, fun i hi => ?_⟩
        by_cases e : i = A.1 99 1
        · rw [e, a3, ← i1, b3]; exact ⟨rfl, by omega⟩
        · rw [b1 _ _ (by omega) (by omega), a1 _ _ (by omega) (by omega)]
          exact i4 i (by omega)
      · have hk2 : k < A.1 99 1 := by omega
        have hko := (hR.2.1.2.2.2 k hk2).2
        have hcl := c13 (z := z) (A := A) (k := k) (b := b) (s := s) hL hb2 hk2 hq.2 hs hko
        have a1 : ∀ a j, a ≠ 100 → (aChg A k b s).1 a j = A.1 a j := fun a j q => by
          unfold aChg
          split
          · rw [xsI_ne (Or.inl q), xsI_ne (Or.inl q)]
          · exact xsI_ne (Or.inl q)
        have a2 : ∀ i, (aChg A k b s).1 100 i = if s = 1 ∧ k ≠ A.1 99 1 - 1 ∧ i = A.1 99 1 - 1 then nSum (A.1 100 (A.1 99 1 - 1)) b (A.1 100 k) else if i = k then b else A.1 100 i := fun i => by
          unfold aChg
          by_cases q : s = 1 ∧ k ≠ A.1 99 1 - 1
          · rw [if_pos q]
            by_cases e : i = A.1 99 1 - 1
            · rw [e, xsI_eq, if_pos ⟨q.1, q.2, rfl⟩]
            · rw [if_neg (fun h => e h.2.2), xsI_ne (Or.inr e)]
              by_cases e2 : i = k
              · rw [e2, xsI_eq, if_pos rfl]
              · rw [xsI_ne (Or.inr e2), if_neg e2]
          · rw [if_neg q, if_neg (fun h => q ⟨h.1, h.2.1⟩)]
            by_cases e2 : i = k
            · rw [e2, xsI_eq, if_pos rfl]
            · rw [xsI_ne (Or.inr e2), if_neg e2]
        have aj : (aChg A k b s).2 = A.2 := by unfold aChg; split <;> rfl
        generalize aChg A k b s = D at *
        refine Or.inr ⟨_, D, ⟨_, Or.inl rfl⟩, hcl, hc.oth (fun a j q => a1 a j (by omega)) (fun a j _ => by rw [aj]), hT.oth hc.cnt hc.2.2.2.2.2 (fun a j q => a1 a j (by omega)), by rw [a1 11 3 (by omega)]; omega, by rw [a1 11 4 (by omega)]; omega, fun B hB => ?_⟩
        obtain ⟨i1, i2, i3, i4⟩ := hB.2.1
        have m := m171 (z := z) (B := B) (k := k) (b := b) (s := s) hL hb2 (by omega) (by omega) hs (by rw [(i4 k hk2).1]; exact hko)
        have b1 : ∀ a j, a ≠ 214 → (a ≠ 189 ∨ j ≠ 14) → (mChg B k b s).1 a j = B.1 a j := fun a j q q2 => by
          unfold mChg
          split
          · rw [xsI_ne (Or.inl q), xsI_ne (Or.inl q), xsI_ne q2]
          · rw [xsI_ne (Or.inl q), xsI_ne q2]
        have b4 : (mChg B k b s).1 189 14 = 0 := by
          unfold mChg
          split
          · rw [xsI_ne (by omega), xsI_ne (by omega), xsI_eq]
          · rw [xsI_ne (by omega), xsI_eq]
        have b2 : ∀ i, (mChg B k b s).1 214 i = if s = 1 ∧ k ≠ B.1 189 35 - 1 ∧ i = B.1 189 35 - 1 then nSum (B.1 214 (B.1 189 35 - 1)) b (B.1 214 k) else if i = k then b else B.1 214 i := fun i => by
          unfold mChg
          by_cases q : s = 1 ∧ k ≠ B.1 189 35 - 1
          · rw [if_pos q]
            by_cases e : i = B.1 189 35 - 1
            · rw [e, xsI_eq, if_pos ⟨q.1, q.2, rfl⟩]
            · rw [if_neg (fun h => e h.2.2), xsI_ne (Or.inr e)]
              by_cases e2 : i = k
              · rw [e2, xsI_eq, if_pos rfl]
              · rw [xsI_ne (Or.inr e2), if_neg e2, xsI_ne (by omega)]
          · rw [if_neg q, if_neg (fun h => q ⟨h.1, h.2.1⟩)]
            by_cases e2 : i = k
            · rw [e2, xsI_eq, if_pos rfl]
            · rw [xsI_ne (Or.inr e2), if_neg e2, xsI_ne (by omega)]
        have bj : (mChg B k b s).2 = B.2 := by unfold mChg; split <;> rfl
        rw [(i4 k hk2).1] at m
        generalize mChg B k b s = E at *
        refine ⟨E, m, by rw [b4], hB.img hc (fun a j _ _ q2 _ => a1 a j q2) (fun a j _ => by rw [aj]) (fun a j q q2 q3 => by unfold relB at q; exact b1 a j q3 (by omega)) (fun a j _ => by rw [bj]) ?_⟩
        unfold RelI
        rw [a1 99 1 (by omega), a1 102 2 (by omega), b1 _ _ (by omega) (by omega), b1 _ _ (by omega) (by omega)]
        refine ⟨i1, i2, i3, fun i hi => ?_⟩
        rw [a2, b2, i1, (i4 k hk2).1, (i4 (A.1 99 1 - 1) (by omega)).1, (i4 i hi).1]
        refine ⟨rfl, ?_⟩
        split
        · unfold nSum; omega
        · split
          · omega
          · exact (i4 i hi).2
    · refine Or.inl ⟨2, by decide, c13b hL hb2 hk hz hq, fun B hB => ?_⟩
      have i1 := hB.2.1.1
      exact ⟨_, _, m171b hL hb2 hk (by omega) (by rw [i1]; exact hq), by rw [xsI_eq]; rfl, hB.thr hc⟩
  · exact Or.inl ⟨0, by decide, c13a hL hb hb2, fun B hB => ⟨_, _, m171a hL hb hb2, by rw [xsI_eq]; rfl, hB.thr hc⟩⟩
