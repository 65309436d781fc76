-- THE ENGINE: its methods as functions of the memory: the error (0: none), the memory
def aCombine (op : Nat) (x y : Int64) : Int64 := if op = 8 then x + y else if op = 9 then x - y else if op = 10 then x * y else if y = 0 then 0 else x / y
def aPop (A : xQ) (f n : Nat) : xQ := xsI A f 3 (A.1 f 3 - n)
def aAnswer (A : xQ) (f b : Nat) : Nat × xQ := aPush (aPop A f 2) f 1 (if b = 0 then 0 else 1)
theorem c26t {z : Nat} {T : Nat → Option xT} {R : Nat → Nat → Option Nat} {A : xQ} {a ka na n i : Nat} (hC : xC0 T R a ka na n) (hi : i < n) (hn : n < 2 ^ 31) (hk : A.1 ka i = 1 ∨ A.1 ka i = 2) : xF 26 [.ref a, .int (nI i)] (xm z T R A) (.inr (some (.int (nI 1))), xm z T R A) := by
  have h := c26 (z := z) (A := A) hC hi hn (by omega)
  rw [if_pos hk] at h
  exact h
theorem c26f {z : Nat} {T : Nat → Option xT} {R : Nat → Nat → Option Nat} {A : xQ} {a ka na n i : Nat} (hC : xC0 T R a ka na n) (hi : i < n) (hn : n < 2 ^ 31) (hk4 : A.1 ka i ≤ 4) (hk : ¬ (A.1 ka i = 1 ∨ A.1 ka i = 2)) : xF 26 [.ref a, .int (nI i)] (xm z T R A) (.inr (some (.int (nI 0))), xm z T R A) := by
  have h := c26 (z := z) (A := A) hC hi hn (by omega)
  rw [if_neg hk] at h
  exact h
theorem aPop3 (A : xQ) (f n : Nat) : (aPop A f n).1 f 3 = A.1 f 3 - n := xsI_eq
theorem c37 {z : Nat} {T : Nat → Option xT} {R : Nat → Nat → Option Nat} {A : xQ} {op : Nat} {x y : Int64} (h1 : 8 ≤ op) (h2 : op ≤ 11) : xF 37 [.int (nI op), .long x, .long y] (xm z T R A) (.inr (some (.long (aCombine op x y))), xm z T R A) := by
  have h3 : op = 8 ∨ op = 9 ∨ op = 10 ∨ op = 11 := by omega
  rcases h3 with rfl | rfl | rfl | rfl
  · skip
    refine xF_eq (xF_p (Nat.le_of_ble_eq_true rfl) ?_)
    refine xp_iload_n rfl rfl ?_
    refine xp_tsw 28 rfl (by omega) (by first | rfl | (rw [if_pos (by omega)]) | (rw [if_neg (by omega)]; rfl)) (by decide) ?_
    refine xp_lload_n rfl rfl ?_
    refine xp_lload_n rfl rfl ?_
    refine xp_ladd rfl ?_
    refine xp_lreturn rfl (by decide) (by decide) (by decide) ?_
    rfl
  · skip
    refine xF_eq (xF_p (Nat.le_of_ble_eq_true rfl) ?_)
    refine xp_iload_n rfl rfl ?_
    refine xp_tsw 32 rfl (by omega) (by first | rfl | (rw [if_pos (by omega)]) | (rw [if_neg (by omega)]; rfl)) (by decide) ?_
    refine xp_lload_n rfl rfl ?_
    refine xp_lload_n rfl rfl ?_
    refine xp_lsub rfl ?_
    refine xp_lreturn rfl (by decide) (by decide) (by decide) ?_
    rfl
  · skip
    refine xF_eq (xF_p (Nat.le_of_ble_eq_true rfl) ?_)
    refine xp_iload_n rfl rfl ?_
    refine xp_tsw 36 rfl (by omega) (by first | rfl | (rw [if_pos (by omega)]) | (rw [if_neg (by omega)]; rfl)) (by decide) ?_
    refine xp_lload_n rfl rfl ?_
    refine xp_lload_n rfl rfl ?_
    refine xp_lmul rfl ?_
    refine xp_lreturn rfl (by decide) (by decide) (by decide) ?_
    rfl
  · by_cases h0 : y = 0
    · have e : aCombine 11 x y = 0 := by simp [aCombine, h0]
      rw [e]
      refine xF_eq (xF_p (Nat.le_of_ble_eq_true rfl) ?_)
      refine xp_iload_n rfl rfl ?_
      refine xp_tsw 40 rfl (by omega) (by first | rfl | (rw [if_pos (by omega)]) | (rw [if_neg (by omega)]; rfl)) (by decide) ?_
      refine xp_lload_n rfl rfl ?_
      refine xp_lconst rfl rfl ?_
      refine xp_lcne 50 rfl rfl (by decide) (fun h42 => ?_) (fun h42 => ?_)
      · exact absurd h0 h42
      · skip
        refine xp_lconst rfl rfl ?_
        refine xp_goto 53 rfl (by decide) ?_
        refine xp_lreturn rfl (by decide) (by decide) (by decide) ?_
        rfl
    · have e : aCombine 11 x y = x / y := by simp [aCombine, h0]
      rw [e]
      refine xF_eq (xF_p (Nat.le_of_ble_eq_true rfl) ?_)
      refine xp_iload_n rfl rfl ?_
      refine xp_tsw 40 rfl (by omega) (by first | rfl | (rw [if_pos (by omega)]) | (rw [if_neg (by omega)]; rfl)) (by decide) ?_
      refine xp_lload_n rfl rfl ?_
      refine xp_lconst rfl rfl ?_
      refine xp_lcne 50 rfl rfl (by decide) (fun h42 => ?_) (fun h42 => ?_)
      · skip
        refine xp_lload_n rfl rfl ?_
        refine xp_lload_n rfl rfl ?_
        refine xp_ldiv rfl h0 ?_
        refine xp_lreturn rfl (by decide) (by decide) (by decide) ?_
        rfl
      · exact absurd h42 h0
theorem c39 {z : Nat} {T : Nat → Option xT} {R : Nat → Nat → Option Nat} {A : xQ} {f b w : Nat} (hL : xLay T R w) (hF : xF0 T R f) (h2 : 2 ≤ A.1 f 3) (h6 : A.1 f 3 ≤ 6) (hb : b = 0 ∨ b = 1) : xF 39 [.ref 11, .ref f, .int (nI b)] (xm z T R A) (.inr (some (.int (nI (aAnswer A f b).1))), xm z T R (aAnswer A f b).2) := by
  obtain ⟨f1, f2, hC⟩ := hF
  have hF : xF0 T R f := ⟨f1, f2, hC⟩
  have hp := aPop3 A f 2
  rcases hb with rfl | rfl
  · skip
    refine xF_eq (xF_p (Nat.le_of_ble_eq_true rfl) ?_)
    refine xp_aload_n rfl rfl ?_
    refine xp_dup rfl rfl ?_
    refine xp_gfi rfl rfl (by decide) (by decide) (by first | assumption | exact hL.t rfl) ?_
    refine xp_iconst (n := 2) rfl (by decide) ?_
    refine xp_isub rfl (by omega) ?_
    refine xp_pfi rfl rfl (by decide) (by decide) (by decide) (by first | assumption | exact hL.t rfl) ?_
    refine xp_aload_n rfl rfl ?_
    refine xp_iconst (n := 1) rfl (by decide) ?_
    refine xp_iload_n rfl rfl ?_
    refine xp_ifeq 20 rfl (by decide) (by omega) (fun h13 => ?_) (fun h13 => ?_)
    · skip
      refine xp_lconst rfl rfl ?_
      refine xp_iv rfl rfl (Nat.le_of_ble_eq_true rfl) (by decide) (by decide) (by decide) (Nat.le_of_ble_eq_true rfl) rfl (xrcv1 (by decide) (by first | assumption | exact hL.t rfl)) (c55a (A := aPop A f 2) hF (by omega)) rfl ?_
      refine xp_ireturn rfl (by decide) (by decide) (by decide) ?_
      rfl
    · exfalso; omega
  · skip
    refine xF_eq (xF_p (Nat.le_of_ble_eq_true rfl) ?_)
    refine xp_aload_n rfl rfl ?_
    refine xp_dup rfl rfl ?_
    refine xp_gfi rfl rfl (by decide) (by decide) (by first | assumption | exact hL.t rfl) ?_
    refine xp_iconst (n := 2) rfl (by decide) ?_
    refine xp_isub rfl (by omega) ?_
    refine xp_pfi rfl rfl (by decide) (by decide) (by decide) (by first | assumption | exact hL.t rfl) ?_
    refine xp_aload_n rfl rfl ?_
    refine xp_iconst (n := 1) rfl (by decide) ?_
    refine xp_iload_n rfl rfl ?_
    refine xp_ifeq 20 rfl (by decide) (by omega) (fun h13 => ?_) (fun h13 => ?_)
    · exfalso; omega
    · skip
      refine xp_lconst rfl rfl ?_
      refine xp_goto 21 rfl (by decide) ?_
      refine xp_iv rfl rfl (Nat.le_of_ble_eq_true rfl) (by decide) (by decide) (by decide) (Nat.le_of_ble_eq_true rfl) rfl (xrcv1 (by decide) (by first | assumption | exact hL.t rfl)) (c55a (A := aPop A f 2) hF (by omega)) rfl ?_
      refine xp_ireturn rfl (by decide) (by decide) (by decide) ?_
      rfl
def aCompute (A : xQ) (f op : Nat) : Nat × xQ := if ¬ ((A.1 (f + 2) (3 + A.1 f 3) = 1 ∨ A.1 (f + 2) (3 + A.1 f 3) = 2) ∧ (A.1 (f + 2) (4 + A.1 f 3) = 1 ∨ A.1 (f + 2) (4 + A.1 f 3) = 2)) then (2, A) else if op = 11 ∧ A.2 (f + 3) (4 + A.1 f 3) = 0 then (1, A) else if A.1 (f + 2) (3 + A.1 f 3) = 2 ∨ A.1 (f + 2) (4 + A.1 f 3) = 2 then aPush (aPop A f 2) f 2 (aCombine op (A.2 (f + 3) (3 + A.1 f 3)) (A.2 (f + 3) (4 + A.1 f 3))) else aPush (aPop A f 2) f 1 (aCombine op (A.2 (f + 3) (3 + A.1 f 3)) (A.2 (f + 3) (4 + A.1 f 3))).toInt32.toInt64
theorem c36 {z : Nat} {T : Nat → Option xT} {R : Nat → Nat → Option Nat} {A : xQ} {f op w : Nat} (hL : xLay T R w) (hF : xF0 T R f) (h2 : 2 ≤ A.1 f 3) (h6 : A.1 f 3 ≤ 6) (hk1 : A.1 (f + 2) (3 + A.1 f 3) ≤ 4) (hk2 : A.1 (f + 2) (4 + A.1 f 3) ≤ 4) (ho : 8 ≤ op) (ho2 : op ≤ 11) : xF 36 [.ref 11, .ref f, .int (nI op)] (xm z T R A) (.inr (some (.int (nI (aCompute A f op).1))), xm z T R (aCompute A f op).2) := by
  have hF0 := hF
  obtain ⟨f1, f2, hC⟩ := hF
  obtain ⟨c1, c2, c3, c4, c5⟩ := id hC
  have hp := aPop3 A f 2
  have e0 : 4 + A.1 f 3 - 1 = 3 + A.1 f 3 := by omega
  by_cases hx : A.1 (f + 2) (3 + A.1 f 3) = 1 ∨ A.1 (f + 2) (3 + A.1 f 3) = 2
  · by_cases hy : A.1 (f + 2) (4 + A.1 f 3) = 1 ∨ A.1 (f + 2) (4 + A.1 f 3) = 2
    · by_cases hz : op = 11 ∧ A.2 (f + 3) (4 + A.1 f 3) = 0
      · have e : aCompute A f op = (1, A) := by unfold aCompute; rw [if_neg (fun z => z ⟨hx, hy⟩), if_pos hz]
        rw [e]
        refine xF_eq (xF_p (Nat.le_of_ble_eq_true rfl) ?_)
        refine xp_aload_n rfl rfl ?_
        refine xp_gfa rfl rfl (by decide) (by decide) (by first | assumption | exact hL.t rfl) (by first | assumption | exact hL.r rfl | exact hL.2.2.2.2.2) ?_
        refine xp_astore_n rfl (by decide) ?_
        refine xp_aload_n rfl rfl ?_
        refine xp_iv rfl rfl (Nat.le_of_ble_eq_true rfl) (by decide) (by decide) (by decide) (Nat.le_of_ble_eq_true rfl) rfl (xrcv1 (by decide) (by first | assumption | exact hL.t rfl)) (c54 hF0) rfl ?_
        refine xp_iconst (n := 1) rfl (by decide) ?_
        refine xp_isub rfl (by omega) ?_
        rw [e0]
        refine xp_istore rfl (by decide) ?_
        refine xp_aload_n rfl rfl ?_
        refine xp_iv rfl rfl (Nat.le_of_ble_eq_true rfl) (by decide) (by decide) (by decide) (Nat.le_of_ble_eq_true rfl) rfl (xrcv1 (by decide) (by first | assumption | exact hL.t rfl)) (c54 hF0) rfl ?_
        refine xp_istore rfl (by decide) ?_
        refine xp_aload_n rfl rfl ?_
        refine xp_iload rfl rfl ?_
        refine xp_iv rfl rfl (Nat.le_of_ble_eq_true rfl) (by decide) (by decide) (by decide) (Nat.le_of_ble_eq_true rfl) rfl (xrcv1 (by decide) (by first | assumption | exact hL.t rfl)) (c26t hC (by omega) (by omega) hx) rfl ?_
        refine xp_ifeq 37 rfl (by decide) (by omega) (fun h25 => ?_) (fun h25 => ?_)
        · exfalso; omega
        · skip
          refine xp_aload_n rfl rfl ?_
          refine xp_iload rfl rfl ?_
          refine xp_iv rfl rfl (Nat.le_of_ble_eq_true rfl) (by decide) (by decide) (by decide) (Nat.le_of_ble_eq_true rfl) rfl (xrcv1 (by decide) (by first | assumption | exact hL.t rfl)) (c26t hC (by omega) (by omega) hy) rfl ?_
          refine xp_ifne 39 rfl (by decide) (by omega) (fun h34 => ?_) (fun h34 => ?_)
          · skip
            refine xp_iload_n rfl rfl ?_
            refine xp_bipush (n := 11) rfl (by decide) ?_
            refine xp_icne 59 rfl (by decide) (by omega) (by omega) (fun h42 => ?_) (fun h42 => ?_)
            · exact absurd hz.1 h42
            · skip
              refine xp_aload_n rfl rfl ?_
              refine xp_gfa rfl rfl (by decide) (by decide) (by first | assumption | exact hL.t rfl) (by first | assumption | exact hL.r rfl | exact hL.2.2.2.2.2) ?_
              refine xp_iload rfl rfl ?_
              refine xp_lald rfl (by first | assumption | exact hL.t rfl) (by omega) (by omega) ?_
              refine xp_lconst rfl rfl ?_
              refine xp_lcne 59 rfl rfl (by decide) (fun h53 => ?_) (fun h53 => ?_)
              · exact absurd hz.2 h53
              · skip
                refine xp_iconst (n := 1) rfl (by decide) ?_
                refine xp_ireturn rfl (by decide) (by decide) (by decide) ?_
                rfl
          · exfalso; omega
      · by_cases hl : A.1 (f + 2) (3 + A.1 f 3) = 2 ∨ A.1 (f + 2) (4 + A.1 f 3) = 2
        · have e : aCompute A f op = aPush (aPop A f 2) f 2 (aCombine op (A.2 (f + 3) (3 + A.1 f 3)) (A.2 (f + 3) (4 + A.1 f 3))) := by unfold aCompute; rw [if_neg (fun z => z ⟨hx, hy⟩), if_neg hz, if_pos hl]
          rw [e]
          refine xF_eq (xF_p (Nat.le_of_ble_eq_true rfl) ?_)
          refine xp_aload_n rfl rfl ?_
          refine xp_gfa rfl rfl (by decide) (by decide) (by first | assumption | exact hL.t rfl) (by first | assumption | exact hL.r rfl | exact hL.2.2.2.2.2) ?_
          refine xp_astore_n rfl (by decide) ?_
          refine xp_aload_n rfl rfl ?_
          refine xp_iv rfl rfl (Nat.le_of_ble_eq_true rfl) (by decide) (by decide) (by decide) (Nat.le_of_ble_eq_true rfl) rfl (xrcv1 (by decide) (by first | assumption | exact hL.t rfl)) (c54 hF0) rfl ?_
          refine xp_iconst (n := 1) rfl (by decide) ?_
          refine xp_isub rfl (by omega) ?_
          rw [e0]
          refine xp_istore rfl (by decide) ?_
          refine xp_aload_n rfl rfl ?_
          refine xp_iv rfl rfl (Nat.le_of_ble_eq_true rfl) (by decide) (by decide) (by decide) (Nat.le_of_ble_eq_true rfl) rfl (xrcv1 (by decide) (by first | assumption | exact hL.t rfl)) (c54 hF0) rfl ?_
          refine xp_istore rfl (by decide) ?_
          refine xp_aload_n rfl rfl ?_
          refine xp_iload rfl rfl ?_
          refine xp_iv rfl rfl (Nat.le_of_ble_eq_true rfl) (by decide) (by decide) (by decide) (Nat.le_of_ble_eq_true rfl) rfl (xrcv1 (by decide) (by first | assumption | exact hL.t rfl)) (c26t hC (by omega) (by omega) hx) rfl ?_
          refine xp_ifeq 37 rfl (by decide) (by omega) (fun h25 => ?_) (fun h25 => ?_)
          · exfalso; omega
          · skip
            refine xp_aload_n rfl rfl ?_
            refine xp_iload rfl rfl ?_
            refine xp_iv rfl rfl (Nat.le_of_ble_eq_true rfl) (by decide) (by decide) (by decide) (Nat.le_of_ble_eq_true rfl) rfl (xrcv1 (by decide) (by first | assumption | exact hL.t rfl)) (c26t hC (by omega) (by omega) hy) rfl ?_
            refine xp_ifne 39 rfl (by decide) (by omega) (fun h34 => ?_) (fun h34 => ?_)
            · skip
              refine xp_iload_n rfl rfl ?_
              refine xp_bipush (n := 11) rfl (by decide) ?_
              refine xp_icne 59 rfl (by decide) (by omega) (by omega) (fun h42 => ?_) (fun h42 => ?_)
              · skip
                refine xp_iload_n rfl rfl ?_
                refine xp_aload_n rfl rfl ?_
                refine xp_gfa rfl rfl (by decide) (by decide) (by first | assumption | exact hL.t rfl) (by first | assumption | exact hL.r rfl | exact hL.2.2.2.2.2) ?_
                refine xp_iload rfl rfl ?_
                refine xp_lald rfl (by first | assumption | exact hL.t rfl) (by omega) (by omega) ?_
                refine xp_aload_n rfl rfl ?_
                refine xp_gfa rfl rfl (by decide) (by decide) (by first | assumption | exact hL.t rfl) (by first | assumption | exact hL.r rfl | exact hL.2.2.2.2.2) ?_
                refine xp_iload rfl rfl ?_
                refine xp_lald rfl (by first | assumption | exact hL.t rfl) (by omega) (by omega) ?_
                refine xp_is rfl rfl rfl (Nat.le_of_ble_eq_true rfl) (by decide) (by decide) (by decide) (Nat.le_of_ble_eq_true rfl) rfl (xrcv0 (by decide) _ _) (c37 ho ho2) rfl ?_
                refine xp_lstore rfl (by decide) ?_
                refine xp_aload_n rfl rfl ?_
                refine xp_gfa rfl rfl (by decide) (by decide) (by first | assumption | exact hL.t rfl) (by first | assumption | exact hL.r rfl | exact hL.2.2.2.2.2) ?_
                refine xp_iload rfl rfl ?_
                refine xp_iald rfl (by first | assumption | exact hL.t rfl) (by omega) (by omega) ?_
                refine xp_iconst (n := 2) rfl (by decide) ?_
                refine xp_iceq 101 rfl (by decide) (by omega) (by omega) (fun h87 => ?_) (fun h87 => ?_)
                · skip
                  refine xp_iconst (n := 1) rfl (by decide) ?_
                  refine xp_goto 106 rfl (by decide) ?_
                  refine xp_istore rfl (by decide) ?_
                  refine xp_aload_n rfl rfl ?_
                  refine xp_dup rfl rfl ?_
                  refine xp_gfi rfl rfl (by decide) (by decide) (by first | assumption | exact hL.t rfl) ?_
                  refine xp_iconst (n := 2) rfl (by decide) ?_
                  refine xp_isub rfl (by omega) ?_
                  refine xp_pfi rfl rfl (by decide) (by decide) (by decide) (by first | assumption | exact hL.t rfl) ?_
                  refine xp_iload rfl rfl ?_
                  refine xp_ifeq 133 rfl (by decide) (by omega) (fun h120 => ?_) (fun h120 => ?_)
                  · exact absurd h120 (by decide)
                  · skip
                    refine xp_aload_n rfl rfl ?_
                    refine xp_iconst (n := 2) rfl (by decide) ?_
                    refine xp_lload rfl rfl ?_
                    refine xp_iv rfl rfl (Nat.le_of_ble_eq_true rfl) (by decide) (by decide) (by decide) (Nat.le_of_ble_eq_true rfl) rfl (xrcv1 (by decide) (by first | assumption | exact hL.t rfl)) (c55a (A := aPop A f 2) hF0 (by omega)) rfl ?_
                    refine xp_goto 142 rfl (by decide) ?_
                    refine xp_ireturn rfl (by decide) (by decide) (by decide) ?_
                    rfl
                · skip
                  refine xp_aload_n rfl rfl ?_
                  refine xp_gfa rfl rfl (by decide) (by decide) (by first | assumption | exact hL.t rfl) (by first | assumption | exact hL.r rfl | exact hL.2.2.2.2.2) ?_
                  refine xp_iload rfl rfl ?_
                  refine xp_iald rfl (by first | assumption | exact hL.t rfl) (by omega) (by omega) ?_
                  refine xp_iconst (n := 2) rfl (by decide) ?_
                  refine xp_icne 105 rfl (by decide) (by omega) (by omega) (fun h98 => ?_) (fun h98 => ?_)
                  · exact absurd hl (by omega)
                  · skip
                    refine xp_iconst (n := 1) rfl (by decide) ?_
                    refine xp_goto 106 rfl (by decide) ?_
                    refine xp_istore rfl (by decide) ?_
                    refine xp_aload_n rfl rfl ?_
                    refine xp_dup rfl rfl ?_
                    refine xp_gfi rfl rfl (by decide) (by decide) (by first | assumption | exact hL.t rfl) ?_
                    refine xp_iconst (n := 2) rfl (by decide) ?_
                    refine xp_isub rfl (by omega) ?_
                    refine xp_pfi rfl rfl (by decide) (by decide) (by decide) (by first | assumption | exact hL.t rfl) ?_
                    refine xp_iload rfl rfl ?_
                    refine xp_ifeq 133 rfl (by decide) (by omega) (fun h120 => ?_) (fun h120 => ?_)
                    · exact absurd h120 (by decide)
                    · skip
                      refine xp_aload_n rfl rfl ?_
                      refine xp_iconst (n := 2) rfl (by decide) ?_
                      refine xp_lload rfl rfl ?_
                      refine xp_iv rfl rfl (Nat.le_of_ble_eq_true rfl) (by decide) (by decide) (by decide) (Nat.le_of_ble_eq_true rfl) rfl (xrcv1 (by decide) (by first | assumption | exact hL.t rfl)) (c55a (A := aPop A f 2) hF0 (by omega)) rfl ?_
                      refine xp_goto 142 rfl (by decide) ?_
                      refine xp_ireturn rfl (by decide) (by decide) (by decide) ?_
                      rfl
              · skip
                refine xp_aload_n rfl rfl ?_
                refine xp_gfa rfl rfl (by decide) (by decide) (by first | assumption | exact hL.t rfl) (by first | assumption | exact hL.r rfl | exact hL.2.2.2.2.2) ?_
                refine xp_iload rfl rfl ?_
                refine xp_lald rfl (by first | assumption | exact hL.t rfl) (by omega) (by omega) ?_
                refine xp_lconst rfl rfl ?_
                refine xp_lcne 59 rfl rfl (by decide) (fun h53 => ?_) (fun h53 => ?_)
                · skip
                  refine xp_iload_n rfl rfl ?_
                  refine xp_aload_n rfl rfl ?_
                  refine xp_gfa rfl rfl (by decide) (by decide) (by first | assumption | exact hL.t rfl) (by first | assumption | exact hL.r rfl | exact hL.2.2.2.2.2) ?_
                  refine xp_iload rfl rfl ?_
                  refine xp_lald rfl (by first | assumption | exact hL.t rfl) (by omega) (by omega) ?_
                  refine xp_aload_n rfl rfl ?_
                  refine xp_gfa rfl rfl (by decide) (by decide) (by first | assumption | exact hL.t rfl) (by first | assumption | exact hL.r rfl | exact hL.2.2.2.2.2) ?_
                  refine xp_iload rfl rfl ?_
                  refine xp_lald rfl (by first | assumption | exact hL.t rfl) (by omega) (by omega) ?_
                  refine xp_is rfl rfl rfl (Nat.le_of_ble_eq_true rfl) (by decide) (by decide) (by decide) (Nat.le_of_ble_eq_true rfl) rfl (xrcv0 (by decide) _ _) (c37 ho ho2) rfl ?_
                  refine xp_lstore rfl (by decide) ?_
                  refine xp_aload_n rfl rfl ?_
                  refine xp_gfa rfl rfl (by decide) (by decide) (by first | assumption | exact hL.t rfl) (by first | assumption | exact hL.r rfl | exact hL.2.2.2.2.2) ?_
                  refine xp_iload rfl rfl ?_
                  refine xp_iald rfl (by first | assumption | exact hL.t rfl) (by omega) (by omega) ?_
                  refine xp_iconst (n := 2) rfl (by decide) ?_
                  refine xp_iceq 101 rfl (by decide) (by omega) (by omega) (fun h87 => ?_) (fun h87 => ?_)
                  · skip
                    refine xp_iconst (n := 1) rfl (by decide) ?_
                    refine xp_goto 106 rfl (by decide) ?_
                    refine xp_istore rfl (by decide) ?_
                    refine xp_aload_n rfl rfl ?_
                    refine xp_dup rfl rfl ?_
                    refine xp_gfi rfl rfl (by decide) (by decide) (by first | assumption | exact hL.t rfl) ?_
                    refine xp_iconst (n := 2) rfl (by decide) ?_
                    refine xp_isub rfl (by omega) ?_
                    refine xp_pfi rfl rfl (by decide) (by decide) (by decide) (by first | assumption | exact hL.t rfl) ?_
                    refine xp_iload rfl rfl ?_
                    refine xp_ifeq 133 rfl (by decide) (by omega) (fun h120 => ?_) (fun h120 => ?_)
                    · exact absurd h120 (by decide)
                    · skip
                      refine xp_aload_n rfl rfl ?_
                      refine xp_iconst (n := 2) rfl (by decide) ?_
                      refine xp_lload rfl rfl ?_
                      refine xp_iv rfl rfl (Nat.le_of_ble_eq_true rfl) (by decide) (by decide) (by decide) (Nat.le_of_ble_eq_true rfl) rfl (xrcv1 (by decide) (by first | assumption | exact hL.t rfl)) (c55a (A := aPop A f 2) hF0 (by omega)) rfl ?_
                      refine xp_goto 142 rfl (by decide) ?_
                      refine xp_ireturn rfl (by decide) (by decide) (by decide) ?_
                      rfl
                  · skip
                    refine xp_aload_n rfl rfl ?_
                    refine xp_gfa rfl rfl (by decide) (by decide) (by first | assumption | exact hL.t rfl) (by first | assumption | exact hL.r rfl | exact hL.2.2.2.2.2) ?_
                    refine xp_iload rfl rfl ?_
                    refine xp_iald rfl (by first | assumption | exact hL.t rfl) (by omega) (by omega) ?_
                    refine xp_iconst (n := 2) rfl (by decide) ?_
                    refine xp_icne 105 rfl (by decide) (by omega) (by omega) (fun h98 => ?_) (fun h98 => ?_)
                    · exact absurd hl (by omega)
                    · skip
                      refine xp_iconst (n := 1) rfl (by decide) ?_
                      refine xp_goto 106 rfl (by decide) ?_
                      refine xp_istore rfl (by decide) ?_
                      refine xp_aload_n rfl rfl ?_
                      refine xp_dup rfl rfl ?_
                      refine xp_gfi rfl rfl (by decide) (by decide) (by first | assumption | exact hL.t rfl) ?_
                      refine xp_iconst (n := 2) rfl (by decide) ?_
                      refine xp_isub rfl (by omega) ?_
                      refine xp_pfi rfl rfl (by decide) (by decide) (by decide) (by first | assumption | exact hL.t rfl) ?_
                      refine xp_iload rfl rfl ?_
                      refine xp_ifeq 133 rfl (by decide) (by omega) (fun h120 => ?_) (fun h120 => ?_)
                      · exact absurd h120 (by decide)
                      · skip
                        refine xp_aload_n rfl rfl ?_
                        refine xp_iconst (n := 2) rfl (by decide) ?_
                        refine xp_lload rfl rfl ?_
                        refine xp_iv rfl rfl (Nat.le_of_ble_eq_true rfl) (by decide) (by decide) (by decide) (Nat.le_of_ble_eq_true rfl) rfl (xrcv1 (by decide) (by first | assumption | exact hL.t rfl)) (c55a (A := aPop A f 2) hF0 (by omega)) rfl ?_
                        refine xp_goto 142 rfl (by decide) ?_
                        refine xp_ireturn rfl (by decide) (by decide) (by decide) ?_
                        rfl
                · exact absurd ⟨h42, h53⟩ hz
            · exfalso; omega
        · have e : aCompute A f op = aPush (aPop A f 2) f 1 (aCombine op (A.2 (f + 3) (3 + A.1 f 3)) (A.2 (f + 3) (4 + A.1 f 3))).toInt32.toInt64 := by unfold aCompute; rw [if_neg (fun z => z ⟨hx, hy⟩), if_neg hz, if_neg hl]
          rw [e]
          refine xF_eq (xF_p (Nat.le_of_ble_eq_true rfl) ?_)
          refine xp_aload_n rfl rfl ?_
          refine xp_gfa rfl rfl (by decide) (by decide) (by first | assumption | exact hL.t rfl) (by first | assumption | exact hL.r rfl | exact hL.2.2.2.2.2) ?_
          refine xp_astore_n rfl (by decide) ?_
          refine xp_aload_n rfl rfl ?_
          refine xp_iv rfl rfl (Nat.le_of_ble_eq_true rfl) (by decide) (by decide) (by decide) (Nat.le_of_ble_eq_true rfl) rfl (xrcv1 (by decide) (by first | assumption | exact hL.t rfl)) (c54 hF0) rfl ?_
          refine xp_iconst (n := 1) rfl (by decide) ?_
          refine xp_isub rfl (by omega) ?_
          rw [e0]
          refine xp_istore rfl (by decide) ?_
          refine xp_aload_n rfl rfl ?_
          refine xp_iv rfl rfl (Nat.le_of_ble_eq_true rfl) (by decide) (by decide) (by decide) (Nat.le_of_ble_eq_true rfl) rfl (xrcv1 (by decide) (by first | assumption | exact hL.t rfl)) (c54 hF0) rfl ?_
          refine xp_istore rfl (by decide) ?_
          refine xp_aload_n rfl rfl ?_
          refine xp_iload rfl rfl ?_
          refine xp_iv rfl rfl (Nat.le_of_ble_eq_true rfl) (by decide) (by decide) (by decide) (Nat.le_of_ble_eq_true rfl) rfl (xrcv1 (by decide) (by first | assumption | exact hL.t rfl)) (c26t hC (by omega) (by omega) hx) rfl ?_
          refine xp_ifeq 37 rfl (by decide) (by omega) (fun h25 => ?_) (fun h25 => ?_)
          · exfalso; omega
          · skip
            refine xp_aload_n rfl rfl ?_
            refine xp_iload rfl rfl ?_
            refine xp_iv rfl rfl (Nat.le_of_ble_eq_true rfl) (by decide) (by decide) (by decide) (Nat.le_of_ble_eq_true rfl) rfl (xrcv1 (by decide) (by first | assumption | exact hL.t rfl)) (c26t hC (by omega) (by omega) hy) rfl ?_
            refine xp_ifne 39 rfl (by decide) (by omega) (fun h34 => ?_) (fun h34 => ?_)
            · skip
              refine xp_iload_n rfl rfl ?_
              refine xp_bipush (n := 11) rfl (by decide) ?_
              refine xp_icne 59 rfl (by decide) (by omega) (by omega) (fun h42 => ?_) (fun h42 => ?_)
              · skip
                refine xp_iload_n rfl rfl ?_
                refine xp_aload_n rfl rfl ?_
                refine xp_gfa rfl rfl (by decide) (by decide) (by first | assumption | exact hL.t rfl) (by first | assumption | exact hL.r rfl | exact hL.2.2.2.2.2) ?_
                refine xp_iload rfl rfl ?_
                refine xp_lald rfl (by first | assumption | exact hL.t rfl) (by omega) (by omega) ?_
                refine xp_aload_n rfl rfl ?_
                refine xp_gfa rfl rfl (by decide) (by decide) (by first | assumption | exact hL.t rfl) (by first | assumption | exact hL.r rfl | exact hL.2.2.2.2.2) ?_
                refine xp_iload rfl rfl ?_
                refine xp_lald rfl (by first | assumption | exact hL.t rfl) (by omega) (by omega) ?_
                refine xp_is rfl rfl rfl (Nat.le_of_ble_eq_true rfl) (by decide) (by decide) (by decide) (Nat.le_of_ble_eq_true rfl) rfl (xrcv0 (by decide) _ _) (c37 ho ho2) rfl ?_
                refine xp_lstore rfl (by decide) ?_
                refine xp_aload_n rfl rfl ?_
                refine xp_gfa rfl rfl (by decide) (by decide) (by first | assumption | exact hL.t rfl) (by first | assumption | exact hL.r rfl | exact hL.2.2.2.2.2) ?_
                refine xp_iload rfl rfl ?_
                refine xp_iald rfl (by first | assumption | exact hL.t rfl) (by omega) (by omega) ?_
                refine xp_iconst (n := 2) rfl (by decide) ?_
                refine xp_iceq 101 rfl (by decide) (by omega) (by omega) (fun h87 => ?_) (fun h87 => ?_)
                · exact absurd (Or.inl h87) hl
                · skip
                  refine xp_aload_n rfl rfl ?_
                  refine xp_gfa rfl rfl (by decide) (by decide) (by first | assumption | exact hL.t rfl) (by first | assumption | exact hL.r rfl | exact hL.2.2.2.2.2) ?_
                  refine xp_iload rfl rfl ?_
                  refine xp_iald rfl (by first | assumption | exact hL.t rfl) (by omega) (by omega) ?_
                  refine xp_iconst (n := 2) rfl (by decide) ?_
                  refine xp_icne 105 rfl (by decide) (by omega) (by omega) (fun h98 => ?_) (fun h98 => ?_)
                  · skip
                    refine xp_iconst (n := 0) rfl (by decide) ?_
                    refine xp_istore rfl (by decide) ?_
                    refine xp_aload_n rfl rfl ?_
                    refine xp_dup rfl rfl ?_
                    refine xp_gfi rfl rfl (by decide) (by decide) (by first | assumption | exact hL.t rfl) ?_
                    refine xp_iconst (n := 2) rfl (by decide) ?_
                    refine xp_isub rfl (by omega) ?_
                    refine xp_pfi rfl rfl (by decide) (by decide) (by decide) (by first | assumption | exact hL.t rfl) ?_
                    refine xp_iload rfl rfl ?_
                    refine xp_ifeq 133 rfl (by decide) (by omega) (fun h120 => ?_) (fun h120 => ?_)
                    · skip
                      refine xp_aload_n rfl rfl ?_
                      refine xp_iconst (n := 1) rfl (by decide) ?_
                      refine xp_lload rfl rfl ?_
                      refine xp_l2i rfl ?_
                      refine xp_i2l rfl ?_
                      refine xp_iv rfl rfl (Nat.le_of_ble_eq_true rfl) (by decide) (by decide) (by decide) (Nat.le_of_ble_eq_true rfl) rfl (xrcv1 (by decide) (by first | assumption | exact hL.t rfl)) (c55a (A := aPop A f 2) hF0 (by omega)) rfl ?_
                      refine xp_ireturn rfl (by decide) (by decide) (by decide) ?_
                      rfl
                    · exact absurd rfl h120
                  · exact absurd (Or.inr h98) hl
              · skip
                refine xp_aload_n rfl rfl ?_
                refine xp_gfa rfl rfl (by decide) (by decide) (by first | assumption | exact hL.t rfl) (by first | assumption | exact hL.r rfl | exact hL.2.2.2.2.2) ?_
                refine xp_iload rfl rfl ?_
                refine xp_lald rfl (by first | assumption | exact hL.t rfl) (by omega) (by omega) ?_
                refine xp_lconst rfl rfl ?_
                refine xp_lcne 59 rfl rfl (by decide) (fun h53 => ?_) (fun h53 => ?_)
                · skip
                  refine xp_iload_n rfl rfl ?_
                  refine xp_aload_n rfl rfl ?_
                  refine xp_gfa rfl rfl (by decide) (by decide) (by first | assumption | exact hL.t rfl) (by first | assumption | exact hL.r rfl | exact hL.2.2.2.2.2) ?_
                  refine xp_iload rfl rfl ?_
                  refine xp_lald rfl (by first | assumption | exact hL.t rfl) (by omega) (by omega) ?_
                  refine xp_aload_n rfl rfl ?_
                  refine xp_gfa rfl rfl (by decide) (by decide) (by first | assumption | exact hL.t rfl) (by first | assumption | exact hL.r rfl | exact hL.2.2.2.2.2) ?_
                  refine xp_iload rfl rfl ?_
                  refine xp_lald rfl (by first | assumption | exact hL.t rfl) (by omega) (by omega) ?_
                  refine xp_is rfl rfl rfl (Nat.le_of_ble_eq_true rfl) (by decide) (by decide) (by decide) (Nat.le_of_ble_eq_true rfl) rfl (xrcv0 (by decide) _ _) (c37 ho ho2) rfl ?_
                  refine xp_lstore rfl (by decide) ?_
                  refine xp_aload_n rfl rfl ?_
                  refine xp_gfa rfl rfl (by decide) (by decide) (by first | assumption | exact hL.t rfl) (by first | assumption | exact hL.r rfl | exact hL.2.2.2.2.2) ?_
                  refine xp_iload rfl rfl ?_
                  refine xp_iald rfl (by first | assumption | exact hL.t rfl) (by omega) (by omega) ?_
                  refine xp_iconst (n := 2) rfl (by decide) ?_
                  refine xp_iceq 101 rfl (by decide) (by omega) (by omega) (fun h87 => ?_) (fun h87 => ?_)
                  · exact absurd (Or.inl h87) hl
                  · skip
                    refine xp_aload_n rfl rfl ?_
                    refine xp_gfa rfl rfl (by decide) (by decide) (by first | assumption | exact hL.t rfl) (by first | assumption | exact hL.r rfl | exact hL.2.2.2.2.2) ?_
                    refine xp_iload rfl rfl ?_
                    refine xp_iald rfl (by first | assumption | exact hL.t rfl) (by omega) (by omega) ?_
                    refine xp_iconst (n := 2) rfl (by decide) ?_
                    refine xp_icne 105 rfl (by decide) (by omega) (by omega) (fun h98 => ?_) (fun h98 => ?_)
                    · skip
                      refine xp_iconst (n := 0) rfl (by decide) ?_
                      refine xp_istore rfl (by decide) ?_
                      refine xp_aload_n rfl rfl ?_
                      refine xp_dup rfl rfl ?_
                      refine xp_gfi rfl rfl (by decide) (by decide) (by first | assumption | exact hL.t rfl) ?_
                      refine xp_iconst (n := 2) rfl (by decide) ?_
                      refine xp_isub rfl (by omega) ?_
                      refine xp_pfi rfl rfl (by decide) (by decide) (by decide) (by first | assumption | exact hL.t rfl) ?_
                      refine xp_iload rfl rfl ?_
                      refine xp_ifeq 133 rfl (by decide) (by omega) (fun h120 => ?_) (fun h120 => ?_)
                      · skip
                        refine xp_aload_n rfl rfl ?_
                        refine xp_iconst (n := 1) rfl (by decide) ?_
                        refine xp_lload rfl rfl ?_
                        refine xp_l2i rfl ?_
                        refine xp_i2l rfl ?_
                        refine xp_iv rfl rfl (Nat.le_of_ble_eq_true rfl) (by decide) (by decide) (by decide) (Nat.le_of_ble_eq_true rfl) rfl (xrcv1 (by decide) (by first | assumption | exact hL.t rfl)) (c55a (A := aPop A f 2) hF0 (by omega)) rfl ?_
                        refine xp_ireturn rfl (by decide) (by decide) (by decide) ?_
                        rfl
                      · exact absurd rfl h120
                    · exact absurd (Or.inr h98) hl
                · exact absurd ⟨h42, h53⟩ hz
            · exfalso; omega
    · have e : aCompute A f op = (2, A) := by unfold aCompute; rw [if_pos (fun z => hy z.2)]
      rw [e]
      refine xF_eq (xF_p (Nat.le_of_ble_eq_true rfl) ?_)
      refine xp_aload_n rfl rfl ?_
      refine xp_gfa rfl rfl (by decide) (by decide) (by first | assumption | exact hL.t rfl) (by first | assumption | exact hL.r rfl | exact hL.2.2.2.2.2) ?_
      refine xp_astore_n rfl (by decide) ?_
      refine xp_aload_n rfl rfl ?_
      refine xp_iv rfl rfl (Nat.le_of_ble_eq_true rfl) (by decide) (by decide) (by decide) (Nat.le_of_ble_eq_true rfl) rfl (xrcv1 (by decide) (by first | assumption | exact hL.t rfl)) (c54 hF0) rfl ?_
      refine xp_iconst (n := 1) rfl (by decide) ?_
      refine xp_isub rfl (by omega) ?_
      rw [e0]
      refine xp_istore rfl (by decide) ?_
      refine xp_aload_n rfl rfl ?_
      refine xp_iv rfl rfl (Nat.le_of_ble_eq_true rfl) (by decide) (by decide) (by decide) (Nat.le_of_ble_eq_true rfl) rfl (xrcv1 (by decide) (by first | assumption | exact hL.t rfl)) (c54 hF0) rfl ?_
      refine xp_istore rfl (by decide) ?_
      refine xp_aload_n rfl rfl ?_
      refine xp_iload rfl rfl ?_
      refine xp_iv rfl rfl (Nat.le_of_ble_eq_true rfl) (by decide) (by decide) (by decide) (Nat.le_of_ble_eq_true rfl) rfl (xrcv1 (by decide) (by first | assumption | exact hL.t rfl)) (c26t hC (by omega) (by omega) hx) rfl ?_
      refine xp_ifeq 37 rfl (by decide) (by omega) (fun h25 => ?_) (fun h25 => ?_)
      · exfalso; omega
      · skip
        refine xp_aload_n rfl rfl ?_
        refine xp_iload rfl rfl ?_
        refine xp_iv rfl rfl (Nat.le_of_ble_eq_true rfl) (by decide) (by decide) (by decide) (Nat.le_of_ble_eq_true rfl) rfl (xrcv1 (by decide) (by first | assumption | exact hL.t rfl)) (c26f hC (by omega) (by omega) hk2 hy) rfl ?_
        refine xp_ifne 39 rfl (by decide) (by omega) (fun h34 => ?_) (fun h34 => ?_)
        · exfalso; omega
        · skip
          refine xp_iconst (n := 2) rfl (by decide) ?_
          refine xp_ireturn rfl (by decide) (by decide) (by decide) ?_
          rfl
  · have e : aCompute A f op = (2, A) := by unfold aCompute; rw [if_pos (fun z => hx z.1)]
    rw [e]
    refine xF_eq (xF_p (Nat.le_of_ble_eq_true rfl) ?_)
    refine xp_aload_n rfl rfl ?_
    refine xp_gfa rfl rfl (by decide) (by decide) (by first | assumption | exact hL.t rfl) (by first | assumption | exact hL.r rfl | exact hL.2.2.2.2.2) ?_
    refine xp_astore_n rfl (by decide) ?_
    refine xp_aload_n rfl rfl ?_
    refine xp_iv rfl rfl (Nat.le_of_ble_eq_true rfl) (by decide) (by decide) (by decide) (Nat.le_of_ble_eq_true rfl) rfl (xrcv1 (by decide) (by first | assumption | exact hL.t rfl)) (c54 hF0) rfl ?_
    refine xp_iconst (n := 1) rfl (by decide) ?_
    refine xp_isub rfl (by omega) ?_
    rw [e0]
    refine xp_istore rfl (by decide) ?_
    refine xp_aload_n rfl rfl ?_
    refine xp_iv rfl rfl (Nat.le_of_ble_eq_true rfl) (by decide) (by decide) (by decide) (Nat.le_of_ble_eq_true rfl) rfl (xrcv1 (by decide) (by first | assumption | exact hL.t rfl)) (c54 hF0) rfl ?_
    refine xp_istore rfl (by decide) ?_
    refine xp_aload_n rfl rfl ?_
    refine xp_iload rfl rfl ?_
    refine xp_iv rfl rfl (Nat.le_of_ble_eq_true rfl) (by decide) (by decide) (by decide) (Nat.le_of_ble_eq_true rfl) rfl (xrcv1 (by decide) (by first | assumption | exact hL.t rfl)) (c26f hC (by omega) (by omega) hk1 hx) rfl ?_
    refine xp_ifeq 37 rfl (by decide) (by omega) (fun h25 => ?_) (fun h25 => ?_)
    · skip
      refine xp_iconst (n := 2) rfl (by decide) ?_
      refine xp_ireturn rfl (by decide) (by decide) (by decide) ?_
      rfl
    · exfalso; omega
def aCompare (A : xQ) (f : Nat) : Nat × xQ := if ¬ ((A.1 (f + 2) (3 + A.1 f 3) = 1 ∨ A.1 (f + 2) (3 + A.1 f 3) = 2) ∧ (A.1 (f + 2) (4 + A.1 f 3) = 1 ∨ A.1 (f + 2) (4 + A.1 f 3) = 2)) then (2, A) else aAnswer A f (if A.2 (f + 3) (3 + A.1 f 3) < A.2 (f + 3) (4 + A.1 f 3) then 1 else 0)
theorem c38 {z : Nat} {T : Nat → Option xT} {R : Nat → Nat → Option Nat} {A : xQ} {f w : Nat} (hL : xLay T R w) (hF : xF0 T R f) (h2 : 2 ≤ A.1 f 3) (h6 : A.1 f 3 ≤ 6) (hk1 : A.1 (f + 2) (3 + A.1 f 3) ≤ 4) (hk2 : A.1 (f + 2) (4 + A.1 f 3) ≤ 4) : xF 38 [.ref 11, .ref f] (xm z T R A) (.inr (some (.int (nI (aCompare A f).1))), xm z T R (aCompare A f).2) := by
  have hF0 := hF
  obtain ⟨f1, f2, hC⟩ := hF
  obtain ⟨c1, c2, c3, c4, c5⟩ := id hC
  have e0 : 4 + A.1 f 3 - 1 = 3 + A.1 f 3 := by omega
  by_cases hx : A.1 (f + 2) (3 + A.1 f 3) = 1 ∨ A.1 (f + 2) (3 + A.1 f 3) = 2
  · by_cases hy : A.1 (f + 2) (4 + A.1 f 3) = 1 ∨ A.1 (f + 2) (4 + A.1 f 3) = 2
    · by_cases hl : A.2 (f + 3) (3 + A.1 f 3) < A.2 (f + 3) (4 + A.1 f 3)
      · have e : aCompare A f = aAnswer A f 1 := by unfold aCompare; rw [if_neg (fun z => z ⟨hx, hy⟩), if_pos hl]
        rw [e]
        refine xF_eq (xF_p (Nat.le_of_ble_eq_true rfl) ?_)
        refine xp_aload_n rfl rfl ?_
        refine xp_gfa rfl rfl (by decide) (by decide) (by first | assumption | exact hL.t rfl) (by first | assumption | exact hL.r rfl | exact hL.2.2.2.2.2) ?_
        refine xp_astore_n rfl (by decide) ?_
        refine xp_aload_n rfl rfl ?_
        refine xp_iv rfl rfl (Nat.le_of_ble_eq_true rfl) (by decide) (by decide) (by decide) (Nat.le_of_ble_eq_true rfl) rfl (xrcv1 (by decide) (by first | assumption | exact hL.t rfl)) (c54 hF0) rfl ?_
        refine xp_iconst (n := 1) rfl (by decide) ?_
        refine xp_isub rfl (by omega) ?_
        rw [e0]
        refine xp_istore_n rfl (by decide) ?_
        refine xp_aload_n rfl rfl ?_
        refine xp_iv rfl rfl (Nat.le_of_ble_eq_true rfl) (by decide) (by decide) (by decide) (Nat.le_of_ble_eq_true rfl) rfl (xrcv1 (by decide) (by first | assumption | exact hL.t rfl)) (c54 hF0) rfl ?_
        refine xp_istore rfl (by decide) ?_
        refine xp_aload_n rfl rfl ?_
        refine xp_iload_n rfl rfl ?_
        refine xp_iv rfl rfl (Nat.le_of_ble_eq_true rfl) (by decide) (by decide) (by decide) (Nat.le_of_ble_eq_true rfl) rfl (xrcv1 (by decide) (by first | assumption | exact hL.t rfl)) (c26t hC (by omega) (by omega) hx) rfl ?_
        refine xp_ifeq 35 rfl (by decide) (by omega) (fun h23 => ?_) (fun h23 => ?_)
        · exfalso; omega
        · skip
          refine xp_aload_n rfl rfl ?_
          refine xp_iload rfl rfl ?_
          refine xp_iv rfl rfl (Nat.le_of_ble_eq_true rfl) (by decide) (by decide) (by decide) (Nat.le_of_ble_eq_true rfl) rfl (xrcv1 (by decide) (by first | assumption | exact hL.t rfl)) (c26t hC (by omega) (by omega) hy) rfl ?_
          refine xp_ifne 37 rfl (by decide) (by omega) (fun h32 => ?_) (fun h32 => ?_)
          · skip
            refine xp_aload_n rfl rfl ?_
            refine xp_aload_n rfl rfl ?_
            refine xp_aload_n rfl rfl ?_
            refine xp_gfa rfl rfl (by decide) (by decide) (by first | assumption | exact hL.t rfl) (by first | assumption | exact hL.r rfl | exact hL.2.2.2.2.2) ?_
            refine xp_iload_n rfl rfl ?_
            refine xp_lald rfl (by first | assumption | exact hL.t rfl) (by omega) (by omega) ?_
            refine xp_aload_n rfl rfl ?_
            refine xp_gfa rfl rfl (by decide) (by decide) (by first | assumption | exact hL.t rfl) (by first | assumption | exact hL.r rfl | exact hL.2.2.2.2.2) ?_
            refine xp_iload rfl rfl ?_
            refine xp_lald rfl (by first | assumption | exact hL.t rfl) (by omega) (by omega) ?_
            refine xp_lcge 60 rfl rfl (by decide) (fun h52 => ?_) (fun h52 => ?_)
            · exact absurd hl h52
            · skip
              refine xp_iconst (n := 1) rfl (by decide) ?_
              refine xp_goto 61 rfl (by decide) ?_
              refine xp_iv rfl rfl (Nat.le_of_ble_eq_true rfl) (by decide) (by decide) (by decide) (Nat.le_of_ble_eq_true rfl) rfl (xrcv1 (by decide) (by first | assumption | exact hL.t rfl)) (c39 hL hF0 (by omega) (by omega) (Or.inr rfl)) rfl ?_
              refine xp_ireturn rfl (by decide) (by decide) (by decide) ?_
              rfl
          · exfalso; omega
      · have e : aCompare A f = aAnswer A f 0 := by unfold aCompare; rw [if_neg (fun z => z ⟨hx, hy⟩), if_neg hl]
        rw [e]
        refine xF_eq (xF_p (Nat.le_of_ble_eq_true rfl) ?_)
        refine xp_aload_n rfl rfl ?_
        refine xp_gfa rfl rfl (by decide) (by decide) (by first | assumption | exact hL.t rfl) (by first | assumption | exact hL.r rfl | exact hL.2.2.2.2.2) ?_
        refine xp_astore_n rfl (by decide) ?_
        refine xp_aload_n rfl rfl ?_
        refine xp_iv rfl rfl (Nat.le_of_ble_eq_true rfl) (by decide) (by decide) (by decide) (Nat.le_of_ble_eq_true rfl) rfl (xrcv1 (by decide) (by first | assumption | exact hL.t rfl)) (c54 hF0) rfl ?_
        refine xp_iconst (n := 1) rfl (by decide) ?_
        refine xp_isub rfl (by omega) ?_
        rw [e0]
        refine xp_istore_n rfl (by decide) ?_
        refine xp_aload_n rfl rfl ?_
        refine xp_iv rfl rfl (Nat.le_of_ble_eq_true rfl) (by decide) (by decide) (by decide) (Nat.le_of_ble_eq_true rfl) rfl (xrcv1 (by decide) (by first | assumption | exact hL.t rfl)) (c54 hF0) rfl ?_
        refine xp_istore rfl (by decide) ?_
        refine xp_aload_n rfl rfl ?_
        refine xp_iload_n rfl rfl ?_
        refine xp_iv rfl rfl (Nat.le_of_ble_eq_true rfl) (by decide) (by decide) (by decide) (Nat.le_of_ble_eq_true rfl) rfl (xrcv1 (by decide) (by first | assumption | exact hL.t rfl)) (c26t hC (by omega) (by omega) hx) rfl ?_
        refine xp_ifeq 35 rfl (by decide) (by omega) (fun h23 => ?_) (fun h23 => ?_)
        · exfalso; omega
        · skip
          refine xp_aload_n rfl rfl ?_
          refine xp_iload rfl rfl ?_
          refine xp_iv rfl rfl (Nat.le_of_ble_eq_true rfl) (by decide) (by decide) (by decide) (Nat.le_of_ble_eq_true rfl) rfl (xrcv1 (by decide) (by first | assumption | exact hL.t rfl)) (c26t hC (by omega) (by omega) hy) rfl ?_
          refine xp_ifne 37 rfl (by decide) (by omega) (fun h32 => ?_) (fun h32 => ?_)
          · skip
            refine xp_aload_n rfl rfl ?_
            refine xp_aload_n rfl rfl ?_
            refine xp_aload_n rfl rfl ?_
            refine xp_gfa rfl rfl (by decide) (by decide) (by first | assumption | exact hL.t rfl) (by first | assumption | exact hL.r rfl | exact hL.2.2.2.2.2) ?_
            refine xp_iload_n rfl rfl ?_
            refine xp_lald rfl (by first | assumption | exact hL.t rfl) (by omega) (by omega) ?_
            refine xp_aload_n rfl rfl ?_
            refine xp_gfa rfl rfl (by decide) (by decide) (by first | assumption | exact hL.t rfl) (by first | assumption | exact hL.r rfl | exact hL.2.2.2.2.2) ?_
            refine xp_iload rfl rfl ?_
            refine xp_lald rfl (by first | assumption | exact hL.t rfl) (by omega) (by omega) ?_
            refine xp_lcge 60 rfl rfl (by decide) (fun h52 => ?_) (fun h52 => ?_)
            · skip
              refine xp_iconst (n := 0) rfl (by decide) ?_
              refine xp_iv rfl rfl (Nat.le_of_ble_eq_true rfl) (by decide) (by decide) (by decide) (Nat.le_of_ble_eq_true rfl) rfl (xrcv1 (by decide) (by first | assumption | exact hL.t rfl)) (c39 hL hF0 (by omega) (by omega) (Or.inl rfl)) rfl ?_
              refine xp_ireturn rfl (by decide) (by decide) (by decide) ?_
              rfl
            · exact absurd h52 hl
          · exfalso; omega
    · have e : aCompare A f = (2, A) := by unfold aCompare; rw [if_pos (fun z => hy z.2)]
      rw [e]
      refine xF_eq (xF_p (Nat.le_of_ble_eq_true rfl) ?_)
      refine xp_aload_n rfl rfl ?_
      refine xp_gfa rfl rfl (by decide) (by decide) (by first | assumption | exact hL.t rfl) (by first | assumption | exact hL.r rfl | exact hL.2.2.2.2.2) ?_
      refine xp_astore_n rfl (by decide) ?_
      refine xp_aload_n rfl rfl ?_
      refine xp_iv rfl rfl (Nat.le_of_ble_eq_true rfl) (by decide) (by decide) (by decide) (Nat.le_of_ble_eq_true rfl) rfl (xrcv1 (by decide) (by first | assumption | exact hL.t rfl)) (c54 hF0) rfl ?_
      refine xp_iconst (n := 1) rfl (by decide) ?_
      refine xp_isub rfl (by omega) ?_
      rw [e0]
      refine xp_istore_n rfl (by decide) ?_
      refine xp_aload_n rfl rfl ?_
      refine xp_iv rfl rfl (Nat.le_of_ble_eq_true rfl) (by decide) (by decide) (by decide) (Nat.le_of_ble_eq_true rfl) rfl (xrcv1 (by decide) (by first | assumption | exact hL.t rfl)) (c54 hF0) rfl ?_
      refine xp_istore rfl (by decide) ?_
      refine xp_aload_n rfl rfl ?_
      refine xp_iload_n rfl rfl ?_
      refine xp_iv rfl rfl (Nat.le_of_ble_eq_true rfl) (by decide) (by decide) (by decide) (Nat.le_of_ble_eq_true rfl) rfl (xrcv1 (by decide) (by first | assumption | exact hL.t rfl)) (c26t hC (by omega) (by omega) hx) rfl ?_
      refine xp_ifeq 35 rfl (by decide) (by omega) (fun h23 => ?_) (fun h23 => ?_)
      · exfalso; omega
      · skip
        refine xp_aload_n rfl rfl ?_
        refine xp_iload rfl rfl ?_
        refine xp_iv rfl rfl (Nat.le_of_ble_eq_true rfl) (by decide) (by decide) (by decide) (Nat.le_of_ble_eq_true rfl) rfl (xrcv1 (by decide) (by first | assumption | exact hL.t rfl)) (c26f hC (by omega) (by omega) hk2 hy) rfl ?_
        refine xp_ifne 37 rfl (by decide) (by omega) (fun h32 => ?_) (fun h32 => ?_)
        · exfalso; omega
        · skip
          refine xp_iconst (n := 2) rfl (by decide) ?_
          refine xp_ireturn rfl (by decide) (by decide) (by decide) ?_
          rfl
  · have e : aCompare A f = (2, A) := by unfold aCompare; rw [if_pos (fun z => hx z.1)]
    rw [e]
    refine xF_eq (xF_p (Nat.le_of_ble_eq_true rfl) ?_)
    refine xp_aload_n rfl rfl ?_
    refine xp_gfa rfl rfl (by decide) (by decide) (by first | assumption | exact hL.t rfl) (by first | assumption | exact hL.r rfl | exact hL.2.2.2.2.2) ?_
    refine xp_astore_n rfl (by decide) ?_
    refine xp_aload_n rfl rfl ?_
    refine xp_iv rfl rfl (Nat.le_of_ble_eq_true rfl) (by decide) (by decide) (by decide) (Nat.le_of_ble_eq_true rfl) rfl (xrcv1 (by decide) (by first | assumption | exact hL.t rfl)) (c54 hF0) rfl ?_
    refine xp_iconst (n := 1) rfl (by decide) ?_
    refine xp_isub rfl (by omega) ?_
    rw [e0]
    refine xp_istore_n rfl (by decide) ?_
    refine xp_aload_n rfl rfl ?_
    refine xp_iv rfl rfl (Nat.le_of_ble_eq_true rfl) (by decide) (by decide) (by decide) (Nat.le_of_ble_eq_true rfl) rfl (xrcv1 (by decide) (by first | assumption | exact hL.t rfl)) (c54 hF0) rfl ?_
    refine xp_istore rfl (by decide) ?_
    refine xp_aload_n rfl rfl ?_
    refine xp_iload_n rfl rfl ?_
    refine xp_iv rfl rfl (Nat.le_of_ble_eq_true rfl) (by decide) (by decide) (by decide) (Nat.le_of_ble_eq_true rfl) rfl (xrcv1 (by decide) (by first | assumption | exact hL.t rfl)) (c26f hC (by omega) (by omega) hk1 hx) rfl ?_
    refine xp_ifeq 35 rfl (by decide) (by omega) (fun h23 => ?_) (fun h23 => ?_)
    · skip
      refine xp_iconst (n := 2) rfl (by decide) ?_
      refine xp_ireturn rfl (by decide) (by decide) (by decide) ?_
      rfl
    · exfalso; omega
def aBranch (A : xQ) (f p : Nat) : Nat × xQ := if A.1 (f + 2) (4 + A.1 f 3) = 1 then (0, aPop (xsI A f 2 (if A.2 (f + 3) (4 + A.1 f 3) = 0 then A.1 f 2 + 1 else p)) f 1) else (2, A)
theorem c40 {z : Nat} {T : Nat → Option xT} {R : Nat → Nat → Option Nat} {A : xQ} {f p w : Nat} (hL : xLay T R w) (hF : xF0 T R f) (h1 : 1 ≤ A.1 f 3) (h6 : A.1 f 3 ≤ 6) (hk : A.1 (f + 2) (4 + A.1 f 3) ≤ 4) : xF 40 [.ref 11, .ref f, .int (nI p)] (xm z T R A) (.inr (some (.int (nI (aBranch A f p).1))), xm z T R (aBranch A f p).2) := by
  have hF0 := hF
  obtain ⟨f1, f2, hC⟩ := hF
  obtain ⟨c1, c2, c3, c4, c5⟩ := id hC
  have ep : ∀ v, (xsI A f 2 v).1 f 3 = A.1 f 3 := fun v => xsI_ne (Or.inr (by omega))
  by_cases hq : A.1 (f + 2) (4 + A.1 f 3) = 1
  · by_cases hz : A.2 (f + 3) (4 + A.1 f 3) = 0
    · have e : aBranch A f p = (0, aPop (xsI A f 2 (A.1 f 2 + 1)) f 1) := by unfold aBranch; rw [if_pos hq, if_pos hz]
      rw [e]
      refine xF_eq (xF_p (Nat.le_of_ble_eq_true rfl) ?_)
      refine xp_aload_n rfl rfl ?_
      refine xp_gfa rfl rfl (by decide) (by decide) (by first | assumption | exact hL.t rfl) (by first | assumption | exact hL.r rfl | exact hL.2.2.2.2.2) ?_
      refine xp_gfa rfl rfl (by decide) (by decide) (by first | assumption | exact hL.t rfl) (by first | assumption | exact hL.r rfl | exact hL.2.2.2.2.2) ?_
      refine xp_aload_n rfl rfl ?_
      refine xp_iv rfl rfl (Nat.le_of_ble_eq_true rfl) (by decide) (by decide) (by decide) (Nat.le_of_ble_eq_true rfl) rfl (xrcv1 (by decide) (by first | assumption | exact hL.t rfl)) (c54 hF0) rfl ?_
      refine xp_iald rfl (by first | assumption | exact hL.t rfl) (by omega) (by omega) ?_
      refine xp_iconst (n := 1) rfl (by decide) ?_
      refine xp_iceq 18 rfl (by decide) (by omega) (by omega) (fun h13 => ?_) (fun h13 => ?_)
      · skip
        refine xp_aload_n rfl rfl ?_
        refine xp_aload_n rfl rfl ?_
        refine xp_gfa rfl rfl (by decide) (by decide) (by first | assumption | exact hL.t rfl) (by first | assumption | exact hL.r rfl | exact hL.2.2.2.2.2) ?_
        refine xp_gfa rfl rfl (by decide) (by decide) (by first | assumption | exact hL.t rfl) (by first | assumption | exact hL.r rfl | exact hL.2.2.2.2.2) ?_
        refine xp_aload_n rfl rfl ?_
        refine xp_iv rfl rfl (Nat.le_of_ble_eq_true rfl) (by decide) (by decide) (by decide) (Nat.le_of_ble_eq_true rfl) rfl (xrcv1 (by decide) (by first | assumption | exact hL.t rfl)) (c54 hF0) rfl ?_
        refine xp_lald rfl (by first | assumption | exact hL.t rfl) (by omega) (by omega) ?_
        refine xp_lconst rfl rfl ?_
        refine xp_lceq 40 rfl rfl (by decide) (fun h32 => ?_) (fun h32 => ?_)
        · skip
          refine xp_aload_n rfl rfl ?_
          refine xp_gfi rfl rfl (by decide) (by decide) (by first | assumption | exact hL.t rfl) ?_
          refine xp_iconst (n := 1) rfl (by decide) ?_
          refine xp_iadd rfl ?_
          refine xp_pfi rfl rfl (by decide) (by decide) (by decide) (by first | assumption | exact hL.t rfl) ?_
          refine xp_aload_n rfl rfl ?_
          refine xp_dup rfl rfl ?_
          refine xp_gfi rfl rfl (by decide) (by decide) (by first | assumption | exact hL.t rfl) ?_
          refine xp_iconst (n := 1) rfl (by decide) ?_
          refine xp_isub rfl (by rw [ep]; exact h1) ?_
          refine xp_pfi rfl rfl (by decide) (by decide) (by decide) (by first | assumption | exact hL.t rfl) ?_
          refine xp_iconst (n := 0) rfl (by decide) ?_
          refine xp_ireturn rfl (by decide) (by decide) (by decide) ?_
          rfl
        · exact absurd hz h32
      · exact absurd hq h13
    · have e : aBranch A f p = (0, aPop (xsI A f 2 p) f 1) := by unfold aBranch; rw [if_pos hq, if_neg hz]
      rw [e]
      refine xF_eq (xF_p (Nat.le_of_ble_eq_true rfl) ?_)
      refine xp_aload_n rfl rfl ?_
      refine xp_gfa rfl rfl (by decide) (by decide) (by first | assumption | exact hL.t rfl) (by first | assumption | exact hL.r rfl | exact hL.2.2.2.2.2) ?_
      refine xp_gfa rfl rfl (by decide) (by decide) (by first | assumption | exact hL.t rfl) (by first | assumption | exact hL.r rfl | exact hL.2.2.2.2.2) ?_
      refine xp_aload_n rfl rfl ?_
      refine xp_iv rfl rfl (Nat.le_of_ble_eq_true rfl) (by decide) (by decide) (by decide) (Nat.le_of_ble_eq_true rfl) rfl (xrcv1 (by decide) (by first | assumption | exact hL.t rfl)) (c54 hF0) rfl ?_
      refine xp_iald rfl (by first | assumption | exact hL.t rfl) (by omega) (by omega) ?_
      refine xp_iconst (n := 1) rfl (by decide) ?_
      refine xp_iceq 18 rfl (by decide) (by omega) (by omega) (fun h13 => ?_) (fun h13 => ?_)
      · skip
        refine xp_aload_n rfl rfl ?_
        refine xp_aload_n rfl rfl ?_
        refine xp_gfa rfl rfl (by decide) (by decide) (by first | assumption | exact hL.t rfl) (by first | assumption | exact hL.r rfl | exact hL.2.2.2.2.2) ?_
        refine xp_gfa rfl rfl (by decide) (by decide) (by first | assumption | exact hL.t rfl) (by first | assumption | exact hL.r rfl | exact hL.2.2.2.2.2) ?_
        refine xp_aload_n rfl rfl ?_
        refine xp_iv rfl rfl (Nat.le_of_ble_eq_true rfl) (by decide) (by decide) (by decide) (Nat.le_of_ble_eq_true rfl) rfl (xrcv1 (by decide) (by first | assumption | exact hL.t rfl)) (c54 hF0) rfl ?_
        refine xp_lald rfl (by first | assumption | exact hL.t rfl) (by omega) (by omega) ?_
        refine xp_lconst rfl rfl ?_
        refine xp_lceq 40 rfl rfl (by decide) (fun h32 => ?_) (fun h32 => ?_)
        · exact absurd h32 hz
        · skip
          refine xp_iload_n rfl rfl ?_
          refine xp_goto 46 rfl (by decide) ?_
          refine xp_pfi rfl rfl (by decide) (by decide) (by decide) (by first | assumption | exact hL.t rfl) ?_
          refine xp_aload_n rfl rfl ?_
          refine xp_dup rfl rfl ?_
          refine xp_gfi rfl rfl (by decide) (by decide) (by first | assumption | exact hL.t rfl) ?_
          refine xp_iconst (n := 1) rfl (by decide) ?_
          refine xp_isub rfl (by rw [ep]; exact h1) ?_
          refine xp_pfi rfl rfl (by decide) (by decide) (by decide) (by first | assumption | exact hL.t rfl) ?_
          refine xp_iconst (n := 0) rfl (by decide) ?_
          refine xp_ireturn rfl (by decide) (by decide) (by decide) ?_
          rfl
      · exact absurd hq h13
  · have e : aBranch A f p = (2, A) := by unfold aBranch; rw [if_neg hq]
    rw [e]
    refine xF_eq (xF_p (Nat.le_of_ble_eq_true rfl) ?_)
    refine xp_aload_n rfl rfl ?_
    refine xp_gfa rfl rfl (by decide) (by decide) (by first | assumption | exact hL.t rfl) (by first | assumption | exact hL.r rfl | exact hL.2.2.2.2.2) ?_
    refine xp_gfa rfl rfl (by decide) (by decide) (by first | assumption | exact hL.t rfl) (by first | assumption | exact hL.r rfl | exact hL.2.2.2.2.2) ?_
    refine xp_aload_n rfl rfl ?_
    refine xp_iv rfl rfl (Nat.le_of_ble_eq_true rfl) (by decide) (by decide) (by decide) (Nat.le_of_ble_eq_true rfl) rfl (xrcv1 (by decide) (by first | assumption | exact hL.t rfl)) (c54 hF0) rfl ?_
    refine xp_iald rfl (by first | assumption | exact hL.t rfl) (by omega) (by omega) ?_
    refine xp_iconst (n := 1) rfl (by decide) ?_
    refine xp_iceq 18 rfl (by decide) (by omega) (by omega) (fun h13 => ?_) (fun h13 => ?_)
    · exact absurd h13 hq
    · skip
      refine xp_iconst (n := 2) rfl (by decide) ?_
      refine xp_ireturn rfl (by decide) (by decide) (by decide) ?_
      rfl
def aThrow (A : xQ) (f : Nat) : Nat × xQ := if A.1 (f + 2) (4 + A.1 f 3) = 1 then (16 + oN (A.2 (f + 3) (4 + A.1 f 3) &&& 15), A) else (2, A)
theorem c41 {z : Nat} {T : Nat → Option xT} {R : Nat → Nat → Option Nat} {A : xQ} {f w : Nat} (hL : xLay T R w) (hF : xF0 T R f) (h1 : 1 ≤ A.1 f 3) (h6 : A.1 f 3 ≤ 6) (hk : A.1 (f + 2) (4 + A.1 f 3) ≤ 4) : xF 41 [.ref 11, .ref f] (xm z T R A) (.inr (some (.int (nI (aThrow A f).1))), xm z T R (aThrow A f).2) := by
  have hF0 := hF
  obtain ⟨f1, f2, hC⟩ := hF
  obtain ⟨c1, c2, c3, c4, c5⟩ := id hC
  by_cases hq : A.1 (f + 2) (4 + A.1 f 3) = 1
  · have e : aThrow A f = (16 + oN (A.2 (f + 3) (4 + A.1 f 3) &&& 15), A) := by unfold aThrow; rw [if_pos hq]
    rw [e]
    refine xF_eq (xF_p (Nat.le_of_ble_eq_true rfl) ?_)
    refine xp_aload_n rfl rfl ?_
    refine xp_gfa rfl rfl (by decide) (by decide) (by first | assumption | exact hL.t rfl) (by first | assumption | exact hL.r rfl | exact hL.2.2.2.2.2) ?_
    refine xp_gfa rfl rfl (by decide) (by decide) (by first | assumption | exact hL.t rfl) (by first | assumption | exact hL.r rfl | exact hL.2.2.2.2.2) ?_
    refine xp_aload_n rfl rfl ?_
    refine xp_iv rfl rfl (Nat.le_of_ble_eq_true rfl) (by decide) (by decide) (by decide) (Nat.le_of_ble_eq_true rfl) rfl (xrcv1 (by decide) (by first | assumption | exact hL.t rfl)) (c54 hF0) rfl ?_
    refine xp_iald rfl (by first | assumption | exact hL.t rfl) (by omega) (by omega) ?_
    refine xp_iconst (n := 1) rfl (by decide) ?_
    refine xp_iceq 18 rfl (by decide) (by omega) (by omega) (fun h13 => ?_) (fun h13 => ?_)
    · skip
      refine xp_bipush (n := 16) rfl (by decide) ?_
      refine xp_aload_n rfl rfl ?_
      refine xp_gfa rfl rfl (by decide) (by decide) (by first | assumption | exact hL.t rfl) (by first | assumption | exact hL.r rfl | exact hL.2.2.2.2.2) ?_
      refine xp_gfa rfl rfl (by decide) (by decide) (by first | assumption | exact hL.t rfl) (by first | assumption | exact hL.r rfl | exact hL.2.2.2.2.2) ?_
      refine xp_aload_n rfl rfl ?_
      refine xp_iv rfl rfl (Nat.le_of_ble_eq_true rfl) (by decide) (by decide) (by decide) (Nat.le_of_ble_eq_true rfl) rfl (xrcv1 (by decide) (by first | assumption | exact hL.t rfl)) (c54 hF0) rfl ?_
      refine xp_lald rfl (by first | assumption | exact hL.t rfl) (by omega) (by omega) ?_
      refine xp_ldc2 rfl rfl ?_
      refine xp_land rfl ?_
      refine xp_l2i rfl ?_
      rw [oN_i]
      refine xp_iadd rfl ?_
      refine xp_ireturn rfl (by decide) (by decide) (by decide) ?_
      rfl
    · exact absurd hq h13
  · have e : aThrow A f = (2, A) := by unfold aThrow; rw [if_neg hq]
    rw [e]
    refine xF_eq (xF_p (Nat.le_of_ble_eq_true rfl) ?_)
    refine xp_aload_n rfl rfl ?_
    refine xp_gfa rfl rfl (by decide) (by decide) (by first | assumption | exact hL.t rfl) (by first | assumption | exact hL.r rfl | exact hL.2.2.2.2.2) ?_
    refine xp_gfa rfl rfl (by decide) (by decide) (by first | assumption | exact hL.t rfl) (by first | assumption | exact hL.r rfl | exact hL.2.2.2.2.2) ?_
    refine xp_aload_n rfl rfl ?_
    refine xp_iv rfl rfl (Nat.le_of_ble_eq_true rfl) (by decide) (by decide) (by decide) (Nat.le_of_ble_eq_true rfl) rfl (xrcv1 (by decide) (by first | assumption | exact hL.t rfl)) (c54 hF0) rfl ?_
    refine xp_iald rfl (by first | assumption | exact hL.t rfl) (by omega) (by omega) ?_
    refine xp_iconst (n := 1) rfl (by decide) ?_
    refine xp_iceq 18 rfl (by decide) (by omega) (by omega) (fun h13 => ?_) (fun h13 => ?_)
    · exact absurd h13 hq
    · skip
      refine xp_iconst (n := 2) rfl (by decide) ?_
      refine xp_ireturn rfl (by decide) (by decide) (by decide) ?_
      rfl
def aSay (A : xQ) (f : Nat) : Nat × xQ := if A.1 (f + 2) (4 + A.1 f 3) = 1 ∨ A.1 (f + 2) (4 + A.1 f 3) = 2 then (0, aPop (xsI (if A.1 11 3 < 40 then xsJ A 98 (A.1 11 3) (A.2 (f + 3) (4 + A.1 f 3)) else A) 11 3 (A.1 11 3 + 1)) f 1) else (2, A)
theorem c42 {z : Nat} {T : Nat → Option xT} {R : Nat → Nat → Option Nat} {A : xQ} {f w : Nat} (hL : xLay T R w) (hF : xF0 T R f) (h1 : 1 ≤ A.1 f 3) (h6 : A.1 f 3 ≤ 6) (hk : A.1 (f + 2) (4 + A.1 f 3) ≤ 4) (hsd : A.1 11 3 < 2 ^ 31) : xF 42 [.ref 11, .ref f] (xm z T R A) (.inr (some (.int (nI (aSay A f).1))), xm z T R (aSay A f).2) := by
  have hF0 := hF
  obtain ⟨f1, f2, hC⟩ := hF
  obtain ⟨c1, c2, c3, c4, c5⟩ := id hC
  have hne : f ≠ 11 := xne f1 (hL.t (a := 11) rfl) (by simp)
  have ep : ∀ (B : xQ) v, (xsI B 11 3 v).1 f 3 = B.1 f 3 := fun B v => xsI_ne (Or.inl hne)
  by_cases hq : A.1 (f + 2) (4 + A.1 f 3) = 1 ∨ A.1 (f + 2) (4 + A.1 f 3) = 2
  · by_cases hz : A.1 11 3 < 40
    · have e : aSay A f = (0, aPop (xsI (xsJ A 98 (A.1 11 3) (A.2 (f + 3) (4 + A.1 f 3))) 11 3 (A.1 11 3 + 1)) f 1) := by unfold aSay; rw [if_pos hq, if_pos hz]
      rw [e]
      refine xF_eq (xF_p (Nat.le_of_ble_eq_true rfl) ?_)
      refine xp_aload_n rfl rfl ?_
      refine xp_gfa rfl rfl (by decide) (by decide) (by first | assumption | exact hL.t rfl) (by first | assumption | exact hL.r rfl | exact hL.2.2.2.2.2) ?_
      refine xp_aload_n rfl rfl ?_
      refine xp_iv rfl rfl (Nat.le_of_ble_eq_true rfl) (by decide) (by decide) (by decide) (Nat.le_of_ble_eq_true rfl) rfl (xrcv1 (by decide) (by first | assumption | exact hL.t rfl)) (c54 hF0) rfl ?_
      refine xp_iv rfl rfl (Nat.le_of_ble_eq_true rfl) (by decide) (by decide) (by decide) (Nat.le_of_ble_eq_true rfl) rfl (xrcv1 (by decide) (by first | assumption | exact hL.t rfl)) (c26t hC (by omega) (by omega) hq) rfl ?_
      refine xp_ifne 16 rfl (by decide) (by omega) (fun h11 => ?_) (fun h11 => ?_)
      · skip
        refine xp_aload_n rfl rfl ?_
        refine xp_gfi rfl rfl (by decide) (by decide) (by first | assumption | exact hL.t rfl) ?_
        refine xp_bipush (n := 40) rfl (by decide) ?_
        refine xp_icge 46 rfl (by decide) (by omega) (by omega) (fun h22 => ?_) (fun h22 => ?_)
        · exfalso; omega
        · skip
          refine xp_aload_n rfl rfl ?_
          refine xp_gfa rfl rfl (by decide) (by decide) (by first | assumption | exact hL.t rfl) (by first | assumption | exact hL.r rfl | exact hL.2.2.2.2.2) ?_
          refine xp_aload_n rfl rfl ?_
          refine xp_gfi rfl rfl (by decide) (by decide) (by first | assumption | exact hL.t rfl) ?_
          refine xp_aload_n rfl rfl ?_
          refine xp_gfa rfl rfl (by decide) (by decide) (by first | assumption | exact hL.t rfl) (by first | assumption | exact hL.r rfl | exact hL.2.2.2.2.2) ?_
          refine xp_gfa rfl rfl (by decide) (by decide) (by first | assumption | exact hL.t rfl) (by first | assumption | exact hL.r rfl | exact hL.2.2.2.2.2) ?_
          refine xp_aload_n rfl rfl ?_
          refine xp_iv rfl rfl (Nat.le_of_ble_eq_true rfl) (by decide) (by decide) (by decide) (Nat.le_of_ble_eq_true rfl) rfl (xrcv1 (by decide) (by first | assumption | exact hL.t rfl)) (c54 hF0) rfl ?_
          refine xp_lald rfl (by first | assumption | exact hL.t rfl) (by omega) (by omega) ?_
          refine xp_last rfl (by first | assumption | exact hL.t rfl) (by omega) (by omega) ?_
          refine xp_aload_n rfl rfl ?_
          refine xp_dup rfl rfl ?_
          refine xp_gfi rfl rfl (by decide) (by decide) (by first | assumption | exact hL.t rfl) ?_
          refine xp_iconst (n := 1) rfl (by decide) ?_
          refine xp_iadd rfl ?_
          refine xp_pfi rfl rfl (by decide) (by decide) (by decide) (by first | assumption | exact hL.t rfl) ?_
          refine xp_aload_n rfl rfl ?_
          refine xp_dup rfl rfl ?_
          refine xp_gfi rfl rfl (by decide) (by decide) (by first | assumption | exact hL.t rfl) ?_
          refine xp_iconst (n := 1) rfl (by decide) ?_
          refine xp_isub rfl (by rw [ep]; exact h1) ?_
          refine xp_pfi rfl rfl (by decide) (by decide) (by decide) (by first | assumption | exact hL.t rfl) ?_
          refine xp_iconst (n := 0) rfl (by decide) ?_
          refine xp_ireturn rfl (by decide) (by decide) (by decide) ?_
          rfl
      · exfalso; omega
    · have e : aSay A f = (0, aPop (xsI A 11 3 (A.1 11 3 + 1)) f 1) := by unfold aSay; rw [if_pos hq, if_neg hz]
      rw [e]
      refine xF_eq (xF_p (Nat.le_of_ble_eq_true rfl) ?_)
      refine xp_aload_n rfl rfl ?_
      refine xp_gfa rfl rfl (by decide) (by decide) (by first | assumption | exact hL.t rfl) (by first | assumption | exact hL.r rfl | exact hL.2.2.2.2.2) ?_
      refine xp_aload_n rfl rfl ?_
      refine xp_iv rfl rfl (Nat.le_of_ble_eq_true rfl) (by decide) (by decide) (by decide) (Nat.le_of_ble_eq_true rfl) rfl (xrcv1 (by decide) (by first | assumption | exact hL.t rfl)) (c54 hF0) rfl ?_
      refine xp_iv rfl rfl (Nat.le_of_ble_eq_true rfl) (by decide) (by decide) (by decide) (Nat.le_of_ble_eq_true rfl) rfl (xrcv1 (by decide) (by first | assumption | exact hL.t rfl)) (c26t hC (by omega) (by omega) hq) rfl ?_
      refine xp_ifne 16 rfl (by decide) (by omega) (fun h11 => ?_) (fun h11 => ?_)
      · skip
        refine xp_aload_n rfl rfl ?_
        refine xp_gfi rfl rfl (by decide) (by decide) (by first | assumption | exact hL.t rfl) ?_
        refine xp_bipush (n := 40) rfl (by decide) ?_
        refine xp_icge 46 rfl (by decide) (by omega) (by omega) (fun h22 => ?_) (fun h22 => ?_)
        · skip
          refine xp_aload_n rfl rfl ?_
          refine xp_dup rfl rfl ?_
          refine xp_gfi rfl rfl (by decide) (by decide) (by first | assumption | exact hL.t rfl) ?_
          refine xp_iconst (n := 1) rfl (by decide) ?_
          refine xp_iadd rfl ?_
          refine xp_pfi rfl rfl (by decide) (by decide) (by decide) (by first | assumption | exact hL.t rfl) ?_
          refine xp_aload_n rfl rfl ?_
          refine xp_dup rfl rfl ?_
          refine xp_gfi rfl rfl (by decide) (by decide) (by first | assumption | exact hL.t rfl) ?_
          refine xp_iconst (n := 1) rfl (by decide) ?_
          refine xp_isub rfl (by rw [ep]; exact h1) ?_
          refine xp_pfi rfl rfl (by decide) (by decide) (by decide) (by first | assumption | exact hL.t rfl) ?_
          refine xp_iconst (n := 0) rfl (by decide) ?_
          refine xp_ireturn rfl (by decide) (by decide) (by decide) ?_
          rfl
        · exfalso; omega
      · exfalso; omega
  · have e : aSay A f = (2, A) := by unfold aSay; rw [if_neg hq]
    rw [e]
    refine xF_eq (xF_p (Nat.le_of_ble_eq_true rfl) ?_)
    refine xp_aload_n rfl rfl ?_
    refine xp_gfa rfl rfl (by decide) (by decide) (by first | assumption | exact hL.t rfl) (by first | assumption | exact hL.r rfl | exact hL.2.2.2.2.2) ?_
    refine xp_aload_n rfl rfl ?_
    refine xp_iv rfl rfl (Nat.le_of_ble_eq_true rfl) (by decide) (by decide) (by decide) (Nat.le_of_ble_eq_true rfl) rfl (xrcv1 (by decide) (by first | assumption | exact hL.t rfl)) (c54 hF0) rfl ?_
    refine xp_iv rfl rfl (Nat.le_of_ble_eq_true rfl) (by decide) (by decide) (by decide) (Nat.le_of_ble_eq_true rfl) rfl (xrcv1 (by decide) (by first | assumption | exact hL.t rfl)) (c26f hC (by omega) (by omega) hk hq) rfl ?_
    refine xp_ifne 16 rfl (by decide) (by omega) (fun h11 => ?_) (fun h11 => ?_)
    · exfalso; omega
    · skip
      refine xp_iconst (n := 2) rfl (by decide) ?_
      refine xp_ireturn rfl (by decide) (by decide) (by decide) ?_
      rfl
