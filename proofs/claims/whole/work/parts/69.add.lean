-- add
def xTA (op : Nat) : Nat := [4294967295, 4294967294, 4294967294, 4294967295, 3, 3, 4294967295, 4294967295, 4294967295, 4294967295, 4294967295, 4294967295, 4294967295, 4294967295, 4294967295, 4294967295, 4294967295, 2, 2, 5, 1, 5, 4294967295, 4294967295, 4294967295, 4294967295, 5, 4294967295].getD op 0
theorem topA {op : Nat} (h : op ≤ 27) : ([(-1), (-2), (-2), (-1), 3, 3, (-1), (-1), (-1), (-1), (-1), (-1), (-1), (-1), (-1), (-1), (-1), 2, 2, 5, 1, 5, (-1), (-1), (-1), (-1), 5, (-1)] : List Int32).getD op 0 = nI (xTA op) := by
  rcases op28 h with rfl | rfl | rfl | rfl | rfl | rfl | rfl | rfl | rfl | rfl | rfl | rfl | rfl | rfl | rfl | rfl | rfl | rfl | rfl | rfl | rfl | rfl | rfl | rfl | rfl | rfl | rfl | rfl <;> decide
def xTB (op : Nat) : Nat := [4294967295, 4294967295, 4294967294, 4294967295, 4294967295, 4294967295, 4294967295, 4294967295, 4294967295, 4294967295, 4294967295, 4294967295, 4294967295, 4294967295, 29, 29, 4294967295, 4294967295, 4294967295, 2, 4294967295, 4294967295, 4294967295, 4294967295, 4294967295, 4294967295, 4294967295, 4294967295].getD op 0
theorem topB {op : Nat} (h : op ≤ 27) : ([(-1), (-1), (-2), (-1), (-1), (-1), (-1), (-1), (-1), (-1), (-1), (-1), (-1), (-1), 29, 29, (-1), (-1), (-1), 2, (-1), (-1), (-1), (-1), (-1), (-1), (-1), (-1)] : List Int32).getD op 0 = nI (xTB op) := by
  rcases op28 h with rfl | rfl | rfl | rfl | rfl | rfl | rfl | rfl | rfl | rfl | rfl | rfl | rfl | rfl | rfl | rfl | rfl | rfl | rfl | rfl | rfl | rfl | rfl | rfl | rfl | rfl | rfl | rfl <;> decide
abbrev xFit (t x : Nat) : Prop := 2 ^ 31 ≤ t ∨ (x < 2 ^ 31 ∧ x ≤ t)
def xKp (t x : Nat) : Nat := if t = 4294967295 then 0 else x
theorem xT_lt {op : Nat} (h : op ≤ 27) : xTA op < 2 ^ 32 ∧ xTB op < 2 ^ 32 := by
  rcases op28 h with rfl | rfl | rfl | rfl | rfl | rfl | rfl | rfl | rfl | rfl | rfl | rfl | rfl | rfl | rfl | rfl | rfl | rfl | rfl | rfl | rfl | rfl | rfl | rfl | rfl | rfl | rfl | rfl <;> decide
theorem tops {op : Nat} (h : op ≤ 27) : ((mMostA op = 4294967295 ∧ 2 ^ 31 ≤ xTA op) ∨ (mMostA op = xTA op ∧ xTA op ≤ 5)) ∧ ((mMostB op = 4294967295 ∧ 2 ^ 31 ≤ xTB op) ∨ (mMostB op = xTB op ∧ xTB op ≤ 29)) ∧ (xTA op = 4294967295 ↔ (mMostA op = 4294967295 ∧ op ≠ 1 ∧ op ≠ 2)) ∧ (xTB op = 4294967295 ↔ (mMostB op = 4294967295 ∧ op ≠ 2)) := by
  rcases op28 h with rfl | rfl | rfl | rfl | rfl | rfl | rfl | rfl | rfl | rfl | rfl | rfl | rfl | rfl | rfl | rfl | rfl | rfl | rfl | rfl | rfl | rfl | rfl | rfl | rfl | rfl | rfl | rfl <;> decide
theorem IOk_add {op a b : Nat} (h : op ≤ 27) (ha : xFit (xTA op) a) (hb : xFit (xTB op) b) : IOk op (xKp (xTA op) a) (xKp (xTB op) b) := by
  rcases op28 h with rfl | rfl | rfl | rfl | rfl | rfl | rfl | rfl | rfl | rfl | rfl | rfl | rfl | rfl | rfl | rfl | rfl | rfl | rfl | rfl | rfl | rfl | rfl | rfl | rfl | rfl | rfl | rfl
  · have ea : xTA 0 = 4294967295 := rfl
    have eb : xTB 0 = 4294967295 := rfl
    rw [ea] at ha
    rw [eb] at hb
    rw [ea, eb]
    clear ea eb
    unfold xFit at ha hb
    unfold xKp
    refine ⟨by omega, fun _ => by omega, fun _ => by omega, fun _ => by omega, fun _ => by omega, fun _ => by omega, fun _ => by omega⟩
  · have ea : xTA 1 = 4294967294 := rfl
    have eb : xTB 1 = 4294967295 := rfl
    rw [ea] at ha
    rw [eb] at hb
    rw [ea, eb]
    clear ea eb
    unfold xFit at ha hb
    unfold xKp
    rw [if_neg (by omega : ¬ (4294967294 : Nat) = 4294967295)]
    refine ⟨by omega, fun _ => by omega, fun _ => by omega, fun _ => by omega, fun _ => by omega, fun _ => by omega, fun _ => by omega⟩
  · have ea : xTA 2 = 4294967294 := rfl
    have eb : xTB 2 = 4294967294 := rfl
    rw [ea] at ha
    rw [eb] at hb
    rw [ea, eb]
    clear ea eb
    unfold xFit at ha hb
    unfold xKp
    rw [if_neg (by omega : ¬ (4294967294 : Nat) = 4294967295)]
    rw [if_neg (by omega : ¬ (4294967294 : Nat) = 4294967295)]
    refine ⟨by omega, fun _ => by omega, fun _ => by omega, fun _ => by omega, fun _ => by omega, fun _ => by omega, fun _ => by omega⟩
  · have ea : xTA 3 = 4294967295 := rfl
    have eb : xTB 3 = 4294967295 := rfl
    rw [ea] at ha
    rw [eb] at hb
    rw [ea, eb]
    clear ea eb
    unfold xFit at ha hb
    unfold xKp
    refine ⟨by omega, fun _ => by omega, fun _ => by omega, fun _ => by omega, fun _ => by omega, fun _ => by omega, fun _ => by omega⟩
  · have ea : xTA 4 = 3 := rfl
    have eb : xTB 4 = 4294967295 := rfl
    rw [ea] at ha
    rw [eb] at hb
    rw [ea, eb]
    clear ea eb
    unfold xFit at ha hb
    unfold xKp
    rw [if_neg (by omega : ¬ (3 : Nat) = 4294967295)]
    refine ⟨by omega, fun _ => by omega, fun _ => by omega, fun _ => by omega, fun _ => by omega, fun _ => by omega, fun _ => by omega⟩
  · have ea : xTA 5 = 3 := rfl
    have eb : xTB 5 = 4294967295 := rfl
    rw [ea] at ha
    rw [eb] at hb
    rw [ea, eb]
    clear ea eb
    unfold xFit at ha hb
    unfold xKp
    rw [if_neg (by omega : ¬ (3 : Nat) = 4294967295)]
    refine ⟨by omega, fun _ => by omega, fun _ => by omega, fun _ => by omega, fun _ => by omega, fun _ => by omega, fun _ => by omega⟩
  · have ea : xTA 6 = 4294967295 := rfl
    have eb : xTB 6 = 4294967295 := rfl
    rw [ea] at ha
    rw [eb] at hb
    rw [ea, eb]
    clear ea eb
    unfold xFit at ha hb
    unfold xKp
    refine ⟨by omega, fun _ => by omega, fun _ => by omega, fun _ => by omega, fun _ => by omega, fun _ => by omega, fun _ => by omega⟩
  · have ea : xTA 7 = 4294967295 := rfl
    have eb : xTB 7 = 4294967295 := rfl
    rw [ea] at ha
    rw [eb] at hb
    rw [ea, eb]
    clear ea eb
    unfold xFit at ha hb
    unfold xKp
    refine ⟨by omega, fun _ => by omega, fun _ => by omega, fun _ => by omega, fun _ => by omega, fun _ => by omega, fun _ => by omega⟩
  · have ea : xTA 8 = 4294967295 := rfl
    have eb : xTB 8 = 4294967295 := rfl
    rw [ea] at ha
    rw [eb] at hb
    rw [ea, eb]
    clear ea eb
    unfold xFit at ha hb
    unfold xKp
    refine ⟨by omega, fun _ => by omega, fun _ => by omega, fun _ => by omega, fun _ => by omega, fun _ => by omega, fun _ => by omega⟩
  · have ea : xTA 9 = 4294967295 := rfl
    have eb : xTB 9 = 4294967295 := rfl
    rw [ea] at ha
    rw [eb] at hb
    rw [ea, eb]
    clear ea eb
    unfold xFit at ha hb
    unfold xKp
    refine ⟨by omega, fun _ => by omega, fun _ => by omega, fun _ => by omega, fun _ => by omega, fun _ => by omega, fun _ => by omega⟩
  · have ea : xTA 10 = 4294967295 := rfl
    have eb : xTB 10 = 4294967295 := rfl
    rw [ea] at ha
    rw [eb] at hb
    rw [ea, eb]
    clear ea eb
    unfold xFit at ha hb
    unfold xKp
    refine ⟨by omega, fun _ => by omega, fun _ => by omega, fun _ => by omega, fun _ => by omega, fun _ => by omega, fun _ => by omega⟩
  · have ea : xTA 11 = 4294967295 := rfl
    have eb : xTB 11 = 4294967295 := rfl
    rw [ea] at ha
    rw [eb] at hb
    rw [ea, eb]
    clear ea eb
    unfold xFit at ha hb
    unfold xKp
    refine ⟨by omega, fun _ => by omega, fun _ => by omega, fun _ => by omega, fun _ => by omega, fun _ => by omega, fun _ => by omega⟩
  · have ea : xTA 12 = 4294967295 := rfl
    have eb : xTB 12 = 4294967295 := rfl
    rw [ea] at ha
    rw [eb] at hb
    rw [ea, eb]
    clear ea eb
    unfold xFit at ha hb
    unfold xKp
    refine ⟨by omega, fun _ => by omega, fun _ => by omega, fun _ => by omega, fun _ => by omega, fun _ => by omega, fun _ => by omega⟩
  · have ea : xTA 13 = 4294967295 := rfl
    have eb : xTB 13 = 4294967295 := rfl
    rw [ea] at ha
    rw [eb] at hb
    rw [ea, eb]
    clear ea eb
    unfold xFit at ha hb
    unfold xKp
    refine ⟨by omega, fun _ => by omega, fun _ => by omega, fun _ => by omega, fun _ => by omega, fun _ => by omega, fun _ => by omega⟩
  · have ea : xTA 14 = 4294967295 := rfl
    have eb : xTB 14 = 29 := rfl
    rw [ea] at ha
    rw [eb] at hb
    rw [ea, eb]
    clear ea eb
    unfold xFit at ha hb
    unfold xKp
    rw [if_neg (by omega : ¬ (29 : Nat) = 4294967295)]
    refine ⟨by omega, fun _ => by omega, fun _ => by omega, fun _ => by omega, fun _ => by omega, fun _ => by omega, fun _ => by omega⟩
  · have ea : xTA 15 = 4294967295 := rfl
    have eb : xTB 15 = 29 := rfl
    rw [ea] at ha
    rw [eb] at hb
    rw [ea, eb]
    clear ea eb
    unfold xFit at ha hb
    unfold xKp
    rw [if_neg (by omega : ¬ (29 : Nat) = 4294967295)]
    refine ⟨by omega, fun _ => by omega, fun _ => by omega, fun _ => by omega, fun _ => by omega, fun _ => by omega, fun _ => by omega⟩
  · have ea : xTA 16 = 4294967295 := rfl
    have eb : xTB 16 = 4294967295 := rfl
    rw [ea] at ha
    rw [eb] at hb
    rw [ea, eb]
    clear ea eb
    unfold xFit at ha hb
    unfold xKp
    refine ⟨by omega, fun _ => by omega, fun _ => by omega, fun _ => by omega, fun _ => by omega, fun _ => by omega, fun _ => by omega⟩
  · have ea : xTA 17 = 2 := rfl
    have eb : xTB 17 = 4294967295 := rfl
    rw [ea] at ha
    rw [eb] at hb
    rw [ea, eb]
    clear ea eb
    unfold xFit at ha hb
    unfold xKp
    rw [if_neg (by omega : ¬ (2 : Nat) = 4294967295)]
    refine ⟨by omega, fun _ => by omega, fun _ => by omega, fun _ => by omega, fun _ => by omega, fun _ => by omega, fun _ => by omega⟩
  · have ea : xTA 18 = 2 := rfl
    have eb : xTB 18 = 4294967295 := rfl
    rw [ea] at ha
    rw [eb] at hb
    rw [ea, eb]
    clear ea eb
    unfold xFit at ha hb
    unfold xKp
    rw [if_neg (by omega : ¬ (2 : Nat) = 4294967295)]
    refine ⟨by omega, fun _ => by omega, fun _ => by omega, fun _ => by omega, fun _ => by omega, fun _ => by omega, fun _ => by omega⟩
  · have ea : xTA 19 = 5 := rfl
    have eb : xTB 19 = 2 := rfl
    rw [ea] at ha
    rw [eb] at hb
    rw [ea, eb]
    clear ea eb
    unfold xFit at ha hb
    unfold xKp
    rw [if_neg (by omega : ¬ (5 : Nat) = 4294967295)]
    rw [if_neg (by omega : ¬ (2 : Nat) = 4294967295)]
    refine ⟨by omega, fun _ => by omega, fun _ => by omega, fun _ => by omega, fun _ => by omega, fun _ => by omega, fun _ => by omega⟩
  · have ea : xTA 20 = 1 := rfl
    have eb : xTB 20 = 4294967295 := rfl
    rw [ea] at ha
    rw [eb] at hb
    rw [ea, eb]
    clear ea eb
    unfold xFit at ha hb
    unfold xKp
    rw [if_neg (by omega : ¬ (1 : Nat) = 4294967295)]
    refine ⟨by omega, fun _ => by omega, fun _ => by omega, fun _ => by omega, fun _ => by omega, fun _ => by omega, fun _ => by omega⟩
  · have ea : xTA 21 = 5 := rfl
    have eb : xTB 21 = 4294967295 := rfl
    rw [ea] at ha
    rw [eb] at hb
    rw [ea, eb]
    clear ea eb
    unfold xFit at ha hb
    unfold xKp
    rw [if_neg (by omega : ¬ (5 : Nat) = 4294967295)]
    refine ⟨by omega, fun _ => by omega, fun _ => by omega, fun _ => by omega, fun _ => by omega, fun _ => by omega, fun _ => by omega⟩
  · have ea : xTA 22 = 4294967295 := rfl
    have eb : xTB 22 = 4294967295 := rfl
    rw [ea] at ha
    rw [eb] at hb
    rw [ea, eb]
    clear ea eb
    unfold xFit at ha hb
    unfold xKp
    refine ⟨by omega, fun _ => by omega, fun _ => by omega, fun _ => by omega, fun _ => by omega, fun _ => by omega, fun _ => by omega⟩
  · have ea : xTA 23 = 4294967295 := rfl
    have eb : xTB 23 = 4294967295 := rfl
    rw [ea] at ha
    rw [eb] at hb
    rw [ea, eb]
    clear ea eb
    unfold xFit at ha hb
    unfold xKp
    refine ⟨by omega, fun _ => by omega, fun _ => by omega, fun _ => by omega, fun _ => by omega, fun _ => by omega, fun _ => by omega⟩
  · have ea : xTA 24 = 4294967295 := rfl
    have eb : xTB 24 = 4294967295 := rfl
    rw [ea] at ha
    rw [eb] at hb
    rw [ea, eb]
    clear ea eb
    unfold xFit at ha hb
    unfold xKp
    refine ⟨by omega, fun _ => by omega, fun _ => by omega, fun _ => by omega, fun _ => by omega, fun _ => by omega, fun _ => by omega⟩
  · have ea : xTA 25 = 4294967295 := rfl
    have eb : xTB 25 = 4294967295 := rfl
    rw [ea] at ha
    rw [eb] at hb
    rw [ea, eb]
    clear ea eb
    unfold xFit at ha hb
    unfold xKp
    refine ⟨by omega, fun _ => by omega, fun _ => by omega, fun _ => by omega, fun _ => by omega, fun _ => by omega, fun _ => by omega⟩
  · have ea : xTA 26 = 5 := rfl
    have eb : xTB 26 = 4294967295 := rfl
    rw [ea] at ha
    rw [eb] at hb
    rw [ea, eb]
    clear ea eb
    unfold xFit at ha hb
    unfold xKp
    rw [if_neg (by omega : ¬ (5 : Nat) = 4294967295)]
    refine ⟨by omega, fun _ => by omega, fun _ => by omega, fun _ => by omega, fun _ => by omega, fun _ => by omega, fun _ => by omega⟩
  · have ea : xTA 27 = 4294967295 := rfl
    have eb : xTB 27 = 4294967295 := rfl
    rw [ea] at ha
    rw [eb] at hb
    rw [ea, eb]
    clear ea eb
    unfold xFit at ha hb
    unfold xKp
    refine ⟨by omega, fun _ => by omega, fun _ => by omega, fun _ => by omega, fun _ => by omega, fun _ => by omega, fun _ => by omega⟩
theorem c17 {z : Nat} {T : Nat → Option xT} {R : Nat → Nat → Option Nat} {A : xQ} {t x : Nat} (ht : t < 2 ^ 32) (hx : x < 2 ^ 32) : xF 17 [.int (nI t), .int (nI x)] (xm z T R A) (.inr (some (.int (nI (if xFit t x then 1 else 0)))), xm z T R A) := by
  refine xF_eq (xF_p (Nat.le_of_ble_eq_true rfl) ?_)
  refine xp_iload_n rfl rfl ?_
  refine xp_iflt 13 rfl (by decide) (by omega) (fun h1 => ?_) (fun h1 => ?_)
  · skip
    refine xp_iconst (n := 1) rfl (by decide) ?_
    refine xp_goto 18 rfl (by decide) ?_
    refine xp_zreturn rfl (by decide) (by decide) (by decide) (by omega) ?_
    first | (rw [if_pos (by unfold xFit; omega)]) | (rw [if_neg (by unfold xFit; omega)])
  · skip
    refine xp_iload_n rfl rfl ?_
    refine xp_iflt 17 rfl (by decide) (by omega) (fun h5 => ?_) (fun h5 => ?_)
    · skip
      refine xp_iconst (n := 0) rfl (by decide) ?_
      refine xp_zreturn rfl (by decide) (by decide) (by decide) (by omega) ?_
      first | (rw [if_pos (by unfold xFit; omega)]) | (rw [if_neg (by unfold xFit; omega)])
    · skip
      refine xp_iload_n rfl rfl ?_
      refine xp_iload_n rfl rfl ?_
      refine xp_icgt 17 rfl (by decide) (by omega) (by omega) (fun h10 => ?_) (fun h10 => ?_)
      · skip
        refine xp_iconst (n := 0) rfl (by decide) ?_
        refine xp_zreturn rfl (by decide) (by decide) (by decide) (by omega) ?_
        first | (rw [if_pos (by unfold xFit; omega)]) | (rw [if_neg (by unfold xFit; omega)])
      · skip
        refine xp_iconst (n := 1) rfl (by decide) ?_
        refine xp_goto 18 rfl (by decide) ?_
        refine xp_zreturn rfl (by decide) (by decide) (by decide) (by omega) ?_
        first | (rw [if_pos (by unfold xFit; omega)]) | (rw [if_neg (by unfold xFit; omega)])
theorem c18 {z : Nat} {T : Nat → Option xT} {R : Nat → Nat → Option Nat} {A : xQ} {t x : Nat} (ht : t < 2 ^ 32) : xF 18 [.int (nI t), .int (nI x)] (xm z T R A) (.inr (some (.int (nI (xKp t x)))), xm z T R A) := by
  refine xF_eq (xF_p (Nat.le_of_ble_eq_true rfl) ?_)
  refine xp_iload_n rfl rfl ?_
  refine xp_iconst (n := 4294967295) rfl (by decide) ?_
  refine xp_icne 9 rfl (by decide) (by omega) (by omega) (fun h2 => ?_) (fun h2 => ?_)
  · skip
    refine xp_iload_n rfl rfl ?_
    refine xp_ireturn rfl (by decide) (by decide) (by decide) ?_
    unfold xKp
    first | (rw [if_pos (by omega)]) | (rw [if_neg (by omega)])
  · skip
    refine xp_iconst (n := 0) rfl (by decide) ?_
    refine xp_goto 10 rfl (by decide) ?_
    refine xp_ireturn rfl (by decide) (by decide) (by decide) ?_
    unfold xKp
    first | (rw [if_pos (by omega)]) | (rw [if_neg (by omega)])
def aApp (A : xQ) (f op a b : Nat) : xQ := xsI (xsI (xsI (xsI A 4 (f * 30 + A.1 3 f) op) 5 (f * 30 + A.1 3 f) a) 6 (f * 30 + A.1 3 f) b) 3 f (A.1 3 f + 1)
theorem c72 {z : Nat} {T : Nat → Option xT} {R : Nat → Nat → Option Nat} {A : xQ} {w f op a b : Nat} (hL : xLay T R w) (hf : f < 6) (h3 : A.1 3 f < 30) : xF 72 [.ref 1, .int (nI f), .int (nI op), .int (nI a), .int (nI b)] (xm z T R A) (.inr (none), xm z T R (aApp A f op a b)) := by
  have e7 : (xsI (xsI (xsI A 4 (f * 30 + A.1 3 f) op) 5 (f * 30 + A.1 3 f) a) 6 (f * 30 + A.1 3 f) b).1 3 f = A.1 3 f := by rw [xsI_ne (by omega), xsI_ne (by omega), xsI_ne (by omega)]
  refine xF_eq (xF_p (Nat.le_of_ble_eq_true rfl) ?_)
  refine xp_iload_n rfl rfl ?_
  refine xp_bipush (n := 30) rfl (by decide) ?_
  refine xp_imul rfl ?_
  refine xp_aload_n rfl rfl ?_
  refine xp_gfa rfl rfl (by decide) (by decide) (by first | assumption | exact hL.t rfl) (by first | assumption | exact hL.r rfl | exact hL.2.2.2.2.2) ?_
  refine xp_iload_n rfl rfl ?_
  refine xp_iald rfl (by first | assumption | exact hL.t rfl) (by omega) (by omega) ?_
  refine xp_iadd rfl ?_
  refine xp_istore rfl (by decide) ?_
  refine xp_aload_n rfl rfl ?_
  refine xp_gfa rfl rfl (by decide) (by decide) (by first | assumption | exact hL.t rfl) (by first | assumption | exact hL.r rfl | exact hL.2.2.2.2.2) ?_
  refine xp_iload rfl rfl ?_
  refine xp_iload_n rfl rfl ?_
  refine xp_iast rfl (by first | assumption | exact hL.t rfl) (by omega) (by omega) ?_
  refine xp_aload_n rfl rfl ?_
  refine xp_gfa rfl rfl (by decide) (by decide) (by first | assumption | exact hL.t rfl) (by first | assumption | exact hL.r rfl | exact hL.2.2.2.2.2) ?_
  refine xp_iload rfl rfl ?_
  refine xp_iload_n rfl rfl ?_
  refine xp_iast rfl (by first | assumption | exact hL.t rfl) (by omega) (by omega) ?_
  refine xp_aload_n rfl rfl ?_
  refine xp_gfa rfl rfl (by decide) (by decide) (by first | assumption | exact hL.t rfl) (by first | assumption | exact hL.r rfl | exact hL.2.2.2.2.2) ?_
  refine xp_iload rfl rfl ?_
  refine xp_iload rfl rfl ?_
  refine xp_iast rfl (by first | assumption | exact hL.t rfl) (by omega) (by omega) ?_
  refine xp_aload_n rfl rfl ?_
  refine xp_gfa rfl rfl (by decide) (by decide) (by first | assumption | exact hL.t rfl) (by first | assumption | exact hL.r rfl | exact hL.2.2.2.2.2) ?_
  refine xp_iload_n rfl rfl ?_
  refine xp_dup2 rfl rfl rfl ?_
  refine xp_iald rfl (by first | assumption | exact hL.t rfl) (by omega) (by omega) ?_
  rw [e7]
  refine xp_iconst (n := 1) rfl (by decide) ?_
  refine xp_iadd rfl ?_
  refine xp_iast rfl (by first | assumption | exact hL.t rfl) (by omega) (by omega) ?_
  refine xp_return rfl (by decide) (by decide) (by decide) ?_
  rfl
theorem c2 {z : Nat} {T : Nat → Option xT} {R : Nat → Nat → Option Nat} {A : xQ} {w f op a b : Nat} (hL : xLay T R w) (hf : f < 6) (hop : op ≤ 27) (ha : a < 2 ^ 32) (hb : b < 2 ^ 32) (fa : xFit (xTA op) a) (fb : xFit (xTB op) b) (h3 : A.1 3 f < 30) : xF 2 [.ref 0, .int (nI f), .int (nI op), .int (nI a), .int (nI b)] (xm z T R A) (.inr (some (.int (nI (A.1 3 f + 1)))), xm z T R (aApp A f op (xKp (xTA op) a) (xKp (xTB op) b))) := by
  have i6 : (if f < 6 then 1 else 0) = 1 := if_pos hf
  have i1 : (if xFit (xTA op) a then 1 else 0) = 1 := if_pos fa
  have i2 : (if xFit (xTB op) b then 1 else 0) = 1 := if_pos fb
  obtain ⟨t1, t2⟩ := xT_lt hop
  have hs0 : T 1000000 = none := hL.2.2.1 0 (by omega)
  have hs1 : T 1000001 = none := hL.2.2.1 1 (by omega)
  have e7 : (aApp A f op (xKp (xTA op) a) (xKp (xTB op) b)).1 3 f = A.1 3 f + 1 := xsI_eq
  refine xF_eq (xF_p (Nat.le_of_ble_eq_true rfl) ?_)
  refine xp_iload_n rfl rfl ?_
  refine xp_is rfl rfl rfl (Nat.le_of_ble_eq_true rfl) (by decide) (by decide) (by decide) (Nat.le_of_ble_eq_true rfl) rfl (xrcv0 (by decide) _ _) (c15 (by omega)) rfl ?_
  rw [i6]
  refine xp_ifeq 42 rfl (by decide) (by omega) (fun h4 => ?_) (fun h4 => ?_)
  · exfalso; omega
  · skip
    refine xp_iload_n rfl rfl ?_
    refine xp_iflt 42 rfl (by decide) (by omega) (fun h8 => ?_) (fun h8 => ?_)
    · exfalso; omega
    · skip
      refine xp_iload_n rfl rfl ?_
      refine xp_bipush (n := 27) rfl (by decide) ?_
      refine xp_icgt 42 rfl (by decide) (by omega) (by omega) (fun h14 => ?_) (fun h14 => ?_)
      · exfalso; omega
      · skip
        refine xp_gs rfl rfl ?_
        refine xp_iload_n rfl rfl ?_
        refine xp_stld rfl (by first | assumption | exact hL.t rfl) (by decide) rfl (by show op < 28; omega) (by decide) ?_
        rw [topA hop]
        refine xp_iload_n rfl rfl ?_
        refine xp_is rfl rfl rfl (Nat.le_of_ble_eq_true rfl) (by decide) (by decide) (by decide) (Nat.le_of_ble_eq_true rfl) rfl (xrcv0 (by decide) _ _) (c17 t1 ha) rfl ?_
        rw [i1]
        refine xp_ifeq 42 rfl (by decide) (by omega) (fun h26 => ?_) (fun h26 => ?_)
        · exfalso; omega
        · skip
          refine xp_gs rfl rfl ?_
          refine xp_iload_n rfl rfl ?_
          refine xp_stld rfl (by first | assumption | exact hL.t rfl) (by decide) rfl (by show op < 28; omega) (by decide) ?_
          rw [topB hop]
          refine xp_iload rfl rfl ?_
          refine xp_is rfl rfl rfl (Nat.le_of_ble_eq_true rfl) (by decide) (by decide) (by decide) (Nat.le_of_ble_eq_true rfl) rfl (xrcv0 (by decide) _ _) (c17 t2 hb) rfl ?_
          rw [i2]
          refine xp_ifne 50 rfl (by decide) (by omega) (fun h39 => ?_) (fun h39 => ?_)
          · skip
            refine xp_aload_n rfl rfl ?_
            refine xp_gfa rfl rfl (by decide) (by decide) (by first | assumption | exact hL.t rfl) (by first | assumption | exact hL.r rfl | exact hL.2.2.2.2.2) ?_
            refine xp_gfa rfl rfl (by decide) (by decide) (by first | assumption | exact hL.t rfl) (by first | assumption | exact hL.r rfl | exact hL.2.2.2.2.2) ?_
            refine xp_iload_n rfl rfl ?_
            refine xp_iald rfl (by first | assumption | exact hL.t rfl) (by omega) (by omega) ?_
            refine xp_bipush (n := 30) rfl (by decide) ?_
            refine xp_icne 72 rfl (by decide) (by omega) (by omega) (fun h61 => ?_) (fun h61 => ?_)
            · skip
              refine xp_aload_n rfl rfl ?_
              refine xp_gfa rfl rfl (by decide) (by decide) (by first | assumption | exact hL.t rfl) (by first | assumption | exact hL.r rfl | exact hL.2.2.2.2.2) ?_
              refine xp_iload_n rfl rfl ?_
              refine xp_iload_n rfl rfl ?_
              refine xp_gs rfl rfl ?_
              refine xp_iload_n rfl rfl ?_
              refine xp_stld rfl (by first | assumption | exact hL.t rfl) (by decide) rfl (by show op < 28; omega) (by decide) ?_
              rw [topA hop]
              refine xp_iload_n rfl rfl ?_
              refine xp_is rfl rfl rfl (Nat.le_of_ble_eq_true rfl) (by decide) (by decide) (by decide) (Nat.le_of_ble_eq_true rfl) rfl (xrcv0 (by decide) _ _) (c18 t1) rfl ?_
              refine xp_gs rfl rfl ?_
              refine xp_iload_n rfl rfl ?_
              refine xp_stld rfl (by first | assumption | exact hL.t rfl) (by decide) rfl (by show op < 28; omega) (by decide) ?_
              rw [topB hop]
              refine xp_iload rfl rfl ?_
              refine xp_is rfl rfl rfl (Nat.le_of_ble_eq_true rfl) (by decide) (by decide) (by decide) (Nat.le_of_ble_eq_true rfl) rfl (xrcv0 (by decide) _ _) (c18 t2) rfl ?_
              refine xp_iv rfl rfl (Nat.le_of_ble_eq_true rfl) (by decide) (by decide) (by decide) (Nat.le_of_ble_eq_true rfl) rfl (xrcv1 (by decide) (by first | assumption | exact hL.t rfl)) (c72 hL hf h3) rfl ?_
              refine xp_aload_n rfl rfl ?_
              refine xp_gfa rfl rfl (by decide) (by decide) (by first | assumption | exact hL.t rfl) (by first | assumption | exact hL.r rfl | exact hL.2.2.2.2.2) ?_
              refine xp_gfa rfl rfl (by decide) (by decide) (by first | assumption | exact hL.t rfl) (by first | assumption | exact hL.r rfl | exact hL.2.2.2.2.2) ?_
              refine xp_iload_n rfl rfl ?_
              refine xp_iald rfl (by first | assumption | exact hL.t rfl) (by omega) (by omega) ?_
              rw [e7]
              refine xp_ireturn rfl (by decide) (by decide) (by decide) ?_
              rfl
            · exfalso; omega
          · exfalso; omega
theorem c2b {z : Nat} {T : Nat → Option xT} {R : Nat → Nat → Option Nat} {A : xQ} {w f op a b : Nat} (hL : xLay T R w) (hf : f < 6) (hop : op ≤ 27) (ha : a < 2 ^ 32) (hb : b < 2 ^ 32) (fa : xFit (xTA op) a) (fb : xFit (xTB op) b) (h3 : A.1 3 f = 30) : xF 2 [.ref 0, .int (nI f), .int (nI op), .int (nI a), .int (nI b)] (xm z T R A) (.inl 1, xm (z + 1) T R A) := by
  have i6 : (if f < 6 then 1 else 0) = 1 := if_pos hf
  have i1 : (if xFit (xTA op) a then 1 else 0) = 1 := if_pos fa
  have i2 : (if xFit (xTB op) b then 1 else 0) = 1 := if_pos fb
  obtain ⟨t1, t2⟩ := xT_lt hop
  have hs0 : T 1000000 = none := hL.2.2.1 0 (by omega)
  have hs1 : T 1000001 = none := hL.2.2.1 1 (by omega)
  refine xF_eq (xF_p (Nat.le_of_ble_eq_true rfl) ?_)
  refine xp_iload_n rfl rfl ?_
  refine xp_is rfl rfl rfl (Nat.le_of_ble_eq_true rfl) (by decide) (by decide) (by decide) (Nat.le_of_ble_eq_true rfl) rfl (xrcv0 (by decide) _ _) (c15 (by omega)) rfl ?_
  rw [i6]
  refine xp_ifeq 42 rfl (by decide) (by omega) (fun h4 => ?_) (fun h4 => ?_)
  · exfalso; omega
  · skip
    refine xp_iload_n rfl rfl ?_
    refine xp_iflt 42 rfl (by decide) (by omega) (fun h8 => ?_) (fun h8 => ?_)
    · exfalso; omega
    · skip
      refine xp_iload_n rfl rfl ?_
      refine xp_bipush (n := 27) rfl (by decide) ?_
      refine xp_icgt 42 rfl (by decide) (by omega) (by omega) (fun h14 => ?_) (fun h14 => ?_)
      · exfalso; omega
      · skip
        refine xp_gs rfl rfl ?_
        refine xp_iload_n rfl rfl ?_
        refine xp_stld rfl (by first | assumption | exact hL.t rfl) (by decide) rfl (by show op < 28; omega) (by decide) ?_
        rw [topA hop]
        refine xp_iload_n rfl rfl ?_
        refine xp_is rfl rfl rfl (Nat.le_of_ble_eq_true rfl) (by decide) (by decide) (by decide) (Nat.le_of_ble_eq_true rfl) rfl (xrcv0 (by decide) _ _) (c17 t1 ha) rfl ?_
        rw [i1]
        refine xp_ifeq 42 rfl (by decide) (by omega) (fun h26 => ?_) (fun h26 => ?_)
        · exfalso; omega
        · skip
          refine xp_gs rfl rfl ?_
          refine xp_iload_n rfl rfl ?_
          refine xp_stld rfl (by first | assumption | exact hL.t rfl) (by decide) rfl (by show op < 28; omega) (by decide) ?_
          rw [topB hop]
          refine xp_iload rfl rfl ?_
          refine xp_is rfl rfl rfl (Nat.le_of_ble_eq_true rfl) (by decide) (by decide) (by decide) (Nat.le_of_ble_eq_true rfl) rfl (xrcv0 (by decide) _ _) (c17 t2 hb) rfl ?_
          rw [i2]
          refine xp_ifne 50 rfl (by decide) (by omega) (fun h39 => ?_) (fun h39 => ?_)
          · skip
            refine xp_aload_n rfl rfl ?_
            refine xp_gfa rfl rfl (by decide) (by decide) (by first | assumption | exact hL.t rfl) (by first | assumption | exact hL.r rfl | exact hL.2.2.2.2.2) ?_
            refine xp_gfa rfl rfl (by decide) (by decide) (by first | assumption | exact hL.t rfl) (by first | assumption | exact hL.r rfl | exact hL.2.2.2.2.2) ?_
            refine xp_iload_n rfl rfl ?_
            refine xp_iald rfl (by first | assumption | exact hL.t rfl) (by omega) (by omega) ?_
            refine xp_bipush (n := 30) rfl (by decide) ?_
            refine xp_icne 72 rfl (by decide) (by omega) (by omega) (fun h61 => ?_) (fun h61 => ?_)
            · exfalso; omega
            · skip
              refine xp_throw rfl rfl (Nat.le_of_ble_eq_true rfl) (by decide) (by decide) (by decide) ?_
              rfl
          · exfalso; omega
theorem c2a {z : Nat} {T : Nat → Option xT} {R : Nat → Nat → Option Nat} {A : xQ} {w f op a b : Nat} (hL : xLay T R w) (hf : f < 2 ^ 32) (hop0 : op < 2 ^ 32) (ha : a < 2 ^ 32) (hb : b < 2 ^ 32) (hq : ¬ (f < 6 ∧ op ≤ 27 ∧ xFit (xTA op) a ∧ xFit (xTB op) b)) : xF 2 [.ref 0, .int (nI f), .int (nI op), .int (nI a), .int (nI b)] (xm z T R A) (.inl 0, xm (z + 1) T R A) := by
  have hs0 : T 1000000 = none := hL.2.2.1 0 (by omega)
  have hs1 : T 1000001 = none := hL.2.2.1 1 (by omega)
  refine xF_eq (xF_p (Nat.le_of_ble_eq_true rfl) ?_)
  refine xp_iload_n rfl rfl ?_
  refine xp_is rfl rfl rfl (Nat.le_of_ble_eq_true rfl) (by decide) (by decide) (by decide) (Nat.le_of_ble_eq_true rfl) rfl (xrcv0 (by decide) _ _) (c15 hf) rfl ?_
  refine xp_ifeq 42 rfl (by decide) (by split <;> omega) (fun h4 => ?_) (fun h4 => ?_)
  · skip
    have q4 : ¬ f < 6 := fun z => by rw [if_pos z] at h4; omega
    refine xp_throw rfl rfl (Nat.le_of_ble_eq_true rfl) (by decide) (by decide) (by decide) ?_
    rfl
  · skip
    have q4 : f < 6 := by
      by_cases q : f < 6
      · exact q
      · rw [if_neg q] at h4; omega
    refine xp_iload_n rfl rfl ?_
    refine xp_iflt 42 rfl (by decide) (by omega) (fun h8 => ?_) (fun h8 => ?_)
    · skip
      refine xp_throw rfl rfl (Nat.le_of_ble_eq_true rfl) (by decide) (by decide) (by decide) ?_
      rfl
    · skip
      refine xp_iload_n rfl rfl ?_
      refine xp_bipush (n := 27) rfl (by decide) ?_
      refine xp_icgt 42 rfl (by decide) (by omega) (by omega) (fun h14 => ?_) (fun h14 => ?_)
      · skip
        refine xp_throw rfl rfl (Nat.le_of_ble_eq_true rfl) (by decide) (by decide) (by decide) ?_
        rfl
      · skip
        have hop : op ≤ 27 := by omega
        refine xp_gs rfl rfl ?_
        refine xp_iload_n rfl rfl ?_
        refine xp_stld rfl (by first | assumption | exact hL.t rfl) (by decide) rfl (by show op < 28; omega) (by decide) ?_
        rw [topA hop]
        refine xp_iload_n rfl rfl ?_
        refine xp_is rfl rfl rfl (Nat.le_of_ble_eq_true rfl) (by decide) (by decide) (by decide) (Nat.le_of_ble_eq_true rfl) rfl (xrcv0 (by decide) _ _) (c17 (xT_lt hop).1 ha) rfl ?_
        refine xp_ifeq 42 rfl (by decide) (by split <;> omega) (fun h26 => ?_) (fun h26 => ?_)
        · skip
          have q26 : ¬ xFit (xTA op) a := fun z => by rw [if_pos z] at h26; omega
          refine xp_throw rfl rfl (Nat.le_of_ble_eq_true rfl) (by decide) (by decide) (by decide) ?_
          rfl
        · skip
          have q26 : xFit (xTA op) a := by
            by_cases q : xFit (xTA op) a
            · exact q
            · rw [if_neg q] at h26; omega
          refine xp_gs rfl rfl ?_
          refine xp_iload_n rfl rfl ?_
          refine xp_stld rfl (by first | assumption | exact hL.t rfl) (by decide) rfl (by show op < 28; omega) (by decide) ?_
          rw [topB hop]
          refine xp_iload rfl rfl ?_
          refine xp_is rfl rfl rfl (Nat.le_of_ble_eq_true rfl) (by decide) (by decide) (by decide) (Nat.le_of_ble_eq_true rfl) rfl (xrcv0 (by decide) _ _) (c17 (xT_lt hop).2 hb) rfl ?_
          refine xp_ifne 50 rfl (by decide) (by split <;> omega) (fun h39 => ?_) (fun h39 => ?_)
          · exact absurd (by rw [if_neg (fun z => hq ⟨q4, hop, q26, z⟩)]) h39
          · skip
            have q39 : ¬ xFit (xTB op) b := fun z => by rw [if_pos z] at h39; omega
            refine xp_throw rfl rfl (Nat.le_of_ble_eq_true rfl) (by decide) (by decide) (by decide) ?_
            rfl
def mApp (B : xQ) (f op a b : Nat) : xQ := xsI (xsI (xsI (xsI (xsI B 189 14 0) 193 (30 * f + B.1 191 f) op) 194 (30 * f + B.1 191 f) a) 195 (30 * f + B.1 191 f) b) 191 f (B.1 191 f + 1)
theorem m117 {z : Nat} {T : Nat → Option xT} {R : Nat → Nat → Option Nat} {B : xQ} {w f op a b : Nat} (hL : xLay T R w) (hf : f < 6) (hop : op ≤ 27) (ha : a < 2 ^ 32) (hb : b < 2 ^ 32) (fa : xFit (xTA op) a) (fb : xFit (xTB op) b) (h3 : B.1 191 f < 30) : xF 117 [.ref 189, .int (nI f), .int (nI op), .int (nI a), .int (nI b)] (xm z T R B) (.inr (some (.int (nI (B.1 191 f + 1)))), xm z T R (mApp B f op (xKp (xTA op) a) (xKp (xTB op) b))) := by
  have e1 : mIn f 0 5 = 1 := by rw [mIn_any (by omega) (by omega) (by omega), if_pos (by omega)]
  have e2 : mIn op 0 27 = 1 := by rw [mIn_any (by omega) (by omega) (by omega), if_pos (by omega)]
  obtain ⟨tA, tB, kA, kB⟩ := tops hop
  have e3 : mMostA op < 2 ^ 31 → mIn a 0 (mMostA op) = 1 := fun q => by
    unfold xFit at fa
    rw [mIn_any ha (by omega) (by omega), if_pos (by omega)]
  have e4 : mMostB op < 2 ^ 31 → mIn b 0 (mMostB op) = 1 := fun q => by
    unfold xFit at fb
    rw [mIn_any hb (by omega) (by omega), if_pos (by omega)]
  have x1 : (xsI B 189 14 0).1 191 f = B.1 191 f := xsI_ne (by omega)
  have x2 : ∀ p q, (xsI (xsI (xsI (xsI B 189 14 0) 193 (30 * f + B.1 191 f) op) 194 (30 * f + B.1 191 f) p) 195 (30 * f + B.1 191 f) q).1 191 f = B.1 191 f := fun p q => by rw [xsI_ne (by omega), xsI_ne (by omega), xsI_ne (by omega), xsI_ne (by omega)]
  have x3 : ∀ p q, (mApp B f op p q).1 191 f = B.1 191 f + 1 := fun p q => xsI_eq
  by_cases zA : xTA op = 4294967295
  · have vA : xKp (xTA op) a = 0 := if_pos zA
    rw [vA]
    by_cases zB : xTB op = 4294967295
    · have vB : xKp (xTB op) b = 0 := if_pos zB
      rw [vB]
      obtain ⟨y1, y2, y3⟩ := kA.mp zA
      obtain ⟨w1, w2⟩ := kB.mp zB
      refine xF_eq (xF_p (Nat.le_of_ble_eq_true rfl) ?_)
      refine xp_iload_n rfl rfl ?_
      refine xp_iconst (n := 0) rfl (by decide) ?_
      refine xp_iconst (n := 5) rfl (by decide) ?_
      refine xp_is rfl rfl rfl (Nat.le_of_ble_eq_true rfl) (by decide) (by decide) (by decide) (Nat.le_of_ble_eq_true rfl) rfl (xrcv0 (by decide) _ _) (m112 (by omega) (by omega) (by omega)) rfl ?_
      rw [e1]
      refine xp_ifeq 58 rfl (by decide) (by omega) (fun h6 => ?_) (fun h6 => ?_)
      · exfalso; omega
      · skip
        refine xp_iload_n rfl rfl ?_
        refine xp_iconst (n := 0) rfl (by decide) ?_
        refine xp_bipush (n := 27) rfl (by decide) ?_
        refine xp_is rfl rfl rfl (Nat.le_of_ble_eq_true rfl) (by decide) (by decide) (by decide) (Nat.le_of_ble_eq_true rfl) rfl (xrcv0 (by decide) _ _) (m112 (by omega) (by omega) (by omega)) rfl ?_
        rw [e2]
        refine xp_ifeq 58 rfl (by decide) (by omega) (fun h16 => ?_) (fun h16 => ?_)
        · exfalso; omega
        · skip
          refine xp_iload_n rfl rfl ?_
          refine xp_is rfl rfl rfl (Nat.le_of_ble_eq_true rfl) (by decide) (by decide) (by decide) (Nat.le_of_ble_eq_true rfl) rfl (xrcv0 (by decide) _ _) (m115 (by omega)) rfl ?_
          refine xp_iflt 38 rfl (by decide) (by omega) (fun h23 => ?_) (fun h23 => ?_)
          · skip
            refine xp_iload_n rfl rfl ?_
            refine xp_is rfl rfl rfl (Nat.le_of_ble_eq_true rfl) (by decide) (by decide) (by decide) (Nat.le_of_ble_eq_true rfl) rfl (xrcv0 (by decide) _ _) (m116 (by omega)) rfl ?_
            refine xp_iflt 64 rfl (by decide) (by omega) (fun h42 => ?_) (fun h42 => ?_)
            · skip
              refine xp_aload_n rfl rfl ?_
              refine xp_gfa rfl rfl (by decide) (by decide) (by first | assumption | exact hL.t rfl) (by first | assumption | exact hL.r rfl | exact hL.2.2.2.2.2) ?_
              refine xp_iload_n rfl rfl ?_
              refine xp_iald rfl (by first | assumption | exact hL.t rfl) (by omega) (by omega) ?_
              refine xp_bipush (n := 30) rfl (by decide) ?_
              refine xp_icne 81 rfl (by decide) (by omega) (by omega) (fun h72 => ?_) (fun h72 => ?_)
              · skip
                refine xp_aload_n rfl rfl ?_
                refine xp_iconst (n := 0) rfl (by decide) ?_
                refine xp_pfi rfl rfl (by decide) (by decide) (by decide) (by first | assumption | exact hL.t rfl) ?_
                refine xp_bipush (n := 30) rfl (by decide) ?_
                refine xp_iload_n rfl rfl ?_
                refine xp_imul rfl ?_
                refine xp_aload_n rfl rfl ?_
                refine xp_gfa rfl rfl (by decide) (by decide) (by first | assumption | exact hL.t rfl) (by first | assumption | exact hL.r rfl | exact hL.2.2.2.2.2) ?_
                refine xp_iload_n rfl rfl ?_
                refine xp_iald rfl (by first | assumption | exact hL.t rfl) (by omega) (by omega) ?_
                rw [x1]
                refine xp_iadd rfl ?_
                refine xp_istore rfl (by decide) ?_
                refine xp_aload_n rfl rfl ?_
                refine xp_gfa rfl rfl (by decide) (by decide) (by first | assumption | exact hL.t rfl) (by first | assumption | exact hL.r rfl | exact hL.2.2.2.2.2) ?_
                refine xp_iload rfl rfl ?_
                refine xp_iload_n rfl rfl ?_
                refine xp_iast rfl (by first | assumption | exact hL.t rfl) (by omega) (by omega) ?_
                refine xp_aload_n rfl rfl ?_
                refine xp_gfa rfl rfl (by decide) (by decide) (by first | assumption | exact hL.t rfl) (by first | assumption | exact hL.r rfl | exact hL.2.2.2.2.2) ?_
                refine xp_iload rfl rfl ?_
                refine xp_iload_n rfl rfl ?_
                refine xp_is rfl rfl rfl (Nat.le_of_ble_eq_true rfl) (by decide) (by decide) (by decide) (Nat.le_of_ble_eq_true rfl) rfl (xrcv0 (by decide) _ _) (m115 (by omega)) rfl ?_
                refine xp_ifge 130 rfl (by decide) (by omega) (fun h117 => ?_) (fun h117 => ?_)
                · exfalso; omega
                · skip
                  refine xp_iload_n rfl rfl ?_
                  refine xp_iconst (n := 1) rfl (by decide) ?_
                  refine xp_iceq 130 rfl (by decide) (by omega) (by omega) (fun h122 => ?_) (fun h122 => ?_)
                  · exfalso; omega
                  · skip
                    refine xp_iload_n rfl rfl ?_
                    refine xp_iconst (n := 2) rfl (by decide) ?_
                    refine xp_icne 134 rfl (by decide) (by omega) (by omega) (fun h127 => ?_) (fun h127 => ?_)
                    · skip
                      refine xp_iconst (n := 0) rfl (by decide) ?_
                      refine xp_iast rfl (by first | assumption | exact hL.t rfl) (by omega) (by omega) ?_
                      refine xp_aload_n rfl rfl ?_
                      refine xp_gfa rfl rfl (by decide) (by decide) (by first | assumption | exact hL.t rfl) (by first | assumption | exact hL.r rfl | exact hL.2.2.2.2.2) ?_
                      refine xp_iload rfl rfl ?_
                      refine xp_iload_n rfl rfl ?_
                      refine xp_is rfl rfl rfl (Nat.le_of_ble_eq_true rfl) (by decide) (by decide) (by decide) (Nat.le_of_ble_eq_true rfl) rfl (xrcv0 (by decide) _ _) (m116 (by omega)) rfl ?_
                      refine xp_ifge 154 rfl (by decide) (by omega) (fun h146 => ?_) (fun h146 => ?_)
                      · exfalso; omega
                      · skip
                        refine xp_iload_n rfl rfl ?_
                        refine xp_iconst (n := 2) rfl (by decide) ?_
                        refine xp_icne 159 rfl (by decide) (by omega) (by omega) (fun h151 => ?_) (fun h151 => ?_)
                        · skip
                          refine xp_iconst (n := 0) rfl (by decide) ?_
                          refine xp_iast rfl (by first | assumption | exact hL.t rfl) (by omega) (by omega) ?_
                          refine xp_aload_n rfl rfl ?_
                          refine xp_gfa rfl rfl (by decide) (by decide) (by first | assumption | exact hL.t rfl) (by first | assumption | exact hL.r rfl | exact hL.2.2.2.2.2) ?_
                          refine xp_iload_n rfl rfl ?_
                          refine xp_dup2 rfl rfl rfl ?_
                          refine xp_iald rfl (by first | assumption | exact hL.t rfl) (by omega) (by omega) ?_
                          rw [x2]
                          refine xp_iconst (n := 1) rfl (by decide) ?_
                          refine xp_iadd rfl ?_
                          refine xp_iast rfl (by first | assumption | exact hL.t rfl) (by omega) (by omega) ?_
                          show xP _ _ _ _ _ _ (xm _ _ _ (mApp B f op _ _)) _
                          refine xp_aload_n rfl rfl ?_
                          refine xp_gfa rfl rfl (by decide) (by decide) (by first | assumption | exact hL.t rfl) (by first | assumption | exact hL.r rfl | exact hL.2.2.2.2.2) ?_
                          refine xp_iload_n rfl rfl ?_
                          refine xp_iald rfl (by first | assumption | exact hL.t rfl) (by omega) (by omega) ?_
                          rw [x3]
                          refine xp_ireturn rfl (by decide) (by decide) (by decide) ?_
                          rfl
                        · exfalso; omega
                    · exfalso; omega
              · exfalso; omega
            · exfalso; omega
          · exfalso; omega
    · have vB : xKp (xTB op) b = b := if_neg zB
      rw [vB]
      obtain ⟨y1, y2, y3⟩ := kA.mp zA
      have w1 : mMostB op < 2 ^ 31 ∨ op = 2 := by
        by_cases q : mMostB op = 4294967295 ∧ op ≠ 2
        · exact absurd (kB.mpr q) zB
        · omega
      refine xF_eq (xF_p (Nat.le_of_ble_eq_true rfl) ?_)
      refine xp_iload_n rfl rfl ?_
      refine xp_iconst (n := 0) rfl (by decide) ?_
      refine xp_iconst (n := 5) rfl (by decide) ?_
      refine xp_is rfl rfl rfl (Nat.le_of_ble_eq_true rfl) (by decide) (by decide) (by decide) (Nat.le_of_ble_eq_true rfl) rfl (xrcv0 (by decide) _ _) (m112 (by omega) (by omega) (by omega)) rfl ?_
      rw [e1]
      refine xp_ifeq 58 rfl (by decide) (by omega) (fun h6 => ?_) (fun h6 => ?_)
      · exfalso; omega
      · skip
        refine xp_iload_n rfl rfl ?_
        refine xp_iconst (n := 0) rfl (by decide) ?_
        refine xp_bipush (n := 27) rfl (by decide) ?_
        refine xp_is rfl rfl rfl (Nat.le_of_ble_eq_true rfl) (by decide) (by decide) (by decide) (Nat.le_of_ble_eq_true rfl) rfl (xrcv0 (by decide) _ _) (m112 (by omega) (by omega) (by omega)) rfl ?_
        rw [e2]
        refine xp_ifeq 58 rfl (by decide) (by omega) (fun h16 => ?_) (fun h16 => ?_)
        · exfalso; omega
        · skip
          refine xp_iload_n rfl rfl ?_
          refine xp_is rfl rfl rfl (Nat.le_of_ble_eq_true rfl) (by decide) (by decide) (by decide) (Nat.le_of_ble_eq_true rfl) rfl (xrcv0 (by decide) _ _) (m115 (by omega)) rfl ?_
          refine xp_iflt 38 rfl (by decide) (by omega) (fun h23 => ?_) (fun h23 => ?_)
          · skip
            refine xp_iload_n rfl rfl ?_
            refine xp_is rfl rfl rfl (Nat.le_of_ble_eq_true rfl) (by decide) (by decide) (by decide) (Nat.le_of_ble_eq_true rfl) rfl (xrcv0 (by decide) _ _) (m116 (by omega)) rfl ?_
            refine xp_iflt 64 rfl (by decide) (by omega) (fun h42 => ?_) (fun h42 => ?_)
            · skip
              refine xp_aload_n rfl rfl ?_
              refine xp_gfa rfl rfl (by decide) (by decide) (by first | assumption | exact hL.t rfl) (by first | assumption | exact hL.r rfl | exact hL.2.2.2.2.2) ?_
              refine xp_iload_n rfl rfl ?_
              refine xp_iald rfl (by first | assumption | exact hL.t rfl) (by omega) (by omega) ?_
              refine xp_bipush (n := 30) rfl (by decide) ?_
              refine xp_icne 81 rfl (by decide) (by omega) (by omega) (fun h72 => ?_) (fun h72 => ?_)
              · skip
                refine xp_aload_n rfl rfl ?_
                refine xp_iconst (n := 0) rfl (by decide) ?_
                refine xp_pfi rfl rfl (by decide) (by decide) (by decide) (by first | assumption | exact hL.t rfl) ?_
                refine xp_bipush (n := 30) rfl (by decide) ?_
                refine xp_iload_n rfl rfl ?_
                refine xp_imul rfl ?_
                refine xp_aload_n rfl rfl ?_
                refine xp_gfa rfl rfl (by decide) (by decide) (by first | assumption | exact hL.t rfl) (by first | assumption | exact hL.r rfl | exact hL.2.2.2.2.2) ?_
                refine xp_iload_n rfl rfl ?_
                refine xp_iald rfl (by first | assumption | exact hL.t rfl) (by omega) (by omega) ?_
                rw [x1]
                refine xp_iadd rfl ?_
                refine xp_istore rfl (by decide) ?_
                refine xp_aload_n rfl rfl ?_
                refine xp_gfa rfl rfl (by decide) (by decide) (by first | assumption | exact hL.t rfl) (by first | assumption | exact hL.r rfl | exact hL.2.2.2.2.2) ?_
                refine xp_iload rfl rfl ?_
                refine xp_iload_n rfl rfl ?_
                refine xp_iast rfl (by first | assumption | exact hL.t rfl) (by omega) (by omega) ?_
                refine xp_aload_n rfl rfl ?_
                refine xp_gfa rfl rfl (by decide) (by decide) (by first | assumption | exact hL.t rfl) (by first | assumption | exact hL.r rfl | exact hL.2.2.2.2.2) ?_
                refine xp_iload rfl rfl ?_
                refine xp_iload_n rfl rfl ?_
                refine xp_is rfl rfl rfl (Nat.le_of_ble_eq_true rfl) (by decide) (by decide) (by decide) (Nat.le_of_ble_eq_true rfl) rfl (xrcv0 (by decide) _ _) (m115 (by omega)) rfl ?_
                refine xp_ifge 130 rfl (by decide) (by omega) (fun h117 => ?_) (fun h117 => ?_)
                · exfalso; omega
                · skip
                  refine xp_iload_n rfl rfl ?_
                  refine xp_iconst (n := 1) rfl (by decide) ?_
                  refine xp_iceq 130 rfl (by decide) (by omega) (by omega) (fun h122 => ?_) (fun h122 => ?_)
                  · exfalso; omega
                  · skip
                    refine xp_iload_n rfl rfl ?_
                    refine xp_iconst (n := 2) rfl (by decide) ?_
                    refine xp_icne 134 rfl (by decide) (by omega) (by omega) (fun h127 => ?_) (fun h127 => ?_)
                    · skip
                      refine xp_iconst (n := 0) rfl (by decide) ?_
                      refine xp_iast rfl (by first | assumption | exact hL.t rfl) (by omega) (by omega) ?_
                      refine xp_aload_n rfl rfl ?_
                      refine xp_gfa rfl rfl (by decide) (by decide) (by first | assumption | exact hL.t rfl) (by first | assumption | exact hL.r rfl | exact hL.2.2.2.2.2) ?_
                      refine xp_iload rfl rfl ?_
                      refine xp_iload_n rfl rfl ?_
                      refine xp_is rfl rfl rfl (Nat.le_of_ble_eq_true rfl) (by decide) (by decide) (by decide) (Nat.le_of_ble_eq_true rfl) rfl (xrcv0 (by decide) _ _) (m116 (by omega)) rfl ?_
                      refine xp_ifge 154 rfl (by decide) (by omega) (fun h146 => ?_) (fun h146 => ?_)
                      · skip
                        refine xp_iload rfl rfl ?_
                        refine xp_goto 160 rfl (by decide) ?_
                        refine xp_iast rfl (by first | assumption | exact hL.t rfl) (by omega) (by omega) ?_
                        refine xp_aload_n rfl rfl ?_
                        refine xp_gfa rfl rfl (by decide) (by decide) (by first | assumption | exact hL.t rfl) (by first | assumption | exact hL.r rfl | exact hL.2.2.2.2.2) ?_
                        refine xp_iload_n rfl rfl ?_
                        refine xp_dup2 rfl rfl rfl ?_
                        refine xp_iald rfl (by first | assumption | exact hL.t rfl) (by omega) (by omega) ?_
                        rw [x2]
                        refine xp_iconst (n := 1) rfl (by decide) ?_
                        refine xp_iadd rfl ?_
                        refine xp_iast rfl (by first | assumption | exact hL.t rfl) (by omega) (by omega) ?_
                        show xP _ _ _ _ _ _ (xm _ _ _ (mApp B f op _ _)) _
                        refine xp_aload_n rfl rfl ?_
                        refine xp_gfa rfl rfl (by decide) (by decide) (by first | assumption | exact hL.t rfl) (by first | assumption | exact hL.r rfl | exact hL.2.2.2.2.2) ?_
                        refine xp_iload_n rfl rfl ?_
                        refine xp_iald rfl (by first | assumption | exact hL.t rfl) (by omega) (by omega) ?_
                        rw [x3]
                        refine xp_ireturn rfl (by decide) (by decide) (by decide) ?_
                        rfl
                      · skip
                        refine xp_iload_n rfl rfl ?_
                        refine xp_iconst (n := 2) rfl (by decide) ?_
                        refine xp_icne 159 rfl (by decide) (by omega) (by omega) (fun h151 => ?_) (fun h151 => ?_)
                        · exfalso; omega
                        · skip
                          refine xp_iload rfl rfl ?_
                          refine xp_goto 160 rfl (by decide) ?_
                          refine xp_iast rfl (by first | assumption | exact hL.t rfl) (by omega) (by omega) ?_
                          refine xp_aload_n rfl rfl ?_
                          refine xp_gfa rfl rfl (by decide) (by decide) (by first | assumption | exact hL.t rfl) (by first | assumption | exact hL.r rfl | exact hL.2.2.2.2.2) ?_
                          refine xp_iload_n rfl rfl ?_
                          refine xp_dup2 rfl rfl rfl ?_
                          refine xp_iald rfl (by first | assumption | exact hL.t rfl) (by omega) (by omega) ?_
                          rw [x2]
                          refine xp_iconst (n := 1) rfl (by decide) ?_
                          refine xp_iadd rfl ?_
                          refine xp_iast rfl (by first | assumption | exact hL.t rfl) (by omega) (by omega) ?_
                          show xP _ _ _ _ _ _ (xm _ _ _ (mApp B f op _ _)) _
                          refine xp_aload_n rfl rfl ?_
                          refine xp_gfa rfl rfl (by decide) (by decide) (by first | assumption | exact hL.t rfl) (by first | assumption | exact hL.r rfl | exact hL.2.2.2.2.2) ?_
                          refine xp_iload_n rfl rfl ?_
                          refine xp_iald rfl (by first | assumption | exact hL.t rfl) (by omega) (by omega) ?_
                          rw [x3]
                          refine xp_ireturn rfl (by decide) (by decide) (by decide) ?_
                          rfl
                    · exfalso; omega
              · exfalso; omega
            · skip
              refine xp_iload rfl rfl ?_
              refine xp_iconst (n := 0) rfl (by decide) ?_
              refine xp_iload_n rfl rfl ?_
              refine xp_is rfl rfl rfl (Nat.le_of_ble_eq_true rfl) (by decide) (by decide) (by decide) (Nat.le_of_ble_eq_true rfl) rfl (xrcv0 (by decide) _ _) (m116 (by omega)) rfl ?_
              refine xp_is rfl rfl rfl (Nat.le_of_ble_eq_true rfl) (by decide) (by decide) (by decide) (Nat.le_of_ble_eq_true rfl) rfl (xrcv0 (by decide) _ _) (m112 hb (by omega) (by omega)) rfl ?_
              rw [e4 (by omega)]
              refine xp_ifne 64 rfl (by decide) (by omega) (fun h55 => ?_) (fun h55 => ?_)
              · skip
                refine xp_aload_n rfl rfl ?_
                refine xp_gfa rfl rfl (by decide) (by decide) (by first | assumption | exact hL.t rfl) (by first | assumption | exact hL.r rfl | exact hL.2.2.2.2.2) ?_
                refine xp_iload_n rfl rfl ?_
                refine xp_iald rfl (by first | assumption | exact hL.t rfl) (by omega) (by omega) ?_
                refine xp_bipush (n := 30) rfl (by decide) ?_
                refine xp_icne 81 rfl (by decide) (by omega) (by omega) (fun h72 => ?_) (fun h72 => ?_)
                · skip
                  refine xp_aload_n rfl rfl ?_
                  refine xp_iconst (n := 0) rfl (by decide) ?_
                  refine xp_pfi rfl rfl (by decide) (by decide) (by decide) (by first | assumption | exact hL.t rfl) ?_
                  refine xp_bipush (n := 30) rfl (by decide) ?_
                  refine xp_iload_n rfl rfl ?_
                  refine xp_imul rfl ?_
                  refine xp_aload_n rfl rfl ?_
                  refine xp_gfa rfl rfl (by decide) (by decide) (by first | assumption | exact hL.t rfl) (by first | assumption | exact hL.r rfl | exact hL.2.2.2.2.2) ?_
                  refine xp_iload_n rfl rfl ?_
                  refine xp_iald rfl (by first | assumption | exact hL.t rfl) (by omega) (by omega) ?_
                  rw [x1]
                  refine xp_iadd rfl ?_
                  refine xp_istore rfl (by decide) ?_
                  refine xp_aload_n rfl rfl ?_
                  refine xp_gfa rfl rfl (by decide) (by decide) (by first | assumption | exact hL.t rfl) (by first | assumption | exact hL.r rfl | exact hL.2.2.2.2.2) ?_
                  refine xp_iload rfl rfl ?_
                  refine xp_iload_n rfl rfl ?_
                  refine xp_iast rfl (by first | assumption | exact hL.t rfl) (by omega) (by omega) ?_
                  refine xp_aload_n rfl rfl ?_
                  refine xp_gfa rfl rfl (by decide) (by decide) (by first | assumption | exact hL.t rfl) (by first | assumption | exact hL.r rfl | exact hL.2.2.2.2.2) ?_
                  refine xp_iload rfl rfl ?_
                  refine xp_iload_n rfl rfl ?_
                  refine xp_is rfl rfl rfl (Nat.le_of_ble_eq_true rfl) (by decide) (by decide) (by decide) (Nat.le_of_ble_eq_true rfl) rfl (xrcv0 (by decide) _ _) (m115 (by omega)) rfl ?_
                  refine xp_ifge 130 rfl (by decide) (by omega) (fun h117 => ?_) (fun h117 => ?_)
                  · exfalso; omega
                  · skip
                    refine xp_iload_n rfl rfl ?_
                    refine xp_iconst (n := 1) rfl (by decide) ?_
                    refine xp_iceq 130 rfl (by decide) (by omega) (by omega) (fun h122 => ?_) (fun h122 => ?_)
                    · exfalso; omega
                    · skip
                      refine xp_iload_n rfl rfl ?_
                      refine xp_iconst (n := 2) rfl (by decide) ?_
                      refine xp_icne 134 rfl (by decide) (by omega) (by omega) (fun h127 => ?_) (fun h127 => ?_)
                      · skip
                        refine xp_iconst (n := 0) rfl (by decide) ?_
                        refine xp_iast rfl (by first | assumption | exact hL.t rfl) (by omega) (by omega) ?_
                        refine xp_aload_n rfl rfl ?_
                        refine xp_gfa rfl rfl (by decide) (by decide) (by first | assumption | exact hL.t rfl) (by first | assumption | exact hL.r rfl | exact hL.2.2.2.2.2) ?_
                        refine xp_iload rfl rfl ?_
                        refine xp_iload_n rfl rfl ?_
                        refine xp_is rfl rfl rfl (Nat.le_of_ble_eq_true rfl) (by decide) (by decide) (by decide) (Nat.le_of_ble_eq_true rfl) rfl (xrcv0 (by decide) _ _) (m116 (by omega)) rfl ?_
                        refine xp_ifge 154 rfl (by decide) (by omega) (fun h146 => ?_) (fun h146 => ?_)
                        · skip
                          refine xp_iload rfl rfl ?_
                          refine xp_goto 160 rfl (by decide) ?_
                          refine xp_iast rfl (by first | assumption | exact hL.t rfl) (by omega) (by omega) ?_
                          refine xp_aload_n rfl rfl ?_
                          refine xp_gfa rfl rfl (by decide) (by decide) (by first | assumption | exact hL.t rfl) (by first | assumption | exact hL.r rfl | exact hL.2.2.2.2.2) ?_
                          refine xp_iload_n rfl rfl ?_
                          refine xp_dup2 rfl rfl rfl ?_
                          refine xp_iald rfl (by first | assumption | exact hL.t rfl) (by omega) (by omega) ?_
                          rw [x2]
                          refine xp_iconst (n := 1) rfl (by decide) ?_
                          refine xp_iadd rfl ?_
                          refine xp_iast rfl (by first | assumption | exact hL.t rfl) (by omega) (by omega) ?_
                          show xP _ _ _ _ _ _ (xm _ _ _ (mApp B f op _ _)) _
                          refine xp_aload_n rfl rfl ?_
                          refine xp_gfa rfl rfl (by decide) (by decide) (by first | assumption | exact hL.t rfl) (by first | assumption | exact hL.r rfl | exact hL.2.2.2.2.2) ?_
                          refine xp_iload_n rfl rfl ?_
                          refine xp_iald rfl (by first | assumption | exact hL.t rfl) (by omega) (by omega) ?_
                          rw [x3]
                          refine xp_ireturn rfl (by decide) (by decide) (by decide) ?_
                          rfl
                        · skip
                          refine xp_iload_n rfl rfl ?_
                          refine xp_iconst (n := 2) rfl (by decide) ?_
                          refine xp_icne 159 rfl (by decide) (by omega) (by omega) (fun h151 => ?_) (fun h151 => ?_)
                          · exfalso; omega
                          · skip
                            refine xp_iload rfl rfl ?_
                            refine xp_goto 160 rfl (by decide) ?_
                            refine xp_iast rfl (by first | assumption | exact hL.t rfl) (by omega) (by omega) ?_
                            refine xp_aload_n rfl rfl ?_
                            refine xp_gfa rfl rfl (by decide) (by decide) (by first | assumption | exact hL.t rfl) (by first | assumption | exact hL.r rfl | exact hL.2.2.2.2.2) ?_
                            refine xp_iload_n rfl rfl ?_
                            refine xp_dup2 rfl rfl rfl ?_
                            refine xp_iald rfl (by first | assumption | exact hL.t rfl) (by omega) (by omega) ?_
                            rw [x2]
                            refine xp_iconst (n := 1) rfl (by decide) ?_
                            refine xp_iadd rfl ?_
                            refine xp_iast rfl (by first | assumption | exact hL.t rfl) (by omega) (by omega) ?_
                            show xP _ _ _ _ _ _ (xm _ _ _ (mApp B f op _ _)) _
                            refine xp_aload_n rfl rfl ?_
                            refine xp_gfa rfl rfl (by decide) (by decide) (by first | assumption | exact hL.t rfl) (by first | assumption | exact hL.r rfl | exact hL.2.2.2.2.2) ?_
                            refine xp_iload_n rfl rfl ?_
                            refine xp_iald rfl (by first | assumption | exact hL.t rfl) (by omega) (by omega) ?_
                            rw [x3]
                            refine xp_ireturn rfl (by decide) (by decide) (by decide) ?_
                            rfl
                      · exfalso; omega
                · exfalso; omega
              · exfalso; omega
          · exfalso; omega
  · have vA : xKp (xTA op) a = a := if_neg zA
    rw [vA]
    by_cases zB : xTB op = 4294967295
    · have vB : xKp (xTB op) b = 0 := if_pos zB
      rw [vB]
      have y1 : mMostA op < 2 ^ 31 ∨ op = 1 ∨ op = 2 := by
        by_cases q : mMostA op = 4294967295 ∧ op ≠ 1 ∧ op ≠ 2
        · exact absurd (kA.mpr q) zA
        · omega
      obtain ⟨w1, w2⟩ := kB.mp zB
      refine xF_eq (xF_p (Nat.le_of_ble_eq_true rfl) ?_)
      refine xp_iload_n rfl rfl ?_
      refine xp_iconst (n := 0) rfl (by decide) ?_
      refine xp_iconst (n := 5) rfl (by decide) ?_
      refine xp_is rfl rfl rfl (Nat.le_of_ble_eq_true rfl) (by decide) (by decide) (by decide) (Nat.le_of_ble_eq_true rfl) rfl (xrcv0 (by decide) _ _) (m112 (by omega) (by omega) (by omega)) rfl ?_
      rw [e1]
      refine xp_ifeq 58 rfl (by decide) (by omega) (fun h6 => ?_) (fun h6 => ?_)
      · exfalso; omega
      · skip
        refine xp_iload_n rfl rfl ?_
        refine xp_iconst (n := 0) rfl (by decide) ?_
        refine xp_bipush (n := 27) rfl (by decide) ?_
        refine xp_is rfl rfl rfl (Nat.le_of_ble_eq_true rfl) (by decide) (by decide) (by decide) (Nat.le_of_ble_eq_true rfl) rfl (xrcv0 (by decide) _ _) (m112 (by omega) (by omega) (by omega)) rfl ?_
        rw [e2]
        refine xp_ifeq 58 rfl (by decide) (by omega) (fun h16 => ?_) (fun h16 => ?_)
        · exfalso; omega
        · skip
          refine xp_iload_n rfl rfl ?_
          refine xp_is rfl rfl rfl (Nat.le_of_ble_eq_true rfl) (by decide) (by decide) (by decide) (Nat.le_of_ble_eq_true rfl) rfl (xrcv0 (by decide) _ _) (m115 (by omega)) rfl ?_
          refine xp_iflt 38 rfl (by decide) (by omega) (fun h23 => ?_) (fun h23 => ?_)
          · skip
            refine xp_iload_n rfl rfl ?_
            refine xp_is rfl rfl rfl (Nat.le_of_ble_eq_true rfl) (by decide) (by decide) (by decide) (Nat.le_of_ble_eq_true rfl) rfl (xrcv0 (by decide) _ _) (m116 (by omega)) rfl ?_
            refine xp_iflt 64 rfl (by decide) (by omega) (fun h42 => ?_) (fun h42 => ?_)
            · skip
              refine xp_aload_n rfl rfl ?_
              refine xp_gfa rfl rfl (by decide) (by decide) (by first | assumption | exact hL.t rfl) (by first | assumption | exact hL.r rfl | exact hL.2.2.2.2.2) ?_
              refine xp_iload_n rfl rfl ?_
              refine xp_iald rfl (by first | assumption | exact hL.t rfl) (by omega) (by omega) ?_
              refine xp_bipush (n := 30) rfl (by decide) ?_
              refine xp_icne 81 rfl (by decide) (by omega) (by omega) (fun h72 => ?_) (fun h72 => ?_)
              · skip
                refine xp_aload_n rfl rfl ?_
                refine xp_iconst (n := 0) rfl (by decide) ?_
                refine xp_pfi rfl rfl (by decide) (by decide) (by decide) (by first | assumption | exact hL.t rfl) ?_
                refine xp_bipush (n := 30) rfl (by decide) ?_
                refine xp_iload_n rfl rfl ?_
                refine xp_imul rfl ?_
                refine xp_aload_n rfl rfl ?_
                refine xp_gfa rfl rfl (by decide) (by decide) (by first | assumption | exact hL.t rfl) (by first | assumption | exact hL.r rfl | exact hL.2.2.2.2.2) ?_
                refine xp_iload_n rfl rfl ?_
                refine xp_iald rfl (by first | assumption | exact hL.t rfl) (by omega) (by omega) ?_
                rw [x1]
                refine xp_iadd rfl ?_
                refine xp_istore rfl (by decide) ?_
                refine xp_aload_n rfl rfl ?_
                refine xp_gfa rfl rfl (by decide) (by decide) (by first | assumption | exact hL.t rfl) (by first | assumption | exact hL.r rfl | exact hL.2.2.2.2.2) ?_
                refine xp_iload rfl rfl ?_
                refine xp_iload_n rfl rfl ?_
                refine xp_iast rfl (by first | assumption | exact hL.t rfl) (by omega) (by omega) ?_
                refine xp_aload_n rfl rfl ?_
                refine xp_gfa rfl rfl (by decide) (by decide) (by first | assumption | exact hL.t rfl) (by first | assumption | exact hL.r rfl | exact hL.2.2.2.2.2) ?_
                refine xp_iload rfl rfl ?_
                refine xp_iload_n rfl rfl ?_
                refine xp_is rfl rfl rfl (Nat.le_of_ble_eq_true rfl) (by decide) (by decide) (by decide) (Nat.le_of_ble_eq_true rfl) rfl (xrcv0 (by decide) _ _) (m115 (by omega)) rfl ?_
                refine xp_ifge 130 rfl (by decide) (by omega) (fun h117 => ?_) (fun h117 => ?_)
                · skip
                  refine xp_iload_n rfl rfl ?_
                  refine xp_goto 135 rfl (by decide) ?_
                  refine xp_iast rfl (by first | assumption | exact hL.t rfl) (by omega) (by omega) ?_
                  refine xp_aload_n rfl rfl ?_
                  refine xp_gfa rfl rfl (by decide) (by decide) (by first | assumption | exact hL.t rfl) (by first | assumption | exact hL.r rfl | exact hL.2.2.2.2.2) ?_
                  refine xp_iload rfl rfl ?_
                  refine xp_iload_n rfl rfl ?_
                  refine xp_is rfl rfl rfl (Nat.le_of_ble_eq_true rfl) (by decide) (by decide) (by decide) (Nat.le_of_ble_eq_true rfl) rfl (xrcv0 (by decide) _ _) (m116 (by omega)) rfl ?_
                  refine xp_ifge 154 rfl (by decide) (by omega) (fun h146 => ?_) (fun h146 => ?_)
                  · exfalso; omega
                  · skip
                    refine xp_iload_n rfl rfl ?_
                    refine xp_iconst (n := 2) rfl (by decide) ?_
                    refine xp_icne 159 rfl (by decide) (by omega) (by omega) (fun h151 => ?_) (fun h151 => ?_)
                    · skip
                      refine xp_iconst (n := 0) rfl (by decide) ?_
                      refine xp_iast rfl (by first | assumption | exact hL.t rfl) (by omega) (by omega) ?_
                      refine xp_aload_n rfl rfl ?_
                      refine xp_gfa rfl rfl (by decide) (by decide) (by first | assumption | exact hL.t rfl) (by first | assumption | exact hL.r rfl | exact hL.2.2.2.2.2) ?_
                      refine xp_iload_n rfl rfl ?_
                      refine xp_dup2 rfl rfl rfl ?_
                      refine xp_iald rfl (by first | assumption | exact hL.t rfl) (by omega) (by omega) ?_
                      rw [x2]
                      refine xp_iconst (n := 1) rfl (by decide) ?_
                      refine xp_iadd rfl ?_
                      refine xp_iast rfl (by first | assumption | exact hL.t rfl) (by omega) (by omega) ?_
                      show xP _ _ _ _ _ _ (xm _ _ _ (mApp B f op _ _)) _
                      refine xp_aload_n rfl rfl ?_
                      refine xp_gfa rfl rfl (by decide) (by decide) (by first | assumption | exact hL.t rfl) (by first | assumption | exact hL.r rfl | exact hL.2.2.2.2.2) ?_
                      refine xp_iload_n rfl rfl ?_
                      refine xp_iald rfl (by first | assumption | exact hL.t rfl) (by omega) (by omega) ?_
                      rw [x3]
                      refine xp_ireturn rfl (by decide) (by decide) (by decide) ?_
                      rfl
                    · exfalso; omega
                · skip
                  refine xp_iload_n rfl rfl ?_
                  refine xp_iconst (n := 1) rfl (by decide) ?_
                  refine xp_iceq 130 rfl (by decide) (by omega) (by omega) (fun h122 => ?_) (fun h122 => ?_)
                  · skip
                    refine xp_iload_n rfl rfl ?_
                    refine xp_goto 135 rfl (by decide) ?_
                    refine xp_iast rfl (by first | assumption | exact hL.t rfl) (by omega) (by omega) ?_
                    refine xp_aload_n rfl rfl ?_
                    refine xp_gfa rfl rfl (by decide) (by decide) (by first | assumption | exact hL.t rfl) (by first | assumption | exact hL.r rfl | exact hL.2.2.2.2.2) ?_
                    refine xp_iload rfl rfl ?_
                    refine xp_iload_n rfl rfl ?_
                    refine xp_is rfl rfl rfl (Nat.le_of_ble_eq_true rfl) (by decide) (by decide) (by decide) (Nat.le_of_ble_eq_true rfl) rfl (xrcv0 (by decide) _ _) (m116 (by omega)) rfl ?_
                    refine xp_ifge 154 rfl (by decide) (by omega) (fun h146 => ?_) (fun h146 => ?_)
                    · exfalso; omega
                    · skip
                      refine xp_iload_n rfl rfl ?_
                      refine xp_iconst (n := 2) rfl (by decide) ?_
                      refine xp_icne 159 rfl (by decide) (by omega) (by omega) (fun h151 => ?_) (fun h151 => ?_)
                      · skip
                        refine xp_iconst (n := 0) rfl (by decide) ?_
                        refine xp_iast rfl (by first | assumption | exact hL.t rfl) (by omega) (by omega) ?_
                        refine xp_aload_n rfl rfl ?_
                        refine xp_gfa rfl rfl (by decide) (by decide) (by first | assumption | exact hL.t rfl) (by first | assumption | exact hL.r rfl | exact hL.2.2.2.2.2) ?_
                        refine xp_iload_n rfl rfl ?_
                        refine xp_dup2 rfl rfl rfl ?_
                        refine xp_iald rfl (by first | assumption | exact hL.t rfl) (by omega) (by omega) ?_
                        rw [x2]
                        refine xp_iconst (n := 1) rfl (by decide) ?_
                        refine xp_iadd rfl ?_
                        refine xp_iast rfl (by first | assumption | exact hL.t rfl) (by omega) (by omega) ?_
                        show xP _ _ _ _ _ _ (xm _ _ _ (mApp B f op _ _)) _
                        refine xp_aload_n rfl rfl ?_
                        refine xp_gfa rfl rfl (by decide) (by decide) (by first | assumption | exact hL.t rfl) (by first | assumption | exact hL.r rfl | exact hL.2.2.2.2.2) ?_
                        refine xp_iload_n rfl rfl ?_
                        refine xp_iald rfl (by first | assumption | exact hL.t rfl) (by omega) (by omega) ?_
                        rw [x3]
                        refine xp_ireturn rfl (by decide) (by decide) (by decide) ?_
                        rfl
                      · exfalso; omega
                  · skip
                    refine xp_iload_n rfl rfl ?_
                    refine xp_iconst (n := 2) rfl (by decide) ?_
                    refine xp_icne 134 rfl (by decide) (by omega) (by omega) (fun h127 => ?_) (fun h127 => ?_)
                    · exfalso; omega
                    · skip
                      refine xp_iload_n rfl rfl ?_
                      refine xp_goto 135 rfl (by decide) ?_
                      refine xp_iast rfl (by first | assumption | exact hL.t rfl) (by omega) (by omega) ?_
                      refine xp_aload_n rfl rfl ?_
                      refine xp_gfa rfl rfl (by decide) (by decide) (by first | assumption | exact hL.t rfl) (by first | assumption | exact hL.r rfl | exact hL.2.2.2.2.2) ?_
                      refine xp_iload rfl rfl ?_
                      refine xp_iload_n rfl rfl ?_
                      refine xp_is rfl rfl rfl (Nat.le_of_ble_eq_true rfl) (by decide) (by decide) (by decide) (Nat.le_of_ble_eq_true rfl) rfl (xrcv0 (by decide) _ _) (m116 (by omega)) rfl ?_
                      refine xp_ifge 154 rfl (by decide) (by omega) (fun h146 => ?_) (fun h146 => ?_)
                      · exfalso; omega
                      · skip
                        refine xp_iload_n rfl rfl ?_
                        refine xp_iconst (n := 2) rfl (by decide) ?_
                        refine xp_icne 159 rfl (by decide) (by omega) (by omega) (fun h151 => ?_) (fun h151 => ?_)
                        · skip
                          refine xp_iconst (n := 0) rfl (by decide) ?_
                          refine xp_iast rfl (by first | assumption | exact hL.t rfl) (by omega) (by omega) ?_
                          refine xp_aload_n rfl rfl ?_
                          refine xp_gfa rfl rfl (by decide) (by decide) (by first | assumption | exact hL.t rfl) (by first | assumption | exact hL.r rfl | exact hL.2.2.2.2.2) ?_
                          refine xp_iload_n rfl rfl ?_
                          refine xp_dup2 rfl rfl rfl ?_
                          refine xp_iald rfl (by first | assumption | exact hL.t rfl) (by omega) (by omega) ?_
                          rw [x2]
                          refine xp_iconst (n := 1) rfl (by decide) ?_
                          refine xp_iadd rfl ?_
                          refine xp_iast rfl (by first | assumption | exact hL.t rfl) (by omega) (by omega) ?_
                          show xP _ _ _ _ _ _ (xm _ _ _ (mApp B f op _ _)) _
                          refine xp_aload_n rfl rfl ?_
                          refine xp_gfa rfl rfl (by decide) (by decide) (by first | assumption | exact hL.t rfl) (by first | assumption | exact hL.r rfl | exact hL.2.2.2.2.2) ?_
                          refine xp_iload_n rfl rfl ?_
                          refine xp_iald rfl (by first | assumption | exact hL.t rfl) (by omega) (by omega) ?_
                          rw [x3]
                          refine xp_ireturn rfl (by decide) (by decide) (by decide) ?_
                          rfl
                        · exfalso; omega
              · exfalso; omega
            · exfalso; omega
          · skip
            refine xp_iload_n rfl rfl ?_
            refine xp_iconst (n := 0) rfl (by decide) ?_
            refine xp_iload_n rfl rfl ?_
            refine xp_is rfl rfl rfl (Nat.le_of_ble_eq_true rfl) (by decide) (by decide) (by decide) (Nat.le_of_ble_eq_true rfl) rfl (xrcv0 (by decide) _ _) (m115 (by omega)) rfl ?_
            refine xp_is rfl rfl rfl (Nat.le_of_ble_eq_true rfl) (by decide) (by decide) (by decide) (Nat.le_of_ble_eq_true rfl) rfl (xrcv0 (by decide) _ _) (m112 ha (by omega) (by omega)) rfl ?_
            rw [e3 (by omega)]
            refine xp_ifeq 58 rfl (by decide) (by omega) (fun h35 => ?_) (fun h35 => ?_)
            · exfalso; omega
            · skip
              refine xp_iload_n rfl rfl ?_
              refine xp_is rfl rfl rfl (Nat.le_of_ble_eq_true rfl) (by decide) (by decide) (by decide) (Nat.le_of_ble_eq_true rfl) rfl (xrcv0 (by decide) _ _) (m116 (by omega)) rfl ?_
              refine xp_iflt 64 rfl (by decide) (by omega) (fun h42 => ?_) (fun h42 => ?_)
              · skip
                refine xp_aload_n rfl rfl ?_
                refine xp_gfa rfl rfl (by decide) (by decide) (by first | assumption | exact hL.t rfl) (by first | assumption | exact hL.r rfl | exact hL.2.2.2.2.2) ?_
                refine xp_iload_n rfl rfl ?_
                refine xp_iald rfl (by first | assumption | exact hL.t rfl) (by omega) (by omega) ?_
                refine xp_bipush (n := 30) rfl (by decide) ?_
                refine xp_icne 81 rfl (by decide) (by omega) (by omega) (fun h72 => ?_) (fun h72 => ?_)
                · skip
                  refine xp_aload_n rfl rfl ?_
                  refine xp_iconst (n := 0) rfl (by decide) ?_
                  refine xp_pfi rfl rfl (by decide) (by decide) (by decide) (by first | assumption | exact hL.t rfl) ?_
                  refine xp_bipush (n := 30) rfl (by decide) ?_
                  refine xp_iload_n rfl rfl ?_
                  refine xp_imul rfl ?_
                  refine xp_aload_n rfl rfl ?_
                  refine xp_gfa rfl rfl (by decide) (by decide) (by first | assumption | exact hL.t rfl) (by first | assumption | exact hL.r rfl | exact hL.2.2.2.2.2) ?_
                  refine xp_iload_n rfl rfl ?_
                  refine xp_iald rfl (by first | assumption | exact hL.t rfl) (by omega) (by omega) ?_
                  rw [x1]
                  refine xp_iadd rfl ?_
                  refine xp_istore rfl (by decide) ?_
                  refine xp_aload_n rfl rfl ?_
                  refine xp_gfa rfl rfl (by decide) (by decide) (by first | assumption | exact hL.t rfl) (by first | assumption | exact hL.r rfl | exact hL.2.2.2.2.2) ?_
                  refine xp_iload rfl rfl ?_
                  refine xp_iload_n rfl rfl ?_
                  refine xp_iast rfl (by first | assumption | exact hL.t rfl) (by omega) (by omega) ?_
                  refine xp_aload_n rfl rfl ?_
                  refine xp_gfa rfl rfl (by decide) (by decide) (by first | assumption | exact hL.t rfl) (by first | assumption | exact hL.r rfl | exact hL.2.2.2.2.2) ?_
                  refine xp_iload rfl rfl ?_
                  refine xp_iload_n rfl rfl ?_
                  refine xp_is rfl rfl rfl (Nat.le_of_ble_eq_true rfl) (by decide) (by decide) (by decide) (Nat.le_of_ble_eq_true rfl) rfl (xrcv0 (by decide) _ _) (m115 (by omega)) rfl ?_
                  refine xp_ifge 130 rfl (by decide) (by omega) (fun h117 => ?_) (fun h117 => ?_)
                  · skip
                    refine xp_iload_n rfl rfl ?_
                    refine xp_goto 135 rfl (by decide) ?_
                    refine xp_iast rfl (by first | assumption | exact hL.t rfl) (by omega) (by omega) ?_
                    refine xp_aload_n rfl rfl ?_
                    refine xp_gfa rfl rfl (by decide) (by decide) (by first | assumption | exact hL.t rfl) (by first | assumption | exact hL.r rfl | exact hL.2.2.2.2.2) ?_
                    refine xp_iload rfl rfl ?_
                    refine xp_iload_n rfl rfl ?_
                    refine xp_is rfl rfl rfl (Nat.le_of_ble_eq_true rfl) (by decide) (by decide) (by decide) (Nat.le_of_ble_eq_true rfl) rfl (xrcv0 (by decide) _ _) (m116 (by omega)) rfl ?_
                    refine xp_ifge 154 rfl (by decide) (by omega) (fun h146 => ?_) (fun h146 => ?_)
                    · exfalso; omega
                    · skip
                      refine xp_iload_n rfl rfl ?_
                      refine xp_iconst (n := 2) rfl (by decide) ?_
                      refine xp_icne 159 rfl (by decide) (by omega) (by omega) (fun h151 => ?_) (fun h151 => ?_)
                      · skip
                        refine xp_iconst (n := 0) rfl (by decide) ?_
                        refine xp_iast rfl (by first | assumption | exact hL.t rfl) (by omega) (by omega) ?_
                        refine xp_aload_n rfl rfl ?_
                        refine xp_gfa rfl rfl (by decide) (by decide) (by first | assumption | exact hL.t rfl) (by first | assumption | exact hL.r rfl | exact hL.2.2.2.2.2) ?_
                        refine xp_iload_n rfl rfl ?_
                        refine xp_dup2 rfl rfl rfl ?_
                        refine xp_iald rfl (by first | assumption | exact hL.t rfl) (by omega) (by omega) ?_
                        rw [x2]
                        refine xp_iconst (n := 1) rfl (by decide) ?_
                        refine xp_iadd rfl ?_
                        refine xp_iast rfl (by first | assumption | exact hL.t rfl) (by omega) (by omega) ?_
                        show xP _ _ _ _ _ _ (xm _ _ _ (mApp B f op _ _)) _
                        refine xp_aload_n rfl rfl ?_
                        refine xp_gfa rfl rfl (by decide) (by decide) (by first | assumption | exact hL.t rfl) (by first | assumption | exact hL.r rfl | exact hL.2.2.2.2.2) ?_
                        refine xp_iload_n rfl rfl ?_
                        refine xp_iald rfl (by first | assumption | exact hL.t rfl) (by omega) (by omega) ?_
                        rw [x3]
                        refine xp_ireturn rfl (by decide) (by decide) (by decide) ?_
                        rfl
                      · exfalso; omega
                  · skip
                    refine xp_iload_n rfl rfl ?_
                    refine xp_iconst (n := 1) rfl (by decide) ?_
                    refine xp_iceq 130 rfl (by decide) (by omega) (by omega) (fun h122 => ?_) (fun h122 => ?_)
                    · skip
                      refine xp_iload_n rfl rfl ?_
                      refine xp_goto 135 rfl (by decide) ?_
                      refine xp_iast rfl (by first | assumption | exact hL.t rfl) (by omega) (by omega) ?_
                      refine xp_aload_n rfl rfl ?_
                      refine xp_gfa rfl rfl (by decide) (by decide) (by first | assumption | exact hL.t rfl) (by first | assumption | exact hL.r rfl | exact hL.2.2.2.2.2) ?_
                      refine xp_iload rfl rfl ?_
                      refine xp_iload_n rfl rfl ?_
                      refine xp_is rfl rfl rfl (Nat.le_of_ble_eq_true rfl) (by decide) (by decide) (by decide) (Nat.le_of_ble_eq_true rfl) rfl (xrcv0 (by decide) _ _) (m116 (by omega)) rfl ?_
                      refine xp_ifge 154 rfl (by decide) (by omega) (fun h146 => ?_) (fun h146 => ?_)
                      · exfalso; omega
                      · skip
                        refine xp_iload_n rfl rfl ?_
                        refine xp_iconst (n := 2) rfl (by decide) ?_
                        refine xp_icne 159 rfl (by decide) (by omega) (by omega) (fun h151 => ?_) (fun h151 => ?_)
                        · skip
                          refine xp_iconst (n := 0) rfl (by decide) ?_
                          refine xp_iast rfl (by first | assumption | exact hL.t rfl) (by omega) (by omega) ?_
                          refine xp_aload_n rfl rfl ?_
                          refine xp_gfa rfl rfl (by decide) (by decide) (by first | assumption | exact hL.t rfl) (by first | assumption | exact hL.r rfl | exact hL.2.2.2.2.2) ?_
                          refine xp_iload_n rfl rfl ?_
                          refine xp_dup2 rfl rfl rfl ?_
                          refine xp_iald rfl (by first | assumption | exact hL.t rfl) (by omega) (by omega) ?_
                          rw [x2]
                          refine xp_iconst (n := 1) rfl (by decide) ?_
                          refine xp_iadd rfl ?_
                          refine xp_iast rfl (by first | assumption | exact hL.t rfl) (by omega) (by omega) ?_
                          show xP _ _ _ _ _ _ (xm _ _ _ (mApp B f op _ _)) _
                          refine xp_aload_n rfl rfl ?_
                          refine xp_gfa rfl rfl (by decide) (by decide) (by first | assumption | exact hL.t rfl) (by first | assumption | exact hL.r rfl | exact hL.2.2.2.2.2) ?_
                          refine xp_iload_n rfl rfl ?_
                          refine xp_iald rfl (by first | assumption | exact hL.t rfl) (by omega) (by omega) ?_
                          rw [x3]
                          refine xp_ireturn rfl (by decide) (by decide) (by decide) ?_
                          rfl
                        · exfalso; omega
                    · skip
                      refine xp_iload_n rfl rfl ?_
                      refine xp_iconst (n := 2) rfl (by decide) ?_
                      refine xp_icne 134 rfl (by decide) (by omega) (by omega) (fun h127 => ?_) (fun h127 => ?_)
                      · exfalso; omega
                      · skip
                        refine xp_iload_n rfl rfl ?_
                        refine xp_goto 135 rfl (by decide) ?_
                        refine xp_iast rfl (by first | assumption | exact hL.t rfl) (by omega) (by omega) ?_
                        refine xp_aload_n rfl rfl ?_
                        refine xp_gfa rfl rfl (by decide) (by decide) (by first | assumption | exact hL.t rfl) (by first | assumption | exact hL.r rfl | exact hL.2.2.2.2.2) ?_
                        refine xp_iload rfl rfl ?_
                        refine xp_iload_n rfl rfl ?_
                        refine xp_is rfl rfl rfl (Nat.le_of_ble_eq_true rfl) (by decide) (by decide) (by decide) (Nat.le_of_ble_eq_true rfl) rfl (xrcv0 (by decide) _ _) (m116 (by omega)) rfl ?_
                        refine xp_ifge 154 rfl (by decide) (by omega) (fun h146 => ?_) (fun h146 => ?_)
                        · exfalso; omega
                        · skip
                          refine xp_iload_n rfl rfl ?_
                          refine xp_iconst (n := 2) rfl (by decide) ?_
                          refine xp_icne 159 rfl (by decide) (by omega) (by omega) (fun h151 => ?_) (fun h151 => ?_)
                          · skip
                            refine xp_iconst (n := 0) rfl (by decide) ?_
                            refine xp_iast rfl (by first | assumption | exact hL.t rfl) (by omega) (by omega) ?_
                            refine xp_aload_n rfl rfl ?_
                            refine xp_gfa rfl rfl (by decide) (by decide) (by first | assumption | exact hL.t rfl) (by first | assumption | exact hL.r rfl | exact hL.2.2.2.2.2) ?_
                            refine xp_iload_n rfl rfl ?_
                            refine xp_dup2 rfl rfl rfl ?_
                            refine xp_iald rfl (by first | assumption | exact hL.t rfl) (by omega) (by omega) ?_
                            rw [x2]
                            refine xp_iconst (n := 1) rfl (by decide) ?_
                            refine xp_iadd rfl ?_
                            refine xp_iast rfl (by first | assumption | exact hL.t rfl) (by omega) (by omega) ?_
                            show xP _ _ _ _ _ _ (xm _ _ _ (mApp B f op _ _)) _
                            refine xp_aload_n rfl rfl ?_
                            refine xp_gfa rfl rfl (by decide) (by decide) (by first | assumption | exact hL.t rfl) (by first | assumption | exact hL.r rfl | exact hL.2.2.2.2.2) ?_
                            refine xp_iload_n rfl rfl ?_
                            refine xp_iald rfl (by first | assumption | exact hL.t rfl) (by omega) (by omega) ?_
                            rw [x3]
                            refine xp_ireturn rfl (by decide) (by decide) (by decide) ?_
                            rfl
                          · exfalso; omega
                · exfalso; omega
              · exfalso; omega
    · have vB : xKp (xTB op) b = b := if_neg zB
      rw [vB]
      have y1 : mMostA op < 2 ^ 31 ∨ op = 1 ∨ op = 2 := by
        by_cases q : mMostA op = 4294967295 ∧ op ≠ 1 ∧ op ≠ 2
        · exact absurd (kA.mpr q) zA
        · omega
      have w1 : mMostB op < 2 ^ 31 ∨ op = 2 := by
        by_cases q : mMostB op = 4294967295 ∧ op ≠ 2
        · exact absurd (kB.mpr q) zB
        · omega
      refine xF_eq (xF_p (Nat.le_of_ble_eq_true rfl) ?_)
      refine xp_iload_n rfl rfl ?_
      refine xp_iconst (n := 0) rfl (by decide) ?_
      refine xp_iconst (n := 5) rfl (by decide) ?_
      refine xp_is rfl rfl rfl (Nat.le_of_ble_eq_true rfl) (by decide) (by decide) (by decide) (Nat.le_of_ble_eq_true rfl) rfl (xrcv0 (by decide) _ _) (m112 (by omega) (by omega) (by omega)) rfl ?_
      rw [e1]
      refine xp_ifeq 58 rfl (by decide) (by omega) (fun h6 => ?_) (fun h6 => ?_)
      · exfalso; omega
      · skip
        refine xp_iload_n rfl rfl ?_
        refine xp_iconst (n := 0) rfl (by decide) ?_
        refine xp_bipush (n := 27) rfl (by decide) ?_
        refine xp_is rfl rfl rfl (Nat.le_of_ble_eq_true rfl) (by decide) (by decide) (by decide) (Nat.le_of_ble_eq_true rfl) rfl (xrcv0 (by decide) _ _) (m112 (by omega) (by omega) (by omega)) rfl ?_
        rw [e2]
        refine xp_ifeq 58 rfl (by decide) (by omega) (fun h16 => ?_) (fun h16 => ?_)
        · exfalso; omega
        · skip
          refine xp_iload_n rfl rfl ?_
          refine xp_is rfl rfl rfl (Nat.le_of_ble_eq_true rfl) (by decide) (by decide) (by decide) (Nat.le_of_ble_eq_true rfl) rfl (xrcv0 (by decide) _ _) (m115 (by omega)) rfl ?_
          refine xp_iflt 38 rfl (by decide) (by omega) (fun h23 => ?_) (fun h23 => ?_)
          · skip
            refine xp_iload_n rfl rfl ?_
            refine xp_is rfl rfl rfl (Nat.le_of_ble_eq_true rfl) (by decide) (by decide) (by decide) (Nat.le_of_ble_eq_true rfl) rfl (xrcv0 (by decide) _ _) (m116 (by omega)) rfl ?_
            refine xp_iflt 64 rfl (by decide) (by omega) (fun h42 => ?_) (fun h42 => ?_)
            · skip
              refine xp_aload_n rfl rfl ?_
              refine xp_gfa rfl rfl (by decide) (by decide) (by first | assumption | exact hL.t rfl) (by first | assumption | exact hL.r rfl | exact hL.2.2.2.2.2) ?_
              refine xp_iload_n rfl rfl ?_
              refine xp_iald rfl (by first | assumption | exact hL.t rfl) (by omega) (by omega) ?_
              refine xp_bipush (n := 30) rfl (by decide) ?_
              refine xp_icne 81 rfl (by decide) (by omega) (by omega) (fun h72 => ?_) (fun h72 => ?_)
              · skip
                refine xp_aload_n rfl rfl ?_
                refine xp_iconst (n := 0) rfl (by decide) ?_
                refine xp_pfi rfl rfl (by decide) (by decide) (by decide) (by first | assumption | exact hL.t rfl) ?_
                refine xp_bipush (n := 30) rfl (by decide) ?_
                refine xp_iload_n rfl rfl ?_
                refine xp_imul rfl ?_
                refine xp_aload_n rfl rfl ?_
                refine xp_gfa rfl rfl (by decide) (by decide) (by first | assumption | exact hL.t rfl) (by first | assumption | exact hL.r rfl | exact hL.2.2.2.2.2) ?_
                refine xp_iload_n rfl rfl ?_
                refine xp_iald rfl (by first | assumption | exact hL.t rfl) (by omega) (by omega) ?_
                rw [x1]
                refine xp_iadd rfl ?_
                refine xp_istore rfl (by decide) ?_
                refine xp_aload_n rfl rfl ?_
                refine xp_gfa rfl rfl (by decide) (by decide) (by first | assumption | exact hL.t rfl) (by first | assumption | exact hL.r rfl | exact hL.2.2.2.2.2) ?_
                refine xp_iload rfl rfl ?_
                refine xp_iload_n rfl rfl ?_
                refine xp_iast rfl (by first | assumption | exact hL.t rfl) (by omega) (by omega) ?_
                refine xp_aload_n rfl rfl ?_
                refine xp_gfa rfl rfl (by decide) (by decide) (by first | assumption | exact hL.t rfl) (by first | assumption | exact hL.r rfl | exact hL.2.2.2.2.2) ?_
                refine xp_iload rfl rfl ?_
                refine xp_iload_n rfl rfl ?_
                refine xp_is rfl rfl rfl (Nat.le_of_ble_eq_true rfl) (by decide) (by decide) (by decide) (Nat.le_of_ble_eq_true rfl) rfl (xrcv0 (by decide) _ _) (m115 (by omega)) rfl ?_
                refine xp_ifge 130 rfl (by decide) (by omega) (fun h117 => ?_) (fun h117 => ?_)
                · skip
                  refine xp_iload_n rfl rfl ?_
                  refine xp_goto 135 rfl (by decide) ?_
                  refine xp_iast rfl (by first | assumption | exact hL.t rfl) (by omega) (by omega) ?_
                  refine xp_aload_n rfl rfl ?_
                  refine xp_gfa rfl rfl (by decide) (by decide) (by first | assumption | exact hL.t rfl) (by first | assumption | exact hL.r rfl | exact hL.2.2.2.2.2) ?_
                  refine xp_iload rfl rfl ?_
                  refine xp_iload_n rfl rfl ?_
                  refine xp_is rfl rfl rfl (Nat.le_of_ble_eq_true rfl) (by decide) (by decide) (by decide) (Nat.le_of_ble_eq_true rfl) rfl (xrcv0 (by decide) _ _) (m116 (by omega)) rfl ?_
                  refine xp_ifge 154 rfl (by decide) (by omega) (fun h146 => ?_) (fun h146 => ?_)
                  · skip
                    refine xp_iload rfl rfl ?_
                    refine xp_goto 160 rfl (by decide) ?_
                    refine xp_iast rfl (by first | assumption | exact hL.t rfl) (by omega) (by omega) ?_
                    refine xp_aload_n rfl rfl ?_
                    refine xp_gfa rfl rfl (by decide) (by decide) (by first | assumption | exact hL.t rfl) (by first | assumption | exact hL.r rfl | exact hL.2.2.2.2.2) ?_
                    refine xp_iload_n rfl rfl ?_
                    refine xp_dup2 rfl rfl rfl ?_
                    refine xp_iald rfl (by first | assumption | exact hL.t rfl) (by omega) (by omega) ?_
                    rw [x2]
                    refine xp_iconst (n := 1) rfl (by decide) ?_
                    refine xp_iadd rfl ?_
                    refine xp_iast rfl (by first | assumption | exact hL.t rfl) (by omega) (by omega) ?_
                    show xP _ _ _ _ _ _ (xm _ _ _ (mApp B f op _ _)) _
                    refine xp_aload_n rfl rfl ?_
                    refine xp_gfa rfl rfl (by decide) (by decide) (by first | assumption | exact hL.t rfl) (by first | assumption | exact hL.r rfl | exact hL.2.2.2.2.2) ?_
                    refine xp_iload_n rfl rfl ?_
                    refine xp_iald rfl (by first | assumption | exact hL.t rfl) (by omega) (by omega) ?_
                    rw [x3]
                    refine xp_ireturn rfl (by decide) (by decide) (by decide) ?_
                    rfl
                  · skip
                    refine xp_iload_n rfl rfl ?_
                    refine xp_iconst (n := 2) rfl (by decide) ?_
                    refine xp_icne 159 rfl (by decide) (by omega) (by omega) (fun h151 => ?_) (fun h151 => ?_)
                    · exfalso; omega
                    · skip
                      refine xp_iload rfl rfl ?_
                      refine xp_goto 160 rfl (by decide) ?_
                      refine xp_iast rfl (by first | assumption | exact hL.t rfl) (by omega) (by omega) ?_
                      refine xp_aload_n rfl rfl ?_
                      refine xp_gfa rfl rfl (by decide) (by decide) (by first | assumption | exact hL.t rfl) (by first | assumption | exact hL.r rfl | exact hL.2.2.2.2.2) ?_
                      refine xp_iload_n rfl rfl ?_
                      refine xp_dup2 rfl rfl rfl ?_
                      refine xp_iald rfl (by first | assumption | exact hL.t rfl) (by omega) (by omega) ?_
                      rw [x2]
                      refine xp_iconst (n := 1) rfl (by decide) ?_
                      refine xp_iadd rfl ?_
                      refine xp_iast rfl (by first | assumption | exact hL.t rfl) (by omega) (by omega) ?_
                      show xP _ _ _ _ _ _ (xm _ _ _ (mApp B f op _ _)) _
                      refine xp_aload_n rfl rfl ?_
                      refine xp_gfa rfl rfl (by decide) (by decide) (by first | assumption | exact hL.t rfl) (by first | assumption | exact hL.r rfl | exact hL.2.2.2.2.2) ?_
                      refine xp_iload_n rfl rfl ?_
                      refine xp_iald rfl (by first | assumption | exact hL.t rfl) (by omega) (by omega) ?_
                      rw [x3]
                      refine xp_ireturn rfl (by decide) (by decide) (by decide) ?_
                      rfl
                · skip
                  refine xp_iload_n rfl rfl ?_
                  refine xp_iconst (n := 1) rfl (by decide) ?_
                  refine xp_iceq 130 rfl (by decide) (by omega) (by omega) (fun h122 => ?_) (fun h122 => ?_)
                  · skip
                    refine xp_iload_n rfl rfl ?_
                    refine xp_goto 135 rfl (by decide) ?_
                    refine xp_iast rfl (by first | assumption | exact hL.t rfl) (by omega) (by omega) ?_
                    refine xp_aload_n rfl rfl ?_
                    refine xp_gfa rfl rfl (by decide) (by decide) (by first | assumption | exact hL.t rfl) (by first | assumption | exact hL.r rfl | exact hL.2.2.2.2.2) ?_
                    refine xp_iload rfl rfl ?_
                    refine xp_iload_n rfl rfl ?_
                    refine xp_is rfl rfl rfl (Nat.le_of_ble_eq_true rfl) (by decide) (by decide) (by decide) (Nat.le_of_ble_eq_true rfl) rfl (xrcv0 (by decide) _ _) (m116 (by omega)) rfl ?_
                    refine xp_ifge 154 rfl (by decide) (by omega) (fun h146 => ?_) (fun h146 => ?_)
                    · skip
                      refine xp_iload rfl rfl ?_
                      refine xp_goto 160 rfl (by decide) ?_
                      refine xp_iast rfl (by first | assumption | exact hL.t rfl) (by omega) (by omega) ?_
                      refine xp_aload_n rfl rfl ?_
                      refine xp_gfa rfl rfl (by decide) (by decide) (by first | assumption | exact hL.t rfl) (by first | assumption | exact hL.r rfl | exact hL.2.2.2.2.2) ?_
                      refine xp_iload_n rfl rfl ?_
                      refine xp_dup2 rfl rfl rfl ?_
                      refine xp_iald rfl (by first | assumption | exact hL.t rfl) (by omega) (by omega) ?_
                      rw [x2]
                      refine xp_iconst (n := 1) rfl (by decide) ?_
                      refine xp_iadd rfl ?_
                      refine xp_iast rfl (by first | assumption | exact hL.t rfl) (by omega) (by omega) ?_
                      show xP _ _ _ _ _ _ (xm _ _ _ (mApp B f op _ _)) _
                      refine xp_aload_n rfl rfl ?_
                      refine xp_gfa rfl rfl (by decide) (by decide) (by first | assumption | exact hL.t rfl) (by first | assumption | exact hL.r rfl | exact hL.2.2.2.2.2) ?_
                      refine xp_iload_n rfl rfl ?_
                      refine xp_iald rfl (by first | assumption | exact hL.t rfl) (by omega) (by omega) ?_
                      rw [x3]
                      refine xp_ireturn rfl (by decide) (by decide) (by decide) ?_
                      rfl
                    · skip
                      refine xp_iload_n rfl rfl ?_
                      refine xp_iconst (n := 2) rfl (by decide) ?_
                      refine xp_icne 159 rfl (by decide) (by omega) (by omega) (fun h151 => ?_) (fun h151 => ?_)
                      · exfalso; omega
                      · skip
                        refine xp_iload rfl rfl ?_
                        refine xp_goto 160 rfl (by decide) ?_
                        refine xp_iast rfl (by first | assumption | exact hL.t rfl) (by omega) (by omega) ?_
                        refine xp_aload_n rfl rfl ?_
                        refine xp_gfa rfl rfl (by decide) (by decide) (by first | assumption | exact hL.t rfl) (by first | assumption | exact hL.r rfl | exact hL.2.2.2.2.2) ?_
                        refine xp_iload_n rfl rfl ?_
                        refine xp_dup2 rfl rfl rfl ?_
                        refine xp_iald rfl (by first | assumption | exact hL.t rfl) (by omega) (by omega) ?_
                        rw [x2]
                        refine xp_iconst (n := 1) rfl (by decide) ?_
                        refine xp_iadd rfl ?_
                        refine xp_iast rfl (by first | assumption | exact hL.t rfl) (by omega) (by omega) ?_
                        show xP _ _ _ _ _ _ (xm _ _ _ (mApp B f op _ _)) _
                        refine xp_aload_n rfl rfl ?_
                        refine xp_gfa rfl rfl (by decide) (by decide) (by first | assumption | exact hL.t rfl) (by first | assumption | exact hL.r rfl | exact hL.2.2.2.2.2) ?_
                        refine xp_iload_n rfl rfl ?_
                        refine xp_iald rfl (by first | assumption | exact hL.t rfl) (by omega) (by omega) ?_
                        rw [x3]
                        refine xp_ireturn rfl (by decide) (by decide) (by decide) ?_
                        rfl
                  · skip
                    refine xp_iload_n rfl rfl ?_
                    refine xp_iconst (n := 2) rfl (by decide) ?_
                    refine xp_icne 134 rfl (by decide) (by omega) (by omega) (fun h127 => ?_) (fun h127 => ?_)
                    · exfalso; omega
                    · skip
                      refine xp_iload_n rfl rfl ?_
                      refine xp_goto 135 rfl (by decide) ?_
                      refine xp_iast rfl (by first | assumption | exact hL.t rfl) (by omega) (by omega) ?_
                      refine xp_aload_n rfl rfl ?_
                      refine xp_gfa rfl rfl (by decide) (by decide) (by first | assumption | exact hL.t rfl) (by first | assumption | exact hL.r rfl | exact hL.2.2.2.2.2) ?_
                      refine xp_iload rfl rfl ?_
                      refine xp_iload_n rfl rfl ?_
                      refine xp_is rfl rfl rfl (Nat.le_of_ble_eq_true rfl) (by decide) (by decide) (by decide) (Nat.le_of_ble_eq_true rfl) rfl (xrcv0 (by decide) _ _) (m116 (by omega)) rfl ?_
                      refine xp_ifge 154 rfl (by decide) (by omega) (fun h146 => ?_) (fun h146 => ?_)
                      · skip
                        refine xp_iload rfl rfl ?_
                        refine xp_goto 160 rfl (by decide) ?_
                        refine xp_iast rfl (by first | assumption | exact hL.t rfl) (by omega) (by omega) ?_
                        refine xp_aload_n rfl rfl ?_
                        refine xp_gfa rfl rfl (by decide) (by decide) (by first | assumption | exact hL.t rfl) (by first | assumption | exact hL.r rfl | exact hL.2.2.2.2.2) ?_
                        refine xp_iload_n rfl rfl ?_
                        refine xp_dup2 rfl rfl rfl ?_
                        refine xp_iald rfl (by first | assumption | exact hL.t rfl) (by omega) (by omega) ?_
                        rw [x2]
                        refine xp_iconst (n := 1) rfl (by decide) ?_
                        refine xp_iadd rfl ?_
                        refine xp_iast rfl (by first | assumption | exact hL.t rfl) (by omega) (by omega) ?_
                        show xP _ _ _ _ _ _ (xm _ _ _ (mApp B f op _ _)) _
                        refine xp_aload_n rfl rfl ?_
                        refine xp_gfa rfl rfl (by decide) (by decide) (by first | assumption | exact hL.t rfl) (by first | assumption | exact hL.r rfl | exact hL.2.2.2.2.2) ?_
                        refine xp_iload_n rfl rfl ?_
                        refine xp_iald rfl (by first | assumption | exact hL.t rfl) (by omega) (by omega) ?_
                        rw [x3]
                        refine xp_ireturn rfl (by decide) (by decide) (by decide) ?_
                        rfl
                      · skip
                        refine xp_iload_n rfl rfl ?_
                        refine xp_iconst (n := 2) rfl (by decide) ?_
                        refine xp_icne 159 rfl (by decide) (by omega) (by omega) (fun h151 => ?_) (fun h151 => ?_)
                        · exfalso; omega
                        · skip
                          refine xp_iload rfl rfl ?_
                          refine xp_goto 160 rfl (by decide) ?_
                          refine xp_iast rfl (by first | assumption | exact hL.t rfl) (by omega) (by omega) ?_
                          refine xp_aload_n rfl rfl ?_
                          refine xp_gfa rfl rfl (by decide) (by decide) (by first | assumption | exact hL.t rfl) (by first | assumption | exact hL.r rfl | exact hL.2.2.2.2.2) ?_
                          refine xp_iload_n rfl rfl ?_
                          refine xp_dup2 rfl rfl rfl ?_
                          refine xp_iald rfl (by first | assumption | exact hL.t rfl) (by omega) (by omega) ?_
                          rw [x2]
                          refine xp_iconst (n := 1) rfl (by decide) ?_
                          refine xp_iadd rfl ?_
                          refine xp_iast rfl (by first | assumption | exact hL.t rfl) (by omega) (by omega) ?_
                          show xP _ _ _ _ _ _ (xm _ _ _ (mApp B f op _ _)) _
                          refine xp_aload_n rfl rfl ?_
                          refine xp_gfa rfl rfl (by decide) (by decide) (by first | assumption | exact hL.t rfl) (by first | assumption | exact hL.r rfl | exact hL.2.2.2.2.2) ?_
                          refine xp_iload_n rfl rfl ?_
                          refine xp_iald rfl (by first | assumption | exact hL.t rfl) (by omega) (by omega) ?_
                          rw [x3]
                          refine xp_ireturn rfl (by decide) (by decide) (by decide) ?_
                          rfl
              · exfalso; omega
            · skip
              refine xp_iload rfl rfl ?_
              refine xp_iconst (n := 0) rfl (by decide) ?_
              refine xp_iload_n rfl rfl ?_
              refine xp_is rfl rfl rfl (Nat.le_of_ble_eq_true rfl) (by decide) (by decide) (by decide) (Nat.le_of_ble_eq_true rfl) rfl (xrcv0 (by decide) _ _) (m116 (by omega)) rfl ?_
              refine xp_is rfl rfl rfl (Nat.le_of_ble_eq_true rfl) (by decide) (by decide) (by decide) (Nat.le_of_ble_eq_true rfl) rfl (xrcv0 (by decide) _ _) (m112 hb (by omega) (by omega)) rfl ?_
              rw [e4 (by omega)]
              refine xp_ifne 64 rfl (by decide) (by omega) (fun h55 => ?_) (fun h55 => ?_)
              · skip
                refine xp_aload_n rfl rfl ?_
                refine xp_gfa rfl rfl (by decide) (by decide) (by first | assumption | exact hL.t rfl) (by first | assumption | exact hL.r rfl | exact hL.2.2.2.2.2) ?_
                refine xp_iload_n rfl rfl ?_
                refine xp_iald rfl (by first | assumption | exact hL.t rfl) (by omega) (by omega) ?_
                refine xp_bipush (n := 30) rfl (by decide) ?_
                refine xp_icne 81 rfl (by decide) (by omega) (by omega) (fun h72 => ?_) (fun h72 => ?_)
                · skip
                  refine xp_aload_n rfl rfl ?_
                  refine xp_iconst (n := 0) rfl (by decide) ?_
                  refine xp_pfi rfl rfl (by decide) (by decide) (by decide) (by first | assumption | exact hL.t rfl) ?_
                  refine xp_bipush (n := 30) rfl (by decide) ?_
                  refine xp_iload_n rfl rfl ?_
                  refine xp_imul rfl ?_
                  refine xp_aload_n rfl rfl ?_
                  refine xp_gfa rfl rfl (by decide) (by decide) (by first | assumption | exact hL.t rfl) (by first | assumption | exact hL.r rfl | exact hL.2.2.2.2.2) ?_
                  refine xp_iload_n rfl rfl ?_
                  refine xp_iald rfl (by first | assumption | exact hL.t rfl) (by omega) (by omega) ?_
                  rw [x1]
                  refine xp_iadd rfl ?_
                  refine xp_istore rfl (by decide) ?_
                  refine xp_aload_n rfl rfl ?_
                  refine xp_gfa rfl rfl (by decide) (by decide) (by first | assumption | exact hL.t rfl) (by first | assumption | exact hL.r rfl | exact hL.2.2.2.2.2) ?_
                  refine xp_iload rfl rfl ?_
                  refine xp_iload_n rfl rfl ?_
                  refine xp_iast rfl (by first | assumption | exact hL.t rfl) (by omega) (by omega) ?_
                  refine xp_aload_n rfl rfl ?_
                  refine xp_gfa rfl rfl (by decide) (by decide) (by first | assumption | exact hL.t rfl) (by first | assumption | exact hL.r rfl | exact hL.2.2.2.2.2) ?_
                  refine xp_iload rfl rfl ?_
                  refine xp_iload_n rfl rfl ?_
                  refine xp_is rfl rfl rfl (Nat.le_of_ble_eq_true rfl) (by decide) (by decide) (by decide) (Nat.le_of_ble_eq_true rfl) rfl (xrcv0 (by decide) _ _) (m115 (by omega)) rfl ?_
                  refine xp_ifge 130 rfl (by decide) (by omega) (fun h117 => ?_) (fun h117 => ?_)
                  · skip
                    refine xp_iload_n rfl rfl ?_
                    refine xp_goto 135 rfl (by decide) ?_
                    refine xp_iast rfl (by first | assumption | exact hL.t rfl) (by omega) (by omega) ?_
                    refine xp_aload_n rfl rfl ?_
                    refine xp_gfa rfl rfl (by decide) (by decide) (by first | assumption | exact hL.t rfl) (by first | assumption | exact hL.r rfl | exact hL.2.2.2.2.2) ?_
                    refine xp_iload rfl rfl ?_
                    refine xp_iload_n rfl rfl ?_
                    refine xp_is rfl rfl rfl (Nat.le_of_ble_eq_true rfl) (by decide) (by decide) (by decide) (Nat.le_of_ble_eq_true rfl) rfl (xrcv0 (by decide) _ _) (m116 (by omega)) rfl ?_
                    refine xp_ifge 154 rfl (by decide) (by omega) (fun h146 => ?_) (fun h146 => ?_)
                    · skip
                      refine xp_iload rfl rfl ?_
                      refine xp_goto 160 rfl (by decide) ?_
                      refine xp_iast rfl (by first | assumption | exact hL.t rfl) (by omega) (by omega) ?_
                      refine xp_aload_n rfl rfl ?_
                      refine xp_gfa rfl rfl (by decide) (by decide) (by first | assumption | exact hL.t rfl) (by first | assumption | exact hL.r rfl | exact hL.2.2.2.2.2) ?_
                      refine xp_iload_n rfl rfl ?_
                      refine xp_dup2 rfl rfl rfl ?_
                      refine xp_iald rfl (by first | assumption | exact hL.t rfl) (by omega) (by omega) ?_
                      rw [x2]
                      refine xp_iconst (n := 1) rfl (by decide) ?_
                      refine xp_iadd rfl ?_
                      refine xp_iast rfl (by first | assumption | exact hL.t rfl) (by omega) (by omega) ?_
                      show xP _ _ _ _ _ _ (xm _ _ _ (mApp B f op _ _)) _
                      refine xp_aload_n rfl rfl ?_
                      refine xp_gfa rfl rfl (by decide) (by decide) (by first | assumption | exact hL.t rfl) (by first | assumption | exact hL.r rfl | exact hL.2.2.2.2.2) ?_
                      refine xp_iload_n rfl rfl ?_
                      refine xp_iald rfl (by first | assumption | exact hL.t rfl) (by omega) (by omega) ?_
                      rw [x3]
                      refine xp_ireturn rfl (by decide) (by decide) (by decide) ?_
                      rfl
                    · skip
                      refine xp_iload_n rfl rfl ?_
                      refine xp_iconst (n := 2) rfl (by decide) ?_
                      refine xp_icne 159 rfl (by decide) (by omega) (by omega) (fun h151 => ?_) (fun h151 => ?_)
                      · exfalso; omega
                      · skip
                        refine xp_iload rfl rfl ?_
                        refine xp_goto 160 rfl (by decide) ?_
                        refine xp_iast rfl (by first | assumption | exact hL.t rfl) (by omega) (by omega) ?_
                        refine xp_aload_n rfl rfl ?_
                        refine xp_gfa rfl rfl (by decide) (by decide) (by first | assumption | exact hL.t rfl) (by first | assumption | exact hL.r rfl | exact hL.2.2.2.2.2) ?_
                        refine xp_iload_n rfl rfl ?_
                        refine xp_dup2 rfl rfl rfl ?_
                        refine xp_iald rfl (by first | assumption | exact hL.t rfl) (by omega) (by omega) ?_
                        rw [x2]
                        refine xp_iconst (n := 1) rfl (by decide) ?_
                        refine xp_iadd rfl ?_
                        refine xp_iast rfl (by first | assumption | exact hL.t rfl) (by omega) (by omega) ?_
                        show xP _ _ _ _ _ _ (xm _ _ _ (mApp B f op _ _)) _
                        refine xp_aload_n rfl rfl ?_
                        refine xp_gfa rfl rfl (by decide) (by decide) (by first | assumption | exact hL.t rfl) (by first | assumption | exact hL.r rfl | exact hL.2.2.2.2.2) ?_
                        refine xp_iload_n rfl rfl ?_
                        refine xp_iald rfl (by first | assumption | exact hL.t rfl) (by omega) (by omega) ?_
                        rw [x3]
                        refine xp_ireturn rfl (by decide) (by decide) (by decide) ?_
                        rfl
                  · skip
                    refine xp_iload_n rfl rfl ?_
                    refine xp_iconst (n := 1) rfl (by decide) ?_
                    refine xp_iceq 130 rfl (by decide) (by omega) (by omega) (fun h122 => ?_) (fun h122 => ?_)
                    · skip
                      refine xp_iload_n rfl rfl ?_
                      refine xp_goto 135 rfl (by decide) ?_
                      refine xp_iast rfl (by first | assumption | exact hL.t rfl) (by omega) (by omega) ?_
                      refine xp_aload_n rfl rfl ?_
                      refine xp_gfa rfl rfl (by decide) (by decide) (by first | assumption | exact hL.t rfl) (by first | assumption | exact hL.r rfl | exact hL.2.2.2.2.2) ?_
                      refine xp_iload rfl rfl ?_
                      refine xp_iload_n rfl rfl ?_
                      refine xp_is rfl rfl rfl (Nat.le_of_ble_eq_true rfl) (by decide) (by decide) (by decide) (Nat.le_of_ble_eq_true rfl) rfl (xrcv0 (by decide) _ _) (m116 (by omega)) rfl ?_
                      refine xp_ifge 154 rfl (by decide) (by omega) (fun h146 => ?_) (fun h146 => ?_)
                      · skip
                        refine xp_iload rfl rfl ?_
                        refine xp_goto 160 rfl (by decide) ?_
                        refine xp_iast rfl (by first | assumption | exact hL.t rfl) (by omega) (by omega) ?_
                        refine xp_aload_n rfl rfl ?_
                        refine xp_gfa rfl rfl (by decide) (by decide) (by first | assumption | exact hL.t rfl) (by first | assumption | exact hL.r rfl | exact hL.2.2.2.2.2) ?_
                        refine xp_iload_n rfl rfl ?_
                        refine xp_dup2 rfl rfl rfl ?_
                        refine xp_iald rfl (by first | assumption | exact hL.t rfl) (by omega) (by omega) ?_
                        rw [x2]
                        refine xp_iconst (n := 1) rfl (by decide) ?_
                        refine xp_iadd rfl ?_
                        refine xp_iast rfl (by first | assumption | exact hL.t rfl) (by omega) (by omega) ?_
                        show xP _ _ _ _ _ _ (xm _ _ _ (mApp B f op _ _)) _
                        refine xp_aload_n rfl rfl ?_
                        refine xp_gfa rfl rfl (by decide) (by decide) (by first | assumption | exact hL.t rfl) (by first | assumption | exact hL.r rfl | exact hL.2.2.2.2.2) ?_
                        refine xp_iload_n rfl rfl ?_
                        refine xp_iald rfl (by first | assumption | exact hL.t rfl) (by omega) (by omega) ?_
                        rw [x3]
                        refine xp_ireturn rfl (by decide) (by decide) (by decide) ?_
                        rfl
                      · skip
                        refine xp_iload_n rfl rfl ?_
                        refine xp_iconst (n := 2) rfl (by decide) ?_
                        refine xp_icne 159 rfl (by decide) (by omega) (by omega) (fun h151 => ?_) (fun h151 => ?_)
                        · exfalso; omega
                        · skip
                          refine xp_iload rfl rfl ?_
                          refine xp_goto 160 rfl (by decide) ?_
                          refine xp_iast rfl (by first | assumption | exact hL.t rfl) (by omega) (by omega) ?_
                          refine xp_aload_n rfl rfl ?_
                          refine xp_gfa rfl rfl (by decide) (by decide) (by first | assumption | exact hL.t rfl) (by first | assumption | exact hL.r rfl | exact hL.2.2.2.2.2) ?_
                          refine xp_iload_n rfl rfl ?_
                          refine xp_dup2 rfl rfl rfl ?_
                          refine xp_iald rfl (by first | assumption | exact hL.t rfl) (by omega) (by omega) ?_
                          rw [x2]
                          refine xp_iconst (n := 1) rfl (by decide) ?_
                          refine xp_iadd rfl ?_
                          refine xp_iast rfl (by first | assumption | exact hL.t rfl) (by omega) (by omega) ?_
                          show xP _ _ _ _ _ _ (xm _ _ _ (mApp B f op _ _)) _
                          refine xp_aload_n rfl rfl ?_
                          refine xp_gfa rfl rfl (by decide) (by decide) (by first | assumption | exact hL.t rfl) (by first | assumption | exact hL.r rfl | exact hL.2.2.2.2.2) ?_
                          refine xp_iload_n rfl rfl ?_
                          refine xp_iald rfl (by first | assumption | exact hL.t rfl) (by omega) (by omega) ?_
                          rw [x3]
                          refine xp_ireturn rfl (by decide) (by decide) (by decide) ?_
                          rfl
                    · skip
                      refine xp_iload_n rfl rfl ?_
                      refine xp_iconst (n := 2) rfl (by decide) ?_
                      refine xp_icne 134 rfl (by decide) (by omega) (by omega) (fun h127 => ?_) (fun h127 => ?_)
                      · exfalso; omega
                      · skip
                        refine xp_iload_n rfl rfl ?_
                        refine xp_goto 135 rfl (by decide) ?_
                        refine xp_iast rfl (by first | assumption | exact hL.t rfl) (by omega) (by omega) ?_
                        refine xp_aload_n rfl rfl ?_
                        refine xp_gfa rfl rfl (by decide) (by decide) (by first | assumption | exact hL.t rfl) (by first | assumption | exact hL.r rfl | exact hL.2.2.2.2.2) ?_
                        refine xp_iload rfl rfl ?_
                        refine xp_iload_n rfl rfl ?_
                        refine xp_is rfl rfl rfl (Nat.le_of_ble_eq_true rfl) (by decide) (by decide) (by decide) (Nat.le_of_ble_eq_true rfl) rfl (xrcv0 (by decide) _ _) (m116 (by omega)) rfl ?_
                        refine xp_ifge 154 rfl (by decide) (by omega) (fun h146 => ?_) (fun h146 => ?_)
                        · skip
                          refine xp_iload rfl rfl ?_
                          refine xp_goto 160 rfl (by decide) ?_
                          refine xp_iast rfl (by first | assumption | exact hL.t rfl) (by omega) (by omega) ?_
                          refine xp_aload_n rfl rfl ?_
                          refine xp_gfa rfl rfl (by decide) (by decide) (by first | assumption | exact hL.t rfl) (by first | assumption | exact hL.r rfl | exact hL.2.2.2.2.2) ?_
                          refine xp_iload_n rfl rfl ?_
                          refine xp_dup2 rfl rfl rfl ?_
                          refine xp_iald rfl (by first | assumption | exact hL.t rfl) (by omega) (by omega) ?_
                          rw [x2]
                          refine xp_iconst (n := 1) rfl (by decide) ?_
                          refine xp_iadd rfl ?_
                          refine xp_iast rfl (by first | assumption | exact hL.t rfl) (by omega) (by omega) ?_
                          show xP _ _ _ _ _ _ (xm _ _ _ (mApp B f op _ _)) _
                          refine xp_aload_n rfl rfl ?_
                          refine xp_gfa rfl rfl (by decide) (by decide) (by first | assumption | exact hL.t rfl) (by first | assumption | exact hL.r rfl | exact hL.2.2.2.2.2) ?_
                          refine xp_iload_n rfl rfl ?_
                          refine xp_iald rfl (by first | assumption | exact hL.t rfl) (by omega) (by omega) ?_
                          rw [x3]
                          refine xp_ireturn rfl (by decide) (by decide) (by decide) ?_
                          rfl
                        · skip
                          refine xp_iload_n rfl rfl ?_
                          refine xp_iconst (n := 2) rfl (by decide) ?_
                          refine xp_icne 159 rfl (by decide) (by omega) (by omega) (fun h151 => ?_) (fun h151 => ?_)
                          · exfalso; omega
                          · skip
                            refine xp_iload rfl rfl ?_
                            refine xp_goto 160 rfl (by decide) ?_
                            refine xp_iast rfl (by first | assumption | exact hL.t rfl) (by omega) (by omega) ?_
                            refine xp_aload_n rfl rfl ?_
                            refine xp_gfa rfl rfl (by decide) (by decide) (by first | assumption | exact hL.t rfl) (by first | assumption | exact hL.r rfl | exact hL.2.2.2.2.2) ?_
                            refine xp_iload_n rfl rfl ?_
                            refine xp_dup2 rfl rfl rfl ?_
                            refine xp_iald rfl (by first | assumption | exact hL.t rfl) (by omega) (by omega) ?_
                            rw [x2]
                            refine xp_iconst (n := 1) rfl (by decide) ?_
                            refine xp_iadd rfl ?_
                            refine xp_iast rfl (by first | assumption | exact hL.t rfl) (by omega) (by omega) ?_
                            show xP _ _ _ _ _ _ (xm _ _ _ (mApp B f op _ _)) _
                            refine xp_aload_n rfl rfl ?_
                            refine xp_gfa rfl rfl (by decide) (by decide) (by first | assumption | exact hL.t rfl) (by first | assumption | exact hL.r rfl | exact hL.2.2.2.2.2) ?_
                            refine xp_iload_n rfl rfl ?_
                            refine xp_iald rfl (by first | assumption | exact hL.t rfl) (by omega) (by omega) ?_
                            rw [x3]
                            refine xp_ireturn rfl (by decide) (by decide) (by decide) ?_
                            rfl
                · exfalso; omega
              · exfalso; omega
          · skip
            refine xp_iload_n rfl rfl ?_
            refine xp_iconst (n := 0) rfl (by decide) ?_
            refine xp_iload_n rfl rfl ?_
            refine xp_is rfl rfl rfl (Nat.le_of_ble_eq_true rfl) (by decide) (by decide) (by decide) (Nat.le_of_ble_eq_true rfl) rfl (xrcv0 (by decide) _ _) (m115 (by omega)) rfl ?_
            refine xp_is rfl rfl rfl (Nat.le_of_ble_eq_true rfl) (by decide) (by decide) (by decide) (Nat.le_of_ble_eq_true rfl) rfl (xrcv0 (by decide) _ _) (m112 ha (by omega) (by omega)) rfl ?_
            rw [e3 (by omega)]
            refine xp_ifeq 58 rfl (by decide) (by omega) (fun h35 => ?_) (fun h35 => ?_)
            · exfalso; omega
            · skip
              refine xp_iload_n rfl rfl ?_
              refine xp_is rfl rfl rfl (Nat.le_of_ble_eq_true rfl) (by decide) (by decide) (by decide) (Nat.le_of_ble_eq_true rfl) rfl (xrcv0 (by decide) _ _) (m116 (by omega)) rfl ?_
              refine xp_iflt 64 rfl (by decide) (by omega) (fun h42 => ?_) (fun h42 => ?_)
              · skip
                refine xp_aload_n rfl rfl ?_
                refine xp_gfa rfl rfl (by decide) (by decide) (by first | assumption | exact hL.t rfl) (by first | assumption | exact hL.r rfl | exact hL.2.2.2.2.2) ?_
                refine xp_iload_n rfl rfl ?_
                refine xp_iald rfl (by first | assumption | exact hL.t rfl) (by omega) (by omega) ?_
                refine xp_bipush (n := 30) rfl (by decide) ?_
                refine xp_icne 81 rfl (by decide) (by omega) (by omega) (fun h72 => ?_) (fun h72 => ?_)
                · skip
                  refine xp_aload_n rfl rfl ?_
                  refine xp_iconst (n := 0) rfl (by decide) ?_
                  refine xp_pfi rfl rfl (by decide) (by decide) (by decide) (by first | assumption | exact hL.t rfl) ?_
                  refine xp_bipush (n := 30) rfl (by decide) ?_
                  refine xp_iload_n rfl rfl ?_
                  refine xp_imul rfl ?_
                  refine xp_aload_n rfl rfl ?_
                  refine xp_gfa rfl rfl (by decide) (by decide) (by first | assumption | exact hL.t rfl) (by first | assumption | exact hL.r rfl | exact hL.2.2.2.2.2) ?_
                  refine xp_iload_n rfl rfl ?_
                  refine xp_iald rfl (by first | assumption | exact hL.t rfl) (by omega) (by omega) ?_
                  rw [x1]
                  refine xp_iadd rfl ?_
                  refine xp_istore rfl (by decide) ?_
                  refine xp_aload_n rfl rfl ?_
                  refine xp_gfa rfl rfl (by decide) (by decide) (by first | assumption | exact hL.t rfl) (by first | assumption | exact hL.r rfl | exact hL.2.2.2.2.2) ?_
                  refine xp_iload rfl rfl ?_
                  refine xp_iload_n rfl rfl ?_
                  refine xp_iast rfl (by first | assumption | exact hL.t rfl) (by omega) (by omega) ?_
                  refine xp_aload_n rfl rfl ?_
                  refine xp_gfa rfl rfl (by decide) (by decide) (by first | assumption | exact hL.t rfl) (by first | assumption | exact hL.r rfl | exact hL.2.2.2.2.2) ?_
                  refine xp_iload rfl rfl ?_
                  refine xp_iload_n rfl rfl ?_
                  refine xp_is rfl rfl rfl (Nat.le_of_ble_eq_true rfl) (by decide) (by decide) (by decide) (Nat.le_of_ble_eq_true rfl) rfl (xrcv0 (by decide) _ _) (m115 (by omega)) rfl ?_
                  refine xp_ifge 130 rfl (by decide) (by omega) (fun h117 => ?_) (fun h117 => ?_)
                  · skip
                    refine xp_iload_n rfl rfl ?_
                    refine xp_goto 135 rfl (by decide) ?_
                    refine xp_iast rfl (by first | assumption | exact hL.t rfl) (by omega) (by omega) ?_
                    refine xp_aload_n rfl rfl ?_
                    refine xp_gfa rfl rfl (by decide) (by decide) (by first | assumption | exact hL.t rfl) (by first | assumption | exact hL.r rfl | exact hL.2.2.2.2.2) ?_
                    refine xp_iload rfl rfl ?_
                    refine xp_iload_n rfl rfl ?_
                    refine xp_is rfl rfl rfl (Nat.le_of_ble_eq_true rfl) (by decide) (by decide) (by decide) (Nat.le_of_ble_eq_true rfl) rfl (xrcv0 (by decide) _ _) (m116 (by omega)) rfl ?_
                    refine xp_ifge 154 rfl (by decide) (by omega) (fun h146 => ?_) (fun h146 => ?_)
                    · skip
                      refine xp_iload rfl rfl ?_
                      refine xp_goto 160 rfl (by decide) ?_
                      refine xp_iast rfl (by first | assumption | exact hL.t rfl) (by omega) (by omega) ?_
                      refine xp_aload_n rfl rfl ?_
                      refine xp_gfa rfl rfl (by decide) (by decide) (by first | assumption | exact hL.t rfl) (by first | assumption | exact hL.r rfl | exact hL.2.2.2.2.2) ?_
                      refine xp_iload_n rfl rfl ?_
                      refine xp_dup2 rfl rfl rfl ?_
                      refine xp_iald rfl (by first | assumption | exact hL.t rfl) (by omega) (by omega) ?_
                      rw [x2]
                      refine xp_iconst (n := 1) rfl (by decide) ?_
                      refine xp_iadd rfl ?_
                      refine xp_iast rfl (by first | assumption | exact hL.t rfl) (by omega) (by omega) ?_
                      show xP _ _ _ _ _ _ (xm _ _ _ (mApp B f op _ _)) _
                      refine xp_aload_n rfl rfl ?_
                      refine xp_gfa rfl rfl (by decide) (by decide) (by first | assumption | exact hL.t rfl) (by first | assumption | exact hL.r rfl | exact hL.2.2.2.2.2) ?_
                      refine xp_iload_n rfl rfl ?_
                      refine xp_iald rfl (by first | assumption | exact hL.t rfl) (by omega) (by omega) ?_
                      rw [x3]
                      refine xp_ireturn rfl (by decide) (by decide) (by decide) ?_
                      rfl
                    · skip
                      refine xp_iload_n rfl rfl ?_
                      refine xp_iconst (n := 2) rfl (by decide) ?_
                      refine xp_icne 159 rfl (by decide) (by omega) (by omega) (fun h151 => ?_) (fun h151 => ?_)
                      · exfalso; omega
                      · skip
                        refine xp_iload rfl rfl ?_
                        refine xp_goto 160 rfl (by decide) ?_
                        refine xp_iast rfl (by first | assumption | exact hL.t rfl) (by omega) (by omega) ?_
                        refine xp_aload_n rfl rfl ?_
                        refine xp_gfa rfl rfl (by decide) (by decide) (by first | assumption | exact hL.t rfl) (by first | assumption | exact hL.r rfl | exact hL.2.2.2.2.2) ?_
                        refine xp_iload_n rfl rfl ?_
                        refine xp_dup2 rfl rfl rfl ?_
                        refine xp_iald rfl (by first | assumption | exact hL.t rfl) (by omega) (by omega) ?_
                        rw [x2]
                        refine xp_iconst (n := 1) rfl (by decide) ?_
                        refine xp_iadd rfl ?_
                        refine xp_iast rfl (by first | assumption | exact hL.t rfl) (by omega) (by omega) ?_
                        show xP _ _ _ _ _ _ (xm _ _ _ (mApp B f op _ _)) _
                        refine xp_aload_n rfl rfl ?_
                        refine xp_gfa rfl rfl (by decide) (by decide) (by first | assumption | exact hL.t rfl) (by first | assumption | exact hL.r rfl | exact hL.2.2.2.2.2) ?_
                        refine xp_iload_n rfl rfl ?_
                        refine xp_iald rfl (by first | assumption | exact hL.t rfl) (by omega) (by omega) ?_
                        rw [x3]
                        refine xp_ireturn rfl (by decide) (by decide) (by decide) ?_
                        rfl
                  · skip
                    refine xp_iload_n rfl rfl ?_
                    refine xp_iconst (n := 1) rfl (by decide) ?_
                    refine xp_iceq 130 rfl (by decide) (by omega) (by omega) (fun h122 => ?_) (fun h122 => ?_)
                    · skip
                      refine xp_iload_n rfl rfl ?_
                      refine xp_goto 135 rfl (by decide) ?_
                      refine xp_iast rfl (by first | assumption | exact hL.t rfl) (by omega) (by omega) ?_
                      refine xp_aload_n rfl rfl ?_
                      refine xp_gfa rfl rfl (by decide) (by decide) (by first | assumption | exact hL.t rfl) (by first | assumption | exact hL.r rfl | exact hL.2.2.2.2.2) ?_
                      refine xp_iload rfl rfl ?_
                      refine xp_iload_n rfl rfl ?_
                      refine xp_is rfl rfl rfl (Nat.le_of_ble_eq_true rfl) (by decide) (by decide) (by decide) (Nat.le_of_ble_eq_true rfl) rfl (xrcv0 (by decide) _ _) (m116 (by omega)) rfl ?_
                      refine xp_ifge 154 rfl (by decide) (by omega) (fun h146 => ?_) (fun h146 => ?_)
                      · skip
                        refine xp_iload rfl rfl ?_
                        refine xp_goto 160 rfl (by decide) ?_
                        refine xp_iast rfl (by first | assumption | exact hL.t rfl) (by omega) (by omega) ?_
                        refine xp_aload_n rfl rfl ?_
                        refine xp_gfa rfl rfl (by decide) (by decide) (by first | assumption | exact hL.t rfl) (by first | assumption | exact hL.r rfl | exact hL.2.2.2.2.2) ?_
                        refine xp_iload_n rfl rfl ?_
                        refine xp_dup2 rfl rfl rfl ?_
                        refine xp_iald rfl (by first | assumption | exact hL.t rfl) (by omega) (by omega) ?_
                        rw [x2]
                        refine xp_iconst (n := 1) rfl (by decide) ?_
                        refine xp_iadd rfl ?_
                        refine xp_iast rfl (by first | assumption | exact hL.t rfl) (by omega) (by omega) ?_
                        show xP _ _ _ _ _ _ (xm _ _ _ (mApp B f op _ _)) _
                        refine xp_aload_n rfl rfl ?_
                        refine xp_gfa rfl rfl (by decide) (by decide) (by first | assumption | exact hL.t rfl) (by first | assumption | exact hL.r rfl | exact hL.2.2.2.2.2) ?_
                        refine xp_iload_n rfl rfl ?_
                        refine xp_iald rfl (by first | assumption | exact hL.t rfl) (by omega) (by omega) ?_
                        rw [x3]
                        refine xp_ireturn rfl (by decide) (by decide) (by decide) ?_
                        rfl
                      · skip
                        refine xp_iload_n rfl rfl ?_
                        refine xp_iconst (n := 2) rfl (by decide) ?_
                        refine xp_icne 159 rfl (by decide) (by omega) (by omega) (fun h151 => ?_) (fun h151 => ?_)
                        · exfalso; omega
                        · skip
                          refine xp_iload rfl rfl ?_
                          refine xp_goto 160 rfl (by decide) ?_
                          refine xp_iast rfl (by first | assumption | exact hL.t rfl) (by omega) (by omega) ?_
                          refine xp_aload_n rfl rfl ?_
                          refine xp_gfa rfl rfl (by decide) (by decide) (by first | assumption | exact hL.t rfl) (by first | assumption | exact hL.r rfl | exact hL.2.2.2.2.2) ?_
                          refine xp_iload_n rfl rfl ?_
                          refine xp_dup2 rfl rfl rfl ?_
                          refine xp_iald rfl (by first | assumption | exact hL.t rfl) (by omega) (by omega) ?_
                          rw [x2]
                          refine xp_iconst (n := 1) rfl (by decide) ?_
                          refine xp_iadd rfl ?_
                          refine xp_iast rfl (by first | assumption | exact hL.t rfl) (by omega) (by omega) ?_
                          show xP _ _ _ _ _ _ (xm _ _ _ (mApp B f op _ _)) _
                          refine xp_aload_n rfl rfl ?_
                          refine xp_gfa rfl rfl (by decide) (by decide) (by first | assumption | exact hL.t rfl) (by first | assumption | exact hL.r rfl | exact hL.2.2.2.2.2) ?_
                          refine xp_iload_n rfl rfl ?_
                          refine xp_iald rfl (by first | assumption | exact hL.t rfl) (by omega) (by omega) ?_
                          rw [x3]
                          refine xp_ireturn rfl (by decide) (by decide) (by decide) ?_
                          rfl
                    · skip
                      refine xp_iload_n rfl rfl ?_
                      refine xp_iconst (n := 2) rfl (by decide) ?_
                      refine xp_icne 134 rfl (by decide) (by omega) (by omega) (fun h127 => ?_) (fun h127 => ?_)
                      · exfalso; omega
                      · skip
                        refine xp_iload_n rfl rfl ?_
                        refine xp_goto 135 rfl (by decide) ?_
                        refine xp_iast rfl (by first | assumption | exact hL.t rfl) (by omega) (by omega) ?_
                        refine xp_aload_n rfl rfl ?_
                        refine xp_gfa rfl rfl (by decide) (by decide) (by first | assumption | exact hL.t rfl) (by first | assumption | exact hL.r rfl | exact hL.2.2.2.2.2) ?_
                        refine xp_iload rfl rfl ?_
                        refine xp_iload_n rfl rfl ?_
                        refine xp_is rfl rfl rfl (Nat.le_of_ble_eq_true rfl) (by decide) (by decide) (by decide) (Nat.le_of_ble_eq_true rfl) rfl (xrcv0 (by decide) _ _) (m116 (by omega)) rfl ?_
                        refine xp_ifge 154 rfl (by decide) (by omega) (fun h146 => ?_) (fun h146 => ?_)
                        · skip
                          refine xp_iload rfl rfl ?_
                          refine xp_goto 160 rfl (by decide) ?_
                          refine xp_iast rfl (by first | assumption | exact hL.t rfl) (by omega) (by omega) ?_
                          refine xp_aload_n rfl rfl ?_
                          refine xp_gfa rfl rfl (by decide) (by decide) (by first | assumption | exact hL.t rfl) (by first | assumption | exact hL.r rfl | exact hL.2.2.2.2.2) ?_
                          refine xp_iload_n rfl rfl ?_
                          refine xp_dup2 rfl rfl rfl ?_
                          refine xp_iald rfl (by first | assumption | exact hL.t rfl) (by omega) (by omega) ?_
                          rw [x2]
                          refine xp_iconst (n := 1) rfl (by decide) ?_
                          refine xp_iadd rfl ?_
                          refine xp_iast rfl (by first | assumption | exact hL.t rfl) (by omega) (by omega) ?_
                          show xP _ _ _ _ _ _ (xm _ _ _ (mApp B f op _ _)) _
                          refine xp_aload_n rfl rfl ?_
                          refine xp_gfa rfl rfl (by decide) (by decide) (by first | assumption | exact hL.t rfl) (by first | assumption | exact hL.r rfl | exact hL.2.2.2.2.2) ?_
                          refine xp_iload_n rfl rfl ?_
                          refine xp_iald rfl (by first | assumption | exact hL.t rfl) (by omega) (by omega) ?_
                          rw [x3]
                          refine xp_ireturn rfl (by decide) (by decide) (by decide) ?_
                          rfl
                        · skip
                          refine xp_iload_n rfl rfl ?_
                          refine xp_iconst (n := 2) rfl (by decide) ?_
                          refine xp_icne 159 rfl (by decide) (by omega) (by omega) (fun h151 => ?_) (fun h151 => ?_)
                          · exfalso; omega
                          · skip
                            refine xp_iload rfl rfl ?_
                            refine xp_goto 160 rfl (by decide) ?_
                            refine xp_iast rfl (by first | assumption | exact hL.t rfl) (by omega) (by omega) ?_
                            refine xp_aload_n rfl rfl ?_
                            refine xp_gfa rfl rfl (by decide) (by decide) (by first | assumption | exact hL.t rfl) (by first | assumption | exact hL.r rfl | exact hL.2.2.2.2.2) ?_
                            refine xp_iload_n rfl rfl ?_
                            refine xp_dup2 rfl rfl rfl ?_
                            refine xp_iald rfl (by first | assumption | exact hL.t rfl) (by omega) (by omega) ?_
                            rw [x2]
                            refine xp_iconst (n := 1) rfl (by decide) ?_
                            refine xp_iadd rfl ?_
                            refine xp_iast rfl (by first | assumption | exact hL.t rfl) (by omega) (by omega) ?_
                            show xP _ _ _ _ _ _ (xm _ _ _ (mApp B f op _ _)) _
                            refine xp_aload_n rfl rfl ?_
                            refine xp_gfa rfl rfl (by decide) (by decide) (by first | assumption | exact hL.t rfl) (by first | assumption | exact hL.r rfl | exact hL.2.2.2.2.2) ?_
                            refine xp_iload_n rfl rfl ?_
                            refine xp_iald rfl (by first | assumption | exact hL.t rfl) (by omega) (by omega) ?_
                            rw [x3]
                            refine xp_ireturn rfl (by decide) (by decide) (by decide) ?_
                            rfl
                · exfalso; omega
              · skip
                refine xp_iload rfl rfl ?_
                refine xp_iconst (n := 0) rfl (by decide) ?_
                refine xp_iload_n rfl rfl ?_
                refine xp_is rfl rfl rfl (Nat.le_of_ble_eq_true rfl) (by decide) (by decide) (by decide) (Nat.le_of_ble_eq_true rfl) rfl (xrcv0 (by decide) _ _) (m116 (by omega)) rfl ?_
                refine xp_is rfl rfl rfl (Nat.le_of_ble_eq_true rfl) (by decide) (by decide) (by decide) (Nat.le_of_ble_eq_true rfl) rfl (xrcv0 (by decide) _ _) (m112 hb (by omega) (by omega)) rfl ?_
                rw [e4 (by omega)]
                refine xp_ifne 64 rfl (by decide) (by omega) (fun h55 => ?_) (fun h55 => ?_)
                · skip
                  refine xp_aload_n rfl rfl ?_
                  refine xp_gfa rfl rfl (by decide) (by decide) (by first | assumption | exact hL.t rfl) (by first | assumption | exact hL.r rfl | exact hL.2.2.2.2.2) ?_
                  refine xp_iload_n rfl rfl ?_
                  refine xp_iald rfl (by first | assumption | exact hL.t rfl) (by omega) (by omega) ?_
                  refine xp_bipush (n := 30) rfl (by decide) ?_
                  refine xp_icne 81 rfl (by decide) (by omega) (by omega) (fun h72 => ?_) (fun h72 => ?_)
                  · skip
                    refine xp_aload_n rfl rfl ?_
                    refine xp_iconst (n := 0) rfl (by decide) ?_
                    refine xp_pfi rfl rfl (by decide) (by decide) (by decide) (by first | assumption | exact hL.t rfl) ?_
                    refine xp_bipush (n := 30) rfl (by decide) ?_
                    refine xp_iload_n rfl rfl ?_
                    refine xp_imul rfl ?_
                    refine xp_aload_n rfl rfl ?_
                    refine xp_gfa rfl rfl (by decide) (by decide) (by first | assumption | exact hL.t rfl) (by first | assumption | exact hL.r rfl | exact hL.2.2.2.2.2) ?_
                    refine xp_iload_n rfl rfl ?_
                    refine xp_iald rfl (by first | assumption | exact hL.t rfl) (by omega) (by omega) ?_
                    rw [x1]
                    refine xp_iadd rfl ?_
                    refine xp_istore rfl (by decide) ?_
                    refine xp_aload_n rfl rfl ?_
                    refine xp_gfa rfl rfl (by decide) (by decide) (by first | assumption | exact hL.t rfl) (by first | assumption | exact hL.r rfl | exact hL.2.2.2.2.2) ?_
                    refine xp_iload rfl rfl ?_
                    refine xp_iload_n rfl rfl ?_
                    refine xp_iast rfl (by first | assumption | exact hL.t rfl) (by omega) (by omega) ?_
                    refine xp_aload_n rfl rfl ?_
                    refine xp_gfa rfl rfl (by decide) (by decide) (by first | assumption | exact hL.t rfl) (by first | assumption | exact hL.r rfl | exact hL.2.2.2.2.2) ?_
                    refine xp_iload rfl rfl ?_
                    refine xp_iload_n rfl rfl ?_
                    refine xp_is rfl rfl rfl (Nat.le_of_ble_eq_true rfl) (by decide) (by decide) (by decide) (Nat.le_of_ble_eq_true rfl) rfl (xrcv0 (by decide) _ _) (m115 (by omega)) rfl ?_
                    refine xp_ifge 130 rfl (by decide) (by omega) (fun h117 => ?_) (fun h117 => ?_)
                    · skip
                      refine xp_iload_n rfl rfl ?_
                      refine xp_goto 135 rfl (by decide) ?_
                      refine xp_iast rfl (by first | assumption | exact hL.t rfl) (by omega) (by omega) ?_
                      refine xp_aload_n rfl rfl ?_
                      refine xp_gfa rfl rfl (by decide) (by decide) (by first | assumption | exact hL.t rfl) (by first | assumption | exact hL.r rfl | exact hL.2.2.2.2.2) ?_
                      refine xp_iload rfl rfl ?_
                      refine xp_iload_n rfl rfl ?_
                      refine xp_is rfl rfl rfl (Nat.le_of_ble_eq_true rfl) (by decide) (by decide) (by decide) (Nat.le_of_ble_eq_true rfl) rfl (xrcv0 (by decide) _ _) (m116 (by omega)) rfl ?_
                      refine xp_ifge 154 rfl (by decide) (by omega) (fun h146 => ?_) (fun h146 => ?_)
                      · skip
                        refine xp_iload rfl rfl ?_
                        refine xp_goto 160 rfl (by decide) ?_
                        refine xp_iast rfl (by first | assumption | exact hL.t rfl) (by omega) (by omega) ?_
                        refine xp_aload_n rfl rfl ?_
                        refine xp_gfa rfl rfl (by decide) (by decide) (by first | assumption | exact hL.t rfl) (by first | assumption | exact hL.r rfl | exact hL.2.2.2.2.2) ?_
                        refine xp_iload_n rfl rfl ?_
                        refine xp_dup2 rfl rfl rfl ?_
                        refine xp_iald rfl (by first | assumption | exact hL.t rfl) (by omega) (by omega) ?_
                        rw [x2]
                        refine xp_iconst (n := 1) rfl (by decide) ?_
                        refine xp_iadd rfl ?_
                        refine xp_iast rfl (by first | assumption | exact hL.t rfl) (by omega) (by omega) ?_
                        show xP _ _ _ _ _ _ (xm _ _ _ (mApp B f op _ _)) _
                        refine xp_aload_n rfl rfl ?_
                        refine xp_gfa rfl rfl (by decide) (by decide) (by first | assumption | exact hL.t rfl) (by first | assumption | exact hL.r rfl | exact hL.2.2.2.2.2) ?_
                        refine xp_iload_n rfl rfl ?_
                        refine xp_iald rfl (by first | assumption | exact hL.t rfl) (by omega) (by omega) ?_
                        rw [x3]
                        refine xp_ireturn rfl (by decide) (by decide) (by decide) ?_
                        rfl
                      · skip
                        refine xp_iload_n rfl rfl ?_
                        refine xp_iconst (n := 2) rfl (by decide) ?_
                        refine xp_icne 159 rfl (by decide) (by omega) (by omega) (fun h151 => ?_) (fun h151 => ?_)
                        · exfalso; omega
                        · skip
                          refine xp_iload rfl rfl ?_
                          refine xp_goto 160 rfl (by decide) ?_
                          refine xp_iast rfl (by first | assumption | exact hL.t rfl) (by omega) (by omega) ?_
                          refine xp_aload_n rfl rfl ?_
                          refine xp_gfa rfl rfl (by decide) (by decide) (by first | assumption | exact hL.t rfl) (by first | assumption | exact hL.r rfl | exact hL.2.2.2.2.2) ?_
                          refine xp_iload_n rfl rfl ?_
                          refine xp_dup2 rfl rfl rfl ?_
                          refine xp_iald rfl (by first | assumption | exact hL.t rfl) (by omega) (by omega) ?_
                          rw [x2]
                          refine xp_iconst (n := 1) rfl (by decide) ?_
                          refine xp_iadd rfl ?_
                          refine xp_iast rfl (by first | assumption | exact hL.t rfl) (by omega) (by omega) ?_
                          show xP _ _ _ _ _ _ (xm _ _ _ (mApp B f op _ _)) _
                          refine xp_aload_n rfl rfl ?_
                          refine xp_gfa rfl rfl (by decide) (by decide) (by first | assumption | exact hL.t rfl) (by first | assumption | exact hL.r rfl | exact hL.2.2.2.2.2) ?_
                          refine xp_iload_n rfl rfl ?_
                          refine xp_iald rfl (by first | assumption | exact hL.t rfl) (by omega) (by omega) ?_
                          rw [x3]
                          refine xp_ireturn rfl (by decide) (by decide) (by decide) ?_
                          rfl
                    · skip
                      refine xp_iload_n rfl rfl ?_
                      refine xp_iconst (n := 1) rfl (by decide) ?_
                      refine xp_iceq 130 rfl (by decide) (by omega) (by omega) (fun h122 => ?_) (fun h122 => ?_)
                      · skip
                        refine xp_iload_n rfl rfl ?_
                        refine xp_goto 135 rfl (by decide) ?_
                        refine xp_iast rfl (by first | assumption | exact hL.t rfl) (by omega) (by omega) ?_
                        refine xp_aload_n rfl rfl ?_
                        refine xp_gfa rfl rfl (by decide) (by decide) (by first | assumption | exact hL.t rfl) (by first | assumption | exact hL.r rfl | exact hL.2.2.2.2.2) ?_
                        refine xp_iload rfl rfl ?_
                        refine xp_iload_n rfl rfl ?_
                        refine xp_is rfl rfl rfl (Nat.le_of_ble_eq_true rfl) (by decide) (by decide) (by decide) (Nat.le_of_ble_eq_true rfl) rfl (xrcv0 (by decide) _ _) (m116 (by omega)) rfl ?_
                        refine xp_ifge 154 rfl (by decide) (by omega) (fun h146 => ?_) (fun h146 => ?_)
                        · skip
                          refine xp_iload rfl rfl ?_
                          refine xp_goto 160 rfl (by decide) ?_
                          refine xp_iast rfl (by first | assumption | exact hL.t rfl) (by omega) (by omega) ?_
                          refine xp_aload_n rfl rfl ?_
                          refine xp_gfa rfl rfl (by decide) (by decide) (by first | assumption | exact hL.t rfl) (by first | assumption | exact hL.r rfl | exact hL.2.2.2.2.2) ?_
                          refine xp_iload_n rfl rfl ?_
                          refine xp_dup2 rfl rfl rfl ?_
                          refine xp_iald rfl (by first | assumption | exact hL.t rfl) (by omega) (by omega) ?_
                          rw [x2]
                          refine xp_iconst (n := 1) rfl (by decide) ?_
                          refine xp_iadd rfl ?_
                          refine xp_iast rfl (by first | assumption | exact hL.t rfl) (by omega) (by omega) ?_
                          show xP _ _ _ _ _ _ (xm _ _ _ (mApp B f op _ _)) _
                          refine xp_aload_n rfl rfl ?_
                          refine xp_gfa rfl rfl (by decide) (by decide) (by first | assumption | exact hL.t rfl) (by first | assumption | exact hL.r rfl | exact hL.2.2.2.2.2) ?_
                          refine xp_iload_n rfl rfl ?_
                          refine xp_iald rfl (by first | assumption | exact hL.t rfl) (by omega) (by omega) ?_
                          rw [x3]
                          refine xp_ireturn rfl (by decide) (by decide) (by decide) ?_
                          rfl
                        · skip
                          refine xp_iload_n rfl rfl ?_
                          refine xp_iconst (n := 2) rfl (by decide) ?_
                          refine xp_icne 159 rfl (by decide) (by omega) (by omega) (fun h151 => ?_) (fun h151 => ?_)
                          · exfalso; omega
                          · skip
                            refine xp_iload rfl rfl ?_
                            refine xp_goto 160 rfl (by decide) ?_
                            refine xp_iast rfl (by first | assumption | exact hL.t rfl) (by omega) (by omega) ?_
                            refine xp_aload_n rfl rfl ?_
                            refine xp_gfa rfl rfl (by decide) (by decide) (by first | assumption | exact hL.t rfl) (by first | assumption | exact hL.r rfl | exact hL.2.2.2.2.2) ?_
                            refine xp_iload_n rfl rfl ?_
                            refine xp_dup2 rfl rfl rfl ?_
                            refine xp_iald rfl (by first | assumption | exact hL.t rfl) (by omega) (by omega) ?_
                            rw [x2]
                            refine xp_iconst (n := 1) rfl (by decide) ?_
                            refine xp_iadd rfl ?_
                            refine xp_iast rfl (by first | assumption | exact hL.t rfl) (by omega) (by omega) ?_
                            show xP _ _ _ _ _ _ (xm _ _ _ (mApp B f op _ _)) _
                            refine xp_aload_n rfl rfl ?_
                            refine xp_gfa rfl rfl (by decide) (by decide) (by first | assumption | exact hL.t rfl) (by first | assumption | exact hL.r rfl | exact hL.2.2.2.2.2) ?_
                            refine xp_iload_n rfl rfl ?_
                            refine xp_iald rfl (by first | assumption | exact hL.t rfl) (by omega) (by omega) ?_
                            rw [x3]
                            refine xp_ireturn rfl (by decide) (by decide) (by decide) ?_
                            rfl
                      · skip
                        refine xp_iload_n rfl rfl ?_
                        refine xp_iconst (n := 2) rfl (by decide) ?_
                        refine xp_icne 134 rfl (by decide) (by omega) (by omega) (fun h127 => ?_) (fun h127 => ?_)
                        · exfalso; omega
                        · skip
                          refine xp_iload_n rfl rfl ?_
                          refine xp_goto 135 rfl (by decide) ?_
                          refine xp_iast rfl (by first | assumption | exact hL.t rfl) (by omega) (by omega) ?_
                          refine xp_aload_n rfl rfl ?_
                          refine xp_gfa rfl rfl (by decide) (by decide) (by first | assumption | exact hL.t rfl) (by first | assumption | exact hL.r rfl | exact hL.2.2.2.2.2) ?_
                          refine xp_iload rfl rfl ?_
                          refine xp_iload_n rfl rfl ?_
                          refine xp_is rfl rfl rfl (Nat.le_of_ble_eq_true rfl) (by decide) (by decide) (by decide) (Nat.le_of_ble_eq_true rfl) rfl (xrcv0 (by decide) _ _) (m116 (by omega)) rfl ?_
                          refine xp_ifge 154 rfl (by decide) (by omega) (fun h146 => ?_) (fun h146 => ?_)
                          · skip
                            refine xp_iload rfl rfl ?_
                            refine xp_goto 160 rfl (by decide) ?_
                            refine xp_iast rfl (by first | assumption | exact hL.t rfl) (by omega) (by omega) ?_
                            refine xp_aload_n rfl rfl ?_
                            refine xp_gfa rfl rfl (by decide) (by decide) (by first | assumption | exact hL.t rfl) (by first | assumption | exact hL.r rfl | exact hL.2.2.2.2.2) ?_
                            refine xp_iload_n rfl rfl ?_
                            refine xp_dup2 rfl rfl rfl ?_
                            refine xp_iald rfl (by first | assumption | exact hL.t rfl) (by omega) (by omega) ?_
                            rw [x2]
                            refine xp_iconst (n := 1) rfl (by decide) ?_
                            refine xp_iadd rfl ?_
                            refine xp_iast rfl (by first | assumption | exact hL.t rfl) (by omega) (by omega) ?_
                            show xP _ _ _ _ _ _ (xm _ _ _ (mApp B f op _ _)) _
                            refine xp_aload_n rfl rfl ?_
                            refine xp_gfa rfl rfl (by decide) (by decide) (by first | assumption | exact hL.t rfl) (by first | assumption | exact hL.r rfl | exact hL.2.2.2.2.2) ?_
                            refine xp_iload_n rfl rfl ?_
                            refine xp_iald rfl (by first | assumption | exact hL.t rfl) (by omega) (by omega) ?_
                            rw [x3]
                            refine xp_ireturn rfl (by decide) (by decide) (by decide) ?_
                            rfl
                          · skip
                            refine xp_iload_n rfl rfl ?_
                            refine xp_iconst (n := 2) rfl (by decide) ?_
                            refine xp_icne 159 rfl (by decide) (by omega) (by omega) (fun h151 => ?_) (fun h151 => ?_)
                            · exfalso; omega
                            · skip
                              refine xp_iload rfl rfl ?_
                              refine xp_goto 160 rfl (by decide) ?_
                              refine xp_iast rfl (by first | assumption | exact hL.t rfl) (by omega) (by omega) ?_
                              refine xp_aload_n rfl rfl ?_
                              refine xp_gfa rfl rfl (by decide) (by decide) (by first | assumption | exact hL.t rfl) (by first | assumption | exact hL.r rfl | exact hL.2.2.2.2.2) ?_
                              refine xp_iload_n rfl rfl ?_
                              refine xp_dup2 rfl rfl rfl ?_
                              refine xp_iald rfl (by first | assumption | exact hL.t rfl) (by omega) (by omega) ?_
                              rw [x2]
                              refine xp_iconst (n := 1) rfl (by decide) ?_
                              refine xp_iadd rfl ?_
                              refine xp_iast rfl (by first | assumption | exact hL.t rfl) (by omega) (by omega) ?_
                              show xP _ _ _ _ _ _ (xm _ _ _ (mApp B f op _ _)) _
                              refine xp_aload_n rfl rfl ?_
                              refine xp_gfa rfl rfl (by decide) (by decide) (by first | assumption | exact hL.t rfl) (by first | assumption | exact hL.r rfl | exact hL.2.2.2.2.2) ?_
                              refine xp_iload_n rfl rfl ?_
                              refine xp_iald rfl (by first | assumption | exact hL.t rfl) (by omega) (by omega) ?_
                              rw [x3]
                              refine xp_ireturn rfl (by decide) (by decide) (by decide) ?_
                              rfl
                  · exfalso; omega
                · exfalso; omega
theorem m117b {z : Nat} {T : Nat → Option xT} {R : Nat → Nat → Option Nat} {B : xQ} {w f op a b : Nat} (hL : xLay T R w) (hf : f < 6) (hop : op ≤ 27) (ha : a < 2 ^ 32) (hb : b < 2 ^ 32) (fa : xFit (xTA op) a) (fb : xFit (xTB op) b) (h3 : B.1 191 f = 30) : xF 117 [.ref 189, .int (nI f), .int (nI op), .int (nI a), .int (nI b)] (xm z T R B) (.inr (some (.int (nI 0))), xm z T R (xsI B 189 14 2)) := by
  have e1 : mIn f 0 5 = 1 := by rw [mIn_any (by omega) (by omega) (by omega), if_pos (by omega)]
  have e2 : mIn op 0 27 = 1 := by rw [mIn_any (by omega) (by omega) (by omega), if_pos (by omega)]
  obtain ⟨tA, tB, kA, kB⟩ := tops hop
  have e3 : mMostA op < 2 ^ 31 → mIn a 0 (mMostA op) = 1 := fun q => by
    unfold xFit at fa
    rw [mIn_any ha (by omega) (by omega), if_pos (by omega)]
  have e4 : mMostB op < 2 ^ 31 → mIn b 0 (mMostB op) = 1 := fun q => by
    unfold xFit at fb
    rw [mIn_any hb (by omega) (by omega), if_pos (by omega)]
  refine xF_eq (xF_p (Nat.le_of_ble_eq_true rfl) ?_)
  refine xp_iload_n rfl rfl ?_
  refine xp_iconst (n := 0) rfl (by decide) ?_
  refine xp_iconst (n := 5) rfl (by decide) ?_
  refine xp_is rfl rfl rfl (Nat.le_of_ble_eq_true rfl) (by decide) (by decide) (by decide) (Nat.le_of_ble_eq_true rfl) rfl (xrcv0 (by decide) _ _) (m112 (by omega) (by omega) (by omega)) rfl ?_
  rw [e1]
  refine xp_ifeq 58 rfl (by decide) (by omega) (fun h6 => ?_) (fun h6 => ?_)
  · exfalso; omega
  · skip
    refine xp_iload_n rfl rfl ?_
    refine xp_iconst (n := 0) rfl (by decide) ?_
    refine xp_bipush (n := 27) rfl (by decide) ?_
    refine xp_is rfl rfl rfl (Nat.le_of_ble_eq_true rfl) (by decide) (by decide) (by decide) (Nat.le_of_ble_eq_true rfl) rfl (xrcv0 (by decide) _ _) (m112 (by omega) (by omega) (by omega)) rfl ?_
    rw [e2]
    refine xp_ifeq 58 rfl (by decide) (by omega) (fun h16 => ?_) (fun h16 => ?_)
    · exfalso; omega
    · skip
      refine xp_iload_n rfl rfl ?_
      refine xp_is rfl rfl rfl (Nat.le_of_ble_eq_true rfl) (by decide) (by decide) (by decide) (Nat.le_of_ble_eq_true rfl) rfl (xrcv0 (by decide) _ _) (m115 (by omega)) rfl ?_
      refine xp_iflt 38 rfl (by decide) (by omega) (fun h23 => ?_) (fun h23 => ?_)
      · skip
        refine xp_iload_n rfl rfl ?_
        refine xp_is rfl rfl rfl (Nat.le_of_ble_eq_true rfl) (by decide) (by decide) (by decide) (Nat.le_of_ble_eq_true rfl) rfl (xrcv0 (by decide) _ _) (m116 (by omega)) rfl ?_
        refine xp_iflt 64 rfl (by decide) (by omega) (fun h42 => ?_) (fun h42 => ?_)
        · skip
          refine xp_aload_n rfl rfl ?_
          refine xp_gfa rfl rfl (by decide) (by decide) (by first | assumption | exact hL.t rfl) (by first | assumption | exact hL.r rfl | exact hL.2.2.2.2.2) ?_
          refine xp_iload_n rfl rfl ?_
          refine xp_iald rfl (by first | assumption | exact hL.t rfl) (by omega) (by omega) ?_
          refine xp_bipush (n := 30) rfl (by decide) ?_
          refine xp_icne 81 rfl (by decide) (by omega) (by omega) (fun h72 => ?_) (fun h72 => ?_)
          · exfalso; omega
          · skip
            refine xp_aload_n rfl rfl ?_
            refine xp_iconst (n := 2) rfl (by decide) ?_
            refine xp_iv rfl rfl (Nat.le_of_ble_eq_true rfl) (by decide) (by decide) (by decide) (Nat.le_of_ble_eq_true rfl) rfl (xrcv1 (by decide) (by first | assumption | exact hL.t rfl)) (m113 hL) rfl ?_
            refine xp_ireturn rfl (by decide) (by decide) (by decide) ?_
            rfl
        · skip
          refine xp_iload rfl rfl ?_
          refine xp_iconst (n := 0) rfl (by decide) ?_
          refine xp_iload_n rfl rfl ?_
          refine xp_is rfl rfl rfl (Nat.le_of_ble_eq_true rfl) (by decide) (by decide) (by decide) (Nat.le_of_ble_eq_true rfl) rfl (xrcv0 (by decide) _ _) (m116 (by omega)) rfl ?_
          refine xp_is rfl rfl rfl (Nat.le_of_ble_eq_true rfl) (by decide) (by decide) (by decide) (Nat.le_of_ble_eq_true rfl) rfl (xrcv0 (by decide) _ _) (m112 hb (by omega) (by omega)) rfl ?_
          rw [e4 (by omega)]
          refine xp_ifne 64 rfl (by decide) (by omega) (fun h55 => ?_) (fun h55 => ?_)
          · skip
            refine xp_aload_n rfl rfl ?_
            refine xp_gfa rfl rfl (by decide) (by decide) (by first | assumption | exact hL.t rfl) (by first | assumption | exact hL.r rfl | exact hL.2.2.2.2.2) ?_
            refine xp_iload_n rfl rfl ?_
            refine xp_iald rfl (by first | assumption | exact hL.t rfl) (by omega) (by omega) ?_
            refine xp_bipush (n := 30) rfl (by decide) ?_
            refine xp_icne 81 rfl (by decide) (by omega) (by omega) (fun h72 => ?_) (fun h72 => ?_)
            · exfalso; omega
            · skip
              refine xp_aload_n rfl rfl ?_
              refine xp_iconst (n := 2) rfl (by decide) ?_
              refine xp_iv rfl rfl (Nat.le_of_ble_eq_true rfl) (by decide) (by decide) (by decide) (Nat.le_of_ble_eq_true rfl) rfl (xrcv1 (by decide) (by first | assumption | exact hL.t rfl)) (m113 hL) rfl ?_
              refine xp_ireturn rfl (by decide) (by decide) (by decide) ?_
              rfl
          · exfalso; omega
      · skip
        refine xp_iload_n rfl rfl ?_
        refine xp_iconst (n := 0) rfl (by decide) ?_
        refine xp_iload_n rfl rfl ?_
        refine xp_is rfl rfl rfl (Nat.le_of_ble_eq_true rfl) (by decide) (by decide) (by decide) (Nat.le_of_ble_eq_true rfl) rfl (xrcv0 (by decide) _ _) (m115 (by omega)) rfl ?_
        refine xp_is rfl rfl rfl (Nat.le_of_ble_eq_true rfl) (by decide) (by decide) (by decide) (Nat.le_of_ble_eq_true rfl) rfl (xrcv0 (by decide) _ _) (m112 ha (by omega) (by omega)) rfl ?_
        rw [e3 (by omega)]
        refine xp_ifeq 58 rfl (by decide) (by omega) (fun h35 => ?_) (fun h35 => ?_)
        · exfalso; omega
        · skip
          refine xp_iload_n rfl rfl ?_
          refine xp_is rfl rfl rfl (Nat.le_of_ble_eq_true rfl) (by decide) (by decide) (by decide) (Nat.le_of_ble_eq_true rfl) rfl (xrcv0 (by decide) _ _) (m116 (by omega)) rfl ?_
          refine xp_iflt 64 rfl (by decide) (by omega) (fun h42 => ?_) (fun h42 => ?_)
          · skip
            refine xp_aload_n rfl rfl ?_
            refine xp_gfa rfl rfl (by decide) (by decide) (by first | assumption | exact hL.t rfl) (by first | assumption | exact hL.r rfl | exact hL.2.2.2.2.2) ?_
            refine xp_iload_n rfl rfl ?_
            refine xp_iald rfl (by first | assumption | exact hL.t rfl) (by omega) (by omega) ?_
            refine xp_bipush (n := 30) rfl (by decide) ?_
            refine xp_icne 81 rfl (by decide) (by omega) (by omega) (fun h72 => ?_) (fun h72 => ?_)
            · exfalso; omega
            · skip
              refine xp_aload_n rfl rfl ?_
              refine xp_iconst (n := 2) rfl (by decide) ?_
              refine xp_iv rfl rfl (Nat.le_of_ble_eq_true rfl) (by decide) (by decide) (by decide) (Nat.le_of_ble_eq_true rfl) rfl (xrcv1 (by decide) (by first | assumption | exact hL.t rfl)) (m113 hL) rfl ?_
              refine xp_ireturn rfl (by decide) (by decide) (by decide) ?_
              rfl
          · skip
            refine xp_iload rfl rfl ?_
            refine xp_iconst (n := 0) rfl (by decide) ?_
            refine xp_iload_n rfl rfl ?_
            refine xp_is rfl rfl rfl (Nat.le_of_ble_eq_true rfl) (by decide) (by decide) (by decide) (Nat.le_of_ble_eq_true rfl) rfl (xrcv0 (by decide) _ _) (m116 (by omega)) rfl ?_
            refine xp_is rfl rfl rfl (Nat.le_of_ble_eq_true rfl) (by decide) (by decide) (by decide) (Nat.le_of_ble_eq_true rfl) rfl (xrcv0 (by decide) _ _) (m112 hb (by omega) (by omega)) rfl ?_
            rw [e4 (by omega)]
            refine xp_ifne 64 rfl (by decide) (by omega) (fun h55 => ?_) (fun h55 => ?_)
            · skip
              refine xp_aload_n rfl rfl ?_
              refine xp_gfa rfl rfl (by decide) (by decide) (by first | assumption | exact hL.t rfl) (by first | assumption | exact hL.r rfl | exact hL.2.2.2.2.2) ?_
              refine xp_iload_n rfl rfl ?_
              refine xp_iald rfl (by first | assumption | exact hL.t rfl) (by omega) (by omega) ?_
              refine xp_bipush (n := 30) rfl (by decide) ?_
              refine xp_icne 81 rfl (by decide) (by omega) (by omega) (fun h72 => ?_) (fun h72 => ?_)
              · exfalso; omega
              · skip
                refine xp_aload_n rfl rfl ?_
                refine xp_iconst (n := 2) rfl (by decide) ?_
                refine xp_iv rfl rfl (Nat.le_of_ble_eq_true rfl) (by decide) (by decide) (by decide) (Nat.le_of_ble_eq_true rfl) rfl (xrcv1 (by decide) (by first | assumption | exact hL.t rfl)) (m113 hL) rfl ?_
                refine xp_ireturn rfl (by decide) (by decide) (by decide) ?_
                rfl
            · exfalso; omega
theorem m117a {z : Nat} {T : Nat → Option xT} {R : Nat → Nat → Option Nat} {B : xQ} {w f op a b : Nat} (hL : xLay T R w) (hf : f < 2 ^ 32) (hop0 : op < 2 ^ 32) (ha : a < 2 ^ 32) (hb : b < 2 ^ 32) (hq : ¬ (f < 6 ∧ op ≤ 27 ∧ xFit (xTA op) a ∧ xFit (xTB op) b)) : xF 117 [.ref 189, .int (nI f), .int (nI op), .int (nI a), .int (nI b)] (xm z T R B) (.inr (some (.int (nI 0))), xm z T R (xsI B 189 14 1)) := by
  have l1 := mIn_le f 0 5
  have l2 := mIn_le op 0 27
  have e1 := mIn_any (v := f) (lo := 0) (hi := 5) hf (by omega) (by omega)
  have e2 := mIn_any (v := op) (lo := 0) (hi := 27) hop0 (by omega) (by omega)
  have f6 : mIn f 0 5 = 1 → f < 6 := fun x => by
    rw [e1] at x
    by_cases q : 0 ≤ f ∧ f ≤ 5
    · omega
    · rw [if_neg q] at x; omega
  have o27 : mIn op 0 27 = 1 → op ≤ 27 := fun x => by
    rw [e2] at x
    by_cases q : 0 ≤ op ∧ op ≤ 27
    · omega
    · rw [if_neg q] at x; omega
  have l3 := mIn_le a 0 (mMostA op)
  have l4 := mIn_le b 0 (mMostB op)
  have fitA : op ≤ 27 → (mMostA op < 2 ^ 31 → mIn a 0 (mMostA op) = 1) → xFit (xTA op) a := fun q1 q2 => by
    obtain ⟨tA, tB, kA, kB⟩ := tops q1
    unfold xFit
    rcases tA with ⟨y1, y2⟩ | ⟨y1, y2⟩
    · exact Or.inl y2
    · have q3 := q2 (by omega)
      rw [mIn_any ha (by omega) (by omega)] at q3
      by_cases q : 0 ≤ a ∧ a ≤ mMostA op
      · right; omega
      · rw [if_neg q] at q3; omega
  have fitB : op ≤ 27 → (mMostB op < 2 ^ 31 → mIn b 0 (mMostB op) = 1) → xFit (xTB op) b := fun q1 q2 => by
    obtain ⟨tA, tB, kA, kB⟩ := tops q1
    unfold xFit
    rcases tB with ⟨y1, y2⟩ | ⟨y1, y2⟩
    · exact Or.inl y2
    · have q3 := q2 (by omega)
      rw [mIn_any hb (by omega) (by omega)] at q3
      by_cases q : 0 ≤ b ∧ b ≤ mMostB op
      · right; omega
      · rw [if_neg q] at q3; omega
  have mA : op ≤ 27 → mMostA op < 2 ^ 32 := fun q => by have := (tops q).1; omega
  have mB : op ≤ 27 → mMostB op < 2 ^ 32 := fun q => by have := (tops q).2.1; omega
  refine xF_eq (xF_p (Nat.le_of_ble_eq_true rfl) ?_)
  refine xp_iload_n rfl rfl ?_
  refine xp_iconst (n := 0) rfl (by decide) ?_
  refine xp_iconst (n := 5) rfl (by decide) ?_
  refine xp_is rfl rfl rfl (Nat.le_of_ble_eq_true rfl) (by decide) (by decide) (by decide) (Nat.le_of_ble_eq_true rfl) rfl (xrcv0 (by decide) _ _) (m112 hf (by omega) (by omega)) rfl ?_
  refine xp_ifeq 58 rfl (by decide) (by omega) (fun h6 => ?_) (fun h6 => ?_)
  · skip
    refine xp_aload_n rfl rfl ?_
    refine xp_iconst (n := 1) rfl (by decide) ?_
    refine xp_iv rfl rfl (Nat.le_of_ble_eq_true rfl) (by decide) (by decide) (by decide) (Nat.le_of_ble_eq_true rfl) rfl (xrcv1 (by decide) (by first | assumption | exact hL.t rfl)) (m113 hL) rfl ?_
    refine xp_ireturn rfl (by decide) (by decide) (by decide) ?_
    rfl
  · skip
    refine xp_iload_n rfl rfl ?_
    refine xp_iconst (n := 0) rfl (by decide) ?_
    refine xp_bipush (n := 27) rfl (by decide) ?_
    refine xp_is rfl rfl rfl (Nat.le_of_ble_eq_true rfl) (by decide) (by decide) (by decide) (Nat.le_of_ble_eq_true rfl) rfl (xrcv0 (by decide) _ _) (m112 hop0 (by omega) (by omega)) rfl ?_
    refine xp_ifeq 58 rfl (by decide) (by omega) (fun h16 => ?_) (fun h16 => ?_)
    · skip
      refine xp_aload_n rfl rfl ?_
      refine xp_iconst (n := 1) rfl (by decide) ?_
      refine xp_iv rfl rfl (Nat.le_of_ble_eq_true rfl) (by decide) (by decide) (by decide) (Nat.le_of_ble_eq_true rfl) rfl (xrcv1 (by decide) (by first | assumption | exact hL.t rfl)) (m113 hL) rfl ?_
      refine xp_ireturn rfl (by decide) (by decide) (by decide) ?_
      rfl
    · skip
      have hop := o27 (by omega)
      have uA := mA hop
      have uB := mB hop
      refine xp_iload_n rfl rfl ?_
      refine xp_is rfl rfl rfl (Nat.le_of_ble_eq_true rfl) (by decide) (by decide) (by decide) (Nat.le_of_ble_eq_true rfl) rfl (xrcv0 (by decide) _ _) (m115 (by omega)) rfl ?_
      refine xp_iflt 38 rfl (by decide) (by omega) (fun h23 => ?_) (fun h23 => ?_)
      · skip
        refine xp_iload_n rfl rfl ?_
        refine xp_is rfl rfl rfl (Nat.le_of_ble_eq_true rfl) (by decide) (by decide) (by decide) (Nat.le_of_ble_eq_true rfl) rfl (xrcv0 (by decide) _ _) (m116 (by omega)) rfl ?_
        refine xp_iflt 64 rfl (by decide) (by omega) (fun h42 => ?_) (fun h42 => ?_)
        · exfalso; exact hq ⟨f6 (by omega), o27 (by omega), fitA (o27 (by omega)) (fun _ => by omega), fitB (o27 (by omega)) (fun _ => by omega)⟩
        · skip
          refine xp_iload rfl rfl ?_
          refine xp_iconst (n := 0) rfl (by decide) ?_
          refine xp_iload_n rfl rfl ?_
          refine xp_is rfl rfl rfl (Nat.le_of_ble_eq_true rfl) (by decide) (by decide) (by decide) (Nat.le_of_ble_eq_true rfl) rfl (xrcv0 (by decide) _ _) (m116 (by omega)) rfl ?_
          refine xp_is rfl rfl rfl (Nat.le_of_ble_eq_true rfl) (by decide) (by decide) (by decide) (Nat.le_of_ble_eq_true rfl) rfl (xrcv0 (by decide) _ _) (m112 hb (by omega) (by omega)) rfl ?_
          refine xp_ifne 64 rfl (by decide) (by omega) (fun h55 => ?_) (fun h55 => ?_)
          · exfalso; exact hq ⟨f6 (by omega), o27 (by omega), fitA (o27 (by omega)) (fun _ => by omega), fitB (o27 (by omega)) (fun _ => by omega)⟩
          · skip
            refine xp_aload_n rfl rfl ?_
            refine xp_iconst (n := 1) rfl (by decide) ?_
            refine xp_iv rfl rfl (Nat.le_of_ble_eq_true rfl) (by decide) (by decide) (by decide) (Nat.le_of_ble_eq_true rfl) rfl (xrcv1 (by decide) (by first | assumption | exact hL.t rfl)) (m113 hL) rfl ?_
            refine xp_ireturn rfl (by decide) (by decide) (by decide) ?_
            rfl
      · skip
        refine xp_iload_n rfl rfl ?_
        refine xp_iconst (n := 0) rfl (by decide) ?_
        refine xp_iload_n rfl rfl ?_
        refine xp_is rfl rfl rfl (Nat.le_of_ble_eq_true rfl) (by decide) (by decide) (by decide) (Nat.le_of_ble_eq_true rfl) rfl (xrcv0 (by decide) _ _) (m115 (by omega)) rfl ?_
        refine xp_is rfl rfl rfl (Nat.le_of_ble_eq_true rfl) (by decide) (by decide) (by decide) (Nat.le_of_ble_eq_true rfl) rfl (xrcv0 (by decide) _ _) (m112 ha (by omega) (by omega)) rfl ?_
        refine xp_ifeq 58 rfl (by decide) (by omega) (fun h35 => ?_) (fun h35 => ?_)
        · skip
          refine xp_aload_n rfl rfl ?_
          refine xp_iconst (n := 1) rfl (by decide) ?_
          refine xp_iv rfl rfl (Nat.le_of_ble_eq_true rfl) (by decide) (by decide) (by decide) (Nat.le_of_ble_eq_true rfl) rfl (xrcv1 (by decide) (by first | assumption | exact hL.t rfl)) (m113 hL) rfl ?_
          refine xp_ireturn rfl (by decide) (by decide) (by decide) ?_
          rfl
        · skip
          refine xp_iload_n rfl rfl ?_
          refine xp_is rfl rfl rfl (Nat.le_of_ble_eq_true rfl) (by decide) (by decide) (by decide) (Nat.le_of_ble_eq_true rfl) rfl (xrcv0 (by decide) _ _) (m116 (by omega)) rfl ?_
          refine xp_iflt 64 rfl (by decide) (by omega) (fun h42 => ?_) (fun h42 => ?_)
          · exfalso; exact hq ⟨f6 (by omega), o27 (by omega), fitA (o27 (by omega)) (fun _ => by omega), fitB (o27 (by omega)) (fun _ => by omega)⟩
          · skip
            refine xp_iload rfl rfl ?_
            refine xp_iconst (n := 0) rfl (by decide) ?_
            refine xp_iload_n rfl rfl ?_
            refine xp_is rfl rfl rfl (Nat.le_of_ble_eq_true rfl) (by decide) (by decide) (by decide) (Nat.le_of_ble_eq_true rfl) rfl (xrcv0 (by decide) _ _) (m116 (by omega)) rfl ?_
            refine xp_is rfl rfl rfl (Nat.le_of_ble_eq_true rfl) (by decide) (by decide) (by decide) (Nat.le_of_ble_eq_true rfl) rfl (xrcv0 (by decide) _ _) (m112 hb (by omega) (by omega)) rfl ?_
            refine xp_ifne 64 rfl (by decide) (by omega) (fun h55 => ?_) (fun h55 => ?_)
            · exfalso; exact hq ⟨f6 (by omega), o27 (by omega), fitA (o27 (by omega)) (fun _ => by omega), fitB (o27 (by omega)) (fun _ => by omega)⟩
            · skip
              refine xp_aload_n rfl rfl ?_
              refine xp_iconst (n := 1) rfl (by decide) ?_
              refine xp_iv rfl rfl (Nat.le_of_ble_eq_true rfl) (by decide) (by decide) (by decide) (Nat.le_of_ble_eq_true rfl) rfl (xrcv1 (by decide) (by first | assumption | exact hL.t rfl)) (m113 hL) rfl ?_
              refine xp_ireturn rfl (by decide) (by decide) (by decide) ?_
              rfl
