-- WHAT IS SOUND: the code; how many values an instruction needs
def IOk (op a b : Nat) : Prop := op ≤ 27 ∧ ((op = 4 ∨ op = 5) → a ≤ 3) ∧ ((op = 17 ∨ op = 18) → a ≤ 2) ∧ ((op = 19 ∨ op = 21 ∨ op = 26) → a ≤ 5) ∧ (op = 20 → a ≤ 1) ∧ ((op = 14 ∨ op = 15) → b ≤ 29) ∧ (op = 19 → b ≤ 2)
def POk (A : xQ) : Prop := ∀ f, f < 6 → A.1 2 f ≤ 2 ∧ A.1 3 f ≤ 30 ∧ A.1 7 f ≤ 3 ∧ (∀ j, j < A.1 3 f → IOk (A.1 4 (f * 30 + j)) (A.1 5 (f * 30 + j)) (A.1 6 (f * 30 + j))) ∧ ∀ j, j < A.1 7 f → A.1 8 (f * 3 + j) ≤ 29 ∧ A.1 9 (f * 3 + j) ≤ 30 ∧ A.1 10 (f * 3 + j) ≤ 29
def xTk : List Nat := [0, 0, 0, 0, 0, 1, 1, 1, 2, 2, 2, 2, 2, 2, 0, 1, 0, 1, 2, 0, 0, 0, 1, 1, 1, 1, 0, 0]
def aNeed (A : xQ) (op a b : Nat) : Nat := match op with
  | 19 => b
  | 21 => A.1 2 a
  | 26 => A.1 2 a
  | n => xTk.getD n 0
theorem op28 {op : Nat} (h : op ≤ 27) : op = 0 ∨ op = 1 ∨ op = 2 ∨ op = 3 ∨ op = 4 ∨ op = 5 ∨ op = 6 ∨ op = 7 ∨ op = 8 ∨ op = 9 ∨ op = 10 ∨ op = 11 ∨ op = 12 ∨ op = 13 ∨ op = 14 ∨ op = 15 ∨ op = 16 ∨ op = 17 ∨ op = 18 ∨ op = 19 ∨ op = 20 ∨ op = 21 ∨ op = 22 ∨ op = 23 ∨ op = 24 ∨ op = 25 ∨ op = 26 ∨ op = 27 := by omega
def aAt (A : xQ) (fn p : Nat) : Nat := if p < A.1 3 fn then fn * 30 + p else 4294967295
theorem c74 {z : Nat} {T : Nat → Option xT} {R : Nat → Nat → Option Nat} {A : xQ} {fn p w : Nat} (hL : xLay T R w) (hfn : fn < 6) (hp : p < 2 ^ 31) (hc : A.1 3 fn < 2 ^ 31) : xF 74 [.ref 1, .int (nI fn), .int (nI p)] (xm z T R A) (.inr (some (.int (nI (aAt A fn p)))), xm z T R A) := by
  refine xF_eq (xF_p (Nat.le_of_ble_eq_true rfl) ?_)
  refine xp_iload_n rfl rfl ?_
  refine xp_aload_n rfl rfl ?_
  refine xp_gfa rfl rfl (by decide) (by decide) (by first | assumption | exact hL.t rfl) (by first | assumption | exact hL.r rfl | exact hL.2.2.2.2.2) ?_
  refine xp_iload_n rfl rfl ?_
  refine xp_iald rfl (by first | assumption | exact hL.t rfl) (by omega) (by omega) ?_
  refine xp_icge 19 rfl (by decide) (by omega) (by omega) (fun h7 => ?_) (fun h7 => ?_)
  · skip
    refine xp_iconst (n := 4294967295) rfl (by decide) ?_
    refine xp_ireturn rfl (by decide) (by decide) (by decide) ?_
    unfold aAt
    repeat (first | rw [if_pos (by omega)] | rw [if_neg (by omega)])
    try rfl
  · skip
    refine xp_iload_n rfl rfl ?_
    refine xp_bipush (n := 30) rfl (by decide) ?_
    refine xp_imul rfl ?_
    refine xp_iload_n rfl rfl ?_
    refine xp_iadd rfl ?_
    refine xp_goto 20 rfl (by decide) ?_
    refine xp_ireturn rfl (by decide) (by decide) (by decide) ?_
    unfold aAt
    repeat (first | rw [if_pos (by omega)] | rw [if_neg (by omega)])
    try rfl
def aHnd (A : xQ) (p : Nat) : Nat → Nat → Nat
  | 0, _ => 4294967295
  | m + 1, i => if A.1 8 i ≤ p ∧ p < A.1 9 i then A.1 10 i else aHnd A p m (i + 1)
theorem l75 {z : Nat} {T : Nat → Option xT} {R : Nat → Nat → Option Nat} {A : xQ} {fn p w : Nat} (hL : xLay T R w) (hfn : fn < 6) (hp : p < 2 ^ 31) (hc : A.1 7 fn ≤ 3) (hb : ∀ j, j < A.1 7 fn → A.1 8 (fn * 3 + j) ≤ 29 ∧ A.1 9 (fn * 3 + j) ≤ 30 ∧ A.1 10 (fn * 3 + j) ≤ 29) : ∀ m i, i + m = fn * 3 + A.1 7 fn → fn * 3 ≤ i → xP 75 7 [(0, .ref 1), (1, .int (nI fn)), (2, .int (nI p)), (3, .int (nI (fn * 3))), (4, .int (nI i))] [] 0 0 (xm z T R A) (fun r => r = (.inr (some (.int (nI (aHnd A p m i)))), xm z T R A)) := by
  intro m
  induction m with
  | zero =>
    intro i hi hi2
    refine xp_iload rfl rfl ?_
    refine xp_iload_n rfl rfl ?_
    refine xp_aload_n rfl rfl ?_
    refine xp_gfa rfl rfl (by decide) (by decide) (by first | assumption | exact hL.t rfl) (by first | assumption | exact hL.r rfl | exact hL.2.2.2.2.2) ?_
    refine xp_iload_n rfl rfl ?_
    refine xp_iald rfl (by first | assumption | exact hL.t rfl) (by omega) (by omega) ?_
    refine xp_iadd rfl ?_
    refine xp_icge 56 rfl (by decide) (by omega) (by omega) (fun h17 => ?_) (fun h17 => ?_)
    · skip
      refine xp_iconst (n := 4294967295) rfl (by decide) ?_
      refine xp_ireturn rfl (by decide) (by decide) (by decide) ?_
      rfl
    · exfalso; omega
  | succ m ih =>
    intro i hi hi2
    obtain ⟨b1, b2, b3⟩ := hb (i - fn * 3) (by omega)
    have ei : fn * 3 + (i - fn * 3) = i := by omega
    rw [ei] at b1 b2 b3
    unfold aHnd
    refine xp_iload rfl rfl ?_
    refine xp_iload_n rfl rfl ?_
    refine xp_aload_n rfl rfl ?_
    refine xp_gfa rfl rfl (by decide) (by decide) (by first | assumption | exact hL.t rfl) (by first | assumption | exact hL.r rfl | exact hL.2.2.2.2.2) ?_
    refine xp_iload_n rfl rfl ?_
    refine xp_iald rfl (by first | assumption | exact hL.t rfl) (by omega) (by omega) ?_
    refine xp_iadd rfl ?_
    refine xp_icge 56 rfl (by decide) (by omega) (by omega) (fun h17 => ?_) (fun h17 => ?_)
    · exfalso; omega
    · skip
      refine xp_aload_n rfl rfl ?_
      refine xp_gfa rfl rfl (by decide) (by decide) (by first | assumption | exact hL.t rfl) (by first | assumption | exact hL.r rfl | exact hL.2.2.2.2.2) ?_
      refine xp_iload rfl rfl ?_
      refine xp_iald rfl (by first | assumption | exact hL.t rfl) (by omega) (by omega) ?_
      refine xp_iload_n rfl rfl ?_
      refine xp_icgt 50 rfl (by decide) (by omega) (by omega) (fun h28 => ?_) (fun h28 => ?_)
      · skip
        refine xp_iinc rfl rfl (by decide) (nI_inc _) ?_
        refine xp_goto 7 rfl (by decide) ?_
        rw [if_neg (by omega)]
        refine xp_weak [(0, .ref 1), (1, .int (nI fn)), (2, .int (nI p)), (3, .int (nI (fn * 3))), (4, .int (nI (i + 1)))] (xle_cons rfl (xle_cons rfl (xle_cons rfl (xle_cons rfl (xle_cons rfl (xle_nil _)))))) (by simp [xnd]) ?_
        exact ih (i + 1) (by omega) (by omega)
      · skip
        refine xp_iload_n rfl rfl ?_
        refine xp_aload_n rfl rfl ?_
        refine xp_gfa rfl rfl (by decide) (by decide) (by first | assumption | exact hL.t rfl) (by first | assumption | exact hL.r rfl | exact hL.2.2.2.2.2) ?_
        refine xp_iload rfl rfl ?_
        refine xp_iald rfl (by first | assumption | exact hL.t rfl) (by omega) (by omega) ?_
        refine xp_icge 50 rfl (by decide) (by omega) (by omega) (fun h39 => ?_) (fun h39 => ?_)
        · skip
          refine xp_iinc rfl rfl (by decide) (nI_inc _) ?_
          refine xp_goto 7 rfl (by decide) ?_
          rw [if_neg (by omega)]
          refine xp_weak [(0, .ref 1), (1, .int (nI fn)), (2, .int (nI p)), (3, .int (nI (fn * 3))), (4, .int (nI (i + 1)))] (xle_cons rfl (xle_cons rfl (xle_cons rfl (xle_cons rfl (xle_cons rfl (xle_nil _)))))) (by simp [xnd]) ?_
          exact ih (i + 1) (by omega) (by omega)
        · skip
          refine xp_aload_n rfl rfl ?_
          refine xp_gfa rfl rfl (by decide) (by decide) (by first | assumption | exact hL.t rfl) (by first | assumption | exact hL.r rfl | exact hL.2.2.2.2.2) ?_
          refine xp_iload rfl rfl ?_
          refine xp_iald rfl (by first | assumption | exact hL.t rfl) (by omega) (by omega) ?_
          refine xp_ireturn rfl (by decide) (by decide) (by decide) ?_
          rw [if_pos (by omega)]
theorem c75 {z : Nat} {T : Nat → Option xT} {R : Nat → Nat → Option Nat} {A : xQ} {fn p w : Nat} (hL : xLay T R w) (hfn : fn < 6) (hp : p < 2 ^ 31) (hc : A.1 7 fn ≤ 3) (hb : ∀ j, j < A.1 7 fn → A.1 8 (fn * 3 + j) ≤ 29 ∧ A.1 9 (fn * 3 + j) ≤ 30 ∧ A.1 10 (fn * 3 + j) ≤ 29) : xF 75 [.ref 1, .int (nI fn), .int (nI p)] (xm z T R A) (.inr (some (.int (nI (aHnd A p (A.1 7 fn) (fn * 3))))), xm z T R A) := by
  refine xF_eq (xF_p (Nat.le_of_ble_eq_true rfl) ?_)
  refine xp_iload_n rfl rfl ?_
  refine xp_iconst (n := 3) rfl (by decide) ?_
  refine xp_imul rfl ?_
  refine xp_istore_n rfl (by decide) ?_
  refine xp_iload_n rfl rfl ?_
  refine xp_istore rfl (by decide) ?_
  refine xp_weak [(0, .ref 1), (1, .int (nI fn)), (2, .int (nI p)), (3, .int (nI (fn * 3))), (4, .int (nI (fn * 3)))] (xle_cons rfl (xle_cons rfl (xle_cons rfl (xle_cons rfl (xle_cons rfl (xle_nil _)))))) (by simp [xnd]) ?_
  exact l75 hL hfn hp hc hb _ _ rfl (by omega)
theorem c76 {z : Nat} {T : Nat → Option xT} {R : Nat → Nat → Option Nat} {A : xQ} {i w : Nat} (hL : xLay T R w) (hi : i < 180) (hI : IOk (A.1 4 i) (A.1 5 i) (A.1 6 i)) : xF 76 [.ref 1, .int (nI i)] (xm z T R A) (.inr (some (.int (nI (aNeed A (A.1 4 i) (A.1 5 i) (A.1 6 i))))), xm z T R A) := by
  obtain ⟨hop0, i1, i2, i3, i4, i5, i6⟩ := hI
  have hst : T 1000002 = none := hL.2.2.1 2 (by omega)
  rcases op28 (op := A.1 4 i) hop0 with hop | hop | hop | hop | hop | hop | hop | hop | hop | hop | hop | hop | hop | hop | hop | hop | hop | hop | hop | hop | hop | hop | hop | hop | hop | hop | hop | hop
  · skip
    refine xF_eq (xF_p (Nat.le_of_ble_eq_true rfl) ?_)
    refine xp_aload_n rfl rfl ?_
    refine xp_gfa rfl rfl (by decide) (by decide) (by first | assumption | exact hL.t rfl) (by first | assumption | exact hL.r rfl | exact hL.2.2.2.2.2) ?_
    refine xp_iload_n rfl rfl ?_
    refine xp_iald rfl (by first | assumption | exact hL.t rfl) (by omega) (by omega) ?_
    rw [hop]
    refine xp_lsw 59 rfl (by omega) rfl rfl (by decide) ?_
    refine xp_gs rfl rfl ?_
    refine xp_aload_n rfl rfl ?_
    refine xp_gfa rfl rfl (by decide) (by decide) (by first | assumption | exact hL.t rfl) (by first | assumption | exact hL.r rfl | exact hL.2.2.2.2.2) ?_
    refine xp_iload_n rfl rfl ?_
    refine xp_iald rfl (by first | assumption | exact hL.t rfl) (by omega) (by omega) ?_
    rw [hop]
    refine xp_stld rfl (by first | assumption | exact hL.t rfl) (by decide) rfl (by decide) (by decide) ?_
    refine xp_ireturn rfl (by decide) (by decide) (by decide) ?_
    rfl
  · skip
    refine xF_eq (xF_p (Nat.le_of_ble_eq_true rfl) ?_)
    refine xp_aload_n rfl rfl ?_
    refine xp_gfa rfl rfl (by decide) (by decide) (by first | assumption | exact hL.t rfl) (by first | assumption | exact hL.r rfl | exact hL.2.2.2.2.2) ?_
    refine xp_iload_n rfl rfl ?_
    refine xp_iald rfl (by first | assumption | exact hL.t rfl) (by omega) (by omega) ?_
    rw [hop]
    refine xp_lsw 59 rfl (by omega) rfl rfl (by decide) ?_
    refine xp_gs rfl rfl ?_
    refine xp_aload_n rfl rfl ?_
    refine xp_gfa rfl rfl (by decide) (by decide) (by first | assumption | exact hL.t rfl) (by first | assumption | exact hL.r rfl | exact hL.2.2.2.2.2) ?_
    refine xp_iload_n rfl rfl ?_
    refine xp_iald rfl (by first | assumption | exact hL.t rfl) (by omega) (by omega) ?_
    rw [hop]
    refine xp_stld rfl (by first | assumption | exact hL.t rfl) (by decide) rfl (by decide) (by decide) ?_
    refine xp_ireturn rfl (by decide) (by decide) (by decide) ?_
    rfl
  · skip
    refine xF_eq (xF_p (Nat.le_of_ble_eq_true rfl) ?_)
    refine xp_aload_n rfl rfl ?_
    refine xp_gfa rfl rfl (by decide) (by decide) (by first | assumption | exact hL.t rfl) (by first | assumption | exact hL.r rfl | exact hL.2.2.2.2.2) ?_
    refine xp_iload_n rfl rfl ?_
    refine xp_iald rfl (by first | assumption | exact hL.t rfl) (by omega) (by omega) ?_
    rw [hop]
    refine xp_lsw 59 rfl (by omega) rfl rfl (by decide) ?_
    refine xp_gs rfl rfl ?_
    refine xp_aload_n rfl rfl ?_
    refine xp_gfa rfl rfl (by decide) (by decide) (by first | assumption | exact hL.t rfl) (by first | assumption | exact hL.r rfl | exact hL.2.2.2.2.2) ?_
    refine xp_iload_n rfl rfl ?_
    refine xp_iald rfl (by first | assumption | exact hL.t rfl) (by omega) (by omega) ?_
    rw [hop]
    refine xp_stld rfl (by first | assumption | exact hL.t rfl) (by decide) rfl (by decide) (by decide) ?_
    refine xp_ireturn rfl (by decide) (by decide) (by decide) ?_
    rfl
  · skip
    refine xF_eq (xF_p (Nat.le_of_ble_eq_true rfl) ?_)
    refine xp_aload_n rfl rfl ?_
    refine xp_gfa rfl rfl (by decide) (by decide) (by first | assumption | exact hL.t rfl) (by first | assumption | exact hL.r rfl | exact hL.2.2.2.2.2) ?_
    refine xp_iload_n rfl rfl ?_
    refine xp_iald rfl (by first | assumption | exact hL.t rfl) (by omega) (by omega) ?_
    rw [hop]
    refine xp_lsw 59 rfl (by omega) rfl rfl (by decide) ?_
    refine xp_gs rfl rfl ?_
    refine xp_aload_n rfl rfl ?_
    refine xp_gfa rfl rfl (by decide) (by decide) (by first | assumption | exact hL.t rfl) (by first | assumption | exact hL.r rfl | exact hL.2.2.2.2.2) ?_
    refine xp_iload_n rfl rfl ?_
    refine xp_iald rfl (by first | assumption | exact hL.t rfl) (by omega) (by omega) ?_
    rw [hop]
    refine xp_stld rfl (by first | assumption | exact hL.t rfl) (by decide) rfl (by decide) (by decide) ?_
    refine xp_ireturn rfl (by decide) (by decide) (by decide) ?_
    rfl
  · skip
    refine xF_eq (xF_p (Nat.le_of_ble_eq_true rfl) ?_)
    refine xp_aload_n rfl rfl ?_
    refine xp_gfa rfl rfl (by decide) (by decide) (by first | assumption | exact hL.t rfl) (by first | assumption | exact hL.r rfl | exact hL.2.2.2.2.2) ?_
    refine xp_iload_n rfl rfl ?_
    refine xp_iald rfl (by first | assumption | exact hL.t rfl) (by omega) (by omega) ?_
    rw [hop]
    refine xp_lsw 59 rfl (by omega) rfl rfl (by decide) ?_
    refine xp_gs rfl rfl ?_
    refine xp_aload_n rfl rfl ?_
    refine xp_gfa rfl rfl (by decide) (by decide) (by first | assumption | exact hL.t rfl) (by first | assumption | exact hL.r rfl | exact hL.2.2.2.2.2) ?_
    refine xp_iload_n rfl rfl ?_
    refine xp_iald rfl (by first | assumption | exact hL.t rfl) (by omega) (by omega) ?_
    rw [hop]
    refine xp_stld rfl (by first | assumption | exact hL.t rfl) (by decide) rfl (by decide) (by decide) ?_
    refine xp_ireturn rfl (by decide) (by decide) (by decide) ?_
    rfl
  · skip
    refine xF_eq (xF_p (Nat.le_of_ble_eq_true rfl) ?_)
    refine xp_aload_n rfl rfl ?_
    refine xp_gfa rfl rfl (by decide) (by decide) (by first | assumption | exact hL.t rfl) (by first | assumption | exact hL.r rfl | exact hL.2.2.2.2.2) ?_
    refine xp_iload_n rfl rfl ?_
    refine xp_iald rfl (by first | assumption | exact hL.t rfl) (by omega) (by omega) ?_
    rw [hop]
    refine xp_lsw 59 rfl (by omega) rfl rfl (by decide) ?_
    refine xp_gs rfl rfl ?_
    refine xp_aload_n rfl rfl ?_
    refine xp_gfa rfl rfl (by decide) (by decide) (by first | assumption | exact hL.t rfl) (by first | assumption | exact hL.r rfl | exact hL.2.2.2.2.2) ?_
    refine xp_iload_n rfl rfl ?_
    refine xp_iald rfl (by first | assumption | exact hL.t rfl) (by omega) (by omega) ?_
    rw [hop]
    refine xp_stld rfl (by first | assumption | exact hL.t rfl) (by decide) rfl (by decide) (by decide) ?_
    refine xp_ireturn rfl (by decide) (by decide) (by decide) ?_
    rfl
  · skip
    refine xF_eq (xF_p (Nat.le_of_ble_eq_true rfl) ?_)
    refine xp_aload_n rfl rfl ?_
    refine xp_gfa rfl rfl (by decide) (by decide) (by first | assumption | exact hL.t rfl) (by first | assumption | exact hL.r rfl | exact hL.2.2.2.2.2) ?_
    refine xp_iload_n rfl rfl ?_
    refine xp_iald rfl (by first | assumption | exact hL.t rfl) (by omega) (by omega) ?_
    rw [hop]
    refine xp_lsw 59 rfl (by omega) rfl rfl (by decide) ?_
    refine xp_gs rfl rfl ?_
    refine xp_aload_n rfl rfl ?_
    refine xp_gfa rfl rfl (by decide) (by decide) (by first | assumption | exact hL.t rfl) (by first | assumption | exact hL.r rfl | exact hL.2.2.2.2.2) ?_
    refine xp_iload_n rfl rfl ?_
    refine xp_iald rfl (by first | assumption | exact hL.t rfl) (by omega) (by omega) ?_
    rw [hop]
    refine xp_stld rfl (by first | assumption | exact hL.t rfl) (by decide) rfl (by decide) (by decide) ?_
    refine xp_ireturn rfl (by decide) (by decide) (by decide) ?_
    rfl
  · skip
    refine xF_eq (xF_p (Nat.le_of_ble_eq_true rfl) ?_)
    refine xp_aload_n rfl rfl ?_
    refine xp_gfa rfl rfl (by decide) (by decide) (by first | assumption | exact hL.t rfl) (by first | assumption | exact hL.r rfl | exact hL.2.2.2.2.2) ?_
    refine xp_iload_n rfl rfl ?_
    refine xp_iald rfl (by first | assumption | exact hL.t rfl) (by omega) (by omega) ?_
    rw [hop]
    refine xp_lsw 59 rfl (by omega) rfl rfl (by decide) ?_
    refine xp_gs rfl rfl ?_
    refine xp_aload_n rfl rfl ?_
    refine xp_gfa rfl rfl (by decide) (by decide) (by first | assumption | exact hL.t rfl) (by first | assumption | exact hL.r rfl | exact hL.2.2.2.2.2) ?_
    refine xp_iload_n rfl rfl ?_
    refine xp_iald rfl (by first | assumption | exact hL.t rfl) (by omega) (by omega) ?_
    rw [hop]
    refine xp_stld rfl (by first | assumption | exact hL.t rfl) (by decide) rfl (by decide) (by decide) ?_
    refine xp_ireturn rfl (by decide) (by decide) (by decide) ?_
    rfl
  · skip
    refine xF_eq (xF_p (Nat.le_of_ble_eq_true rfl) ?_)
    refine xp_aload_n rfl rfl ?_
    refine xp_gfa rfl rfl (by decide) (by decide) (by first | assumption | exact hL.t rfl) (by first | assumption | exact hL.r rfl | exact hL.2.2.2.2.2) ?_
    refine xp_iload_n rfl rfl ?_
    refine xp_iald rfl (by first | assumption | exact hL.t rfl) (by omega) (by omega) ?_
    rw [hop]
    refine xp_lsw 59 rfl (by omega) rfl rfl (by decide) ?_
    refine xp_gs rfl rfl ?_
    refine xp_aload_n rfl rfl ?_
    refine xp_gfa rfl rfl (by decide) (by decide) (by first | assumption | exact hL.t rfl) (by first | assumption | exact hL.r rfl | exact hL.2.2.2.2.2) ?_
    refine xp_iload_n rfl rfl ?_
    refine xp_iald rfl (by first | assumption | exact hL.t rfl) (by omega) (by omega) ?_
    rw [hop]
    refine xp_stld rfl (by first | assumption | exact hL.t rfl) (by decide) rfl (by decide) (by decide) ?_
    refine xp_ireturn rfl (by decide) (by decide) (by decide) ?_
    rfl
  · skip
    refine xF_eq (xF_p (Nat.le_of_ble_eq_true rfl) ?_)
    refine xp_aload_n rfl rfl ?_
    refine xp_gfa rfl rfl (by decide) (by decide) (by first | assumption | exact hL.t rfl) (by first | assumption | exact hL.r rfl | exact hL.2.2.2.2.2) ?_
    refine xp_iload_n rfl rfl ?_
    refine xp_iald rfl (by first | assumption | exact hL.t rfl) (by omega) (by omega) ?_
    rw [hop]
    refine xp_lsw 59 rfl (by omega) rfl rfl (by decide) ?_
    refine xp_gs rfl rfl ?_
    refine xp_aload_n rfl rfl ?_
    refine xp_gfa rfl rfl (by decide) (by decide) (by first | assumption | exact hL.t rfl) (by first | assumption | exact hL.r rfl | exact hL.2.2.2.2.2) ?_
    refine xp_iload_n rfl rfl ?_
    refine xp_iald rfl (by first | assumption | exact hL.t rfl) (by omega) (by omega) ?_
    rw [hop]
    refine xp_stld rfl (by first | assumption | exact hL.t rfl) (by decide) rfl (by decide) (by decide) ?_
    refine xp_ireturn rfl (by decide) (by decide) (by decide) ?_
    rfl
  · skip
    refine xF_eq (xF_p (Nat.le_of_ble_eq_true rfl) ?_)
    refine xp_aload_n rfl rfl ?_
    refine xp_gfa rfl rfl (by decide) (by decide) (by first | assumption | exact hL.t rfl) (by first | assumption | exact hL.r rfl | exact hL.2.2.2.2.2) ?_
    refine xp_iload_n rfl rfl ?_
    refine xp_iald rfl (by first | assumption | exact hL.t rfl) (by omega) (by omega) ?_
    rw [hop]
    refine xp_lsw 59 rfl (by omega) rfl rfl (by decide) ?_
    refine xp_gs rfl rfl ?_
    refine xp_aload_n rfl rfl ?_
    refine xp_gfa rfl rfl (by decide) (by decide) (by first | assumption | exact hL.t rfl) (by first | assumption | exact hL.r rfl | exact hL.2.2.2.2.2) ?_
    refine xp_iload_n rfl rfl ?_
    refine xp_iald rfl (by first | assumption | exact hL.t rfl) (by omega) (by omega) ?_
    rw [hop]
    refine xp_stld rfl (by first | assumption | exact hL.t rfl) (by decide) rfl (by decide) (by decide) ?_
    refine xp_ireturn rfl (by decide) (by decide) (by decide) ?_
    rfl
  · skip
    refine xF_eq (xF_p (Nat.le_of_ble_eq_true rfl) ?_)
    refine xp_aload_n rfl rfl ?_
    refine xp_gfa rfl rfl (by decide) (by decide) (by first | assumption | exact hL.t rfl) (by first | assumption | exact hL.r rfl | exact hL.2.2.2.2.2) ?_
    refine xp_iload_n rfl rfl ?_
    refine xp_iald rfl (by first | assumption | exact hL.t rfl) (by omega) (by omega) ?_
    rw [hop]
    refine xp_lsw 59 rfl (by omega) rfl rfl (by decide) ?_
    refine xp_gs rfl rfl ?_
    refine xp_aload_n rfl rfl ?_
    refine xp_gfa rfl rfl (by decide) (by decide) (by first | assumption | exact hL.t rfl) (by first | assumption | exact hL.r rfl | exact hL.2.2.2.2.2) ?_
    refine xp_iload_n rfl rfl ?_
    refine xp_iald rfl (by first | assumption | exact hL.t rfl) (by omega) (by omega) ?_
    rw [hop]
    refine xp_stld rfl (by first | assumption | exact hL.t rfl) (by decide) rfl (by decide) (by decide) ?_
    refine xp_ireturn rfl (by decide) (by decide) (by decide) ?_
    rfl
  · skip
    refine xF_eq (xF_p (Nat.le_of_ble_eq_true rfl) ?_)
    refine xp_aload_n rfl rfl ?_
    refine xp_gfa rfl rfl (by decide) (by decide) (by first | assumption | exact hL.t rfl) (by first | assumption | exact hL.r rfl | exact hL.2.2.2.2.2) ?_
    refine xp_iload_n rfl rfl ?_
    refine xp_iald rfl (by first | assumption | exact hL.t rfl) (by omega) (by omega) ?_
    rw [hop]
    refine xp_lsw 59 rfl (by omega) rfl rfl (by decide) ?_
    refine xp_gs rfl rfl ?_
    refine xp_aload_n rfl rfl ?_
    refine xp_gfa rfl rfl (by decide) (by decide) (by first | assumption | exact hL.t rfl) (by first | assumption | exact hL.r rfl | exact hL.2.2.2.2.2) ?_
    refine xp_iload_n rfl rfl ?_
    refine xp_iald rfl (by first | assumption | exact hL.t rfl) (by omega) (by omega) ?_
    rw [hop]
    refine xp_stld rfl (by first | assumption | exact hL.t rfl) (by decide) rfl (by decide) (by decide) ?_
    refine xp_ireturn rfl (by decide) (by decide) (by decide) ?_
    rfl
  · skip
    refine xF_eq (xF_p (Nat.le_of_ble_eq_true rfl) ?_)
    refine xp_aload_n rfl rfl ?_
    refine xp_gfa rfl rfl (by decide) (by decide) (by first | assumption | exact hL.t rfl) (by first | assumption | exact hL.r rfl | exact hL.2.2.2.2.2) ?_
    refine xp_iload_n rfl rfl ?_
    refine xp_iald rfl (by first | assumption | exact hL.t rfl) (by omega) (by omega) ?_
    rw [hop]
    refine xp_lsw 59 rfl (by omega) rfl rfl (by decide) ?_
    refine xp_gs rfl rfl ?_
    refine xp_aload_n rfl rfl ?_
    refine xp_gfa rfl rfl (by decide) (by decide) (by first | assumption | exact hL.t rfl) (by first | assumption | exact hL.r rfl | exact hL.2.2.2.2.2) ?_
    refine xp_iload_n rfl rfl ?_
    refine xp_iald rfl (by first | assumption | exact hL.t rfl) (by omega) (by omega) ?_
    rw [hop]
    refine xp_stld rfl (by first | assumption | exact hL.t rfl) (by decide) rfl (by decide) (by decide) ?_
    refine xp_ireturn rfl (by decide) (by decide) (by decide) ?_
    rfl
  · skip
    refine xF_eq (xF_p (Nat.le_of_ble_eq_true rfl) ?_)
    refine xp_aload_n rfl rfl ?_
    refine xp_gfa rfl rfl (by decide) (by decide) (by first | assumption | exact hL.t rfl) (by first | assumption | exact hL.r rfl | exact hL.2.2.2.2.2) ?_
    refine xp_iload_n rfl rfl ?_
    refine xp_iald rfl (by first | assumption | exact hL.t rfl) (by omega) (by omega) ?_
    rw [hop]
    refine xp_lsw 59 rfl (by omega) rfl rfl (by decide) ?_
    refine xp_gs rfl rfl ?_
    refine xp_aload_n rfl rfl ?_
    refine xp_gfa rfl rfl (by decide) (by decide) (by first | assumption | exact hL.t rfl) (by first | assumption | exact hL.r rfl | exact hL.2.2.2.2.2) ?_
    refine xp_iload_n rfl rfl ?_
    refine xp_iald rfl (by first | assumption | exact hL.t rfl) (by omega) (by omega) ?_
    rw [hop]
    refine xp_stld rfl (by first | assumption | exact hL.t rfl) (by decide) rfl (by decide) (by decide) ?_
    refine xp_ireturn rfl (by decide) (by decide) (by decide) ?_
    rfl
  · skip
    refine xF_eq (xF_p (Nat.le_of_ble_eq_true rfl) ?_)
    refine xp_aload_n rfl rfl ?_
    refine xp_gfa rfl rfl (by decide) (by decide) (by first | assumption | exact hL.t rfl) (by first | assumption | exact hL.r rfl | exact hL.2.2.2.2.2) ?_
    refine xp_iload_n rfl rfl ?_
    refine xp_iald rfl (by first | assumption | exact hL.t rfl) (by omega) (by omega) ?_
    rw [hop]
    refine xp_lsw 59 rfl (by omega) rfl rfl (by decide) ?_
    refine xp_gs rfl rfl ?_
    refine xp_aload_n rfl rfl ?_
    refine xp_gfa rfl rfl (by decide) (by decide) (by first | assumption | exact hL.t rfl) (by first | assumption | exact hL.r rfl | exact hL.2.2.2.2.2) ?_
    refine xp_iload_n rfl rfl ?_
    refine xp_iald rfl (by first | assumption | exact hL.t rfl) (by omega) (by omega) ?_
    rw [hop]
    refine xp_stld rfl (by first | assumption | exact hL.t rfl) (by decide) rfl (by decide) (by decide) ?_
    refine xp_ireturn rfl (by decide) (by decide) (by decide) ?_
    rfl
  · skip
    refine xF_eq (xF_p (Nat.le_of_ble_eq_true rfl) ?_)
    refine xp_aload_n rfl rfl ?_
    refine xp_gfa rfl rfl (by decide) (by decide) (by first | assumption | exact hL.t rfl) (by first | assumption | exact hL.r rfl | exact hL.2.2.2.2.2) ?_
    refine xp_iload_n rfl rfl ?_
    refine xp_iald rfl (by first | assumption | exact hL.t rfl) (by omega) (by omega) ?_
    rw [hop]
    refine xp_lsw 59 rfl (by omega) rfl rfl (by decide) ?_
    refine xp_gs rfl rfl ?_
    refine xp_aload_n rfl rfl ?_
    refine xp_gfa rfl rfl (by decide) (by decide) (by first | assumption | exact hL.t rfl) (by first | assumption | exact hL.r rfl | exact hL.2.2.2.2.2) ?_
    refine xp_iload_n rfl rfl ?_
    refine xp_iald rfl (by first | assumption | exact hL.t rfl) (by omega) (by omega) ?_
    rw [hop]
    refine xp_stld rfl (by first | assumption | exact hL.t rfl) (by decide) rfl (by decide) (by decide) ?_
    refine xp_ireturn rfl (by decide) (by decide) (by decide) ?_
    rfl
  · skip
    refine xF_eq (xF_p (Nat.le_of_ble_eq_true rfl) ?_)
    refine xp_aload_n rfl rfl ?_
    refine xp_gfa rfl rfl (by decide) (by decide) (by first | assumption | exact hL.t rfl) (by first | assumption | exact hL.r rfl | exact hL.2.2.2.2.2) ?_
    refine xp_iload_n rfl rfl ?_
    refine xp_iald rfl (by first | assumption | exact hL.t rfl) (by omega) (by omega) ?_
    rw [hop]
    refine xp_lsw 59 rfl (by omega) rfl rfl (by decide) ?_
    refine xp_gs rfl rfl ?_
    refine xp_aload_n rfl rfl ?_
    refine xp_gfa rfl rfl (by decide) (by decide) (by first | assumption | exact hL.t rfl) (by first | assumption | exact hL.r rfl | exact hL.2.2.2.2.2) ?_
    refine xp_iload_n rfl rfl ?_
    refine xp_iald rfl (by first | assumption | exact hL.t rfl) (by omega) (by omega) ?_
    rw [hop]
    refine xp_stld rfl (by first | assumption | exact hL.t rfl) (by decide) rfl (by decide) (by decide) ?_
    refine xp_ireturn rfl (by decide) (by decide) (by decide) ?_
    rfl
  · skip
    refine xF_eq (xF_p (Nat.le_of_ble_eq_true rfl) ?_)
    refine xp_aload_n rfl rfl ?_
    refine xp_gfa rfl rfl (by decide) (by decide) (by first | assumption | exact hL.t rfl) (by first | assumption | exact hL.r rfl | exact hL.2.2.2.2.2) ?_
    refine xp_iload_n rfl rfl ?_
    refine xp_iald rfl (by first | assumption | exact hL.t rfl) (by omega) (by omega) ?_
    rw [hop]
    refine xp_lsw 59 rfl (by omega) rfl rfl (by decide) ?_
    refine xp_gs rfl rfl ?_
    refine xp_aload_n rfl rfl ?_
    refine xp_gfa rfl rfl (by decide) (by decide) (by first | assumption | exact hL.t rfl) (by first | assumption | exact hL.r rfl | exact hL.2.2.2.2.2) ?_
    refine xp_iload_n rfl rfl ?_
    refine xp_iald rfl (by first | assumption | exact hL.t rfl) (by omega) (by omega) ?_
    rw [hop]
    refine xp_stld rfl (by first | assumption | exact hL.t rfl) (by decide) rfl (by decide) (by decide) ?_
    refine xp_ireturn rfl (by decide) (by decide) (by decide) ?_
    rfl
  · skip
    refine xF_eq (xF_p (Nat.le_of_ble_eq_true rfl) ?_)
    refine xp_aload_n rfl rfl ?_
    refine xp_gfa rfl rfl (by decide) (by decide) (by first | assumption | exact hL.t rfl) (by first | assumption | exact hL.r rfl | exact hL.2.2.2.2.2) ?_
    refine xp_iload_n rfl rfl ?_
    refine xp_iald rfl (by first | assumption | exact hL.t rfl) (by omega) (by omega) ?_
    rw [hop]
    refine xp_lsw 40 rfl (by omega) rfl rfl (by decide) ?_
    refine xp_aload_n rfl rfl ?_
    refine xp_gfa rfl rfl (by decide) (by decide) (by first | assumption | exact hL.t rfl) (by first | assumption | exact hL.r rfl | exact hL.2.2.2.2.2) ?_
    refine xp_iload_n rfl rfl ?_
    refine xp_iald rfl (by first | assumption | exact hL.t rfl) (by omega) (by omega) ?_
    refine xp_ireturn rfl (by decide) (by decide) (by decide) ?_
    rfl
  · skip
    refine xF_eq (xF_p (Nat.le_of_ble_eq_true rfl) ?_)
    refine xp_aload_n rfl rfl ?_
    refine xp_gfa rfl rfl (by decide) (by decide) (by first | assumption | exact hL.t rfl) (by first | assumption | exact hL.r rfl | exact hL.2.2.2.2.2) ?_
    refine xp_iload_n rfl rfl ?_
    refine xp_iald rfl (by first | assumption | exact hL.t rfl) (by omega) (by omega) ?_
    rw [hop]
    refine xp_lsw 59 rfl (by omega) rfl rfl (by decide) ?_
    refine xp_gs rfl rfl ?_
    refine xp_aload_n rfl rfl ?_
    refine xp_gfa rfl rfl (by decide) (by decide) (by first | assumption | exact hL.t rfl) (by first | assumption | exact hL.r rfl | exact hL.2.2.2.2.2) ?_
    refine xp_iload_n rfl rfl ?_
    refine xp_iald rfl (by first | assumption | exact hL.t rfl) (by omega) (by omega) ?_
    rw [hop]
    refine xp_stld rfl (by first | assumption | exact hL.t rfl) (by decide) rfl (by decide) (by decide) ?_
    refine xp_ireturn rfl (by decide) (by decide) (by decide) ?_
    rfl
  · skip
    refine xF_eq (xF_p (Nat.le_of_ble_eq_true rfl) ?_)
    refine xp_aload_n rfl rfl ?_
    refine xp_gfa rfl rfl (by decide) (by decide) (by first | assumption | exact hL.t rfl) (by first | assumption | exact hL.r rfl | exact hL.2.2.2.2.2) ?_
    refine xp_iload_n rfl rfl ?_
    refine xp_iald rfl (by first | assumption | exact hL.t rfl) (by omega) (by omega) ?_
    rw [hop]
    refine xp_lsw 47 rfl (by omega) rfl rfl (by decide) ?_
    refine xp_aload_n rfl rfl ?_
    refine xp_gfa rfl rfl (by decide) (by decide) (by first | assumption | exact hL.t rfl) (by first | assumption | exact hL.r rfl | exact hL.2.2.2.2.2) ?_
    refine xp_aload_n rfl rfl ?_
    refine xp_gfa rfl rfl (by decide) (by decide) (by first | assumption | exact hL.t rfl) (by first | assumption | exact hL.r rfl | exact hL.2.2.2.2.2) ?_
    refine xp_iload_n rfl rfl ?_
    refine xp_iald rfl (by first | assumption | exact hL.t rfl) (by omega) (by omega) ?_
    refine xp_iald rfl (by first | assumption | exact hL.t rfl) (by omega) (by omega) ?_
    refine xp_ireturn rfl (by decide) (by decide) (by decide) ?_
    rfl
  · skip
    refine xF_eq (xF_p (Nat.le_of_ble_eq_true rfl) ?_)
    refine xp_aload_n rfl rfl ?_
    refine xp_gfa rfl rfl (by decide) (by decide) (by first | assumption | exact hL.t rfl) (by first | assumption | exact hL.r rfl | exact hL.2.2.2.2.2) ?_
    refine xp_iload_n rfl rfl ?_
    refine xp_iald rfl (by first | assumption | exact hL.t rfl) (by omega) (by omega) ?_
    rw [hop]
    refine xp_lsw 59 rfl (by omega) rfl rfl (by decide) ?_
    refine xp_gs rfl rfl ?_
    refine xp_aload_n rfl rfl ?_
    refine xp_gfa rfl rfl (by decide) (by decide) (by first | assumption | exact hL.t rfl) (by first | assumption | exact hL.r rfl | exact hL.2.2.2.2.2) ?_
    refine xp_iload_n rfl rfl ?_
    refine xp_iald rfl (by first | assumption | exact hL.t rfl) (by omega) (by omega) ?_
    rw [hop]
    refine xp_stld rfl (by first | assumption | exact hL.t rfl) (by decide) rfl (by decide) (by decide) ?_
    refine xp_ireturn rfl (by decide) (by decide) (by decide) ?_
    rfl
  · skip
    refine xF_eq (xF_p (Nat.le_of_ble_eq_true rfl) ?_)
    refine xp_aload_n rfl rfl ?_
    refine xp_gfa rfl rfl (by decide) (by decide) (by first | assumption | exact hL.t rfl) (by first | assumption | exact hL.r rfl | exact hL.2.2.2.2.2) ?_
    refine xp_iload_n rfl rfl ?_
    refine xp_iald rfl (by first | assumption | exact hL.t rfl) (by omega) (by omega) ?_
    rw [hop]
    refine xp_lsw 59 rfl (by omega) rfl rfl (by decide) ?_
    refine xp_gs rfl rfl ?_
    refine xp_aload_n rfl rfl ?_
    refine xp_gfa rfl rfl (by decide) (by decide) (by first | assumption | exact hL.t rfl) (by first | assumption | exact hL.r rfl | exact hL.2.2.2.2.2) ?_
    refine xp_iload_n rfl rfl ?_
    refine xp_iald rfl (by first | assumption | exact hL.t rfl) (by omega) (by omega) ?_
    rw [hop]
    refine xp_stld rfl (by first | assumption | exact hL.t rfl) (by decide) rfl (by decide) (by decide) ?_
    refine xp_ireturn rfl (by decide) (by decide) (by decide) ?_
    rfl
  · skip
    refine xF_eq (xF_p (Nat.le_of_ble_eq_true rfl) ?_)
    refine xp_aload_n rfl rfl ?_
    refine xp_gfa rfl rfl (by decide) (by decide) (by first | assumption | exact hL.t rfl) (by first | assumption | exact hL.r rfl | exact hL.2.2.2.2.2) ?_
    refine xp_iload_n rfl rfl ?_
    refine xp_iald rfl (by first | assumption | exact hL.t rfl) (by omega) (by omega) ?_
    rw [hop]
    refine xp_lsw 59 rfl (by omega) rfl rfl (by decide) ?_
    refine xp_gs rfl rfl ?_
    refine xp_aload_n rfl rfl ?_
    refine xp_gfa rfl rfl (by decide) (by decide) (by first | assumption | exact hL.t rfl) (by first | assumption | exact hL.r rfl | exact hL.2.2.2.2.2) ?_
    refine xp_iload_n rfl rfl ?_
    refine xp_iald rfl (by first | assumption | exact hL.t rfl) (by omega) (by omega) ?_
    rw [hop]
    refine xp_stld rfl (by first | assumption | exact hL.t rfl) (by decide) rfl (by decide) (by decide) ?_
    refine xp_ireturn rfl (by decide) (by decide) (by decide) ?_
    rfl
  · skip
    refine xF_eq (xF_p (Nat.le_of_ble_eq_true rfl) ?_)
    refine xp_aload_n rfl rfl ?_
    refine xp_gfa rfl rfl (by decide) (by decide) (by first | assumption | exact hL.t rfl) (by first | assumption | exact hL.r rfl | exact hL.2.2.2.2.2) ?_
    refine xp_iload_n rfl rfl ?_
    refine xp_iald rfl (by first | assumption | exact hL.t rfl) (by omega) (by omega) ?_
    rw [hop]
    refine xp_lsw 59 rfl (by omega) rfl rfl (by decide) ?_
    refine xp_gs rfl rfl ?_
    refine xp_aload_n rfl rfl ?_
    refine xp_gfa rfl rfl (by decide) (by decide) (by first | assumption | exact hL.t rfl) (by first | assumption | exact hL.r rfl | exact hL.2.2.2.2.2) ?_
    refine xp_iload_n rfl rfl ?_
    refine xp_iald rfl (by first | assumption | exact hL.t rfl) (by omega) (by omega) ?_
    rw [hop]
    refine xp_stld rfl (by first | assumption | exact hL.t rfl) (by decide) rfl (by decide) (by decide) ?_
    refine xp_ireturn rfl (by decide) (by decide) (by decide) ?_
    rfl
  · skip
    refine xF_eq (xF_p (Nat.le_of_ble_eq_true rfl) ?_)
    refine xp_aload_n rfl rfl ?_
    refine xp_gfa rfl rfl (by decide) (by decide) (by first | assumption | exact hL.t rfl) (by first | assumption | exact hL.r rfl | exact hL.2.2.2.2.2) ?_
    refine xp_iload_n rfl rfl ?_
    refine xp_iald rfl (by first | assumption | exact hL.t rfl) (by omega) (by omega) ?_
    rw [hop]
    refine xp_lsw 47 rfl (by omega) rfl rfl (by decide) ?_
    refine xp_aload_n rfl rfl ?_
    refine xp_gfa rfl rfl (by decide) (by decide) (by first | assumption | exact hL.t rfl) (by first | assumption | exact hL.r rfl | exact hL.2.2.2.2.2) ?_
    refine xp_aload_n rfl rfl ?_
    refine xp_gfa rfl rfl (by decide) (by decide) (by first | assumption | exact hL.t rfl) (by first | assumption | exact hL.r rfl | exact hL.2.2.2.2.2) ?_
    refine xp_iload_n rfl rfl ?_
    refine xp_iald rfl (by first | assumption | exact hL.t rfl) (by omega) (by omega) ?_
    refine xp_iald rfl (by first | assumption | exact hL.t rfl) (by omega) (by omega) ?_
    refine xp_ireturn rfl (by decide) (by decide) (by decide) ?_
    rfl
  · skip
    refine xF_eq (xF_p (Nat.le_of_ble_eq_true rfl) ?_)
    refine xp_aload_n rfl rfl ?_
    refine xp_gfa rfl rfl (by decide) (by decide) (by first | assumption | exact hL.t rfl) (by first | assumption | exact hL.r rfl | exact hL.2.2.2.2.2) ?_
    refine xp_iload_n rfl rfl ?_
    refine xp_iald rfl (by first | assumption | exact hL.t rfl) (by omega) (by omega) ?_
    rw [hop]
    refine xp_lsw 59 rfl (by omega) rfl rfl (by decide) ?_
    refine xp_gs rfl rfl ?_
    refine xp_aload_n rfl rfl ?_
    refine xp_gfa rfl rfl (by decide) (by decide) (by first | assumption | exact hL.t rfl) (by first | assumption | exact hL.r rfl | exact hL.2.2.2.2.2) ?_
    refine xp_iload_n rfl rfl ?_
    refine xp_iald rfl (by first | assumption | exact hL.t rfl) (by omega) (by omega) ?_
    rw [hop]
    refine xp_stld rfl (by first | assumption | exact hL.t rfl) (by decide) rfl (by decide) (by decide) ?_
    refine xp_ireturn rfl (by decide) (by decide) (by decide) ?_
    rfl
def aInLine (w : Nat) (A : xQ) (f op a b : Nat) : Nat × xQ := match op with
  | 1 => aPush A f 1 (nI a).toInt64
  | 2 => aPush A f 2 (((nI a).toInt64 <<< ((nI 32).toInt64 &&& 63)) + (nI b).toInt64)
  | 3 => aPush A f 0 0
  | 4 => aPush A f (A.1 (f + 2) (1 + a)) (A.2 (f + 3) (1 + a))
  | 5 => (0, aPop (aCopy (f + 2) (f + 3) (1 + a) (f + 2) (f + 3) (4 + A.1 f 3) A) f 1)
  | 6 => (0, aPop A f 1)
  | 7 => aPush A f (A.1 (f + 2) (4 + A.1 f 3)) (A.2 (f + 3) (4 + A.1 f 3))
  | 8 => aCompute A f 8
  | 9 => aCompute A f 9
  | 10 => aCompute A f 10
  | 11 => aCompute A f 11
  | 12 => aCompare A f
  | 13 => aAnswer A f (if A.1 (f + 2) (3 + A.1 f 3) = A.1 (f + 2) (4 + A.1 f 3) ∧ A.2 (f + 3) (3 + A.1 f 3) = A.2 (f + 3) (4 + A.1 f 3) then 1 else 0)
  | 24 => aThrow A f
  | 25 => aSay A f
  | 26 => aFork w A f a
  | _ => (0, A)
theorem FOk.c {w : Nat} {A : xQ} {f c : Nat} (h : FOk w A f) (hc : c < 5 + A.1 f 3) : A.1 (f + 2) c ≤ 4 := (h.2.2.2.2 c hc).1
theorem FOk.o {w : Nat} {A : xQ} {f c : Nat} (h : FOk w A f) (hc : c < 5 + A.1 f 3) (hk : 3 ≤ A.1 (f + 2) c) : oN (A.2 (f + 3) c) < 24 ∧ A.1 (w + 3) (oN (A.2 (f + 3) c)) = A.1 (f + 2) c := VC.o (h.2.2.2.2 c hc) (by have := (h.2.2.2.2 c hc).1; omega)
theorem c34_0 {z : Nat} {T : Nat → Option xT} {R : Nat → Nat → Option Nat} {A : xQ} {f a b w : Nat} (hL : xLay T R w) (hF : xF0 T R f) (hk : FOk w A f) : xF 34 [.ref 11, .ref f, .int (nI 0), .int (nI a), .int (nI b)] (xm z T R A) (.inr (some (.int (nI (aInLine w A f 0 a b).1))), xm z T R (aInLine w A f 0 a b).2) := by
  have k6 := hk.2.2.1
  have hF0 := hF
  obtain ⟨f1, f2, hC⟩ := hF
  obtain ⟨c1, c2, c3, c4, c5⟩ := id hC
  refine xF_eq (xF_p (Nat.le_of_ble_eq_true rfl) ?_)
  refine xp_iload_n rfl rfl ?_
  refine xp_tsw 272 rfl (by omega) (by first | rfl | (rw [if_pos (by omega)]) | (rw [if_neg (by omega)]; rfl)) (by decide) ?_
  refine xp_iconst (n := 0) rfl (by decide) ?_
  refine xp_ireturn rfl (by decide) (by decide) (by decide) ?_
  rfl
theorem c34_1 {z : Nat} {T : Nat → Option xT} {R : Nat → Nat → Option Nat} {A : xQ} {f a b w : Nat} (hL : xLay T R w) (hF : xF0 T R f) (hk : FOk w A f) : xF 34 [.ref 11, .ref f, .int (nI 1), .int (nI a), .int (nI b)] (xm z T R A) (.inr (some (.int (nI (aInLine w A f 1 a b).1))), xm z T R (aInLine w A f 1 a b).2) := by
  have k6 := hk.2.2.1
  have hF0 := hF
  obtain ⟨f1, f2, hC⟩ := hF
  obtain ⟨c1, c2, c3, c4, c5⟩ := id hC
  refine xF_eq (xF_p (Nat.le_of_ble_eq_true rfl) ?_)
  refine xp_iload_n rfl rfl ?_
  refine xp_tsw 120 rfl (by omega) (by first | rfl | (rw [if_pos (by omega)]) | (rw [if_neg (by omega)]; rfl)) (by decide) ?_
  refine xp_aload_n rfl rfl ?_
  refine xp_iconst (n := 1) rfl (by decide) ?_
  refine xp_iload_n rfl rfl ?_
  refine xp_i2l rfl ?_
  refine xp_iv rfl rfl (Nat.le_of_ble_eq_true rfl) (by decide) (by decide) (by decide) (Nat.le_of_ble_eq_true rfl) rfl (xrcv1 (by decide) (by first | assumption | exact hL.t rfl)) (c55a hF0 k6) rfl ?_
  refine xp_ireturn rfl (by decide) (by decide) (by decide) ?_
  rfl
theorem c34_2 {z : Nat} {T : Nat → Option xT} {R : Nat → Nat → Option Nat} {A : xQ} {f a b w : Nat} (hL : xLay T R w) (hF : xF0 T R f) (hk : FOk w A f) : xF 34 [.ref 11, .ref f, .int (nI 2), .int (nI a), .int (nI b)] (xm z T R A) (.inr (some (.int (nI (aInLine w A f 2 a b).1))), xm z T R (aInLine w A f 2 a b).2) := by
  have k6 := hk.2.2.1
  have hF0 := hF
  obtain ⟨f1, f2, hC⟩ := hF
  obtain ⟨c1, c2, c3, c4, c5⟩ := id hC
  refine xF_eq (xF_p (Nat.le_of_ble_eq_true rfl) ?_)
  refine xp_iload_n rfl rfl ?_
  refine xp_tsw 128 rfl (by omega) (by first | rfl | (rw [if_pos (by omega)]) | (rw [if_neg (by omega)]; rfl)) (by decide) ?_
  refine xp_aload_n rfl rfl ?_
  refine xp_iconst (n := 2) rfl (by decide) ?_
  refine xp_iload_n rfl rfl ?_
  refine xp_i2l rfl ?_
  refine xp_bipush (n := 32) rfl (by decide) ?_
  refine xp_lshl rfl ?_
  refine xp_iload rfl rfl ?_
  refine xp_i2l rfl ?_
  refine xp_ladd rfl ?_
  refine xp_iv rfl rfl (Nat.le_of_ble_eq_true rfl) (by decide) (by decide) (by decide) (Nat.le_of_ble_eq_true rfl) rfl (xrcv1 (by decide) (by first | assumption | exact hL.t rfl)) (c55a hF0 k6) rfl ?_
  refine xp_ireturn rfl (by decide) (by decide) (by decide) ?_
  rfl
theorem c34_3 {z : Nat} {T : Nat → Option xT} {R : Nat → Nat → Option Nat} {A : xQ} {f a b w : Nat} (hL : xLay T R w) (hF : xF0 T R f) (hk : FOk w A f) : xF 34 [.ref 11, .ref f, .int (nI 3), .int (nI a), .int (nI b)] (xm z T R A) (.inr (some (.int (nI (aInLine w A f 3 a b).1))), xm z T R (aInLine w A f 3 a b).2) := by
  have k6 := hk.2.2.1
  have hF0 := hF
  obtain ⟨f1, f2, hC⟩ := hF
  obtain ⟨c1, c2, c3, c4, c5⟩ := id hC
  refine xF_eq (xF_p (Nat.le_of_ble_eq_true rfl) ?_)
  refine xp_iload_n rfl rfl ?_
  refine xp_tsw 143 rfl (by omega) (by first | rfl | (rw [if_pos (by omega)]) | (rw [if_neg (by omega)]; rfl)) (by decide) ?_
  refine xp_aload_n rfl rfl ?_
  refine xp_iconst (n := 0) rfl (by decide) ?_
  refine xp_lconst rfl rfl ?_
  refine xp_iv rfl rfl (Nat.le_of_ble_eq_true rfl) (by decide) (by decide) (by decide) (Nat.le_of_ble_eq_true rfl) rfl (xrcv1 (by decide) (by first | assumption | exact hL.t rfl)) (c55a hF0 k6) rfl ?_
  refine xp_ireturn rfl (by decide) (by decide) (by decide) ?_
  rfl
theorem c34_4 {z : Nat} {T : Nat → Option xT} {R : Nat → Nat → Option Nat} {A : xQ} {f a b w : Nat} (hL : xLay T R w) (hF : xF0 T R f) (hk : FOk w A f) (ha : a ≤ 3) : xF 34 [.ref 11, .ref f, .int (nI 4), .int (nI a), .int (nI b)] (xm z T R A) (.inr (some (.int (nI (aInLine w A f 4 a b).1))), xm z T R (aInLine w A f 4 a b).2) := by
  have k6 := hk.2.2.1
  have hF0 := hF
  obtain ⟨f1, f2, hC⟩ := hF
  obtain ⟨c1, c2, c3, c4, c5⟩ := id hC
  refine xF_eq (xF_p (Nat.le_of_ble_eq_true rfl) ?_)
  refine xp_iload_n rfl rfl ?_
  refine xp_tsw 150 rfl (by omega) (by first | rfl | (rw [if_pos (by omega)]) | (rw [if_neg (by omega)]; rfl)) (by decide) ?_
  refine xp_aload_n rfl rfl ?_
  refine xp_aload_n rfl rfl ?_
  refine xp_gfa rfl rfl (by decide) (by decide) (by first | assumption | exact hL.t rfl) (by first | assumption | exact hL.r rfl | exact hL.2.2.2.2.2) ?_
  refine xp_iconst (n := 1) rfl (by decide) ?_
  refine xp_iload_n rfl rfl ?_
  refine xp_iadd rfl ?_
  refine xp_iv rfl rfl (Nat.le_of_ble_eq_true rfl) (by decide) (by decide) (by decide) (Nat.le_of_ble_eq_true rfl) rfl (xrcv1 (by decide) (by first | assumption | exact hL.t rfl)) (c56 hF0 hC (by omega) (by omega) k6) rfl ?_
  refine xp_ireturn rfl (by decide) (by decide) (by decide) ?_
  rfl
theorem c34_5 {z : Nat} {T : Nat → Option xT} {R : Nat → Nat → Option Nat} {A : xQ} {f a b w : Nat} (hL : xLay T R w) (hF : xF0 T R f) (hk : FOk w A f) (hs1 : 1 ≤ A.1 f 3) (ha : a ≤ 3) : xF 34 [.ref 11, .ref f, .int (nI 5), .int (nI a), .int (nI b)] (xm z T R A) (.inr (some (.int (nI (aInLine w A f 5 a b).1))), xm z T R (aInLine w A f 5 a b).2) := by
  have k6 := hk.2.2.1
  have ky := hk.c (c := 4 + A.1 f 3) (by omega)
  have hF0 := hF
  obtain ⟨f1, f2, hC⟩ := hF
  obtain ⟨c1, c2, c3, c4, c5⟩ := id hC
  refine xF_eq (xF_p (Nat.le_of_ble_eq_true rfl) ?_)
  refine xp_iload_n rfl rfl ?_
  refine xp_tsw 162 rfl (by omega) (by first | rfl | (rw [if_pos (by omega)]) | (rw [if_neg (by omega)]; rfl)) (by decide) ?_
  refine xp_aload_n rfl rfl ?_
  refine xp_gfa rfl rfl (by decide) (by decide) (by first | assumption | exact hL.t rfl) (by first | assumption | exact hL.r rfl | exact hL.2.2.2.2.2) ?_
  refine xp_iconst (n := 1) rfl (by decide) ?_
  refine xp_iload_n rfl rfl ?_
  refine xp_iadd rfl ?_
  refine xp_aload_n rfl rfl ?_
  refine xp_gfa rfl rfl (by decide) (by decide) (by first | assumption | exact hL.t rfl) (by first | assumption | exact hL.r rfl | exact hL.2.2.2.2.2) ?_
  refine xp_aload_n rfl rfl ?_
  refine xp_iv rfl rfl (Nat.le_of_ble_eq_true rfl) (by decide) (by decide) (by decide) (Nat.le_of_ble_eq_true rfl) rfl (xrcv1 (by decide) (by first | assumption | exact hL.t rfl)) (c54 hF0) rfl ?_
  refine xp_iv rfl rfl (Nat.le_of_ble_eq_true rfl) (by decide) (by decide) (by decide) (Nat.le_of_ble_eq_true rfl) rfl (xrcv1 (by decide) (by first | assumption | exact hL.t rfl)) (c24 hC hC (by omega) (by omega) (by omega) (by omega)) rfl ?_
  refine xp_aload_n rfl rfl ?_
  refine xp_dup rfl rfl ?_
  refine xp_gfi rfl rfl (by decide) (by decide) (by first | assumption | exact hL.t rfl) ?_
  refine xp_iconst (n := 1) rfl (by decide) ?_
  refine xp_isub rfl (by show 1 ≤ (xsI _ _ _ _).1 f 3; rw [xsI_ne (Or.inl (by omega))]; exact hs1) ?_
  refine xp_pfi rfl rfl (by decide) (by decide) (by decide) (by first | assumption | exact hL.t rfl) ?_
  refine xp_iconst (n := 0) rfl (by decide) ?_
  refine xp_ireturn rfl (by decide) (by decide) (by decide) ?_
  rfl
theorem c34_6 {z : Nat} {T : Nat → Option xT} {R : Nat → Nat → Option Nat} {A : xQ} {f a b w : Nat} (hL : xLay T R w) (hF : xF0 T R f) (hk : FOk w A f) (hs1 : 1 ≤ A.1 f 3) : xF 34 [.ref 11, .ref f, .int (nI 6), .int (nI a), .int (nI b)] (xm z T R A) (.inr (some (.int (nI (aInLine w A f 6 a b).1))), xm z T R (aInLine w A f 6 a b).2) := by
  have k6 := hk.2.2.1
  have ky := hk.c (c := 4 + A.1 f 3) (by omega)
  have hF0 := hF
  obtain ⟨f1, f2, hC⟩ := hF
  obtain ⟨c1, c2, c3, c4, c5⟩ := id hC
  refine xF_eq (xF_p (Nat.le_of_ble_eq_true rfl) ?_)
  refine xp_iload_n rfl rfl ?_
  refine xp_tsw 192 rfl (by omega) (by first | rfl | (rw [if_pos (by omega)]) | (rw [if_neg (by omega)]; rfl)) (by decide) ?_
  refine xp_aload_n rfl rfl ?_
  refine xp_dup rfl rfl ?_
  refine xp_gfi rfl rfl (by decide) (by decide) (by first | assumption | exact hL.t rfl) ?_
  refine xp_iconst (n := 1) rfl (by decide) ?_
  refine xp_isub rfl (by omega) ?_
  refine xp_pfi rfl rfl (by decide) (by decide) (by decide) (by first | assumption | exact hL.t rfl) ?_
  refine xp_iconst (n := 0) rfl (by decide) ?_
  refine xp_ireturn rfl (by decide) (by decide) (by decide) ?_
  rfl
theorem c34_7 {z : Nat} {T : Nat → Option xT} {R : Nat → Nat → Option Nat} {A : xQ} {f a b w : Nat} (hL : xLay T R w) (hF : xF0 T R f) (hk : FOk w A f) (hs1 : 1 ≤ A.1 f 3) : xF 34 [.ref 11, .ref f, .int (nI 7), .int (nI a), .int (nI b)] (xm z T R A) (.inr (some (.int (nI (aInLine w A f 7 a b).1))), xm z T R (aInLine w A f 7 a b).2) := by
  have k6 := hk.2.2.1
  have ky := hk.c (c := 4 + A.1 f 3) (by omega)
  have hF0 := hF
  obtain ⟨f1, f2, hC⟩ := hF
  obtain ⟨c1, c2, c3, c4, c5⟩ := id hC
  refine xF_eq (xF_p (Nat.le_of_ble_eq_true rfl) ?_)
  refine xp_iload_n rfl rfl ?_
  refine xp_tsw 204 rfl (by omega) (by first | rfl | (rw [if_pos (by omega)]) | (rw [if_neg (by omega)]; rfl)) (by decide) ?_
  refine xp_aload_n rfl rfl ?_
  refine xp_aload_n rfl rfl ?_
  refine xp_gfa rfl rfl (by decide) (by decide) (by first | assumption | exact hL.t rfl) (by first | assumption | exact hL.r rfl | exact hL.2.2.2.2.2) ?_
  refine xp_aload_n rfl rfl ?_
  refine xp_iv rfl rfl (Nat.le_of_ble_eq_true rfl) (by decide) (by decide) (by decide) (Nat.le_of_ble_eq_true rfl) rfl (xrcv1 (by decide) (by first | assumption | exact hL.t rfl)) (c54 hF0) rfl ?_
  refine xp_iv rfl rfl (Nat.le_of_ble_eq_true rfl) (by decide) (by decide) (by decide) (Nat.le_of_ble_eq_true rfl) rfl (xrcv1 (by decide) (by first | assumption | exact hL.t rfl)) (c56 hF0 hC (by omega) (by omega) k6) rfl ?_
  refine xp_ireturn rfl (by decide) (by decide) (by decide) ?_
  rfl
theorem c34_8 {z : Nat} {T : Nat → Option xT} {R : Nat → Nat → Option Nat} {A : xQ} {f a b w : Nat} (hL : xLay T R w) (hF : xF0 T R f) (hk : FOk w A f) (hs1 : 2 ≤ A.1 f 3) : xF 34 [.ref 11, .ref f, .int (nI 8), .int (nI a), .int (nI b)] (xm z T R A) (.inr (some (.int (nI (aInLine w A f 8 a b).1))), xm z T R (aInLine w A f 8 a b).2) := by
  have k6 := hk.2.2.1
  have kx := hk.c (c := 3 + A.1 f 3) (by omega)
  have ky := hk.c (c := 4 + A.1 f 3) (by omega)
  have hF0 := hF
  obtain ⟨f1, f2, hC⟩ := hF
  obtain ⟨c1, c2, c3, c4, c5⟩ := id hC
  refine xF_eq (xF_p (Nat.le_of_ble_eq_true rfl) ?_)
  refine xp_iload_n rfl rfl ?_
  refine xp_tsw 217 rfl (by omega) (by first | rfl | (rw [if_pos (by omega)]) | (rw [if_neg (by omega)]; rfl)) (by decide) ?_
  refine xp_aload_n rfl rfl ?_
  refine xp_aload_n rfl rfl ?_
  refine xp_iload_n rfl rfl ?_
  refine xp_iv rfl rfl (Nat.le_of_ble_eq_true rfl) (by decide) (by decide) (by decide) (Nat.le_of_ble_eq_true rfl) rfl (xrcv1 (by decide) (by first | assumption | exact hL.t rfl)) (c36 hL hF0 hs1 k6 kx ky (by omega) (by omega)) rfl ?_
  refine xp_ireturn rfl (by decide) (by decide) (by decide) ?_
  rfl
theorem c34_9 {z : Nat} {T : Nat → Option xT} {R : Nat → Nat → Option Nat} {A : xQ} {f a b w : Nat} (hL : xLay T R w) (hF : xF0 T R f) (hk : FOk w A f) (hs1 : 2 ≤ A.1 f 3) : xF 34 [.ref 11, .ref f, .int (nI 9), .int (nI a), .int (nI b)] (xm z T R A) (.inr (some (.int (nI (aInLine w A f 9 a b).1))), xm z T R (aInLine w A f 9 a b).2) := by
  have k6 := hk.2.2.1
  have kx := hk.c (c := 3 + A.1 f 3) (by omega)
  have ky := hk.c (c := 4 + A.1 f 3) (by omega)
  have hF0 := hF
  obtain ⟨f1, f2, hC⟩ := hF
  obtain ⟨c1, c2, c3, c4, c5⟩ := id hC
  refine xF_eq (xF_p (Nat.le_of_ble_eq_true rfl) ?_)
  refine xp_iload_n rfl rfl ?_
  refine xp_tsw 217 rfl (by omega) (by first | rfl | (rw [if_pos (by omega)]) | (rw [if_neg (by omega)]; rfl)) (by decide) ?_
  refine xp_aload_n rfl rfl ?_
  refine xp_aload_n rfl rfl ?_
  refine xp_iload_n rfl rfl ?_
  refine xp_iv rfl rfl (Nat.le_of_ble_eq_true rfl) (by decide) (by decide) (by decide) (Nat.le_of_ble_eq_true rfl) rfl (xrcv1 (by decide) (by first | assumption | exact hL.t rfl)) (c36 hL hF0 hs1 k6 kx ky (by omega) (by omega)) rfl ?_
  refine xp_ireturn rfl (by decide) (by decide) (by decide) ?_
  rfl
theorem c34_10 {z : Nat} {T : Nat → Option xT} {R : Nat → Nat → Option Nat} {A : xQ} {f a b w : Nat} (hL : xLay T R w) (hF : xF0 T R f) (hk : FOk w A f) (hs1 : 2 ≤ A.1 f 3) : xF 34 [.ref 11, .ref f, .int (nI 10), .int (nI a), .int (nI b)] (xm z T R A) (.inr (some (.int (nI (aInLine w A f 10 a b).1))), xm z T R (aInLine w A f 10 a b).2) := by
  have k6 := hk.2.2.1
  have kx := hk.c (c := 3 + A.1 f 3) (by omega)
  have ky := hk.c (c := 4 + A.1 f 3) (by omega)
  have hF0 := hF
  obtain ⟨f1, f2, hC⟩ := hF
  obtain ⟨c1, c2, c3, c4, c5⟩ := id hC
  refine xF_eq (xF_p (Nat.le_of_ble_eq_true rfl) ?_)
  refine xp_iload_n rfl rfl ?_
  refine xp_tsw 217 rfl (by omega) (by first | rfl | (rw [if_pos (by omega)]) | (rw [if_neg (by omega)]; rfl)) (by decide) ?_
  refine xp_aload_n rfl rfl ?_
  refine xp_aload_n rfl rfl ?_
  refine xp_iload_n rfl rfl ?_
  refine xp_iv rfl rfl (Nat.le_of_ble_eq_true rfl) (by decide) (by decide) (by decide) (Nat.le_of_ble_eq_true rfl) rfl (xrcv1 (by decide) (by first | assumption | exact hL.t rfl)) (c36 hL hF0 hs1 k6 kx ky (by omega) (by omega)) rfl ?_
  refine xp_ireturn rfl (by decide) (by decide) (by decide) ?_
  rfl
theorem c34_11 {z : Nat} {T : Nat → Option xT} {R : Nat → Nat → Option Nat} {A : xQ} {f a b w : Nat} (hL : xLay T R w) (hF : xF0 T R f) (hk : FOk w A f) (hs1 : 2 ≤ A.1 f 3) : xF 34 [.ref 11, .ref f, .int (nI 11), .int (nI a), .int (nI b)] (xm z T R A) (.inr (some (.int (nI (aInLine w A f 11 a b).1))), xm z T R (aInLine w A f 11 a b).2) := by
  have k6 := hk.2.2.1
  have kx := hk.c (c := 3 + A.1 f 3) (by omega)
  have ky := hk.c (c := 4 + A.1 f 3) (by omega)
  have hF0 := hF
  obtain ⟨f1, f2, hC⟩ := hF
  obtain ⟨c1, c2, c3, c4, c5⟩ := id hC
  refine xF_eq (xF_p (Nat.le_of_ble_eq_true rfl) ?_)
  refine xp_iload_n rfl rfl ?_
  refine xp_tsw 217 rfl (by omega) (by first | rfl | (rw [if_pos (by omega)]) | (rw [if_neg (by omega)]; rfl)) (by decide) ?_
  refine xp_aload_n rfl rfl ?_
  refine xp_aload_n rfl rfl ?_
  refine xp_iload_n rfl rfl ?_
  refine xp_iv rfl rfl (Nat.le_of_ble_eq_true rfl) (by decide) (by decide) (by decide) (Nat.le_of_ble_eq_true rfl) rfl (xrcv1 (by decide) (by first | assumption | exact hL.t rfl)) (c36 hL hF0 hs1 k6 kx ky (by omega) (by omega)) rfl ?_
  refine xp_ireturn rfl (by decide) (by decide) (by decide) ?_
  rfl
theorem c34_12 {z : Nat} {T : Nat → Option xT} {R : Nat → Nat → Option Nat} {A : xQ} {f a b w : Nat} (hL : xLay T R w) (hF : xF0 T R f) (hk : FOk w A f) (hs1 : 2 ≤ A.1 f 3) : xF 34 [.ref 11, .ref f, .int (nI 12), .int (nI a), .int (nI b)] (xm z T R A) (.inr (some (.int (nI (aInLine w A f 12 a b).1))), xm z T R (aInLine w A f 12 a b).2) := by
  have k6 := hk.2.2.1
  have kx := hk.c (c := 3 + A.1 f 3) (by omega)
  have ky := hk.c (c := 4 + A.1 f 3) (by omega)
  have hF0 := hF
  obtain ⟨f1, f2, hC⟩ := hF
  obtain ⟨c1, c2, c3, c4, c5⟩ := id hC
  refine xF_eq (xF_p (Nat.le_of_ble_eq_true rfl) ?_)
  refine xp_iload_n rfl rfl ?_
  refine xp_tsw 224 rfl (by omega) (by first | rfl | (rw [if_pos (by omega)]) | (rw [if_neg (by omega)]; rfl)) (by decide) ?_
  refine xp_aload_n rfl rfl ?_
  refine xp_aload_n rfl rfl ?_
  refine xp_iv rfl rfl (Nat.le_of_ble_eq_true rfl) (by decide) (by decide) (by decide) (Nat.le_of_ble_eq_true rfl) rfl (xrcv1 (by decide) (by first | assumption | exact hL.t rfl)) (c38 hL hF0 hs1 k6 kx ky) rfl ?_
  refine xp_ireturn rfl (by decide) (by decide) (by decide) ?_
  rfl
theorem c34_13 {z : Nat} {T : Nat → Option xT} {R : Nat → Nat → Option Nat} {A : xQ} {f a b w : Nat} (hL : xLay T R w) (hF : xF0 T R f) (hk : FOk w A f) (hs1 : 2 ≤ A.1 f 3) : xF 34 [.ref 11, .ref f, .int (nI 13), .int (nI a), .int (nI b)] (xm z T R A) (.inr (some (.int (nI (aInLine w A f 13 a b).1))), xm z T R (aInLine w A f 13 a b).2) := by
  have k6 := hk.2.2.1
  have kx := hk.c (c := 3 + A.1 f 3) (by omega)
  have ky := hk.c (c := 4 + A.1 f 3) (by omega)
  have hF0 := hF
  obtain ⟨f1, f2, hC⟩ := hF
  obtain ⟨c1, c2, c3, c4, c5⟩ := id hC
  have e0 : 4 + A.1 f 3 - 1 = 3 + A.1 f 3 := by omega
  have hb : ∀ p : Prop, [Decidable p] → (if p then 1 else 0) = 0 ∨ (if p then 1 else 0) = 1 := fun p _ => by split <;> simp
  refine xF_eq (xF_p (Nat.le_of_ble_eq_true rfl) ?_)
  refine xp_iload_n rfl rfl ?_
  refine xp_tsw 230 rfl (by omega) (by first | rfl | (rw [if_pos (by omega)]) | (rw [if_neg (by omega)]; rfl)) (by decide) ?_
  refine xp_aload_n rfl rfl ?_
  refine xp_aload_n rfl rfl ?_
  refine xp_aload_n rfl rfl ?_
  refine xp_gfa rfl rfl (by decide) (by decide) (by first | assumption | exact hL.t rfl) (by first | assumption | exact hL.r rfl | exact hL.2.2.2.2.2) ?_
  refine xp_aload_n rfl rfl ?_
  refine xp_iv rfl rfl (Nat.le_of_ble_eq_true rfl) (by decide) (by decide) (by decide) (Nat.le_of_ble_eq_true rfl) rfl (xrcv1 (by decide) (by first | assumption | exact hL.t rfl)) (c54 hF0) rfl ?_
  refine xp_iconst (n := 1) rfl (by decide) ?_
  refine xp_isub rfl (by omega) ?_
  rw [e0]
  refine xp_aload_n rfl rfl ?_
  refine xp_iv rfl rfl (Nat.le_of_ble_eq_true rfl) (by decide) (by decide) (by decide) (Nat.le_of_ble_eq_true rfl) rfl (xrcv1 (by decide) (by first | assumption | exact hL.t rfl)) (c54 hF0) rfl ?_
  refine xp_iv rfl rfl (Nat.le_of_ble_eq_true rfl) (by decide) (by decide) (by decide) (Nat.le_of_ble_eq_true rfl) rfl (xrcv1 (by decide) (by first | assumption | exact hL.t rfl)) (c27 hC (by omega) (by omega) (by omega) (by omega) (by omega)) rfl ?_
  refine xp_iv rfl rfl (Nat.le_of_ble_eq_true rfl) (by decide) (by decide) (by decide) (Nat.le_of_ble_eq_true rfl) rfl (xrcv1 (by decide) (by first | assumption | exact hL.t rfl)) (c39 hL hF0 hs1 k6 (hb _)) rfl ?_
  refine xp_ireturn rfl (by decide) (by decide) (by decide) ?_
  rfl
theorem c34_24 {z : Nat} {T : Nat → Option xT} {R : Nat → Nat → Option Nat} {A : xQ} {f a b w : Nat} (hL : xLay T R w) (hF : xF0 T R f) (hk : FOk w A f) (hs1 : 1 ≤ A.1 f 3) : xF 34 [.ref 11, .ref f, .int (nI 24), .int (nI a), .int (nI b)] (xm z T R A) (.inr (some (.int (nI (aInLine w A f 24 a b).1))), xm z T R (aInLine w A f 24 a b).2) := by
  have k6 := hk.2.2.1
  have ky := hk.c (c := 4 + A.1 f 3) (by omega)
  have hF0 := hF
  obtain ⟨f1, f2, hC⟩ := hF
  obtain ⟨c1, c2, c3, c4, c5⟩ := id hC
  refine xF_eq (xF_p (Nat.le_of_ble_eq_true rfl) ?_)
  refine xp_iload_n rfl rfl ?_
  refine xp_tsw 253 rfl (by omega) (by first | rfl | (rw [if_pos (by omega)]) | (rw [if_neg (by omega)]; rfl)) (by decide) ?_
  refine xp_aload_n rfl rfl ?_
  refine xp_aload_n rfl rfl ?_
  refine xp_iv rfl rfl (Nat.le_of_ble_eq_true rfl) (by decide) (by decide) (by decide) (Nat.le_of_ble_eq_true rfl) rfl (xrcv1 (by decide) (by first | assumption | exact hL.t rfl)) (c41 hL hF0 hs1 k6 ky) rfl ?_
  refine xp_ireturn rfl (by decide) (by decide) (by decide) ?_
  rfl
theorem c34_25 {z : Nat} {T : Nat → Option xT} {R : Nat → Nat → Option Nat} {A : xQ} {f a b w : Nat} (hL : xLay T R w) (hF : xF0 T R f) (hk : FOk w A f) (hs1 : 1 ≤ A.1 f 3) (hsd : A.1 11 3 < 2 ^ 31) : xF 34 [.ref 11, .ref f, .int (nI 25), .int (nI a), .int (nI b)] (xm z T R A) (.inr (some (.int (nI (aInLine w A f 25 a b).1))), xm z T R (aInLine w A f 25 a b).2) := by
  have k6 := hk.2.2.1
  have ky := hk.c (c := 4 + A.1 f 3) (by omega)
  have hF0 := hF
  obtain ⟨f1, f2, hC⟩ := hF
  obtain ⟨c1, c2, c3, c4, c5⟩ := id hC
  refine xF_eq (xF_p (Nat.le_of_ble_eq_true rfl) ?_)
  refine xp_iload_n rfl rfl ?_
  refine xp_tsw 259 rfl (by omega) (by first | rfl | (rw [if_pos (by omega)]) | (rw [if_neg (by omega)]; rfl)) (by decide) ?_
  refine xp_aload_n rfl rfl ?_
  refine xp_aload_n rfl rfl ?_
  refine xp_iv rfl rfl (Nat.le_of_ble_eq_true rfl) (by decide) (by decide) (by decide) (Nat.le_of_ble_eq_true rfl) rfl (xrcv1 (by decide) (by first | assumption | exact hL.t rfl)) (c42 hL hF0 hs1 k6 ky hsd) rfl ?_
  refine xp_ireturn rfl (by decide) (by decide) (by decide) ?_
  rfl
theorem c34_26 {z : Nat} {T : Nat → Option xT} {R : Nat → Nat → Option Nat} {A : xQ} {f a b w : Nat} (hL : xLay T R w) (hF : xF0 T R f) (hk : FOk w A f) (hc3 : A.1 w 2 ≤ 3) (hf1 : w < f) (hf2 : f < w + 11 + 25 * A.1 w 2) (ha : a < 6) (hn : A.1 2 a ≤ 2) (hns : A.1 2 a ≤ A.1 f 3) : xF 34 [.ref 11, .ref f, .int (nI 26), .int (nI a), .int (nI b)] (xm z T R A) (.inr (some (.int (nI (aInLine w A f 26 a b).1))), xm z T R (aInLine w A f 26 a b).2) := by
  have k6 := hk.2.2.1
  have hF0 := hF
  obtain ⟨f1, f2, hC⟩ := hF
  obtain ⟨c1, c2, c3, c4, c5⟩ := id hC
  refine xF_eq (xF_p (Nat.le_of_ble_eq_true rfl) ?_)
  refine xp_iload_n rfl rfl ?_
  refine xp_tsw 265 rfl (by omega) (by first | rfl | (rw [if_pos (by omega)]) | (rw [if_neg (by omega)]; rfl)) (by decide) ?_
  refine xp_aload_n rfl rfl ?_
  refine xp_aload_n rfl rfl ?_
  refine xp_iload_n rfl rfl ?_
  refine xp_iv rfl rfl (Nat.le_of_ble_eq_true rfl) (by decide) (by decide) (by decide) (Nat.le_of_ble_eq_true rfl) rfl (xrcv1 (by decide) (by first | assumption | exact hL.t rfl)) (c43 hL hF0 hc3 hf1 hf2 k6 ha hn hns) rfl ?_
  refine xp_ireturn rfl (by decide) (by decide) (by decide) ?_
  rfl
theorem c34_27 {z : Nat} {T : Nat → Option xT} {R : Nat → Nat → Option Nat} {A : xQ} {f a b w : Nat} (hL : xLay T R w) (hF : xF0 T R f) (hk : FOk w A f) : xF 34 [.ref 11, .ref f, .int (nI 27), .int (nI a), .int (nI b)] (xm z T R A) (.inr (some (.int (nI (aInLine w A f 27 a b).1))), xm z T R (aInLine w A f 27 a b).2) := by
  have k6 := hk.2.2.1
  have hF0 := hF
  obtain ⟨f1, f2, hC⟩ := hF
  obtain ⟨c1, c2, c3, c4, c5⟩ := id hC
  refine xF_eq (xF_p (Nat.le_of_ble_eq_true rfl) ?_)
  refine xp_iload_n rfl rfl ?_
  refine xp_tsw 272 rfl (by omega) (by first | rfl | (rw [if_pos (by omega)]) | (rw [if_neg (by omega)]; rfl)) (by decide) ?_
  refine xp_iconst (n := 0) rfl (by decide) ?_
  refine xp_ireturn rfl (by decide) (by decide) (by decide) ?_
  rfl
theorem aDropL (w : Nat) : ∀ (m i : Nat) (B : xQ), (xit (fun i B => if B.1 (w + 9) i = 4294967295 then xsI B (w + 3) i 0 else B) m i B).2 = B.2 ∧ (∀ b j, b ≠ w + 3 → (xit (fun i B => if B.1 (w + 9) i = 4294967295 then xsI B (w + 3) i 0 else B) m i B).1 b j = B.1 b j) ∧ ∀ o, (xit (fun i B => if B.1 (w + 9) i = 4294967295 then xsI B (w + 3) i 0 else B) m i B).1 (w + 3) o = if i ≤ o ∧ o < i + m ∧ B.1 (w + 9) o = 4294967295 then 0 else B.1 (w + 3) o := by
  intro m
  induction m with
  | zero => intro i B; exact ⟨rfl, fun _ _ _ => rfl, fun o => by rw [if_neg (by omega)]; rfl⟩
  | succ m ih =>
    intro i B
    obtain ⟨q1, q2, q3⟩ := ih (i + 1) (if B.1 (w + 9) i = 4294967295 then xsI B (w + 3) i 0 else B)
    refine ⟨?_, ?_, ?_⟩
    · show (xit _ m (i + 1) _).2 = _
      rw [q1]; split <;> rfl
    · intro b j hb
      show (xit _ m (i + 1) _).1 b j = _
      rw [q2 b j hb]
      split
      · exact xsI_ne (Or.inl hb)
      · rfl
    · intro o
      show (xit _ m (i + 1) _).1 (w + 3) o = _
      rw [q3 o]
      have e9 : ∀ j, (if B.1 (w + 9) i = 4294967295 then xsI B (w + 3) i 0 else B).1 (w + 9) j = B.1 (w + 9) j := by
        intro j
        split
        · exact xsI_ne (Or.inl (by omega))
        · rfl
      rw [e9]
      by_cases ho : o = i
      · subst ho
        rw [if_neg (by omega)]
        by_cases hu : B.1 (w + 9) o = 4294967295
        · rw [if_pos hu, if_pos ⟨by omega, by omega, hu⟩, xsI_eq]
        · rw [if_neg hu, if_neg (fun z => hu z.2.2)]
      · have e3 : (if B.1 (w + 9) i = 4294967295 then xsI B (w + 3) i 0 else B).1 (w + 3) o = B.1 (w + 3) o := by
          split
          · exact xsI_ne (Or.inr ho)
          · rfl
        rw [e3]
        by_cases hu : i ≤ o ∧ o < i + (m + 1) ∧ B.1 (w + 9) o = 4294967295
        · rw [if_pos hu, if_pos ⟨by omega, by omega, hu.2.2⟩]
        · rw [if_neg hu, if_neg (fun z => hu ⟨by omega, by omega, z.2.2⟩)]
theorem aDrop_all (w : Nat) (A : xQ) : (aDrop w A).2 = A.2 ∧ (∀ b j, b ≠ w + 3 → (b ≠ w + 2 ∨ j ≠ 4) → (aDrop w A).1 b j = A.1 b j) ∧ ∀ o, (aDrop w A).1 (w + 3) o = if o < 24 ∧ A.1 (w + 9) o = 4294967295 then 0 else A.1 (w + 3) o := by
  obtain ⟨q1, q2, q3⟩ := aDropL w 24 0 A
  unfold aDrop
  generalize xit (fun i B => if B.1 (w + 9) i = 4294967295 then xsI B (w + 3) i 0 else B) 24 0 A = X at q1 q2 q3 ⊢
  refine ⟨q1, fun b j hb hj => ?_, fun o => ?_⟩
  · rw [xsI_ne hj, q2 b j hb]
  · rw [xsI_ne (Or.inl (by omega)), q3 o]
    by_cases hu : o < 24 ∧ A.1 (w + 9) o = 4294967295
    · rw [if_pos hu, if_pos ⟨by omega, by omega, hu.2⟩]
    · rw [if_neg hu, if_neg (fun z => hu ⟨by omega, z.2.2⟩)]
/-- what making room keeps -/
theorem aRoom_k {T : Nat → Option xT} {R : Nat → Nat → Option Nat} {w : Nat} {A : xQ} (hW : xW0 T R w) (hk : WOk w A) : (aRoom w A).2 = A.2 ∧ (∀ b j, b ≠ w + 2 → b ≠ w + 3 → b ≠ w + 9 → b ≠ w + 10 → (aRoom w A).1 b j = A.1 b j) ∧ ∀ o, (aRoom w A).1 (w + 3) o = 0 ∨ (aRoom w A).1 (w + 3) o = A.1 (w + 3) o := by
  unfold aRoom
  split
  · obtain ⟨q1, q2, q3⟩ := aDrop_all w (aFind w A)
    have hs := Srch.find hW hk
    refine ⟨by rw [q1, hs.1.1], fun b j h2 h3 h9 h10 => ?_, fun o => ?_⟩
    · rw [q2 b j h3 (Or.inl h2), hs.1.2 b j h9 h10 (Or.inl h2)]
    · rw [q3 o]
      split
      · exact Or.inl rfl
      · exact Or.inr (hs.1.2 _ _ (by omega) (by omega) (Or.inl (by omega)))
  · exact ⟨rfl, fun _ _ _ _ _ _ => rfl, fun _ => Or.inr rfl⟩
def aOnObj (w : Nat) (A : xQ) (f op a b : Nat) : Nat × xQ := match op with
  | 16 => if (aRoom w A).1 (w + 2) 4 < 24 then aRecord w (aRoom w A) f else (4, aRoom w A)
  | 17 => aGet w A f a
  | 18 => aPut w A f a
  | 19 => if (aRoom w A).1 (w + 2) 4 < 24 then aClosure w (aRoom w A) f a b else (4, aRoom w A)
  | _ => aHeld w A f a
theorem c35_16 {z : Nat} {T : Nat → Option xT} {R : Nat → Nat → Option Nat} {A : xQ} {f a b w : Nat} (hL : xLay T R w) (hF : xF0 T R f) (hk : FOk w A f) (hw : WOk w A) (hc24 : A.1 (w + 2) 4 ≤ 24) : xF 35 [.ref 11, .ref f, .int (nI 16), .int (nI a), .int (nI b)] (xm z T R A) (.inr (some (.int (nI (aOnObj w A f 16 a b).1))), xm z T R (aOnObj w A f 16 a b).2) := by
  have k6 := hk.2.2.1
  have hF0 := hF
  obtain ⟨f1, f2, hC⟩ := hF
  obtain ⟨c1, c2, c3, c4, c5⟩ := id hC
  have hW := hL.w hL.1
  have hH := hW.2.2.2.2.1
  have w1 := hW.1
  have w2 := hW.2.1
  have w3 := hW.2.2.1
  have w4 := hW.2.2.2.1
  obtain ⟨h1, h2, h3, h4, h5, h6, h7, h8, h9, h10, h11, h12, hCC⟩ := id hH
  obtain ⟨d1, d2, d3, d4, d5⟩ := id hCC
  obtain ⟨g1, g2, g3⟩ := aRoom_k hW hw
  obtain ⟨n1, n2, n3, n4, n5⟩ := xF0.k hW hF0
  have nn := xF0.ne hW hF0
  have e3 : (aRoom w A).1 f 3 = A.1 f 3 := g2 f 3 nn.2.1 nn.2.2.1 (by omega) (by omega)
  have hkb : ∀ o, o < 24 → (aRoom w A).1 (w + 3) o < 2 ^ 31 := fun o ho => by
    have q1 := (hw.2.2 o ho).1
    have q2 := g3 o
    omega
  unfold aOnObj
  by_cases hr : (aRoom w A).1 (w + 2) 4 < 24
  · have er : (if (aRoom w A).1 (w + 2) 4 < 24 then 1 else 0) = 1 := if_pos hr
    have hm := c102 (z := z) hW hw hc24
    rw [er] at hm
    simp only [if_pos hr]
    refine xF_eq (xF_p (Nat.le_of_ble_eq_true rfl) ?_)
    refine xp_iload_n rfl rfl ?_
    refine xp_tsw 32 rfl (by omega) (by first | rfl | (rw [if_pos (by omega)]) | (rw [if_neg (by omega)]; rfl)) (by decide) ?_
    refine xp_aload_n rfl rfl ?_
    refine xp_gfa rfl rfl (by decide) (by decide) (by first | assumption | exact hL.t rfl) (by first | assumption | exact hL.r rfl | exact hL.2.2.2.2.2) ?_
    refine xp_iv rfl rfl (Nat.le_of_ble_eq_true rfl) (by decide) (by decide) (by decide) (Nat.le_of_ble_eq_true rfl) rfl (xrcv1 (by decide) (by first | assumption | exact hL.t rfl)) (hm) rfl ?_
    refine xp_ifeq 50 rfl (by decide) (by omega) (fun h39 => ?_) (fun h39 => ?_)
    · exfalso; omega
    · skip
      refine xp_aload_n rfl rfl ?_
      refine xp_aload_n rfl rfl ?_
      refine xp_iv rfl rfl (Nat.le_of_ble_eq_true rfl) (by decide) (by decide) (by decide) (Nat.le_of_ble_eq_true rfl) rfl (xrcv1 (by decide) (by first | assumption | exact hL.t rfl)) (c44 hL hF0 (by omega) hkb) rfl ?_
      refine xp_goto 51 rfl (by decide) ?_
      refine xp_ireturn rfl (by decide) (by decide) (by decide) ?_
      rfl
  · have er : (if (aRoom w A).1 (w + 2) 4 < 24 then 1 else 0) = 0 := if_neg hr
    have hm := c102 (z := z) hW hw hc24
    rw [er] at hm
    simp only [if_neg hr]
    refine xF_eq (xF_p (Nat.le_of_ble_eq_true rfl) ?_)
    refine xp_iload_n rfl rfl ?_
    refine xp_tsw 32 rfl (by omega) (by first | rfl | (rw [if_pos (by omega)]) | (rw [if_neg (by omega)]; rfl)) (by decide) ?_
    refine xp_aload_n rfl rfl ?_
    refine xp_gfa rfl rfl (by decide) (by decide) (by first | assumption | exact hL.t rfl) (by first | assumption | exact hL.r rfl | exact hL.2.2.2.2.2) ?_
    refine xp_iv rfl rfl (Nat.le_of_ble_eq_true rfl) (by decide) (by decide) (by decide) (Nat.le_of_ble_eq_true rfl) rfl (xrcv1 (by decide) (by first | assumption | exact hL.t rfl)) (hm) rfl ?_
    refine xp_ifeq 50 rfl (by decide) (by omega) (fun h39 => ?_) (fun h39 => ?_)
    · skip
      refine xp_iconst (n := 4) rfl (by decide) ?_
      refine xp_ireturn rfl (by decide) (by decide) (by decide) ?_
      rfl
    · exfalso; omega
theorem c35_17 {z : Nat} {T : Nat → Option xT} {R : Nat → Nat → Option Nat} {A : xQ} {f a b w : Nat} (hL : xLay T R w) (hF : xF0 T R f) (hk : FOk w A f) (hw : WOk w A) (hs1 : 1 ≤ A.1 f 3) (ha : a ≤ 2) : xF 35 [.ref 11, .ref f, .int (nI 17), .int (nI a), .int (nI b)] (xm z T R A) (.inr (some (.int (nI (aOnObj w A f 17 a b).1))), xm z T R (aOnObj w A f 17 a b).2) := by
  have k6 := hk.2.2.1
  have hF0 := hF
  obtain ⟨f1, f2, hC⟩ := hF
  obtain ⟨c1, c2, c3, c4, c5⟩ := id hC
  have hW := hL.w hL.1
  have hH := hW.2.2.2.2.1
  have w1 := hW.1
  have w2 := hW.2.1
  have w3 := hW.2.2.1
  have w4 := hW.2.2.2.1
  obtain ⟨h1, h2, h3, h4, h5, h6, h7, h8, h9, h10, h11, h12, hCC⟩ := id hH
  obtain ⟨d1, d2, d3, d4, d5⟩ := id hCC
  refine xF_eq (xF_p (Nat.le_of_ble_eq_true rfl) ?_)
  refine xp_iload_n rfl rfl ?_
  refine xp_tsw 52 rfl (by omega) (by first | rfl | (rw [if_pos (by omega)]) | (rw [if_neg (by omega)]; rfl)) (by decide) ?_
  refine xp_aload_n rfl rfl ?_
  refine xp_aload_n rfl rfl ?_
  refine xp_iload_n rfl rfl ?_
  refine xp_iv rfl rfl (Nat.le_of_ble_eq_true rfl) (by decide) (by decide) (by decide) (Nat.le_of_ble_eq_true rfl) rfl (xrcv1 (by decide) (by first | assumption | exact hL.t rfl)) (c47 hL hF0 hs1 k6 (hk.c (by omega)) (fun q => (hk.o (by omega) (by omega)).1) (by omega)) rfl ?_
  refine xp_ireturn rfl (by decide) (by decide) (by decide) ?_
  rfl
theorem c35_18 {z : Nat} {T : Nat → Option xT} {R : Nat → Nat → Option Nat} {A : xQ} {f a b w : Nat} (hL : xLay T R w) (hF : xF0 T R f) (hk : FOk w A f) (hw : WOk w A) (hs1 : 2 ≤ A.1 f 3) (ha : a ≤ 2) : xF 35 [.ref 11, .ref f, .int (nI 18), .int (nI a), .int (nI b)] (xm z T R A) (.inr (some (.int (nI (aOnObj w A f 18 a b).1))), xm z T R (aOnObj w A f 18 a b).2) := by
  have k6 := hk.2.2.1
  have hF0 := hF
  obtain ⟨f1, f2, hC⟩ := hF
  obtain ⟨c1, c2, c3, c4, c5⟩ := id hC
  have hW := hL.w hL.1
  have hH := hW.2.2.2.2.1
  have w1 := hW.1
  have w2 := hW.2.1
  have w3 := hW.2.2.1
  have w4 := hW.2.2.2.1
  obtain ⟨h1, h2, h3, h4, h5, h6, h7, h8, h9, h10, h11, h12, hCC⟩ := id hH
  obtain ⟨d1, d2, d3, d4, d5⟩ := id hCC
  refine xF_eq (xF_p (Nat.le_of_ble_eq_true rfl) ?_)
  refine xp_iload_n rfl rfl ?_
  refine xp_tsw 59 rfl (by omega) (by first | rfl | (rw [if_pos (by omega)]) | (rw [if_neg (by omega)]; rfl)) (by decide) ?_
  refine xp_aload_n rfl rfl ?_
  refine xp_aload_n rfl rfl ?_
  refine xp_iload_n rfl rfl ?_
  refine xp_iv rfl rfl (Nat.le_of_ble_eq_true rfl) (by decide) (by decide) (by decide) (Nat.le_of_ble_eq_true rfl) rfl (xrcv1 (by decide) (by first | assumption | exact hL.t rfl)) (c48 hL hF0 hs1 k6 (hk.c (by omega)) (fun q => (hk.o (by omega) (by omega)).1) (by omega)) rfl ?_
  refine xp_ireturn rfl (by decide) (by decide) (by decide) ?_
  rfl
theorem c35_19 {z : Nat} {T : Nat → Option xT} {R : Nat → Nat → Option Nat} {A : xQ} {f a b w : Nat} (hL : xLay T R w) (hF : xF0 T R f) (hk : FOk w A f) (hw : WOk w A) (hc24 : A.1 (w + 2) 4 ≤ 24) (hs1 : b ≤ A.1 f 3) (hb : b ≤ 2) : xF 35 [.ref 11, .ref f, .int (nI 19), .int (nI a), .int (nI b)] (xm z T R A) (.inr (some (.int (nI (aOnObj w A f 19 a b).1))), xm z T R (aOnObj w A f 19 a b).2) := by
  have k6 := hk.2.2.1
  have hF0 := hF
  obtain ⟨f1, f2, hC⟩ := hF
  obtain ⟨c1, c2, c3, c4, c5⟩ := id hC
  have hW := hL.w hL.1
  have hH := hW.2.2.2.2.1
  have w1 := hW.1
  have w2 := hW.2.1
  have w3 := hW.2.2.1
  have w4 := hW.2.2.2.1
  obtain ⟨h1, h2, h3, h4, h5, h6, h7, h8, h9, h10, h11, h12, hCC⟩ := id hH
  obtain ⟨d1, d2, d3, d4, d5⟩ := id hCC
  obtain ⟨g1, g2, g3⟩ := aRoom_k hW hw
  obtain ⟨n1, n2, n3, n4, n5⟩ := xF0.k hW hF0
  have nn := xF0.ne hW hF0
  have e3 : (aRoom w A).1 f 3 = A.1 f 3 := g2 f 3 nn.2.1 nn.2.2.1 (by omega) (by omega)
  have hkb : ∀ o, o < 24 → (aRoom w A).1 (w + 3) o < 2 ^ 31 := fun o ho => by
    have q1 := (hw.2.2 o ho).1
    have q2 := g3 o
    omega
  unfold aOnObj
  by_cases hr : (aRoom w A).1 (w + 2) 4 < 24
  · have er : (if (aRoom w A).1 (w + 2) 4 < 24 then 1 else 0) = 1 := if_pos hr
    have hm := c102 (z := z) hW hw hc24
    rw [er] at hm
    simp only [if_pos hr]
    refine xF_eq (xF_p (Nat.le_of_ble_eq_true rfl) ?_)
    refine xp_iload_n rfl rfl ?_
    refine xp_tsw 66 rfl (by omega) (by first | rfl | (rw [if_pos (by omega)]) | (rw [if_neg (by omega)]; rfl)) (by decide) ?_
    refine xp_aload_n rfl rfl ?_
    refine xp_gfa rfl rfl (by decide) (by decide) (by first | assumption | exact hL.t rfl) (by first | assumption | exact hL.r rfl | exact hL.2.2.2.2.2) ?_
    refine xp_iv rfl rfl (Nat.le_of_ble_eq_true rfl) (by decide) (by decide) (by decide) (Nat.le_of_ble_eq_true rfl) rfl (xrcv1 (by decide) (by first | assumption | exact hL.t rfl)) (hm) rfl ?_
    refine xp_ifeq 87 rfl (by decide) (by omega) (fun h73 => ?_) (fun h73 => ?_)
    · exfalso; omega
    · skip
      refine xp_aload_n rfl rfl ?_
      refine xp_aload_n rfl rfl ?_
      refine xp_iload_n rfl rfl ?_
      refine xp_iload rfl rfl ?_
      refine xp_iv rfl rfl (Nat.le_of_ble_eq_true rfl) (by decide) (by decide) (by decide) (Nat.le_of_ble_eq_true rfl) rfl (xrcv1 (by decide) (by first | assumption | exact hL.t rfl)) (c45 hL hF0 (by omega) hb (by omega) hkb) rfl ?_
      refine xp_goto 88 rfl (by decide) ?_
      refine xp_ireturn rfl (by decide) (by decide) (by decide) ?_
      rfl
  · have er : (if (aRoom w A).1 (w + 2) 4 < 24 then 1 else 0) = 0 := if_neg hr
    have hm := c102 (z := z) hW hw hc24
    rw [er] at hm
    simp only [if_neg hr]
    refine xF_eq (xF_p (Nat.le_of_ble_eq_true rfl) ?_)
    refine xp_iload_n rfl rfl ?_
    refine xp_tsw 66 rfl (by omega) (by first | rfl | (rw [if_pos (by omega)]) | (rw [if_neg (by omega)]; rfl)) (by decide) ?_
    refine xp_aload_n rfl rfl ?_
    refine xp_gfa rfl rfl (by decide) (by decide) (by first | assumption | exact hL.t rfl) (by first | assumption | exact hL.r rfl | exact hL.2.2.2.2.2) ?_
    refine xp_iv rfl rfl (Nat.le_of_ble_eq_true rfl) (by decide) (by decide) (by decide) (Nat.le_of_ble_eq_true rfl) rfl (xrcv1 (by decide) (by first | assumption | exact hL.t rfl)) (hm) rfl ?_
    refine xp_ifeq 87 rfl (by decide) (by omega) (fun h73 => ?_) (fun h73 => ?_)
    · skip
      refine xp_iconst (n := 4) rfl (by decide) ?_
      refine xp_ireturn rfl (by decide) (by decide) (by decide) ?_
      rfl
    · exfalso; omega
theorem c35_20 {z : Nat} {T : Nat → Option xT} {R : Nat → Nat → Option Nat} {A : xQ} {f a b w : Nat} (hL : xLay T R w) (hF : xF0 T R f) (hk : FOk w A f) (hw : WOk w A) (ha : a ≤ 1) : xF 35 [.ref 11, .ref f, .int (nI 20), .int (nI a), .int (nI b)] (xm z T R A) (.inr (some (.int (nI (aOnObj w A f 20 a b).1))), xm z T R (aOnObj w A f 20 a b).2) := by
  have k6 := hk.2.2.1
  have hF0 := hF
  obtain ⟨f1, f2, hC⟩ := hF
  obtain ⟨c1, c2, c3, c4, c5⟩ := id hC
  have hW := hL.w hL.1
  have hH := hW.2.2.2.2.1
  have w1 := hW.1
  have w2 := hW.2.1
  have w3 := hW.2.2.1
  have w4 := hW.2.2.2.1
  obtain ⟨h1, h2, h3, h4, h5, h6, h7, h8, h9, h10, h11, h12, hCC⟩ := id hH
  obtain ⟨d1, d2, d3, d4, d5⟩ := id hCC
  refine xF_eq (xF_p (Nat.le_of_ble_eq_true rfl) ?_)
  refine xp_iload_n rfl rfl ?_
  refine xp_tsw 89 rfl (by omega) (by first | rfl | (rw [if_pos (by omega)]) | (rw [if_neg (by omega)]; rfl)) (by decide) ?_
  refine xp_aload_n rfl rfl ?_
  refine xp_aload_n rfl rfl ?_
  refine xp_iload_n rfl rfl ?_
  refine xp_iv rfl rfl (Nat.le_of_ble_eq_true rfl) (by decide) (by decide) (by decide) (Nat.le_of_ble_eq_true rfl) rfl (xrcv1 (by decide) (by first | assumption | exact hL.t rfl)) (c49 hL hF0 k6 (hk.c (by omega)) (fun q => ⟨(hk.o (by omega) (by omega)).1, (hw.2.2 _ (hk.o (by omega) (by omega)).1).sz (by rw [(hk.o (c := 0) (by omega) (by omega)).2]; omega)⟩) (by omega)) rfl ?_
  refine xp_ireturn rfl (by decide) (by decide) (by decide) ?_
  rfl
