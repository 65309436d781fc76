-- load: the class's reader, bytes and values
/-- a byte is read -/
def aRb (lo hi : Nat) (A : xQ) : Nat × xQ := if A.1 102 2 = 4294967294 then (if A.1 102 4 < A.1 99 1 ∧ lo ≤ A.1 100 (A.1 102 4) ∧ A.1 100 (A.1 102 4) ≤ hi then (A.1 100 (A.1 102 4), xsI A 102 4 (A.1 102 4 + 1)) else (lo, xsI A 102 2 (A.1 102 4))) else (lo, A)
def aRef (A : xQ) : xQ := if A.1 102 2 = 4294967294 then xsI A 102 2 (A.1 102 4 - 1) else A
/-- the reader is sound -/
def CI (u : Nat) (A : xQ) : Prop := A.1 99 1 ≤ 2400 ∧ (∀ i, i < A.1 99 1 → A.1 100 i < 256) ∧ A.1 102 4 ≤ A.1 99 1 ∧ (A.1 102 2 = 4294967294 ∨ A.1 102 2 ≤ 2400) ∧ A.1 (u + 2) 4 ≤ A.1 102 5 ∧ A.1 102 5 ≤ 24 ∧ ∀ o, o < 24 → (o < A.1 (u + 2) 4 → A.1 (u + 3) o = 3 ∨ A.1 (u + 3) o = 4) ∧ (A.1 (u + 2) 4 ≤ o → A.1 (u + 3) o = 0)
theorem c80 {z : Nat} {T : Nat → Option xT} {R : Nat → Nat → Option Nat} {A : xQ} {w lo hi : Nat} (hL : xLay T R w) (h1 : A.1 99 1 ≤ 2400) (h2 : ∀ i, i < A.1 99 1 → A.1 100 i < 256) (h3 : A.1 102 4 ≤ A.1 99 1) (h4 : A.1 102 2 < 2 ^ 32) (hlo : lo < 2 ^ 31) (hhi : hi < 2 ^ 31) : xF 80 [.ref 102, .int (nI lo), .int (nI hi)] (xm z T R A) (.inr (some (.int (nI (aRb lo hi A).1))), xm z T R (aRb lo hi A).2) := by
  have e1 : (xsI A 102 4 (A.1 102 4 + 1)).1 102 4 = A.1 102 4 + 1 := xsI_eq
  have e2 : (xsI A 102 4 (A.1 102 4 + 1)).1 100 (A.1 102 4) = A.1 100 (A.1 102 4) := xsI_ne (by omega)
  have hb : A.1 102 4 < A.1 99 1 → A.1 100 (A.1 102 4) < 256 := fun q => h2 _ q
  unfold aRb
  refine xF_eq (xF_p (Nat.le_of_ble_eq_true rfl) ?_)
  refine xp_aload_n rfl rfl ?_
  refine xp_gfi rfl rfl (by decide) (by decide) (by first | assumption | exact hL.t rfl) ?_
  refine xp_bipush (n := 4294967294) rfl (by decide) ?_
  refine xp_iceq 11 rfl (by decide) (by omega) (by omega) (fun h6 => ?_) (fun h6 => ?_)
  · skip
    refine xp_aload_n rfl rfl ?_
    refine xp_gfi rfl rfl (by decide) (by decide) (by first | assumption | exact hL.t rfl) ?_
    refine xp_aload_n rfl rfl ?_
    refine xp_gfa rfl rfl (by decide) (by decide) (by first | assumption | exact hL.t rfl) (by first | assumption | exact hL.r rfl | exact hL.2.2.2.2.2) ?_
    refine xp_gfi rfl rfl (by decide) (by decide) (by first | assumption | exact hL.t rfl) ?_
    refine xp_icge 57 rfl (by decide) (by omega) (by omega) (fun h22 => ?_) (fun h22 => ?_)
    · skip
      refine xp_aload_n rfl rfl ?_
      refine xp_aload_n rfl rfl ?_
      refine xp_gfi rfl rfl (by decide) (by decide) (by first | assumption | exact hL.t rfl) ?_
      refine xp_pfi rfl rfl (by decide) (by decide) (by decide) (by first | assumption | exact hL.t rfl) ?_
      refine xp_iload_n rfl rfl ?_
      refine xp_ireturn rfl (by decide) (by decide) (by decide) ?_
      repeat (first | rw [if_pos (by omega)] | rw [if_neg (by omega)])
    · skip
      have hb2 := hb (by omega)
      refine xp_aload_n rfl rfl ?_
      refine xp_gfa rfl rfl (by decide) (by decide) (by first | assumption | exact hL.t rfl) (by first | assumption | exact hL.r rfl | exact hL.2.2.2.2.2) ?_
      refine xp_gfa rfl rfl (by decide) (by decide) (by first | assumption | exact hL.t rfl) (by first | assumption | exact hL.r rfl | exact hL.2.2.2.2.2) ?_
      refine xp_aload_n rfl rfl ?_
      refine xp_gfi rfl rfl (by decide) (by decide) (by first | assumption | exact hL.t rfl) ?_
      refine xp_iald rfl (by first | assumption | exact hL.t rfl) (by omega) (by omega) ?_
      refine xp_iload_n rfl rfl ?_
      refine xp_iclt 57 rfl (by decide) (by omega) (by omega) (fun h38 => ?_) (fun h38 => ?_)
      · skip
        refine xp_aload_n rfl rfl ?_
        refine xp_aload_n rfl rfl ?_
        refine xp_gfi rfl rfl (by decide) (by decide) (by first | assumption | exact hL.t rfl) ?_
        refine xp_pfi rfl rfl (by decide) (by decide) (by decide) (by first | assumption | exact hL.t rfl) ?_
        refine xp_iload_n rfl rfl ?_
        refine xp_ireturn rfl (by decide) (by decide) (by decide) ?_
        repeat (first | rw [if_pos (by omega)] | rw [if_neg (by omega)])
      · skip
        refine xp_aload_n rfl rfl ?_
        refine xp_gfa rfl rfl (by decide) (by decide) (by first | assumption | exact hL.t rfl) (by first | assumption | exact hL.r rfl | exact hL.2.2.2.2.2) ?_
        refine xp_gfa rfl rfl (by decide) (by decide) (by first | assumption | exact hL.t rfl) (by first | assumption | exact hL.r rfl | exact hL.2.2.2.2.2) ?_
        refine xp_aload_n rfl rfl ?_
        refine xp_gfi rfl rfl (by decide) (by decide) (by first | assumption | exact hL.t rfl) ?_
        refine xp_iald rfl (by first | assumption | exact hL.t rfl) (by omega) (by omega) ?_
        refine xp_iload_n rfl rfl ?_
        refine xp_icle 67 rfl (by decide) (by omega) (by omega) (fun h54 => ?_) (fun h54 => ?_)
        · skip
          refine xp_aload_n rfl rfl ?_
          refine xp_dup rfl rfl ?_
          refine xp_gfi rfl rfl (by decide) (by decide) (by first | assumption | exact hL.t rfl) ?_
          refine xp_iconst (n := 1) rfl (by decide) ?_
          refine xp_iadd rfl ?_
          refine xp_pfi rfl rfl (by decide) (by decide) (by decide) (by first | assumption | exact hL.t rfl) ?_
          refine xp_aload_n rfl rfl ?_
          refine xp_gfa rfl rfl (by decide) (by decide) (by first | assumption | exact hL.t rfl) (by first | assumption | exact hL.r rfl | exact hL.2.2.2.2.2) ?_
          refine xp_gfa rfl rfl (by decide) (by decide) (by first | assumption | exact hL.t rfl) (by first | assumption | exact hL.r rfl | exact hL.2.2.2.2.2) ?_
          refine xp_aload_n rfl rfl ?_
          refine xp_gfi rfl rfl (by decide) (by decide) (by first | assumption | exact hL.t rfl) ?_
          refine xp_iconst (n := 1) rfl (by decide) ?_
          rw [e1]
          refine xp_isub rfl (by omega) ?_
          rw [show A.1 102 4 + 1 - 1 = A.1 102 4 by omega]
          refine xp_iald rfl (by first | assumption | exact hL.t rfl) (by omega) (by omega) ?_
          rw [e2]
          refine xp_ireturn rfl (by decide) (by decide) (by decide) ?_
          repeat (first | rw [if_pos (by omega)] | rw [if_neg (by omega)])
        · skip
          refine xp_aload_n rfl rfl ?_
          refine xp_aload_n rfl rfl ?_
          refine xp_gfi rfl rfl (by decide) (by decide) (by first | assumption | exact hL.t rfl) ?_
          refine xp_pfi rfl rfl (by decide) (by decide) (by decide) (by first | assumption | exact hL.t rfl) ?_
          refine xp_iload_n rfl rfl ?_
          refine xp_ireturn rfl (by decide) (by decide) (by decide) ?_
          repeat (first | rw [if_pos (by omega)] | rw [if_neg (by omega)])
  · skip
    refine xp_iload_n rfl rfl ?_
    refine xp_ireturn rfl (by decide) (by decide) (by decide) ?_
    repeat (first | rw [if_pos (by omega)] | rw [if_neg (by omega)])
theorem c81 {z : Nat} {T : Nat → Option xT} {R : Nat → Nat → Option Nat} {A : xQ} {w : Nat} (hL : xLay T R w) (h3 : A.1 102 4 ≤ 2400) (h4 : A.1 102 2 < 2 ^ 32) (h5 : A.1 102 2 = 4294967294 → 1 ≤ A.1 102 4) : xF 81 [.ref 102] (xm z T R A) (.inr none, xm z T R (aRef A)) := by
  unfold aRef
  refine xF_eq (xF_p (Nat.le_of_ble_eq_true rfl) ?_)
  refine xp_aload_n rfl rfl ?_
  refine xp_gfi rfl rfl (by decide) (by decide) (by first | assumption | exact hL.t rfl) ?_
  refine xp_bipush (n := 4294967294) rfl (by decide) ?_
  refine xp_icne 19 rfl (by decide) (by omega) (by omega) (fun h6 => ?_) (fun h6 => ?_)
  · skip
    refine xp_return rfl (by decide) (by decide) (by decide) ?_
    repeat (first | rw [if_pos (by omega)] | rw [if_neg (by omega)])
  · skip
    have hp := h5 (by omega)
    refine xp_aload_n rfl rfl ?_
    refine xp_aload_n rfl rfl ?_
    refine xp_gfi rfl rfl (by decide) (by decide) (by first | assumption | exact hL.t rfl) ?_
    refine xp_iconst (n := 1) rfl (by decide) ?_
    refine xp_isub rfl (by omega) ?_
    refine xp_pfi rfl rfl (by decide) (by decide) (by decide) (by first | assumption | exact hL.t rfl) ?_
    refine xp_return rfl (by decide) (by decide) (by decide) ?_
    repeat (first | rw [if_pos (by omega)] | rw [if_neg (by omega)])
section RB
variable {u lo hi : Nat} {A : xQ}
theorem aRb_ne (lo hi : Nat) (A : xQ) {a j : Nat} (h : a ≠ 102 ∨ (j ≠ 2 ∧ j ≠ 4)) : (aRb lo hi A).2.1 a j = A.1 a j := by
  unfold aRb
  split
  · split
    · exact xsI_ne (by omega)
    · exact xsI_ne (by omega)
  · rfl
theorem aRb_2 (lo hi : Nat) (A : xQ) : (aRb lo hi A).2.2 = A.2 := by
  unfold aRb
  split
  · split <;> rfl
  · rfl
theorem aRb_in (h : lo ≤ hi) : lo ≤ (aRb lo hi A).1 ∧ (aRb lo hi A).1 ≤ hi := by
  unfold aRb
  split
  · split
    · rename_i q; exact q.2
    · exact ⟨Nat.le_refl _, h⟩
  · exact ⟨Nat.le_refl _, h⟩
theorem aRb_nf (h : (aRb lo hi A).2.1 102 2 = 4294967294) (hp : A.1 102 4 ≤ 2400) : A.1 102 2 = 4294967294 ∧ A.1 102 4 < A.1 99 1 ∧ (aRb lo hi A).1 = A.1 100 (A.1 102 4) ∧ lo ≤ A.1 100 (A.1 102 4) ∧ A.1 100 (A.1 102 4) ≤ hi ∧ (aRb lo hi A).2 = xsI A 102 4 (A.1 102 4 + 1) := by
  unfold aRb at h ⊢
  by_cases q : A.1 102 2 = 4294967294
  · rw [if_pos q] at h ⊢
    by_cases r : A.1 102 4 < A.1 99 1 ∧ lo ≤ A.1 100 (A.1 102 4) ∧ A.1 100 (A.1 102 4) ≤ hi
    · rw [if_pos r]
      exact ⟨q, r.1, rfl, r.2.1, r.2.2, rfl⟩
    · rw [if_neg r] at h
      rw [xsI_eq] at h
      omega
  · rw [if_neg q] at h
    exact absurd h q
theorem CI.rb (h : CI u A) (hu : u = 12 ∨ u = 103) (lo hi : Nat) : CI u (aRb lo hi A).2 := by
  obtain ⟨h1, h2, h3, h4, h5, h6, h7⟩ := h
  have e := fun a j => aRb_ne lo hi A (a := a) (j := j)
  unfold CI
  rw [e 99 1 (by omega), e (u + 2) 4 (by omega), e 102 5 (by omega)]
  refine ⟨h1, fun i hi2 => by rw [e _ _ (by omega)]; exact h2 i hi2, ?_, ?_, h5, h6, fun o ho => by rw [e _ _ (by omega)]; exact h7 o ho⟩
  · unfold aRb
    split
    · split
      · rw [xsI_eq]; omega
      · rw [xsI_ne (by omega)]; exact h3
    · exact h3
  · unfold aRb
    split
    · split
      · rename_i q _; rw [xsI_ne (by omega)]; exact Or.inl q
      · rw [xsI_eq]; omega
    · exact h4
theorem aRef_ne {a j : Nat} (h : a ≠ 102 ∨ j ≠ 2) : (aRef A).1 a j = A.1 a j := by
  unfold aRef
  split
  · exact xsI_ne h
  · rfl
theorem aRef_2 : (aRef A).2 = A.2 := by
  unfold aRef
  split <;> rfl
theorem aRef_nf (hp : A.1 102 4 ≤ 2400) : ¬ (aRef A).1 102 2 = 4294967294 := by
  unfold aRef
  split
  · rw [xsI_eq]; omega
  · assumption
theorem CI.ref (h : CI u A) (hu : u = 12 ∨ u = 103) : CI u (aRef A) := by
  obtain ⟨h1, h2, h3, h4, h5, h6, h7⟩ := h
  have e := fun a j => aRef_ne (A := A) (a := a) (j := j)
  unfold CI
  rw [e 99 1 (by omega), e (u + 2) 4 (by omega), e 102 5 (by omega), e 102 4 (by omega)]
  refine ⟨h1, fun i hi2 => by rw [e _ _ (by omega)]; exact h2 i hi2, h3, ?_, h5, h6, fun o ho => by rw [e _ _ (by omega)]; exact h7 o ho⟩
  unfold aRef
  split
  · rw [xsI_eq]; omega
  · exact h4
/-- what the reader looks at is left alone -/
theorem CI.oth {B : xQ} (h : CI u A) (e : ∀ a j, a = 99 ∨ a = 100 ∨ a = 102 ∨ (a = u + 2 ∧ j = 4) ∨ a = u + 3 → B.1 a j = A.1 a j) : CI u B := by
  obtain ⟨h1, h2, h3, h4, h5, h6, h7⟩ := h
  unfold CI
  rw [e 99 1 (by omega), e (u + 2) 4 (by omega), e 102 5 (by omega), e 102 4 (by omega), e 102 2 (by omega)]
  exact ⟨h1, fun i hi2 => by rw [e _ _ (by omega)]; exact h2 i hi2, h3, h4, h5, h6, fun o ho => by rw [e _ _ (by omega)]; exact h7 o ho⟩
end RB
/-- a number's bytes are read -/
def aRn : Nat → Nat → Int64 → xQ → Int64 × xQ
  | 0, _, v, A => (v, A)
  | m + 1, i, v, A => aRn m (i + 1) (v ||| ((nI (aRb 0 255 A).1).toInt64 <<< ((nI (8 * i)).toInt64 &&& 63))) (aRb 0 255 A).2
/-- an object's number is read -/
def aRo (u k : Nat) (A : xQ) : Nat × xQ := if (aRb 0 (min (A.1 (u + 2) 4) (A.1 102 5 - 1)) A).2.1 102 2 = 4294967294 then (if (aRb 0 (min (A.1 (u + 2) 4) (A.1 102 5 - 1)) A).1 = A.1 (u + 2) 4 then ((aRb 0 (min (A.1 (u + 2) 4) (A.1 102 5 - 1)) A).1, xsI (xsI (aRb 0 (min (A.1 (u + 2) 4) (A.1 102 5 - 1)) A).2 (u + 3) (aRb 0 (min (A.1 (u + 2) 4) (A.1 102 5 - 1)) A).1 k) (u + 2) 4 (A.1 (u + 2) 4 + 1)) else if A.1 (u + 3) (aRb 0 (min (A.1 (u + 2) 4) (A.1 102 5 - 1)) A).1 = k then aRb 0 (min (A.1 (u + 2) 4) (A.1 102 5 - 1)) A else ((aRb 0 (min (A.1 (u + 2) 4) (A.1 102 5 - 1)) A).1, aRef (aRb 0 (min (A.1 (u + 2) 4) (A.1 102 5 - 1)) A).2)) else (0, (aRb 0 (min (A.1 (u + 2) 4) (A.1 102 5 - 1)) A).2)
/-- a value is read: its kind, its number -/
def aVal (u : Nat) (A : xQ) : Nat × Int64 × xQ := if (aRb 0 4 A).1 = 1 then (1, (aRn 4 0 0 (aRb 0 4 A).2).1.toInt32.toInt64, (aRn 4 0 0 (aRb 0 4 A).2).2) else if (aRb 0 4 A).1 = 2 then (2, aRn 8 0 0 (aRb 0 4 A).2) else if (aRb 0 4 A).1 = 0 then (0, 0, (aRb 0 4 A).2) else ((aRb 0 4 A).1, lN (aRo u (aRb 0 4 A).1 (aRb 0 4 A).2).1, (aRo u (aRb 0 4 A).1 (aRb 0 4 A).2).2)
def aRv (u ka na i : Nat) (A : xQ) : xQ := xsJ (xsI (aVal u A).2.2 ka i (aVal u A).1) na i (aVal u A).2.1
section RV
variable {u : Nat} {A : xQ}
theorem aRn_ne : ∀ (m i : Nat) (v : Int64) (A : xQ) {a j : Nat}, (a ≠ 102 ∨ (j ≠ 2 ∧ j ≠ 4)) → (aRn m i v A).2.1 a j = A.1 a j := by
  intro m
  induction m with
  | zero => intro i v A a j _; rfl
  | succ m ih => intro i v A a j h; show (aRn m (i + 1) _ (aRb 0 255 A).2).2.1 a j = _; rw [ih _ _ _ h, aRb_ne _ _ _ h]
theorem aRn_2 : ∀ (m i : Nat) (v : Int64) (A : xQ), (aRn m i v A).2.2 = A.2 := by
  intro m
  induction m with
  | zero => intro i v A; rfl
  | succ m ih => intro i v A; show (aRn m (i + 1) _ (aRb 0 255 A).2).2.2 = _; rw [ih, aRb_2]
theorem CI.rn (hu : u = 12 ∨ u = 103) : ∀ (m i : Nat) (v : Int64) (A : xQ), CI u A → CI u (aRn m i v A).2 := by
  intro m
  induction m with
  | zero => intro i v A h; exact h
  | succ m ih => intro i v A h; exact ih _ _ _ (h.rb hu 0 255)
theorem aRo_ne (k : Nat) (A : xQ) {a j : Nat} (h : a ≠ 102 ∨ (j ≠ 2 ∧ j ≠ 4)) (h2 : a ≠ u + 2 ∨ j ≠ 4) (h3 : a ≠ u + 3 ∨ j ≠ A.1 (u + 2) 4) : (aRo u k A).2.1 a j = A.1 a j := by
  unfold aRo
  have e := aRb_ne 0 (min (A.1 (u + 2) 4) (A.1 102 5 - 1)) A h
  split
  · split
    · rename_i q
      show (xsI (xsI _ (u + 3) _ k) (u + 2) 4 _).1 a j = _
      rw [xsI_ne h2, q, xsI_ne h3]
      exact e
    · split
      · exact e
      · show (aRef _).1 a j = _
        rw [aRef_ne (by omega)]
        exact e
  · exact e
theorem aRo_2 (k : Nat) (A : xQ) : (aRo u k A).2.2 = A.2 := by
  unfold aRo
  have e := aRb_2 0 (min (A.1 (u + 2) 4) (A.1 102 5 - 1)) A
  split
  · split
    · exact e
    · split
      · exact e
      · show (aRef _).2 = _
        rw [aRef_2]
        exact e
  · exact e
theorem aRo_le (k : Nat) (h : CI u A) (hl : 1 ≤ A.1 102 5) : (aRo u k A).1 < 24 := by
  obtain ⟨h1, h2, h3, h4, h5, h6, h7⟩ := h
  have e := (aRb_in (lo := 0) (hi := min (A.1 (u + 2) 4) (A.1 102 5 - 1)) (A := A) (by omega)).2
  unfold aRo
  split
  · split
    · show (aRb 0 _ A).1 < 24; omega
    · split
      · omega
      · show (aRb 0 _ A).1 < 24; omega
  · show 0 < 24; omega
theorem aRo_5 (k : Nat) (A : xQ) (hu : u = 12 ∨ u = 103) : (aRo u k A).2.1 102 5 = A.1 102 5 := aRo_ne k A (by omega) (by omega) (by omega)
theorem CI.ro {k : Nat} (hk : k = 3 ∨ k = 4) (h : CI u A) (hu : u = 12 ∨ u = 103) (hl : 1 ≤ A.1 102 5) : CI u (aRo u k A).2 := by
  have hr := h.rb hu 0 (min (A.1 (u + 2) 4) (A.1 102 5 - 1))
  have e := fun a j => aRb_ne 0 (min (A.1 (u + 2) 4) (A.1 102 5 - 1)) A (a := a) (j := j)
  have ei := (aRb_in (lo := 0) (hi := min (A.1 (u + 2) 4) (A.1 102 5 - 1)) (A := A) (by omega)).2
  unfold aRo
  generalize aRb 0 (min (A.1 (u + 2) 4) (A.1 102 5 - 1)) A = r at *
  split
  · split
    · rename_i q
      obtain ⟨h1, h2, h3, h4, h5, h6, h7⟩ := hr
      have r1 := e 99 1 (by omega)
      have r2 := e (u + 2) 4 (by omega)
      have r5 := e 102 5 (by omega)
      show CI u (xsI (xsI r.2 (u + 3) r.1 k) (u + 2) 4 (A.1 (u + 2) 4 + 1))
      have x : ∀ a j, (a ≠ u + 2 ∨ j ≠ 4) → (a ≠ u + 3 ∨ j ≠ r.1) → (xsI (xsI r.2 (u + 3) r.1 k) (u + 2) 4 (A.1 (u + 2) 4 + 1)).1 a j = r.2.1 a j := fun a j p1 p2 => by rw [xsI_ne p1, xsI_ne p2]
      refine ⟨by rw [x _ _ (by omega) (by omega)]; exact h1, fun i hi => ?_, by rw [x 102 4 (by omega) (by omega), x 99 1 (by omega) (by omega)]; exact h3, by rw [x 102 2 (by omega) (by omega)]; exact h4, by rw [xsI_eq, x 102 5 (by omega) (by omega)]; omega, by rw [x 102 5 (by omega) (by omega)]; exact h6, fun o ho => ?_⟩
      · rw [x _ _ (by omega) (by omega)]
        rw [x 99 1 (by omega) (by omega)] at hi
        exact h2 i hi
      · rw [xsI_eq]
        have h7o := h7 o ho
        rw [r2] at h7o
        by_cases qo : o = r.1
        · rw [xsI_ne (by omega), qo, xsI_eq]
          exact ⟨fun _ => hk, fun p => by omega⟩
        · rw [x _ _ (by omega) (by omega)]
          exact ⟨fun p => h7o.1 (by omega), fun p => h7o.2 (by omega)⟩
    · split
      · exact hr
      · exact hr.ref hu
  · exact hr
theorem aVal_ne (A : xQ) {a j : Nat} (h : a ≠ 102 ∨ (j ≠ 2 ∧ j ≠ 4)) (h2 : a ≠ u + 2 ∨ j ≠ 4) (h3 : a ≠ u + 3 ∨ j ≠ A.1 (u + 2) 4) (hu : u = 12 ∨ u = 103) : (aVal u A).2.2.1 a j = A.1 a j := by
  have e := aRb_ne 0 4 A h
  unfold aVal
  split
  · show (aRn 4 0 0 _).2.1 a j = _; rw [aRn_ne _ _ _ _ h]; exact e
  · split
    · show (aRn 8 0 0 _).2.1 a j = _; rw [aRn_ne _ _ _ _ h]; exact e
    · split
      · exact e
      · show (aRo u _ _).2.1 a j = _
        rw [aRo_ne _ _ h h2 (by rw [aRb_ne _ _ _ (by omega)]; exact h3)]; exact e
theorem aVal_2 (A : xQ) : (aVal u A).2.2.2 = A.2 := by
  have e := aRb_2 0 4 A
  unfold aVal
  split
  · show (aRn 4 0 0 _).2.2 = _; rw [aRn_2]; exact e
  · split
    · show (aRn 8 0 0 _).2.2 = _; rw [aRn_2]; exact e
    · split
      · exact e
      · show (aRo u _ _).2.2 = _
        rw [aRo_2]; exact e
theorem aVal_5 (A : xQ) (hu : u = 12 ∨ u = 103) : (aVal u A).2.2.1 102 5 = A.1 102 5 := aVal_ne A (by omega) (by omega) (by omega) hu
theorem aVal_k (A : xQ) : (aVal u A).1 = (aRb 0 4 A).1 ∧ (aVal u A).1 ≤ 4 := by
  have := (aRb_in (lo := 0) (hi := 4) (A := A) (by omega)).2
  unfold aVal
  split
  · rename_i q; exact ⟨q.symm, by omega⟩
  · split
    · rename_i _ q; exact ⟨q.symm, by omega⟩
    · split
      · rename_i _ _ q; exact ⟨q.symm, by omega⟩
      · exact ⟨rfl, this⟩
theorem CI.val (h : CI u A) (hu : u = 12 ∨ u = 103) (hl : 1 ≤ A.1 102 5) : CI u (aVal u A).2.2 := by
  have hr := h.rb hu 0 4
  have hk := (aRb_in (lo := 0) (hi := 4) (A := A) (by omega)).2
  unfold aVal
  split
  · exact CI.rn hu _ _ _ _ hr
  · split
    · exact CI.rn hu _ _ _ _ hr
    · split
      · exact hr
      · exact CI.ro (by omega) hr hu (by rw [aRb_ne _ _ _ (by omega)]; exact hl)
end RV
theorem c80i {z : Nat} {T : Nat → Option xT} {R : Nat → Nat → Option Nat} {A : xQ} {w u lo hi : Nat} (hL : xLay T R w) (hI : CI u A) (hlo : lo < 2 ^ 31) (hhi : hi < 2 ^ 31) : xF 80 [.ref 102, .int (nI lo), .int (nI hi)] (xm z T R A) (.inr (some (.int (nI (aRb lo hi A).1))), xm z T R (aRb lo hi A).2) := c80 hL hI.1 hI.2.1 hI.2.2.1 (by have := hI.2.2.2.1; omega) hlo hhi
theorem l87 {z : Nat} {T : Nat → Option xT} {R : Nat → Nat → Option Nat} {w u n : Nat} (hL : xLay T R w) (hu : u = 12 ∨ u = 103) (hn : n ≤ 8) : ∀ (m i : Nat) (v : Int64) (A : xQ), i + m = n → CI u A → xP 87 5 [(0, .ref 102), (1, .int (nI n)), (2, .long v), (4, .int (nI i))] [] 0 0 (xm z T R A) (fun r => r = (.inr (some (.long (aRn m i v A).1)), xm z T R (aRn m i v A).2)) := by
  intro m
  induction m with
  | zero =>
    intro i v A hi hI
    refine xp_iload rfl rfl ?_
    refine xp_iload_n rfl rfl ?_
    refine xp_icge 35 rfl (by decide) (by omega) (by omega) (fun h8 => ?_) (fun h8 => ?_)
    · skip
      refine xp_lload_n rfl rfl ?_
      refine xp_lreturn rfl (by decide) (by decide) (by decide) ?_
      rfl
    · exfalso; omega
  | succ m ih =>
    intro i v A hi hI
    refine xp_iload rfl rfl ?_
    refine xp_iload_n rfl rfl ?_
    refine xp_icge 35 rfl (by decide) (by omega) (by omega) (fun h8 => ?_) (fun h8 => ?_)
    · exfalso; omega
    · skip
      refine xp_lload_n rfl rfl ?_
      refine xp_aload_n rfl rfl ?_
      refine xp_iconst (n := 0) rfl (by decide) ?_
      refine xp_sipush (n := 255) rfl (by decide) ?_
      refine xp_iv rfl rfl (Nat.le_of_ble_eq_true rfl) (by decide) (by decide) (by decide) (Nat.le_of_ble_eq_true rfl) rfl (xrcv1 (by decide) (by first | assumption | exact hL.t rfl)) (c80i hL hI (by omega) (by omega)) rfl ?_
      refine xp_i2l rfl ?_
      refine xp_bipush (n := 8) rfl (by decide) ?_
      refine xp_iload rfl rfl ?_
      refine xp_imul rfl ?_
      refine xp_lshl rfl ?_
      refine xp_lor rfl ?_
      refine xp_lstore_n rfl (by decide) ?_
      refine xp_iinc rfl rfl (by decide) (nI_inc _) ?_
      refine xp_goto 5 rfl (by decide) ?_
      refine xp_weak [(0, .ref 102), (1, .int (nI n)), (2, .long (v ||| ((nI (aRb 0 255 A).1).toInt64 <<< ((nI (8 * i)).toInt64 &&& 63)))), (4, .int (nI (i + 1)))] (xle_cons rfl (xle_cons rfl (xle_cons rfl (xle_cons rfl (xle_nil _))))) (by simp [xnd]) ?_
      exact ih (i + 1) _ _ (by omega) (hI.rb hu 0 255)
theorem c87 {z : Nat} {T : Nat → Option xT} {R : Nat → Nat → Option Nat} {A : xQ} {w u n : Nat} (hL : xLay T R w) (hu : u = 12 ∨ u = 103) (hI : CI u A) (hn : n ≤ 8) : xF 87 [.ref 102, .int (nI n)] (xm z T R A) (.inr (some (.long (aRn n 0 0 A).1)), xm z T R (aRn n 0 0 A).2) := by
  refine xF_eq (xF_p (Nat.le_of_ble_eq_true rfl) ?_)
  refine xp_lconst (v := 0) rfl rfl ?_
  refine xp_lstore_n rfl (by decide) ?_
  refine xp_iconst (n := 0) rfl (by decide) ?_
  refine xp_istore rfl (by decide) ?_
  refine xp_weak [(0, .ref 102), (1, .int (nI n)), (2, .long 0), (4, .int (nI 0))] (xle_cons rfl (xle_cons rfl (xle_cons rfl (xle_cons rfl (xle_nil _))))) (by simp [xnd]) ?_
  exact l87 hL hu hn n 0 0 A (by omega) hI
theorem c88 {z : Nat} {T : Nat → Option xT} {R : Nat → Nat → Option Nat} {A : xQ} {w u k : Nat} (hL : xLay T R w) (hW : xW0 T R u) (hrw : R 102 1 = some u) (hu : u = 12 ∨ u = 103) (hI : CI u A) (hl : 1 ≤ A.1 102 5) (hk : k = 3 ∨ k = 4) : xF 88 [.ref 102, .int (nI k)] (xm z T R A) (.inr (some (.int (nI (aRo u k A).1))), xm z T R (aRo u k A).2) := by
  obtain ⟨w1, w2, w3, w4, hH, hSt⟩ := id hW
  obtain ⟨h1, h2, h3, h4, h5, h6, h7, h8, h9, h10, h11, h12, hC⟩ := id hH
  have hI0 := hI
  obtain ⟨i1, i2, i3, i4, i5, i6, i7⟩ := hI
  have hrb := c80i (z := z) (lo := 0) (hi := min (A.1 (u + 2) 4) (A.1 102 5 - 1)) hL hI0 (by omega) (by omega)
  have hI2 := hI0.rb hu 0 (min (A.1 (u + 2) 4) (A.1 102 5 - 1))
  have e := fun a j => aRb_ne 0 (min (A.1 (u + 2) 4) (A.1 102 5 - 1)) A (a := a) (j := j)
  have ei := (aRb_in (lo := 0) (hi := min (A.1 (u + 2) 4) (A.1 102 5 - 1)) (A := A) (by omega)).2
  have hnf : (aRb 0 (min (A.1 (u + 2) 4) (A.1 102 5 - 1)) A).2.1 102 2 = 4294967294 → 1 ≤ (aRb 0 (min (A.1 (u + 2) 4) (A.1 102 5 - 1)) A).2.1 102 4 := fun q => by
    obtain ⟨-, -, -, -, -, q6⟩ := aRb_nf q (by omega)
    rw [q6, xsI_eq]; omega
  unfold aRo
  generalize aRb 0 (min (A.1 (u + 2) 4) (A.1 102 5 - 1)) A = r at *
  have f4 := hI2.2.2.2.1
  have f3 := hI2.2.2.1
  have e2 : r.2.1 (u + 2) 4 = A.1 (u + 2) 4 := e _ _ (by omega)
  have e3 : ∀ o, r.2.1 (u + 3) o = A.1 (u + 3) o := fun o => e _ _ (by omega)
  have i7r := i7 r.1 (by omega)
  have x1 : (xsI r.2 (u + 3) r.1 k).1 (u + 2) 4 = A.1 (u + 2) 4 := by rw [xsI_ne (by omega)]; exact e2
  have e99 := e 99 1 (by omega)
  refine xF_eq (xF_p (Nat.le_of_ble_eq_true rfl) ?_)
  refine xp_aload_n rfl rfl ?_
  refine xp_gfa rfl rfl (by decide) (by decide) (by first | assumption | exact hL.t rfl) (by first | assumption | exact hL.r rfl | exact hL.2.2.2.2.2) ?_
  refine xp_gfa rfl rfl (by decide) (by decide) (by first | assumption | exact hL.t rfl) (by first | assumption | exact hL.r rfl | exact hL.2.2.2.2.2) ?_
  refine xp_astore_n rfl (by decide) ?_
  refine xp_aload_n rfl rfl ?_
  refine xp_iconst (n := 0) rfl (by decide) ?_
  refine xp_aload_n rfl rfl ?_
  refine xp_gfi rfl rfl (by decide) (by decide) (by first | assumption | exact hL.t rfl) ?_
  refine xp_aload_n rfl rfl ?_
  refine xp_gfi rfl rfl (by decide) (by decide) (by first | assumption | exact hL.t rfl) ?_
  refine xp_iconst (n := 1) rfl (by decide) ?_
  refine xp_isub rfl (by omega) ?_
  refine xp_min rfl rfl (by decide) (by decide) (Nat.le_of_ble_eq_true rfl) (by omega) (by omega) ?_
  refine xp_iv rfl rfl (Nat.le_of_ble_eq_true rfl) (by decide) (by decide) (by decide) (Nat.le_of_ble_eq_true rfl) rfl (xrcv1 (by decide) (by first | assumption | exact hL.t rfl)) (hrb) rfl ?_
  refine xp_istore_n rfl (by decide) ?_
  refine xp_aload_n rfl rfl ?_
  refine xp_gfi rfl rfl (by decide) (by decide) (by first | assumption | exact hL.t rfl) ?_
  refine xp_bipush (n := 4294967294) rfl (by decide) ?_
  refine xp_iceq 38 rfl (by decide) (by omega) (by omega) (fun h33 => ?_) (fun h33 => ?_)
  · skip
    refine xp_iload_n rfl rfl ?_
    refine xp_aload_n rfl rfl ?_
    refine xp_gfi rfl rfl (by decide) (by decide) (by first | assumption | exact hL.t rfl) ?_
    rw [e2]
    refine xp_icne 66 rfl (by decide) (by omega) (by omega) (fun h43 => ?_) (fun h43 => ?_)
    · skip
      refine xp_aload_n rfl rfl ?_
      refine xp_gfa rfl rfl (by decide) (by decide) (by first | assumption | exact hL.t rfl) (by first | assumption | exact hL.r rfl | exact hL.2.2.2.2.2) ?_
      refine xp_iload_n rfl rfl ?_
      refine xp_iald rfl (by first | assumption | exact hL.t rfl) (by omega) (by omega) ?_
      rw [e3]
      refine xp_iload_n rfl rfl ?_
      refine xp_iceq 80 rfl (by decide) (by omega) (by omega) (fun h73 => ?_) (fun h73 => ?_)
      · skip
        refine xp_iload_n rfl rfl ?_
        refine xp_ireturn rfl (by decide) (by decide) (by decide) ?_
        repeat (first | rw [if_pos (by omega)] | rw [if_neg (by omega)])
      · skip
        refine xp_aload_n rfl rfl ?_
        refine xp_iv rfl rfl (Nat.le_of_ble_eq_true rfl) (by decide) (by decide) (by decide) (Nat.le_of_ble_eq_true rfl) rfl (xrcv1 (by decide) (by first | assumption | exact hL.t rfl)) (c81 hL (by omega) (by omega) hnf) rfl ?_
        refine xp_iload_n rfl rfl ?_
        refine xp_ireturn rfl (by decide) (by decide) (by decide) ?_
        repeat (first | rw [if_pos (by omega)] | rw [if_neg (by omega)])
    · skip
      refine xp_aload_n rfl rfl ?_
      refine xp_gfa rfl rfl (by decide) (by decide) (by first | assumption | exact hL.t rfl) (by first | assumption | exact hL.r rfl | exact hL.2.2.2.2.2) ?_
      refine xp_iload_n rfl rfl ?_
      refine xp_iload_n rfl rfl ?_
      refine xp_iast rfl (by first | assumption | exact hL.t rfl) (by omega) (by omega) ?_
      refine xp_aload_n rfl rfl ?_
      refine xp_dup rfl rfl ?_
      refine xp_gfi rfl rfl (by decide) (by decide) (by first | assumption | exact hL.t rfl) ?_
      rw [x1]
      refine xp_iconst (n := 1) rfl (by decide) ?_
      refine xp_iadd rfl ?_
      refine xp_pfi rfl rfl (by decide) (by decide) (by decide) (by first | assumption | exact hL.t rfl) ?_
      refine xp_goto 80 rfl (by decide) ?_
      refine xp_iload_n rfl rfl ?_
      refine xp_ireturn rfl (by decide) (by decide) (by decide) ?_
      repeat (first | rw [if_pos (by omega)] | rw [if_neg (by omega)])
  · skip
    refine xp_iconst (n := 0) rfl (by decide) ?_
    refine xp_ireturn rfl (by decide) (by decide) (by decide) ?_
    repeat (first | rw [if_pos (by omega)] | rw [if_neg (by omega)])
theorem CI.rv {u ka na i : Nat} {A : xQ} (h : CI u A) (hu : u = 12 ∨ u = 103) (hl : 1 ≤ A.1 102 5) (hka : ka ≠ 99 ∧ ka ≠ 100 ∧ ka ≠ 102 ∧ ka ≠ u + 2 ∧ ka ≠ u + 3) : CI u (aRv u ka na i A) := (h.val hu hl).oth (fun a j q => by
  show (xsI (aVal u A).2.2 ka i (aVal u A).1).1 a j = _
  exact xsI_ne (by omega))
theorem aRv_5 {u ka na i : Nat} {A : xQ} (hu : u = 12 ∨ u = 103) (hka : ka ≠ 102) : (aRv u ka na i A).1 102 5 = A.1 102 5 := by
  show (xsI (aVal u A).2.2 ka i (aVal u A).1).1 102 5 = _
  rw [xsI_ne (by omega)]
  exact aVal_5 A hu
theorem l86 {z : Nat} {T : Nat → Option xT} {R : Nat → Nat → Option Nat} {w u a ka na lo n cap : Nat} (hL : xLay T R w) (hW : xW0 T R u) (hrw : R 102 1 = some u) (hu : u = 12 ∨ u = 103) (hC : xC0 T R a ka na cap) (hcap : cap < 2 ^ 31) (hka : ka ≠ 99 ∧ ka ≠ 100 ∧ ka ≠ 102 ∧ ka ≠ u + 2 ∧ ka ≠ u + 3) (hn : n ≤ cap) : ∀ (m i : Nat) (A : xQ), i + m = n → CI u A → 1 ≤ A.1 102 5 → xP 86 3 [(0, .ref 102), (1, .ref a), (2, .int (nI lo)), (3, .int (nI n)), (4, .int (nI i))] [] 0 0 (xm z T R A) (fun r => r = (.inr none, xm z T R (xit (aRv u ka na) m i A))) := by
  have hC0 := hC
  obtain ⟨c1, c2, c3, c4, c5⟩ := hC
  intro m
  induction m with
  | zero =>
    intro i A hi hI hl
    refine xp_iload rfl rfl ?_
    refine xp_iload_n rfl rfl ?_
    refine xp_icge 113 rfl (by decide) (by omega) (by omega) (fun h6 => ?_) (fun h6 => ?_)
    · skip
      refine xp_return rfl (by decide) (by decide) (by decide) ?_
      rfl
    · exfalso; omega
  | succ m ih =>
    intro i A hi hI hl
    have hrb := c80i (z := z) (lo := 0) (hi := 4) hL hI (by omega) (by omega)
    have hI2 := hI.rb hu 0 4
    have hl2 : 1 ≤ (aRb 0 4 A).2.1 102 5 := by rw [aRb_ne _ _ _ (by omega)]; exact hl
    have ei := (aRb_in (lo := 0) (hi := 4) (A := A) (by omega)).2
    have hih := ih (i + 1) _ (by omega) (hI.rv (i := i) (na := na) hu hl hka) (by rw [aRv_5 hu (by omega)]; exact hl)
    show xP 86 3 _ _ _ _ _ (fun r => r = (.inr none, xm z T R (xit (aRv u ka na) m (i + 1) (aRv u ka na i A))))
    unfold aRv aVal at hih ⊢
    have h5 : (aRb 0 4 A).1 = 0 ∨ (aRb 0 4 A).1 = 1 ∨ (aRb 0 4 A).1 = 2 ∨ (aRb 0 4 A).1 = 3 ∨ (aRb 0 4 A).1 = 4 := by omega
    generalize aRb 0 4 A = r at *
    rcases h5 with hk | hk | hk | hk | hk
    · rw [if_neg (by omega), if_neg (by omega), if_pos hk] at hih ⊢
      refine xp_iload rfl rfl ?_
      refine xp_iload_n rfl rfl ?_
      refine xp_icge 113 rfl (by decide) (by omega) (by omega) (fun h6 => ?_) (fun h6 => ?_)
      · exfalso; omega
      · skip
        refine xp_aload_n rfl rfl ?_
        refine xp_iconst (n := 0) rfl (by decide) ?_
        refine xp_iconst (n := 4) rfl (by decide) ?_
        refine xp_iv rfl rfl (Nat.le_of_ble_eq_true rfl) (by decide) (by decide) (by decide) (Nat.le_of_ble_eq_true rfl) rfl (xrcv1 (by decide) (by first | assumption | exact hL.t rfl)) (hrb) rfl ?_
        refine xp_istore rfl (by decide) ?_
        refine xp_iload rfl rfl ?_
        rw [hk]
        refine xp_tsw 99 rfl (by omega) (by first | rfl | (rw [if_pos (by omega)]) | (rw [if_neg (by omega)]; rfl)) (by decide) ?_
        refine xp_aload_n rfl rfl ?_
        refine xp_iload rfl rfl ?_
        refine xp_iconst (n := 0) rfl (by decide) ?_
        refine xp_lconst (v := 0) rfl rfl ?_
        refine xp_iv rfl rfl (Nat.le_of_ble_eq_true rfl) (by decide) (by decide) (by decide) (Nat.le_of_ble_eq_true rfl) rfl (xrcv1 (by decide) (by first | assumption | exact hL.t rfl)) (c23 hC0 (by omega) hcap) rfl ?_
        refine xp_iinc rfl rfl (by decide) (nI_inc _) ?_
        refine xp_goto 3 rfl (by decide) ?_
        refine xp_weak [(0, .ref 102), (1, .ref a), (2, .int (nI lo)), (3, .int (nI n)), (4, .int (nI (i + 1)))] (xle_cons rfl (xle_cons rfl (xle_cons rfl (xle_cons rfl (xle_cons rfl (xle_nil _)))))) (by simp [xnd]) ?_
        exact hih
    · rw [if_pos hk] at hih ⊢
      refine xp_iload rfl rfl ?_
      refine xp_iload_n rfl rfl ?_
      refine xp_icge 113 rfl (by decide) (by omega) (by omega) (fun h6 => ?_) (fun h6 => ?_)
      · exfalso; omega
      · skip
        refine xp_aload_n rfl rfl ?_
        refine xp_iconst (n := 0) rfl (by decide) ?_
        refine xp_iconst (n := 4) rfl (by decide) ?_
        refine xp_iv rfl rfl (Nat.le_of_ble_eq_true rfl) (by decide) (by decide) (by decide) (Nat.le_of_ble_eq_true rfl) rfl (xrcv1 (by decide) (by first | assumption | exact hL.t rfl)) (hrb) rfl ?_
        refine xp_istore rfl (by decide) ?_
        refine xp_iload rfl rfl ?_
        rw [hk]
        refine xp_tsw 48 rfl (by omega) (by first | rfl | (rw [if_pos (by omega)]) | (rw [if_neg (by omega)]; rfl)) (by decide) ?_
        refine xp_aload_n rfl rfl ?_
        refine xp_iload rfl rfl ?_
        refine xp_iconst (n := 1) rfl (by decide) ?_
        refine xp_aload_n rfl rfl ?_
        refine xp_iconst (n := 4) rfl (by decide) ?_
        refine xp_iv rfl rfl (Nat.le_of_ble_eq_true rfl) (by decide) (by decide) (by decide) (Nat.le_of_ble_eq_true rfl) rfl (xrcv1 (by decide) (by first | assumption | exact hL.t rfl)) (c87 hL hu hI2 (by omega)) rfl ?_
        refine xp_l2i rfl ?_
        refine xp_i2l rfl ?_
        refine xp_iv rfl rfl (Nat.le_of_ble_eq_true rfl) (by decide) (by decide) (by decide) (Nat.le_of_ble_eq_true rfl) rfl (xrcv1 (by decide) (by first | assumption | exact hL.t rfl)) (c23 hC0 (by omega) hcap) rfl ?_
        refine xp_goto 107 rfl (by decide) ?_
        refine xp_iinc rfl rfl (by decide) (nI_inc _) ?_
        refine xp_goto 3 rfl (by decide) ?_
        refine xp_weak [(0, .ref 102), (1, .ref a), (2, .int (nI lo)), (3, .int (nI n)), (4, .int (nI (i + 1)))] (xle_cons rfl (xle_cons rfl (xle_cons rfl (xle_cons rfl (xle_cons rfl (xle_nil _)))))) (by simp [xnd]) ?_
        exact hih
    · rw [if_neg (by omega), if_pos hk] at hih ⊢
      refine xp_iload rfl rfl ?_
      refine xp_iload_n rfl rfl ?_
      refine xp_icge 113 rfl (by decide) (by omega) (by omega) (fun h6 => ?_) (fun h6 => ?_)
      · exfalso; omega
      · skip
        refine xp_aload_n rfl rfl ?_
        refine xp_iconst (n := 0) rfl (by decide) ?_
        refine xp_iconst (n := 4) rfl (by decide) ?_
        refine xp_iv rfl rfl (Nat.le_of_ble_eq_true rfl) (by decide) (by decide) (by decide) (Nat.le_of_ble_eq_true rfl) rfl (xrcv1 (by decide) (by first | assumption | exact hL.t rfl)) (hrb) rfl ?_
        refine xp_istore rfl (by decide) ?_
        refine xp_iload rfl rfl ?_
        rw [hk]
        refine xp_tsw 65 rfl (by omega) (by first | rfl | (rw [if_pos (by omega)]) | (rw [if_neg (by omega)]; rfl)) (by decide) ?_
        refine xp_aload_n rfl rfl ?_
        refine xp_iload rfl rfl ?_
        refine xp_iconst (n := 2) rfl (by decide) ?_
        refine xp_aload_n rfl rfl ?_
        refine xp_bipush (n := 8) rfl (by decide) ?_
        refine xp_iv rfl rfl (Nat.le_of_ble_eq_true rfl) (by decide) (by decide) (by decide) (Nat.le_of_ble_eq_true rfl) rfl (xrcv1 (by decide) (by first | assumption | exact hL.t rfl)) (c87 hL hu hI2 (by omega)) rfl ?_
        refine xp_iv rfl rfl (Nat.le_of_ble_eq_true rfl) (by decide) (by decide) (by decide) (Nat.le_of_ble_eq_true rfl) rfl (xrcv1 (by decide) (by first | assumption | exact hL.t rfl)) (c23 hC0 (by omega) hcap) rfl ?_
        refine xp_goto 107 rfl (by decide) ?_
        refine xp_iinc rfl rfl (by decide) (nI_inc _) ?_
        refine xp_goto 3 rfl (by decide) ?_
        refine xp_weak [(0, .ref 102), (1, .ref a), (2, .int (nI lo)), (3, .int (nI n)), (4, .int (nI (i + 1)))] (xle_cons rfl (xle_cons rfl (xle_cons rfl (xle_cons rfl (xle_cons rfl (xle_nil _)))))) (by simp [xnd]) ?_
        exact hih
    · rw [if_neg (by omega), if_neg (by omega), if_neg (by omega)] at hih ⊢
      refine xp_iload rfl rfl ?_
      refine xp_iload_n rfl rfl ?_
      refine xp_icge 113 rfl (by decide) (by omega) (by omega) (fun h6 => ?_) (fun h6 => ?_)
      · exfalso; omega
      · skip
        refine xp_aload_n rfl rfl ?_
        refine xp_iconst (n := 0) rfl (by decide) ?_
        refine xp_iconst (n := 4) rfl (by decide) ?_
        refine xp_iv rfl rfl (Nat.le_of_ble_eq_true rfl) (by decide) (by decide) (by decide) (Nat.le_of_ble_eq_true rfl) rfl (xrcv1 (by decide) (by first | assumption | exact hL.t rfl)) (hrb) rfl ?_
        refine xp_istore rfl (by decide) ?_
        refine xp_iload rfl rfl ?_
        rw [hk]
        refine xp_tsw 81 rfl (by omega) (by first | rfl | (rw [if_pos (by omega)]) | (rw [if_neg (by omega)]; rfl)) (by decide) ?_
        rw [hk] at hih
        refine xp_aload_n rfl rfl ?_
        refine xp_iload rfl rfl ?_
        refine xp_iload rfl rfl ?_
        refine xp_aload_n rfl rfl ?_
        refine xp_iload rfl rfl ?_
        refine xp_iv rfl rfl (Nat.le_of_ble_eq_true rfl) (by decide) (by decide) (by decide) (Nat.le_of_ble_eq_true rfl) rfl (xrcv1 (by decide) (by first | assumption | exact hL.t rfl)) (c88 hL hW hrw hu hI2 hl2 (by omega)) rfl ?_
        refine xp_i2l rfl ?_
        rw [nI_l (by have := aRo_le (k := 3) hI2 hl2; omega)]
        refine xp_iv rfl rfl (Nat.le_of_ble_eq_true rfl) (by decide) (by decide) (by decide) (Nat.le_of_ble_eq_true rfl) rfl (xrcv1 (by decide) (by first | assumption | exact hL.t rfl)) (c23 hC0 (by omega) hcap) rfl ?_
        refine xp_goto 107 rfl (by decide) ?_
        refine xp_iinc rfl rfl (by decide) (nI_inc _) ?_
        refine xp_goto 3 rfl (by decide) ?_
        refine xp_weak [(0, .ref 102), (1, .ref a), (2, .int (nI lo)), (3, .int (nI n)), (4, .int (nI (i + 1)))] (xle_cons rfl (xle_cons rfl (xle_cons rfl (xle_cons rfl (xle_cons rfl (xle_nil _)))))) (by simp [xnd]) ?_
        exact hih
    · rw [if_neg (by omega), if_neg (by omega), if_neg (by omega)] at hih ⊢
      refine xp_iload rfl rfl ?_
      refine xp_iload_n rfl rfl ?_
      refine xp_icge 113 rfl (by decide) (by omega) (by omega) (fun h6 => ?_) (fun h6 => ?_)
      · exfalso; omega
      · skip
        refine xp_aload_n rfl rfl ?_
        refine xp_iconst (n := 0) rfl (by decide) ?_
        refine xp_iconst (n := 4) rfl (by decide) ?_
        refine xp_iv rfl rfl (Nat.le_of_ble_eq_true rfl) (by decide) (by decide) (by decide) (Nat.le_of_ble_eq_true rfl) rfl (xrcv1 (by decide) (by first | assumption | exact hL.t rfl)) (hrb) rfl ?_
        refine xp_istore rfl (by decide) ?_
        refine xp_iload rfl rfl ?_
        rw [hk]
        refine xp_tsw 81 rfl (by omega) (by first | rfl | (rw [if_pos (by omega)]) | (rw [if_neg (by omega)]; rfl)) (by decide) ?_
        rw [hk] at hih
        refine xp_aload_n rfl rfl ?_
        refine xp_iload rfl rfl ?_
        refine xp_iload rfl rfl ?_
        refine xp_aload_n rfl rfl ?_
        refine xp_iload rfl rfl ?_
        refine xp_iv rfl rfl (Nat.le_of_ble_eq_true rfl) (by decide) (by decide) (by decide) (Nat.le_of_ble_eq_true rfl) rfl (xrcv1 (by decide) (by first | assumption | exact hL.t rfl)) (c88 hL hW hrw hu hI2 hl2 (by omega)) rfl ?_
        refine xp_i2l rfl ?_
        rw [nI_l (by have := aRo_le (k := 4) hI2 hl2; omega)]
        refine xp_iv rfl rfl (Nat.le_of_ble_eq_true rfl) (by decide) (by decide) (by decide) (Nat.le_of_ble_eq_true rfl) rfl (xrcv1 (by decide) (by first | assumption | exact hL.t rfl)) (c23 hC0 (by omega) hcap) rfl ?_
        refine xp_goto 107 rfl (by decide) ?_
        refine xp_iinc rfl rfl (by decide) (nI_inc _) ?_
        refine xp_goto 3 rfl (by decide) ?_
        refine xp_weak [(0, .ref 102), (1, .ref a), (2, .int (nI lo)), (3, .int (nI n)), (4, .int (nI (i + 1)))] (xle_cons rfl (xle_cons rfl (xle_cons rfl (xle_cons rfl (xle_cons rfl (xle_nil _)))))) (by simp [xnd]) ?_
        exact hih
theorem c86 {z : Nat} {T : Nat → Option xT} {R : Nat → Nat → Option Nat} {A : xQ} {w u a ka na lo m cap : Nat} (hL : xLay T R w) (hW : xW0 T R u) (hrw : R 102 1 = some u) (hu : u = 12 ∨ u = 103) (hI : CI u A) (hl : 1 ≤ A.1 102 5) (hC : xC0 T R a ka na cap) (hcap : cap < 2 ^ 31) (hka : ka ≠ 99 ∧ ka ≠ 100 ∧ ka ≠ 102 ∧ ka ≠ u + 2 ∧ ka ≠ u + 3) (hn : lo + m ≤ cap) : xF 86 [.ref 102, .ref a, .int (nI lo), .int (nI (lo + m))] (xm z T R A) (.inr none, xm z T R (xit (aRv u ka na) m lo A)) := by
  refine xF_eq (xF_p (Nat.le_of_ble_eq_true rfl) ?_)
  refine xp_iload_n rfl rfl ?_
  refine xp_istore rfl (by decide) ?_
  refine xp_weak [(0, .ref 102), (1, .ref a), (2, .int (nI lo)), (3, .int (nI (lo + m))), (4, .int (nI lo))] (xle_cons rfl (xle_cons rfl (xle_cons rfl (xle_cons rfl (xle_cons rfl (xle_nil _)))))) (by simp [xnd]) ?_
  exact l86 hL hW hrw hu hC hcap hka hn m lo A (by omega) hI hl
