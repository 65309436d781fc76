-- THE WORLD: what is sound in it; who runs, the turn, the search for objects
def xcnt (p : Nat → Bool) : Nat → Nat
  | 0 => 0
  | n + 1 => xcnt p n + (if p n = true then 1 else 0)
theorem xcnt_congr {p q : Nat → Bool} : ∀ n, (∀ i, i < n → p i = q i) → xcnt p n = xcnt q n := by
  intro n
  induction n with
  | zero => intro _; rfl
  | succ n ih =>
    intro h
    unfold xcnt
    rw [ih (fun i hi => h i (by omega)), h n (by omega)]
theorem xcnt_le (p : Nat → Bool) : ∀ n, xcnt p n ≤ n := by
  intro n
  induction n with
  | zero => exact Nat.le_refl _
  | succ n ih =>
    unfold xcnt
    split <;> omega
theorem xcnt_lt {p : Nat → Bool} : ∀ {n o : Nat}, o < n → p o = false → xcnt p n < n := by
  intro n
  induction n with
  | zero => intro o h; omega
  | succ n ih =>
    intro o h hp
    unfold xcnt
    by_cases e : o = n
    · subst e
      have := xcnt_le p o
      simp [hp]
      omega
    · have := ih (o := o) (by omega) hp
      split <;> omega
theorem xcnt_set {p q : Nat → Bool} : ∀ {n o : Nat}, o < n → p o = false → q o = true → (∀ i, i ≠ o → q i = p i) → xcnt q n = xcnt p n + 1 := by
  intro n
  induction n with
  | zero => intro o h; omega
  | succ n ih =>
    intro o h hp hq he
    unfold xcnt
    by_cases e : o = n
    · subst e
      rw [xcnt_congr o (fun i hi => he i (by omega)), hp, hq]
      simp
    · rw [ih (by omega) hp hq he, he n (fun z => e z.symm)]
      omega
theorem xcnt_free {p : Nat → Bool} : ∀ {n : Nat}, xcnt p n < n → ∃ o, o < n ∧ p o = false := by
  intro n
  induction n with
  | zero => intro h; omega
  | succ n ih =>
    intro h
    unfold xcnt at h
    cases hp : p n with
    | false => exact ⟨n, by omega, hp⟩
    | true =>
      rw [hp] at h
      simp at h
      obtain ⟨o, h1, h2⟩ := ih h
      exact ⟨o, by omega, h2⟩
theorem xcnt_zero {p : Nat → Bool} : ∀ n, (∀ i, i < n → p i = false) → xcnt p n = 0 := by
  intro n
  induction n with
  | zero => intro _; rfl
  | succ n ih =>
    intro h
    unfold xcnt
    rw [ih (fun i hi => h i (by omega)), h n (by omega)]
    rfl
/-- a value is sound: its sort, and its object -/
def VC (w : Nat) (A : xQ) (ka na i : Nat) : Prop := A.1 ka i ≤ 4 ∧ (3 ≤ A.1 ka i → ∃ o, o < 24 ∧ A.2 na i = lN o ∧ A.1 (w + 3) o = A.1 ka i)
def FOk (w : Nat) (A : xQ) (f : Nat) : Prop := A.1 f 1 < 6 ∧ A.1 f 2 ≤ 31 ∧ A.1 f 3 ≤ 6 ∧ (A.1 (f + 2) 0 = 0 ∨ A.1 (f + 2) 0 = 4) ∧ ∀ c, c < 5 + A.1 f 3 → VC w A (f + 2) (f + 3) c
def SOk (w : Nat) (A : xQ) (s : Nat) : Prop := A.1 s 2 ≤ 2 ∧ A.1 s 3 ≤ 5 ∧ (A.1 s 2 = 0 → 1 ≤ A.1 s 3) ∧ (A.1 s 2 ≠ 0 → A.1 s 3 = 0) ∧ A.1 s 4 < 32 ∧ (A.1 s 2 = 1 → VC w A (s + 3) (s + 4) 0) ∧ ∀ k, k < A.1 s 3 → FOk w A (s + 5 + 4 * k)
def OOk (w : Nat) (A : xQ) (o : Nat) : Prop := (A.1 (w + 3) o = 0 ∨ A.1 (w + 3) o = 3 ∨ A.1 (w + 3) o = 4) ∧ (A.1 (w + 3) o = 3 → A.1 (w + 5) o = 3) ∧ (A.1 (w + 3) o = 4 → A.1 (w + 4) o < 6 ∧ A.1 (w + 5) o ≤ 2) ∧ (A.1 (w + 3) o ≠ 0 → ∀ j, j < A.1 (w + 5) o → VC w A (w + 7) (w + 8) (o * 3 + j))
def WOk (w : Nat) (A : xQ) : Prop := A.1 w 2 ≤ 3 ∧ (∀ t, t < A.1 w 2 → SOk w A (w + 11 + 25 * t)) ∧ ∀ o, o < 24 → OOk w A o
theorem OOk.sz {w : Nat} {A : xQ} {o : Nat} (h : OOk w A o) (h0 : A.1 (w + 3) o ≠ 0) : A.1 (w + 5) o ≤ 3 := by
  obtain ⟨h1, h2, h3, -⟩ := h
  rcases h1 with q | q | q
  · exact absurd q h0
  · rw [h2 q]; omega
  · have := (h3 q).2; omega
theorem c98 {z : Nat} {T : Nat → Option xT} {R : Nat → Nat → Option Nat} {A : xQ} {w : Nat} (hW : xW0 T R w) (h3 : A.1 w 2 ≤ 3) : xF 98 [.ref w] (xm z T R A) (.inr (some (.int (nI (if A.1 w 2 = 0 then 1 else 0)))), xm z T R A) := by
  obtain ⟨w1, w2, w3, w4, hH, hSt⟩ := hW
  refine xF_eq (xF_p (Nat.le_of_ble_eq_true rfl) ?_)
  refine xp_aload_n rfl rfl ?_
  refine xp_gfi rfl rfl (by decide) (by decide) (by assumption) ?_
  refine xp_ifne 11 rfl (by decide) (by omega) (fun h4 => ?_) (fun h4 => ?_)
  · skip
    refine xp_iconst (n := 0) rfl (by decide) ?_
    refine xp_zreturn rfl (by decide) (by decide) (by decide) (by omega) ?_
    simp only [*]
    first | rfl | simp
  · skip
    refine xp_iconst (n := 1) rfl (by decide) ?_
    refine xp_goto 12 rfl (by decide) ?_
    refine xp_zreturn rfl (by decide) (by decide) (by decide) (by omega) ?_
    simp only [*]
    first | rfl | simp
/-- does one of the n strands from t on run? -/
def aRuns (w : Nat) (A : xQ) : Nat → Nat → Nat
  | 0, _ => 0
  | n + 1, t => if A.1 (w + 11 + 25 * t) 2 = 0 then 1 else aRuns w A n (t + 1)
theorem aRuns_le (w : Nat) (A : xQ) : ∀ n t, aRuns w A n t = 0 ∨ aRuns w A n t = 1 := by
  intro n
  induction n with
  | zero => intro t; exact Or.inl rfl
  | succ n ih =>
    intro t
    unfold aRuns
    split
    · exact Or.inr rfl
    · exact ih _
theorem l99 {z : Nat} {T : Nat → Option xT} {R : Nat → Nat → Option Nat} {A : xQ} {w : Nat} (hW : xW0 T R w) (h3 : A.1 w 2 ≤ 3) (hb : ∀ t, t < A.1 w 2 → A.1 (w + 11 + 25 * t) 2 < 2 ^ 31) : ∀ (m t : Nat), t + m = A.1 w 2 → xP 99 2 [(0, .ref w), (1, .int (nI t))] [] 0 0 (xm z T R A) (fun r => r = (.inr (some (.int (nI (aRuns w A m t)))), xm z T R A)) := by
  obtain ⟨w1, w2, w3, w4, hH, hSt⟩ := hW
  intro m
  induction m with
  | zero =>
    intro t hi0
    refine xp_iload_n rfl rfl ?_
    refine xp_aload_n rfl rfl ?_
    refine xp_gfi rfl rfl (by decide) (by decide) (by assumption) ?_
    refine xp_icge 30 rfl (by decide) (by omega) (by omega) (fun h7 => ?_) (fun h7 => ?_)
    · skip
      refine xp_iconst (n := 0) rfl (by decide) ?_
      refine xp_zreturn rfl (by decide) (by decide) (by decide) (by omega) ?_
      rfl
    · exfalso; omega
  | succ m ih =>
    intro t hi0
    obtain ⟨k1, hS⟩ := hSt t (by omega)
    have hb0 := hb t (by omega)
    have k2 := hS.1
    refine xp_iload_n rfl rfl ?_
    refine xp_aload_n rfl rfl ?_
    refine xp_gfi rfl rfl (by decide) (by decide) (by assumption) ?_
    refine xp_icge 30 rfl (by decide) (by omega) (by omega) (fun h7 => ?_) (fun h7 => ?_)
    · exfalso; omega
    · skip
      refine xp_aload_n rfl rfl ?_
      refine xp_gfa rfl rfl (by decide) (by decide) (by assumption) (by assumption) ?_
      refine xp_iload_n rfl rfl ?_
      refine xp_aald rfl (by assumption) (by decide) (by decide) (by omega) (by omega) (by assumption) ?_
      refine xp_gfi rfl rfl (by decide) (by decide) (by assumption) ?_
      refine xp_ifne 24 rfl (by decide) (by omega) (fun h19 => ?_) (fun h19 => ?_)
      · skip
        refine xp_iinc rfl rfl (by decide) (nI_inc _) ?_
        refine xp_goto 2 rfl (by decide) ?_
        have e : aRuns w A (m + 1) t = aRuns w A m (t + 1) := if_neg h19
        rw [e]
        refine xp_weak [(0, .ref w), (1, .int (nI (t + 1)))] (xle_cons rfl (xle_cons rfl (xle_nil _))) (by simp [xnd]) ?_
        exact ih (t + 1) (by omega)
      · skip
        refine xp_iconst (n := 1) rfl (by decide) ?_
        refine xp_zreturn rfl (by decide) (by decide) (by decide) (by omega) ?_
        rw [show aRuns w A (m + 1) t = 1 from if_pos h19]
theorem c99 {z : Nat} {T : Nat → Option xT} {R : Nat → Nat → Option Nat} {A : xQ} {w : Nat} (hW : xW0 T R w) (h3 : A.1 w 2 ≤ 3) (hb : ∀ t, t < A.1 w 2 → A.1 (w + 11 + 25 * t) 2 < 2 ^ 31) : xF 99 [.ref w] (xm z T R A) (.inr (some (.int (nI (aRuns w A (A.1 w 2) 0)))), xm z T R A) := by
  refine xF_eq (xF_p (Nat.le_of_ble_eq_true rfl) ?_)
  refine xp_iconst (n := 0) rfl (by decide) ?_
  refine xp_istore_n rfl (by decide) ?_
  refine xp_weak [(0, .ref w), (1, .int (nI 0))] (xle_cons rfl (xle_cons rfl (xle_nil _))) (by simp [xnd]) ?_
  exact l99 hW h3 hb (A.1 w 2) 0 (by omega)
/-- the turn goes to the first that runs, of those behind it from the i-th on -/
def aPassL (w : Nat) (A : xQ) : Nat → Nat → xQ
  | 0, _ => A
  | n + 1, i => if A.1 (w + 11 + 25 * ((A.1 w 3 + i) % A.1 w 2)) 2 = 0 then xsI A w 3 ((A.1 w 3 + i) % A.1 w 2) else aPassL w A n (i + 1)
def aPass (w : Nat) (A : xQ) : xQ := aPassL w (xsI A w 4 0) (A.1 w 2) 1
theorem l100 {z : Nat} {T : Nat → Option xT} {R : Nat → Nat → Option Nat} {A : xQ} {w : Nat} (hW : xW0 T R w) (h3 : A.1 w 2 ≤ 3) (h2 : A.1 w 3 < 3) (hb : ∀ t, t < A.1 w 2 → A.1 (w + 11 + 25 * t) 2 < 2 ^ 31) : ∀ (m i : Nat), i + m = A.1 w 2 + 1 → 1 ≤ i → xP 100 7 [(0, .ref w), (1, .int (nI i))] [] 0 0 (xm z T R A) (fun r => r = (.inr none, xm z T R (aPassL w A m i))) := by
  obtain ⟨w1, w2, w3, w4, hH, hSt⟩ := hW
  intro m
  induction m with
  | zero =>
    intro i hi0 hi9
    refine xp_iload_n rfl rfl ?_
    refine xp_aload_n rfl rfl ?_
    refine xp_gfi rfl rfl (by decide) (by decide) (by assumption) ?_
    refine xp_icgt 51 rfl (by decide) (by omega) (by omega) (fun h12 => ?_) (fun h12 => ?_)
    · skip
      refine xp_return rfl (by decide) (by decide) (by decide) ?_
      rfl
    · exfalso; omega
  | succ m ih =>
    intro i hi0 hi9
    have hz : ¬ A.1 w 2 = 0 := by omega
    have hr : (A.1 w 3 + i) % A.1 w 2 < A.1 w 2 := Nat.mod_lt _ (by omega)
    obtain ⟨k1, hS⟩ := hSt _ (show (A.1 w 3 + i) % A.1 w 2 < 3 by omega)
    have hb0 := hb _ hr
    have k2 := hS.1
    refine xp_iload_n rfl rfl ?_
    refine xp_aload_n rfl rfl ?_
    refine xp_gfi rfl rfl (by decide) (by decide) (by assumption) ?_
    refine xp_icgt 51 rfl (by decide) (by omega) (by omega) (fun h12 => ?_) (fun h12 => ?_)
    · exfalso; omega
    · skip
      refine xp_aload_n rfl rfl ?_
      refine xp_gfi rfl rfl (by decide) (by decide) (by assumption) ?_
      refine xp_iload_n rfl rfl ?_
      refine xp_iadd rfl ?_
      refine xp_aload_n rfl rfl ?_
      refine xp_gfi rfl rfl (by decide) (by decide) (by assumption) ?_
      refine xp_irem rfl (by rw [← nI_0]; exact fun z => hz ((nI_eq32 (by omega) (by decide)).mp z)) ?_
      rw [nI_rem (by omega) (by omega) (by omega)]
      refine xp_istore_n rfl (by decide) ?_
      refine xp_aload_n rfl rfl ?_
      refine xp_gfa rfl rfl (by decide) (by decide) (by assumption) (by assumption) ?_
      refine xp_iload_n rfl rfl ?_
      refine xp_aald rfl (by assumption) (by decide) (by decide) (by omega) (by omega) (by assumption) ?_
      refine xp_gfi rfl rfl (by decide) (by decide) (by assumption) ?_
      refine xp_ifne 45 rfl (by decide) (by omega) (fun h36 => ?_) (fun h36 => ?_)
      · skip
        refine xp_iinc rfl rfl (by decide) (nI_inc _) ?_
        refine xp_goto 7 rfl (by decide) ?_
        have e : aPassL w A (m + 1) i = aPassL w A m (i + 1) := if_neg h36
        rw [e]
        refine xp_weak [(0, .ref w), (1, .int (nI (i + 1)))] (xle_cons rfl (xle_cons rfl (xle_nil _))) (by simp [xnd]) ?_
        exact ih (i + 1) (by omega) (by omega)
      · skip
        refine xp_aload_n rfl rfl ?_
        refine xp_iload_n rfl rfl ?_
        refine xp_pfi rfl rfl (by decide) (by decide) (by decide) (by assumption) ?_
        refine xp_return rfl (by decide) (by decide) (by decide) ?_
        rw [show aPassL w A (m + 1) i = xsI A w 3 ((A.1 w 3 + i) % A.1 w 2) from if_pos h36]
theorem c100 {z : Nat} {T : Nat → Option xT} {R : Nat → Nat → Option Nat} {A : xQ} {w : Nat} (hW : xW0 T R w) (h3 : A.1 w 2 ≤ 3) (h2 : A.1 w 3 < 3) (hb : ∀ t, t < A.1 w 2 → A.1 (w + 11 + 25 * t) 2 < 2 ^ 31) : xF 100 [.ref w] (xm z T R A) (.inr (none), xm z T R (aPass w A)) := by
  have hW0 := hW
  obtain ⟨w1, w2, w3, w4, hH, hSt⟩ := hW
  refine xF_eq (xF_p (Nat.le_of_ble_eq_true rfl) ?_)
  refine xp_aload_n rfl rfl ?_
  refine xp_iconst (n := 0) rfl (by decide) ?_
  refine xp_pfi rfl rfl (by decide) (by decide) (by decide) (by assumption) ?_
  refine xp_iconst (n := 1) rfl (by decide) ?_
  refine xp_istore_n rfl (by decide) ?_
  refine xp_weak [(0, .ref w), (1, .int (nI 1))] (xle_cons rfl (xle_cons rfl (xle_nil _))) (by simp [xnd]) ?_
  have e1 : (xsI A w 4 0).1 w 2 = A.1 w 2 := xsI_ne (Or.inr (by omega))
  have e2 : (xsI A w 4 0).1 w 3 = A.1 w 3 := xsI_ne (Or.inr (by omega))
  refine l100 hW0 (by rw [e1]; exact h3) (by rw [e2]; exact h2) (fun t ht => ?_) (A.1 w 2) 1 (by rw [e1]; omega) (by omega)
  rw [e1] at ht
  rw [xsI_ne (Or.inr (by omega))]
  exact hb t ht
