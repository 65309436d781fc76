-- THE CLASS's SMALL METHODS
/-- a loop: n times, from i on -/
def xit (f : Nat → xQ → xQ) : Nat → Nat → xQ → xQ
  | 0, _, A => A
  | n + 1, i, A => xit f n (i + 1) (f i A)
theorem c23 {z : Nat} {T : Nat → Option xT} {R : Nat → Nat → Option Nat} {A : xQ} {a ka na n i k : Nat} {v : Int64} (hC : xC0 T R a ka na n) (hi : i < n) (hn : n < 2 ^ 31) : xF 23 [.ref a, .int (nI i), .int (nI k), .long v] (xm z T R A) (.inr (none), xm z T R (xsJ (xsI A ka i k) na i v)) := by
  obtain ⟨c1, c2, c3, c4, c5⟩ := hC
  refine xF_eq (xF_p (Nat.le_of_ble_eq_true rfl) ?_)
  refine xp_aload_n rfl rfl ?_
  refine xp_gfa rfl rfl (by decide) (by decide) (by assumption) (by assumption) ?_
  refine xp_iload_n rfl rfl ?_
  refine xp_iload_n rfl rfl ?_
  refine xp_iast rfl (by assumption) (by omega) (by omega) ?_
  refine xp_aload_n rfl rfl ?_
  refine xp_gfa rfl rfl (by decide) (by decide) (by assumption) (by assumption) ?_
  refine xp_iload_n rfl rfl ?_
  refine xp_lload_n rfl rfl ?_
  refine xp_last rfl (by assumption) (by omega) (by omega) ?_
  refine xp_return rfl (by decide) (by decide) (by decide) ?_
  rfl
theorem c24 {z : Nat} {T : Nat → Option xT} {R : Nat → Nat → Option Nat} {A : xQ} {a ka na n i d kd nd m j : Nat} (hC : xC0 T R a ka na n) (hD : xC0 T R d kd nd m) (hi : i < n) (hn : n < 2 ^ 31) (hj : j < m) (hm : m < 2 ^ 31) : xF 24 [.ref a, .int (nI i), .ref d, .int (nI j)] (xm z T R A) (.inr (none), xm z T R (xsJ (xsI A ka i (A.1 kd j)) na i (A.2 nd j))) := by
  obtain ⟨c1, c2, c3, c4, c5⟩ := hC
  obtain ⟨d1, d2, d3, d4, d5⟩ := hD
  refine xF_eq (xF_p (Nat.le_of_ble_eq_true rfl) ?_)
  refine xp_aload_n rfl rfl ?_
  refine xp_gfa rfl rfl (by decide) (by decide) (by assumption) (by assumption) ?_
  refine xp_iload_n rfl rfl ?_
  refine xp_aload_n rfl rfl ?_
  refine xp_gfa rfl rfl (by decide) (by decide) (by assumption) (by assumption) ?_
  refine xp_iload_n rfl rfl ?_
  refine xp_iald rfl (by assumption) (by omega) (by omega) ?_
  refine xp_iast rfl (by assumption) (by omega) (by omega) ?_
  refine xp_aload_n rfl rfl ?_
  refine xp_gfa rfl rfl (by decide) (by decide) (by assumption) (by assumption) ?_
  refine xp_iload_n rfl rfl ?_
  refine xp_aload_n rfl rfl ?_
  refine xp_gfa rfl rfl (by decide) (by decide) (by assumption) (by assumption) ?_
  refine xp_iload_n rfl rfl ?_
  refine xp_lald rfl (by assumption) (by omega) (by omega) ?_
  refine xp_last rfl (by assumption) (by omega) (by omega) ?_
  refine xp_return rfl (by decide) (by decide) (by decide) ?_
  rfl
/-- a cell is NULL from now on -/
def xnul1 (ka na i : Nat) (A : xQ) : xQ := xsJ (xsI A ka i 0) na i 0
theorem l25 {z : Nat} {T : Nat → Option xT} {R : Nat → Nat → Option Nat} {a ka na n lo hi : Nat} (hC : xC0 T R a ka na n) (hn : n < 2 ^ 31) (hh : hi ≤ n) : ∀ (m i : Nat) (A : xQ), i + m = hi → xP 25 2 [(0, .ref a), (1, .int (nI lo)), (2, .int (nI hi)), (3, .int (nI i))] [] 0 0 (xm z T R A) (fun r => r = (.inr none, xm z T R (xit (xnul1 ka na) m i A))) := by
  obtain ⟨c1, c2, c3, c4, c5⟩ := hC
  intro m
  induction m with
  | zero =>
    intro i A hi0
    refine xp_iload_n rfl rfl ?_
    refine xp_iload_n rfl rfl ?_
    refine xp_icge 27 rfl (by decide) (by omega) (by omega) (fun h4 => ?_) (fun h4 => ?_)
    · skip
      refine xp_return rfl (by decide) (by decide) (by decide) ?_
      rfl
    · exfalso; omega
  | succ m ih =>
    intro i A hi0
    refine xp_iload_n rfl rfl ?_
    refine xp_iload_n rfl rfl ?_
    refine xp_icge 27 rfl (by decide) (by omega) (by omega) (fun h4 => ?_) (fun h4 => ?_)
    · exfalso; omega
    · skip
      refine xp_aload_n rfl rfl ?_
      refine xp_gfa rfl rfl (by decide) (by decide) (by assumption) (by assumption) ?_
      refine xp_iload_n rfl rfl ?_
      refine xp_iconst (n := 0) rfl (by decide) ?_
      refine xp_iast rfl (by assumption) (by omega) (by omega) ?_
      refine xp_aload_n rfl rfl ?_
      refine xp_gfa rfl rfl (by decide) (by decide) (by assumption) (by assumption) ?_
      refine xp_iload_n rfl rfl ?_
      refine xp_lconst rfl rfl ?_
      refine xp_last rfl (by assumption) (by omega) (by omega) ?_
      refine xp_iinc rfl rfl (by decide) (nI_inc _) ?_
      refine xp_goto 2 rfl (by decide) ?_
      refine xp_weak [(0, .ref a), (1, .int (nI lo)), (2, .int (nI hi)), (3, .int (nI (i + 1)))] (xle_cons rfl (xle_cons rfl (xle_cons rfl (xle_cons rfl (xle_nil _))))) (by simp [xnd]) ?_
      exact ih (i + 1) _ (by omega)
theorem c25 {z : Nat} {T : Nat → Option xT} {R : Nat → Nat → Option Nat} {A : xQ} {a ka na n lo hi : Nat} (hC : xC0 T R a ka na n) (hn : n < 2 ^ 31) (hl : lo ≤ hi) (hh : hi ≤ n) : xF 25 [.ref a, .int (nI lo), .int (nI hi)] (xm z T R A) (.inr none, xm z T R (xit (xnul1 ka na) (hi - lo) lo A)) := by
  refine xF_eq (xF_p (Nat.le_of_ble_eq_true rfl) ?_)
  refine xp_iload_n rfl rfl ?_
  refine xp_istore_n rfl (by decide) ?_
  refine xp_weak [(0, .ref a), (1, .int (nI lo)), (2, .int (nI hi)), (3, .int (nI lo))] (xle_cons rfl (xle_cons rfl (xle_cons rfl (xle_cons rfl (xle_nil _))))) (by simp [xnd]) ?_
  exact l25 hC hn hh (hi - lo) lo A (by omega)
theorem c26 {z : Nat} {T : Nat → Option xT} {R : Nat → Nat → Option Nat} {A : xQ} {a ka na n i : Nat} (hC : xC0 T R a ka na n) (hi : i < n) (hn : n < 2 ^ 31) (hk : A.1 ka i < 2 ^ 31) : xF 26 [.ref a, .int (nI i)] (xm z T R A) (.inr (some (.int (nI (if A.1 ka i = 1 ∨ A.1 ka i = 2 then 1 else 0)))), xm z T R A) := by
  obtain ⟨c1, c2, c3, c4, c5⟩ := hC
  refine xF_eq (xF_p (Nat.le_of_ble_eq_true rfl) ?_)
  refine xp_aload_n rfl rfl ?_
  refine xp_gfa rfl rfl (by decide) (by decide) (by assumption) (by assumption) ?_
  refine xp_iload_n rfl rfl ?_
  refine xp_iald rfl (by assumption) (by omega) (by omega) ?_
  refine xp_iconst (n := 1) rfl (by decide) ?_
  refine xp_iceq 20 rfl (by decide) (by omega) (by omega) (fun h7 => ?_) (fun h7 => ?_)
  · skip
    refine xp_iconst (n := 1) rfl (by decide) ?_
    refine xp_goto 25 rfl (by decide) ?_
    refine xp_zreturn rfl (by decide) (by decide) (by decide) (by omega) ?_
    simp only [*]
    first | rfl | simp
  · skip
    refine xp_aload_n rfl rfl ?_
    refine xp_gfa rfl rfl (by decide) (by decide) (by assumption) (by assumption) ?_
    refine xp_iload_n rfl rfl ?_
    refine xp_iald rfl (by assumption) (by omega) (by omega) ?_
    refine xp_iconst (n := 2) rfl (by decide) ?_
    refine xp_icne 24 rfl (by decide) (by omega) (by omega) (fun h17 => ?_) (fun h17 => ?_)
    · skip
      refine xp_iconst (n := 0) rfl (by decide) ?_
      refine xp_zreturn rfl (by decide) (by decide) (by decide) (by omega) ?_
      simp only [*]
      first | rfl | simp
    · skip
      refine xp_iconst (n := 1) rfl (by decide) ?_
      refine xp_goto 25 rfl (by decide) ?_
      refine xp_zreturn rfl (by decide) (by decide) (by decide) (by omega) ?_
      simp only [*]
      first | rfl | simp
theorem c27 {z : Nat} {T : Nat → Option xT} {R : Nat → Nat → Option Nat} {A : xQ} {a ka na n i j : Nat} (hC : xC0 T R a ka na n) (hi : i < n) (hj : j < n) (hn : n < 2 ^ 31) (hk : A.1 ka i < 2 ^ 31) (hk2 : A.1 ka j < 2 ^ 31) : xF 27 [.ref a, .int (nI i), .int (nI j)] (xm z T R A) (.inr (some (.int (nI (if A.1 ka i = A.1 ka j ∧ A.2 na i = A.2 na j then 1 else 0)))), xm z T R A) := by
  obtain ⟨c1, c2, c3, c4, c5⟩ := hC
  refine xF_eq (xF_p (Nat.le_of_ble_eq_true rfl) ?_)
  refine xp_aload_n rfl rfl ?_
  refine xp_gfa rfl rfl (by decide) (by decide) (by assumption) (by assumption) ?_
  refine xp_iload_n rfl rfl ?_
  refine xp_iald rfl (by assumption) (by omega) (by omega) ?_
  refine xp_aload_n rfl rfl ?_
  refine xp_gfa rfl rfl (by decide) (by decide) (by assumption) (by assumption) ?_
  refine xp_iload_n rfl rfl ?_
  refine xp_iald rfl (by assumption) (by omega) (by omega) ?_
  refine xp_icne 35 rfl (by decide) (by omega) (by omega) (fun h12 => ?_) (fun h12 => ?_)
  · skip
    refine xp_iconst (n := 0) rfl (by decide) ?_
    refine xp_zreturn rfl (by decide) (by decide) (by decide) (by omega) ?_
    simp only [*]
    first | rfl | simp
  · skip
    refine xp_aload_n rfl rfl ?_
    refine xp_gfa rfl rfl (by decide) (by decide) (by assumption) (by assumption) ?_
    refine xp_iload_n rfl rfl ?_
    refine xp_lald rfl (by assumption) (by omega) (by omega) ?_
    refine xp_aload_n rfl rfl ?_
    refine xp_gfa rfl rfl (by decide) (by decide) (by assumption) (by assumption) ?_
    refine xp_iload_n rfl rfl ?_
    refine xp_lald rfl (by assumption) (by omega) (by omega) ?_
    refine xp_lcne 35 rfl rfl (by decide) (fun h27 => ?_) (fun h27 => ?_)
    · skip
      refine xp_iconst (n := 0) rfl (by decide) ?_
      refine xp_zreturn rfl (by decide) (by decide) (by decide) (by omega) ?_
      simp only [*]
      first | rfl | simp
    · skip
      refine xp_iconst (n := 1) rfl (by decide) ?_
      refine xp_goto 36 rfl (by decide) ?_
      refine xp_zreturn rfl (by decide) (by decide) (by decide) (by omega) ?_
      simp only [*]
      first | rfl | simp
theorem c54 {z : Nat} {T : Nat → Option xT} {R : Nat → Nat → Option Nat} {A : xQ} {f : Nat} (hF : xF0 T R f) : xF 54 [.ref f] (xm z T R A) (.inr (some (.int (nI (4 + A.1 f 3)))), xm z T R A) := by
  obtain ⟨f1, f2, hC⟩ := hF
  refine xF_eq (xF_p (Nat.le_of_ble_eq_true rfl) ?_)
  refine xp_iconst (n := 5) rfl (by decide) ?_
  refine xp_aload_n rfl rfl ?_
  refine xp_gfi rfl rfl (by decide) (by decide) (by assumption) ?_
  refine xp_iadd rfl ?_
  refine xp_iconst (n := 1) rfl (by decide) ?_
  refine xp_isub rfl (by omega) ?_
  refine xp_ireturn rfl (by decide) (by decide) (by decide) ?_
  rw [show 5 + A.1 f 3 - 1 = 4 + A.1 f 3 by omega]
/-- a value more on a frame's stack -/
def xpu (A : xQ) (f k : Nat) (v : Int64) : xQ := xsI (xsJ (xsI A (f + 2) (5 + A.1 f 3) k) (f + 3) (5 + A.1 f 3) v) f 3 (A.1 f 3 + 1)
theorem c55f {z : Nat} {T : Nat → Option xT} {R : Nat → Nat → Option Nat} {A : xQ} {f k : Nat} {v : Int64} (hF : xF0 T R f) (hs : A.1 f 3 = 6) : xF 55 [.ref f, .int (nI k), .long v] (xm z T R A) (.inr (some (.int (nI 6))), xm z T R A) := by
  obtain ⟨f1, f2, hC⟩ := hF
  refine xF_eq (xF_p (Nat.le_of_ble_eq_true rfl) ?_)
  refine xp_aload_n rfl rfl ?_
  refine xp_gfi rfl rfl (by decide) (by decide) (by assumption) ?_
  refine xp_bipush (n := 6) rfl (by decide) ?_
  refine xp_iclt 12 rfl (by decide) (by omega) (by omega) (fun h6 => ?_) (fun h6 => ?_)
  · exfalso; omega
  · skip
    refine xp_bipush (n := 6) rfl (by decide) ?_
    refine xp_ireturn rfl (by decide) (by decide) (by decide) ?_
    rfl
theorem c55 {z : Nat} {T : Nat → Option xT} {R : Nat → Nat → Option Nat} {A : xQ} {f k : Nat} {v : Int64} (hF : xF0 T R f) (hs : A.1 f 3 < 6) : xF 55 [.ref f, .int (nI k), .long v] (xm z T R A) (.inr (some (.int (nI 0))), xm z T R (xpu A f k v)) := by
  obtain ⟨f1, f2, hC⟩ := hF
  refine xF_eq (xF_p (Nat.le_of_ble_eq_true rfl) ?_)
  refine xp_aload_n rfl rfl ?_
  refine xp_gfi rfl rfl (by decide) (by decide) (by assumption) ?_
  refine xp_bipush (n := 6) rfl (by decide) ?_
  refine xp_iclt 12 rfl (by decide) (by omega) (by omega) (fun h6 => ?_) (fun h6 => ?_)
  · skip
    refine xp_aload_n rfl rfl ?_
    refine xp_gfa rfl rfl (by decide) (by decide) (by assumption) (by assumption) ?_
    refine xp_iconst (n := 5) rfl (by decide) ?_
    refine xp_aload_n rfl rfl ?_
    refine xp_gfi rfl rfl (by decide) (by decide) (by assumption) ?_
    refine xp_iadd rfl ?_
    refine xp_iload_n rfl rfl ?_
    refine xp_lload_n rfl rfl ?_
    refine xp_iv rfl rfl (Nat.le_of_ble_eq_true rfl) (by decide) (by decide) (by decide) (Nat.le_of_ble_eq_true rfl) rfl (xrcv1 (by decide) (by exact hC.1)) (c23 hC (by omega) (by omega)) rfl ?_
    refine xp_aload_n rfl rfl ?_
    refine xp_dup rfl rfl ?_
    refine xp_gfi rfl rfl (by decide) (by decide) (by assumption) ?_
    refine xp_iconst (n := 1) rfl (by decide) ?_
    refine xp_iadd rfl ?_
    refine xp_pfi rfl rfl (by decide) (by decide) (by decide) (by assumption) ?_
    refine xp_iconst (n := 0) rfl (by decide) ?_
    refine xp_ireturn rfl (by decide) (by decide) (by decide) ?_
    simp [xpu, xsI, xsJ, x2]
  · exfalso; omega
